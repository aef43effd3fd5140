/-! what is left as it was -/
def Fr (P : Nat → Nat → Prop) (σ σ' : St) : Prop := (∀ a j, ¬ P a j → σ'.1 a j = σ.1 a j) ∧ σ'.2 = σ.2
theorem Fr.r {P : Nat → Nat → Prop} (σ : St) : Fr P σ σ := ⟨fun _ _ _ => rfl, rfl⟩
theorem Fr.t {P : Nat → Nat → Prop} {σ σ' σ'' : St} (h : Fr P σ σ') (h' : Fr P σ' σ'') : Fr P σ σ'' := ⟨fun a j q => (h'.1 a j q).trans (h.1 a j q), h'.2.trans h.2⟩
theorem Fr.w {P Q : Nat → Nat → Prop} {σ σ' : St} (h : Fr P σ σ') (q : ∀ a j, P a j → Q a j) : Fr Q σ σ' := ⟨fun a j n => h.1 a j (fun z => n (q a j z)), h.2⟩
theorem Fr.i {P : Nat → Nat → Prop} {σ : St} {a k : Nat} {v : Int32} (h : P a k) : Fr P σ (setI σ a k v) := ⟨fun b j n => setI_n (fun z => n (by rw [z.1, z.2]; exact h)), setI_2 σ a k v⟩
theorem Fr.a {P : Nat → Nat → Prop} {σ : St} {a : Nat} {f : Nat → Int32} (h : ∀ j, P a j) : Fr P σ (setA σ a f) := ⟨fun b j n => by
  by_cases e : b = a
  · subst e; exact absurd (h j) n
  · rw [setA_n e], setA_2 σ a f⟩
/-- where nothing of the house that the class has lies -/
def CF (a _j : Nat) : Prop := a < 39 ∨ 57 ≤ a
/-- where nothing of the model's house lies -/
def MF (a j : Nat) : Prop := a < 93 ∨ (a = 93 ∧ (j = 16 ∨ j = 18 ∨ j = 19 ∨ j = 20 ∨ j = 21 ∨ j = 23)) ∨ (94 ≤ a ∧ a ≤ 96) ∨ 103 ≤ a
/-- where nothing of the rest lies -/
def RF (a j : Nat) : Prop := (7 ≤ a ∧ a ≤ 20) ∨ (39 ≤ a ∧ a ≤ 56) ∨ (75 ≤ a ∧ a ≤ 90) ∨ a = 92 ∨ (97 ≤ a ∧ a ≤ 102) ∨ 106 ≤ a ∨ (a = 93 ∧ j ≠ 16 ∧ j ≠ 23) ∨ (a = 3 ∧ j ≠ 1)
/-- where only thoughts lie -/
def SC (a _j : Nat) : Prop := (7 ≤ a ∧ a ≤ 20) ∨ 106 ≤ a
theorem HC.fr {P : Nat → Nat → Prop} {σ σ' : St} {h : Nat} {S : HS} (H : HC σ h S) (f : Fr P σ σ') (q : ∀ a j, h ≤ a → a ≤ h + 17 → ¬ P a j) : HC σ' h S := by
  have e : ∀ a j, h ≤ a → a ≤ h + 17 → σ'.1 a j = σ.1 a j := fun a j u v => f.1 a j (q a j u v)
  obtain ⟨⟨a0, a1, a2, a3, a4, a5, a6, a7⟩, b, c, d, z0, z1⟩ := H
  refine ⟨⟨by rw [e _ _ (Nat.le_refl _) (by omega)]; exact a0, by rw [e _ _ (Nat.le_refl _) (by omega)]; exact a1, by rw [e _ _ (Nat.le_refl _) (by omega)]; exact a2, by rw [e _ _ (Nat.le_refl _) (by omega)]; exact a3, by rw [e _ _ (Nat.le_refl _) (by omega)]; exact a4, by rw [e _ _ (Nat.le_refl _) (by omega)]; exact a5, by rw [e _ _ (Nat.le_refl _) (by omega)]; exact a6, by rw [e _ _ (Nat.le_refl _) (by omega)]; exact a7⟩, fun k hk => ?_, fun l hl p hp => ?_, fun p hp d' hd => ?_, ?_, ?_⟩
  · obtain ⟨k0, k1, k2, k3⟩ := b k hk
    refine ⟨by rw [e _ _ (by unfold kI; omega) (by unfold kI; omega)]; exact k0, by rw [e _ _ (by unfold kI; omega) (by unfold kI; omega)]; exact k1, by rw [e _ _ (by unfold kI; omega) (by unfold kI; omega)]; exact k2, fun p hp => by rw [e _ _ (by unfold kI; omega) (by unfold kI; omega)]; exact k3 p hp⟩
  · rw [e _ _ (by omega) (by omega)]; exact c l hl p hp
  · rw [e _ _ (by omega) (by omega)]; exact d p hp d' hd
  · rw [e _ _ (by omega) (by omega)]; exact z0
  · rw [e _ _ (by omega) (by omega)]; exact z1
theorem HC.cf {σ σ' : St} {S : HS} (H : HC σ 39 S) (f : Fr CF σ σ') : HC σ' 39 S := H.fr f (fun a j u v z => by unfold CF at z; omega)
theorem HM.fr {σ σ' : St} {S : HS} (H : HM σ S) (f : Fr MF σ σ') : HM σ' S := by
  obtain ⟨⟨a0, a1, a2, a3, a4, a5, a6⟩, b, c, d, g⟩ := H
  refine ⟨⟨?_, ?_, ?_, ?_, ?_, ?_, ?_⟩, fun k hk => ⟨?_, ?_, ?_⟩, fun k hk p hp => ?_, fun l hl => ?_, fun l hl p hp => ?_⟩
  · rw [f.1 _ _ (by unfold MF; omega)]; exact a0
  · rw [f.1 _ _ (by unfold MF; omega)]; exact a1
  · rw [f.1 _ _ (by unfold MF; omega)]; exact a2
  · rw [f.1 _ _ (by unfold MF; omega)]; exact a3
  · rw [f.1 _ _ (by unfold MF; omega)]; exact a4
  · rw [f.1 _ _ (by unfold MF; omega)]; exact a5
  · rw [f.1 _ _ (by unfold MF; omega)]; exact a6
  · rw [f.1 _ _ (by unfold MF; omega)]; exact (b k hk).1
  · rw [f.1 _ _ (by unfold MF; omega)]; exact (b k hk).2.1
  · rw [f.1 _ _ (by unfold MF; omega)]; exact (b k hk).2.2
  · rw [f.1 _ _ (by unfold MF; omega)]; exact c k hk p hp
  · rw [f.1 _ _ (by unfold MF; omega)]; exact d l hl
  · rw [f.1 _ _ (by unfold MF; omega)]; exact g l hl p hp
/-- an image in one of the model's long rows -/
def HK (σ : St) (b : Nat) (S : HS) : Prop :=
  (σ.1 b 98 = nI (pl S) ∧ σ.1 b 99 = nI (dp S) ∧ σ.1 b 100 = nI (tg S) ∧ σ.1 b 96 = nI (nk S) ∧ σ.1 b 97 = nI (nl S) ∧ σ.1 b 101 = co S ∧ σ.1 b 102 = se S) ∧
  (∀ k, k < 6 → σ.1 b k = nI (ki S k) ∧ σ.1 b (6 + k) = nI (ow S k) ∧ σ.1 b (12 + k) = my S k) ∧
  (∀ k, k < 6 → ∀ p, p < 5 → σ.1 b (18 + (5 * k + p)) = nI (cu S k p)) ∧
  (∀ l, l < 8 → σ.1 b (48 + l) = if wa S l then 1 else 0) ∧
  (∀ l, l < 8 → ∀ p, p < 5 → σ.1 b (56 + (5 * l + p)) = nI (as S l p))
theorem HK.fr {P : Nat → Nat → Prop} {σ σ' : St} {b : Nat} {S : HS} (H : HK σ b S) (f : Fr P σ σ') (q : ∀ j, ¬ P b j) : HK σ' b S := by
  have e : ∀ j, σ'.1 b j = σ.1 b j := fun j => f.1 b j (q j)
  unfold HK
  simp only [e]
  exact H
def hOk (n : Nat) (v : Int32) : Prop := v = -1 ∨ (∃ s, s < 5 ∧ v = nI s) ∨ ∃ k, k < n ∧ v = nI (10 + k)
def Img (σ : St) : Prop := (σ.1 0 8 = 0 ∧ σ.1 93 23 = 0) ∨ (σ.1 0 8 = 1 ∧ σ.1 93 23 = 1 ∧ ∃ S, HC σ 57 S ∧ HK σ 105 S ∧ Inv S)
def Shv (σ : St) (n s : Nat) : Prop := σ.1 (21 + 2 * s) 0 = σ.1 94 s ∧ σ.1 (21 + 2 * s) 1 = σ.1 95 s ∧ hOk n (σ.1 94 s) ∧ (∃ z, z ≤ 40 ∧ σ.1 95 s = nI z) ∧ ∀ i, i < 40 → σ.2 (22 + 2 * s) i = σ.2 96 (40 * s + i)
def Rest (σ : St) (n : Nat) : Prop :=
  (∀ i, i < 5 → σ.1 1 i = σ.1 104 (i + 2)) ∧
  (∀ s, s < 8 → Shv σ n s) ∧
  (σ.1 37 0 = -1 ∧ σ.1 73 0 = 0 ∧ σ.1 73 1 = 0 ∧ σ.1 91 0 = 0 ∧ σ.1 91 1 = 0 ∧ ∀ j, j < 5 → σ.1 6 j = 0) ∧
  (∃ t, t ≤ 250 ∧ σ.1 3 1 = nI t ∧ σ.1 93 16 = nI t) ∧
  (∀ i, i < 250 → σ.1 4 i = σ.1 103 i ∧ ∃ v, v ≤ 255 ∧ σ.1 103 i = nI v) ∧
  Img σ
theorem Rest.fr {σ σ' : St} {n : Nat} (R : Rest σ n) (f : Fr RF σ σ') : Rest σ' n := by
  obtain ⟨a, b, ⟨c0, c1, c2, c3, c4, c5⟩, ⟨t, t1, t2, t3⟩, d, g⟩ := R
  refine ⟨fun i hi => ?_, fun s hs => ?_, ⟨?_, ?_, ?_, ?_, ?_, fun j hj => ?_⟩, ⟨t, t1, ?_, ?_⟩, fun i hi => ?_, ?_⟩
  · rw [f.1 1 i (by unfold RF; omega), f.1 104 (i + 2) (by unfold RF; omega)]; exact a i hi
  · have := b s hs
    unfold Shv at this ⊢
    rw [f.1 (21 + 2 * s) 0 (by unfold RF; omega), f.1 94 s (by unfold RF; omega), f.1 (21 + 2 * s) 1 (by unfold RF; omega), f.1 95 s (by unfold RF; omega), f.2]
    exact this
  · rw [f.1 _ _ (by unfold RF; omega)]; exact c0
  · rw [f.1 _ _ (by unfold RF; omega)]; exact c1
  · rw [f.1 _ _ (by unfold RF; omega)]; exact c2
  · rw [f.1 _ _ (by unfold RF; omega)]; exact c3
  · rw [f.1 _ _ (by unfold RF; omega)]; exact c4
  · rw [f.1 _ _ (by unfold RF; omega)]; exact c5 j hj
  · rw [f.1 _ _ (by unfold RF; omega)]; exact t2
  · rw [f.1 _ _ (by unfold RF; omega)]; exact t3
  · rw [f.1 4 i (by unfold RF; omega), f.1 103 i (by unfold RF; omega)]; exact d i hi
  · unfold Img at g ⊢
    rw [f.1 0 8 (by unfold RF; omega), f.1 93 23 (by unfold RF; omega)]
    rcases g with g | ⟨g1, g2, S, g3, g4, g5⟩
    · exact Or.inl g
    · exact Or.inr ⟨g1, g2, S, g3.fr f (fun a j u v z => by unfold RF at z; omega), g4.fr f (fun j z => by unfold RF at z; omega), g5⟩
/-- both hold the same -/
def Sm (σ : St) (S : HS) : Prop := HC σ 39 S ∧ HM σ S ∧ Inv S ∧ Rest σ (nk S)
def Sim (σ : St) : Prop := ∃ S, Sm σ S
theorem SC_CF {a j : Nat} (h : SC a j) : CF a j := by unfold SC at h; unfold CF; omega
theorem SC_MF {a j : Nat} (h : SC a j) : MF a j := by unfold SC at h; unfold MF; omega
theorem SC_RF {a j : Nat} (h : SC a j) : RF a j := by unfold SC at h; unfold RF; omega
theorem Sm.sc {σ σ' : St} {S : HS} (H : Sm σ S) (f : Fr SC σ σ') : Sm σ' S := ⟨H.1.cf (f.w fun _ _ => SC_CF), H.2.1.fr (f.w fun _ _ => SC_MF), H.2.2.1, H.2.2.2.fr (f.w fun _ _ => SC_RF)⟩
/-! refusals -/
def rfn : Nat → Int32
  | 0 => -2
  | 1 => -3
  | 2 => -4
  | 3 => -5
  | _ => -6
def R1 (σ : St) (i : Nat) : St := setI σ 1 i (σ.1 1 i + 1)
def R2 (σ : St) (i : Nat) : St := setI σ 104 (i + 2) (σ.1 104 (i + 2) + 1)
theorem rfn_1 : ∀ i, i < 5 → -2 - rfn i = nI i := by decide +kernel
theorem rfn_2 : ∀ i, i < 5 → -rfn i = nI (i + 2) := by decide +kernel
theorem ln1 : ln 1 = 5 := by decide +kernel
theorem ref_i {σ : St} {i : Nat} (h : i < 5) : f_X5_refuse σ 0 (rfn i) = some (rfn i, R1 σ i) := by
  unfold f_X5_refuse
  rw [rfn_1 i h, bind_s, c_at (by rw [ln1]; exact h), bind_s, c_put (by rw [ln1]; exact h)]
  rfl
theorem nof_i {σ : St} {i : Nat} (h : i < 5) : f_X6_no σ 93 (rfn i) = some (rfn i, R2 σ i) := by
  unfold f_X6_no
  rw [rfn_2 i h, ldI_n (by rw [ln104]; omega), bind_s, stI_n (by rw [ln104]; omega)]
  rfl
theorem ref_2 {σ : St} : f_X5_refuse σ 0 (-2) = some (-2, R1 σ 0) := ref_i (i := 0) (by decide)
theorem ref_3 {σ : St} : f_X5_refuse σ 0 (-3) = some (-3, R1 σ 1) := ref_i (i := 1) (by decide)
theorem ref_4 {σ : St} : f_X5_refuse σ 0 (-4) = some (-4, R1 σ 2) := ref_i (i := 2) (by decide)
theorem ref_5 {σ : St} : f_X5_refuse σ 0 (-5) = some (-5, R1 σ 3) := ref_i (i := 3) (by decide)
theorem ref_6 {σ : St} : f_X5_refuse σ 0 (-6) = some (-6, R1 σ 4) := ref_i (i := 4) (by decide)
theorem nof_2 {σ : St} : f_X6_no σ 93 (-2) = some (-2, R2 σ 0) := nof_i (i := 0) (by decide)
theorem nof_3 {σ : St} : f_X6_no σ 93 (-3) = some (-3, R2 σ 1) := nof_i (i := 1) (by decide)
theorem nof_4 {σ : St} : f_X6_no σ 93 (-4) = some (-4, R2 σ 2) := nof_i (i := 2) (by decide)
theorem nof_5 {σ : St} : f_X6_no σ 93 (-5) = some (-5, R2 σ 3) := nof_i (i := 3) (by decide)
theorem nof_6 {σ : St} : f_X6_no σ 93 (-6) = some (-6, R2 σ 4) := nof_i (i := 4) (by decide)
theorem b2_s {α β : Type} (a : α) (s : St) (f : α → St → Option β) : b2 (some (a, s)) f = f a s := Eq.trans rfl rfl
/-- a refusal of both leaves both alike -/
theorem Sm.ref {σ : St} {S : HS} (H : Sm σ S) {i : Nat} (hi : i < 5) : HM (R1 σ i) S ∧ Sm (R2 (R1 σ i) i) S := by
  obtain ⟨h1, h2, h3, ⟨a, b, ⟨c0, c1, c2, c3, c4, c5⟩, ⟨t, t1, t2, t3⟩, d, g⟩⟩ := H
  have f1 : Fr (fun a _ => a = 1 ∨ a = 104) σ (R1 σ i) := Fr.i (Or.inl rfl)
  have f2 : Fr (fun a _ => a = 1 ∨ a = 104) σ (R2 (R1 σ i) i) := f1.t (Fr.i (Or.inr rfl))
  refine ⟨h2.fr (f1.w fun a j z => by unfold MF; omega), h1.fr f2 (fun a j u v z => by omega), h2.fr (f2.w fun a j z => by unfold MF; omega), h3, fun j hj => ?_, fun s hs => ?_, ⟨?_, ?_, ?_, ?_, ?_, fun j hj => ?_⟩, ⟨t, t1, ?_, ?_⟩, fun j hj => ?_, ?_⟩
  · unfold R2 R1
    rw [setI_a (by decide)]
    by_cases e : j = i
    · subst e
      rw [setI_s, setI_s, setI_a (by decide), a j hj]
    · rw [setI_k e, setI_k (by omega), setI_a (by decide), a j hj]
  · have := b s hs
    unfold Shv at this ⊢
    rw [f2.1 (21 + 2 * s) 0 (by omega), f2.1 94 s (by omega), f2.1 (21 + 2 * s) 1 (by omega), f2.1 95 s (by omega), f2.2]
    exact this
  · rw [f2.1 _ _ (by omega)]; exact c0
  · rw [f2.1 _ _ (by omega)]; exact c1
  · rw [f2.1 _ _ (by omega)]; exact c2
  · rw [f2.1 _ _ (by omega)]; exact c3
  · rw [f2.1 _ _ (by omega)]; exact c4
  · rw [f2.1 _ _ (by omega)]; exact c5 j hj
  · rw [f2.1 _ _ (by omega)]; exact t2
  · rw [f2.1 _ _ (by omega)]; exact t3
  · rw [f2.1 4 j (by omega), f2.1 103 j (by omega)]; exact d j hj
  · unfold Img at g ⊢
    rw [f2.1 0 8 (by omega), f2.1 93 23 (by omega)]
    rcases g with g | ⟨g1, g2, T, g3, g4, g5⟩
    · exact Or.inl g
    · exact Or.inr ⟨g1, g2, T, g3.fr f2 (fun a j u v z => by omega), g4.fr f2 (fun j z => by omega), g5⟩
/-! numbers that come from outside -/
def inR (x : Int32) (a n : Nat) : Prop := ∃ k, a ≤ k ∧ k < n ∧ x = nI k
theorem pr_toInt {n : Nat} (h : n < 2 ^ 30) : (nI n - 1).toInt = (n : Int) - 1 := pk_sub_toInt (b := 1) h (by decide)
theorem w_in {k a n : Nat} (h1 : a ≤ k) (h2 : k < n) (hn : n < 2 ^ 30) : f_X5_isWithin (nI k) (nI a) (nI n - 1) = some 1 := by
  unfold f_X5_isWithin
  rw [npred (by omega)]
  simp (disch := omega) only [nle, nlt, neq, neqm, nmeq, nlem, nI_add, pk_mul, nI_1, ne0, nl0, nk0, nt0, nu0, ne1, nl1, nk1, nt1, nu1, ne2, nl2, nk2, nt2, nu2, na2, nb2, ns2, ne3, nl3, nk3, nt3, nu3, na3, nb3, ns3, ne4, nl4, nk4, nt4, nu4, na4, nb4, ns4, ne5, nl5, nk5, nt5, nu5, na5, nb5, nm5, nn5, ns5, ne6, nl6, nk6, nt6, nu6, na6, nb6, ns6, ne7, nl7, nk7, nt7, nu7, na7, nb7, ns7, ne8, nl8, nk8, nt8, nu8, na8, nb8, ns8, ne9, nl9, nk9, nt9, nu9, na9, nb9, ns9, ne10, nl10, nk10, nt10, nu10, na10, nb10, nm10, nn10, ns10, ne16, nl16, nk16, nt16, nu16, na16, nb16, ns16, ne18, nl18, nk18, nt18, nu18, na18, nb18, ns18, ne20, nl20, nk20, nt20, nu20, na20, nb20, ns20, ne30, nl30, nk30, nt30, nu30, na30, nb30, ns30, ne32, nl32, nk32, nt32, nu32, na32, nb32, ns32, ne40, nl40, nk40, nt40, nu40, na40, nb40, nm40, nn40, ns40, ne48, nl48, nk48, nt48, nu48, na48, nb48, ns48, ne56, nl56, nk56, nt56, nu56, na56, nb56, ns56, ne57, nl57, nk57, nt57, nu57, na57, nb57, ns57, ne59, nl59, nk59, nt59, nu59, na59, nb59, ns59, ne96, nl96, nk96, nt96, nu96, na96, nb96, ns96, ne97, nl97, nk97, nt97, nu97, na97, nb97, ns97, ne98, nl98, nk98, nt98, nu98, na98, nb98, ns98, ne99, nl99, nk99, nt99, nu99, na99, nb99, ns99, ne100, nl100, nk100, nt100, nu100, na100, nb100, ns100, ne101, nl101, nk101, nt101, nu101, na101, nb101, ns101, ne102, nl102, nk102, nt102, nu102, na102, nb102, ns102, ne122, nl122, nk122, nt122, nu122, na122, nb122, ns122, ne250, nl250, nk250, nt250, nu250, na250, nb250, ns250, ne255, nl255, nk255, nt255, nu255, na255, nb255, ns255, ne1000, nl1000, nk1000, nt1000, nu1000, na1000, nb1000, ns1000, npred, opt_b, ite_true, ite_false, n10, n01, eq_self, show ¬ k < a by omega, show ¬ n - 1 < k by omega]
theorem w_out {x : Int32} {a n : Nat} (h : ¬ inR x a n) (ha : a < 2 ^ 30) (hn : n < 2 ^ 30) : f_X5_isWithin x (nI a) (nI n - 1) = some 0 := by
  unfold f_X5_isWithin
  by_cases q : x < nI a
  · rw [if_pos q]
  · rw [if_neg q]
    by_cases q2 : nI n - 1 < x
    · rw [if_pos q2]
    · exfalso
      have e1 : ¬ x.toInt < (nI a).toInt := fun z => q (Int32.lt_iff_toInt_lt.mpr z)
      have e2 : ¬ (nI n - 1).toInt < x.toInt := fun z => q2 (Int32.lt_iff_toInt_lt.mpr z)
      rw [pr_toInt hn] at e2
      rw [nI_toInt (by omega)] at e1
      refine h ⟨x.toInt.toNat, by omega, by omega, ?_⟩
      apply Int32.toInt_inj.mp
      rw [nI_toInt (by omega)]
      omega
theorem w_6 (x y z : Int32) : f_X6_within x y z = f_X5_isWithin x y z := rfl
theorem w_i0 {k n : Nat} (h2 : k < n) (hn : n < 2 ^ 30) : f_X5_isWithin (nI k) 0 (nI n - 1) = some 1 := w_in (a := 0) (Nat.zero_le _) h2 hn
theorem w_o0 {x : Int32} {n : Nat} (h : ¬ inR x 0 n) (hn : n < 2 ^ 30) : f_X5_isWithin x 0 (nI n - 1) = some 0 := w_out (a := 0) h (by decide) hn
theorem wi_0_7 {k : Nat} (h1 : 0 ≤ k) (h2 : k < 8) : f_X5_isWithin (nI k) 0 7 = some 1 := w_in (a := 0) (n := 8) h1 h2 (by decide)
theorem wo_0_7 {x : Int32} (h : ¬ inR x 0 8) : f_X5_isWithin x 0 7 = some 0 := w_out (a := 0) (n := 8) h (by decide) (by decide)
theorem wi_0_4 {k : Nat} (h1 : 0 ≤ k) (h2 : k < 5) : f_X5_isWithin (nI k) 0 4 = some 1 := w_in (a := 0) (n := 5) h1 h2 (by decide)
theorem wo_0_4 {x : Int32} (h : ¬ inR x 0 5) : f_X5_isWithin x 0 4 = some 0 := w_out (a := 0) (n := 5) h (by decide) (by decide)
theorem wi_0_40 {k : Nat} (h1 : 0 ≤ k) (h2 : k < 41) : f_X5_isWithin (nI k) 0 40 = some 1 := w_in (a := 0) (n := 41) h1 h2 (by decide)
theorem wo_0_40 {x : Int32} (h : ¬ inR x 0 41) : f_X5_isWithin x 0 40 = some 0 := w_out (a := 0) (n := 41) h (by decide) (by decide)
theorem wi_0_5 {k : Nat} (h1 : 0 ≤ k) (h2 : k < 6) : f_X5_isWithin (nI k) 0 5 = some 1 := w_in (a := 0) (n := 6) h1 h2 (by decide)
theorem wo_0_5 {x : Int32} (h : ¬ inR x 0 6) : f_X5_isWithin x 0 5 = some 0 := w_out (a := 0) (n := 6) h (by decide) (by decide)
theorem wi_0_9 {k : Nat} (h1 : 0 ≤ k) (h2 : k < 10) : f_X5_isWithin (nI k) 0 9 = some 1 := w_in (a := 0) (n := 10) h1 h2 (by decide)
theorem wo_0_9 {x : Int32} (h : ¬ inR x 0 10) : f_X5_isWithin x 0 9 = some 0 := w_out (a := 0) (n := 10) h (by decide) (by decide)
theorem wi_0_1 {k : Nat} (h1 : 0 ≤ k) (h2 : k < 2) : f_X5_isWithin (nI k) 0 1 = some 1 := w_in (a := 0) (n := 2) h1 h2 (by decide)
theorem wo_0_1 {x : Int32} (h : ¬ inR x 0 2) : f_X5_isWithin x 0 1 = some 0 := w_out (a := 0) (n := 2) h (by decide) (by decide)
theorem wi_0_2 {k : Nat} (h1 : 0 ≤ k) (h2 : k < 3) : f_X5_isWithin (nI k) 0 2 = some 1 := w_in (a := 0) (n := 3) h1 h2 (by decide)
theorem wo_0_2 {x : Int32} (h : ¬ inR x 0 3) : f_X5_isWithin x 0 2 = some 0 := w_out (a := 0) (n := 3) h (by decide) (by decide)
theorem wi_0_255 {k : Nat} (h1 : 0 ≤ k) (h2 : k < 256) : f_X5_isWithin (nI k) 0 255 = some 1 := w_in (a := 0) (n := 256) h1 h2 (by decide)
theorem wo_0_255 {x : Int32} (h : ¬ inR x 0 256) : f_X5_isWithin x 0 255 = some 0 := w_out (a := 0) (n := 256) h (by decide) (by decide)
theorem wi_1_5 {k : Nat} (h1 : 1 ≤ k) (h2 : k < 6) : f_X5_isWithin (nI k) 1 5 = some 1 := w_in (a := 1) (n := 6) h1 h2 (by decide)
theorem wo_1_5 {x : Int32} (h : ¬ inR x 1 6) : f_X5_isWithin x 1 5 = some 0 := w_out (a := 1) (n := 6) h (by decide) (by decide)
theorem wi_1_4 {k : Nat} (h1 : 1 ≤ k) (h2 : k < 5) : f_X5_isWithin (nI k) 1 4 = some 1 := w_in (a := 1) (n := 5) h1 h2 (by decide)
theorem wo_1_4 {x : Int32} (h : ¬ inR x 1 5) : f_X5_isWithin x 1 4 = some 0 := w_out (a := 1) (n := 5) h (by decide) (by decide)
theorem wi_1_20 {k : Nat} (h1 : 1 ≤ k) (h2 : k < 21) : f_X5_isWithin (nI k) 1 20 = some 1 := w_in (a := 1) (n := 21) h1 h2 (by decide)
theorem wo_1_20 {x : Int32} (h : ¬ inR x 1 21) : f_X5_isWithin x 1 20 = some 0 := w_out (a := 1) (n := 21) h (by decide) (by decide)
theorem wi_1_40 {k : Nat} (h1 : 1 ≤ k) (h2 : k < 41) : f_X5_isWithin (nI k) 1 40 = some 1 := w_in (a := 1) (n := 41) h1 h2 (by decide)
theorem wo_1_40 {x : Int32} (h : ¬ inR x 1 41) : f_X5_isWithin x 1 40 = some 0 := w_out (a := 1) (n := 41) h (by decide) (by decide)
