theorem cp_n {σ : St} {a b n : Nat} (ha : n ≤ ln a) (hb : n ≤ ln b) : ∃ σ', cpI σ a 0 b 0 (nI n) = some σ' ∧ (∀ j, j < n → σ'.1 b j = σ.1 a j) ∧ Fr (fun c j => c = b ∧ j < n) σ σ' := by
  have h1 := ln_le a
  have z : (0 : Int32).toNatClampNeg = 0 := by decide
  refine ⟨setA σ b (va_cpy (σ.1 a) (σ.1 b) 0 0 n), ?_, fun j hj => ?_, fun c j h => ?_, rfl⟩
  · unfold cpI
    rw [nI_clamp (by omega), z, if_neg]
    rintro (h | h | h | h | h)
    · exact absurd h (by decide)
    · exact absurd h (by decide)
    · exact absurd h (nI_pos (by omega))
    · omega
    · omega
  · rw [setA_s]
    unfold va_cpy
    rw [if_pos ⟨Nat.zero_le _, by omega⟩, Nat.sub_zero, Nat.zero_add]
  · by_cases e : c = b
    · subst e
      rw [setA_s]
      unfold va_cpy
      rw [if_neg (fun z => h ⟨rfl, by omega⟩)]
    · rw [setA_n e]
theorem c_ktake {σ : St} {a b : Nat} (hs : a + 2 ≤ b ∨ b + 2 ≤ a) (la : ln (a + 1) = 5) (lb : ln (b + 1) = 5) : ∃ σ', f_X1_take σ a b = some σ' ∧ (∀ j, j < 3 → σ'.1 a j = σ.1 b j) ∧ (∀ p, p < 5 → σ'.1 (a + 1) p = σ.1 (b + 1) p) ∧ Fr (fun c _ => c = a ∨ c = a + 1) σ σ' := by
  obtain ⟨s, u, v, w⟩ := cp_n (σ := setI (setI (setI σ a 0 (σ.1 b 0)) a 1 (σ.1 b 1)) a 2 (σ.1 b 2)) (a := b + 1) (b := a + 1) (n := 5) (by rw [lb]; exact Nat.le_refl _) (by rw [la]; exact Nat.le_refl _)
  have u' : cpI (setI (setI (setI σ a 0 (σ.1 b 0)) a 1 (σ.1 b 1)) a 2 (σ.1 b 2)) (b + 1) 0 (a + 1) 0 5 = some s := u
  refine ⟨s, ?_, fun j hj => ?_, fun p hp => ?_, ?_⟩
  · unfold f_X1_take
    simp only [ptI_s, opt_b, setI_a (show b ≠ a by omega)]
    exact bind_e u' rfl
  · rw [w.1 a j (by omega)]
    rcases (show j = 0 ∨ j = 1 ∨ j = 2 by omega) with rfl | rfl | rfl
    · rw [setI_k (by decide), setI_k (by decide), setI_s]
    · rw [setI_k (by decide), setI_s]
    · rw [setI_s]
  · rw [v p hp, setI_a (by omega), setI_a (by omega), setI_a (by omega)]
  · exact Fr.t (Fr.t (Fr.t (Fr.i (Or.inl rfl)) (Fr.i (Or.inl rfl))) (Fr.i (Or.inl rfl))) (w.w fun c j z => Or.inr z.1)
theorem HC.mv {σ σ' : St} {x y : Nat} {S : HS} (H : HC σ y S) (e0 : ∀ j, j < 8 → σ'.1 x j = σ.1 y j) (ek : ∀ k, k < 6 → (∀ j, j < 3 → σ'.1 (kI x k) j = σ.1 (kI y k) j) ∧ ∀ p, p < 5 → σ'.1 (kI x k + 1) p = σ.1 (kI y k + 1) p) (ea : ∀ j, j < 40 → σ'.1 (x + 2) j = σ.1 (y + 2) j) (ew : ∀ j, j < 25 → σ'.1 (x + 3) j = σ.1 (y + 3) j) (z0 : σ'.1 (x + 16) 0 = 0) (z1 : σ'.1 (x + 16) 1 = 0) : HC σ' x S := by
  obtain ⟨⟨a0, a1, a2, a3, a4, a5, a6, a7⟩, b, c, d, _, _⟩ := H
  refine ⟨⟨by rw [e0 0 (by decide)]; exact a0, by rw [e0 1 (by decide)]; exact a1, by rw [e0 2 (by decide)]; exact a2, by rw [e0 3 (by decide)]; exact a3, by rw [e0 4 (by decide)]; exact a4, by rw [e0 5 (by decide)]; exact a5, by rw [e0 6 (by decide)]; exact a6, by rw [e0 7 (by decide)]; exact a7⟩, fun k hk => ⟨by rw [(ek k hk).1 0 (by decide)]; exact (b k hk).1, by rw [(ek k hk).1 1 (by decide)]; exact (b k hk).2.1, by rw [(ek k hk).1 2 (by decide)]; exact (b k hk).2.2.1, fun p hp => by rw [(ek k hk).2 p hp]; exact (b k hk).2.2.2 p hp⟩, fun l hl p hp => by rw [ea _ (by omega)]; exact c l hl p hp, fun p hp d' hd => by rw [ew _ (by omega)]; exact d p hp d' hd, z0, z1⟩
theorem c_take {σ : St} {x y : Nat} {S : HS} (hx : isH x) (hy : isH y) (hne : x ≠ y) (H : HC σ y S) (z0 : σ.1 (x + 16) 0 = 0) (z1 : σ.1 (x + 16) 1 = 0) : ∃ σ', f_X0_take σ x y = some σ' ∧ HC σ' x S ∧ Fr (fun a _ => x ≤ a ∧ a ≤ x + 15) σ σ' := by
  have hs : x + 18 ≤ y ∨ y + 18 ≤ x := by
    rcases hx with rfl | rfl | rfl <;> rcases hy with rfl | rfl | rfl <;> omega
  have lx := ln_h hx
  have ly := ln_h hy
  have gen := lp_0 (P := fun n m => ∀ σ1, Fr (fun a _ => x ≤ a ∧ a ≤ x + 15) σ σ1 → (∀ j, j < 8 → σ1.1 x j = σ.1 y j) → (∀ k, k < m → (∀ j, j < 3 → σ1.1 (kI x k) j = σ.1 (kI y k) j) ∧ ∀ p, p < 5 → σ1.1 (kI x k + 1) p = σ.1 (kI y k + 1) p) → ∃ σ', f_X0_take_l66 n σ1 x y (nI m) = some σ' ∧ HC σ' x S ∧ Fr (fun a _ => x ≤ a ∧ a ≤ x + 15) σ σ') 6 (by omega) (fun n σ1 f1 g0 gk => ?_) (fun n m hm ih σ1 f1 g0 gk => ?_)
  · let s8 := setI (setI (setI (setI (setI (setI (setI (setI σ x 0 (σ.1 y 0)) x 1 (σ.1 y 1)) x 2 (σ.1 y 2)) x 3 (σ.1 y 3)) x 4 (σ.1 y 4)) x 5 (σ.1 y 5)) x 6 (σ.1 y 6)) x 7 (σ.1 y 7)
    obtain ⟨σ', u1, u2⟩ := gen s8 (by
      have h : ∀ k v (τ : St), Fr (fun a _ => x ≤ a ∧ a ≤ x + 15) τ (setI τ x k v) := fun k v τ => Fr.i ⟨Nat.le_refl _, by omega⟩
      exact Fr.t (Fr.t (Fr.t (Fr.t (Fr.t (Fr.t (Fr.t (h _ _ _) (h _ _ _)) (h _ _ _)) (h _ _ _)) (h _ _ _)) (h _ _ _)) (h _ _ _)) (h _ _ _)) (fun j hj => by
      show s8.1 x j = _
      rcases (show j = 0 ∨ j = 1 ∨ j = 2 ∨ j = 3 ∨ j = 4 ∨ j = 5 ∨ j = 6 ∨ j = 7 by omega) with rfl | rfl | rfl | rfl | rfl | rfl | rfl | rfl
      · rw [setI_k (by decide), setI_k (by decide), setI_k (by decide), setI_k (by decide), setI_k (by decide), setI_k (by decide), setI_k (by decide), setI_s]
      · rw [setI_k (by decide), setI_k (by decide), setI_k (by decide), setI_k (by decide), setI_k (by decide), setI_k (by decide), setI_s]
      · rw [setI_k (by decide), setI_k (by decide), setI_k (by decide), setI_k (by decide), setI_k (by decide), setI_s]
      · rw [setI_k (by decide), setI_k (by decide), setI_k (by decide), setI_k (by decide), setI_s]
      · rw [setI_k (by decide), setI_k (by decide), setI_k (by decide), setI_s]
      · rw [setI_k (by decide), setI_k (by decide), setI_s]
      · rw [setI_k (by decide), setI_s]
      · rw [setI_s]) (fun k hk => absurd hk (Nat.not_lt_zero k))
    refine ⟨σ', ?_, u2⟩
    unfold f_X0_take
    simp only [ptI_s, opt_b, setI_a (show y ≠ x by omega)]
    exact u1
  · obtain ⟨s1, u1, v1, w1⟩ := cp_n (σ := σ1) (a := y + 2) (b := x + 2) (n := 40) (by rw [ly.2.1]; exact Nat.le_refl _) (by rw [lx.2.1]; exact Nat.le_refl _)
    obtain ⟨s2, u2, v2, w2⟩ := cp_n (σ := s1) (a := y + 3) (b := x + 3) (n := 25) (by rw [ly.2.2.1]; exact Nat.le_refl _) (by rw [lx.2.2.1]; exact Nat.le_refl _)
    have f2 : Fr (fun a _ => x ≤ a ∧ a ≤ x + 15) σ s2 := (f1.t (w1.w fun a j z => by omega)).t (w2.w fun a j z => by omega)
    have g : ∀ a j, a ≠ x + 2 → a ≠ x + 3 → s2.1 a j = σ1.1 a j := fun a j p q => by rw [w2.1 a j (by omega), w1.1 a j (by omega)]
    refine ⟨s2, ?_, H.mv (fun j hj => ?_) (fun k hk => ⟨fun j hj => ?_, fun p hp => ?_⟩) (fun j hj => ?_) (fun j hj => ?_) ?_ ?_, f2⟩
    · show f_X0_take_b66 (f_X0_take_l66 n) _ _ _ _ = _; unfold f_X0_take_b66
      simp (disch := omega) only [nle, nlt, neq, neqm, nmeq, nlem, nI_add, pk_mul, nI_1, ne0, nl0, nk0, nt0, nu0, ne1, nl1, nk1, nt1, nu1, ne2, nl2, nk2, nt2, nu2, na2, nb2, ns2, ne3, nl3, nk3, nt3, nu3, na3, nb3, ns3, ne4, nl4, nk4, nt4, nu4, na4, nb4, ns4, ne5, nl5, nk5, nt5, nu5, na5, nb5, nm5, nn5, ns5, ne6, nl6, nk6, nt6, nu6, na6, nb6, ns6, ne7, nl7, nk7, nt7, nu7, na7, nb7, ns7, ne8, nl8, nk8, nt8, nu8, na8, nb8, ns8, ne9, nl9, nk9, nt9, nu9, na9, nb9, ns9, ne10, nl10, nk10, nt10, nu10, na10, nb10, nm10, nn10, ns10, ne16, nl16, nk16, nt16, nu16, na16, nb16, ns16, ne18, nl18, nk18, nt18, nu18, na18, nb18, ns18, ne20, nl20, nk20, nt20, nu20, na20, nb20, ns20, ne30, nl30, nk30, nt30, nu30, na30, nb30, ns30, ne32, nl32, nk32, nt32, nu32, na32, nb32, ns32, ne40, nl40, nk40, nt40, nu40, na40, nb40, nm40, nn40, ns40, ne48, nl48, nk48, nt48, nu48, na48, nb48, ns48, ne56, nl56, nk56, nt56, nu56, na56, nb56, ns56, ne57, nl57, nk57, nt57, nu57, na57, nb57, ns57, ne59, nl59, nk59, nt59, nu59, na59, nb59, ns59, ne96, nl96, nk96, nt96, nu96, na96, nb96, ns96, ne97, nl97, nk97, nt97, nu97, na97, nb97, ns97, ne98, nl98, nk98, nt98, nu98, na98, nb98, ns98, ne99, nl99, nk99, nt99, nu99, na99, nb99, ns99, ne100, nl100, nk100, nt100, nu100, na100, nb100, ns100, ne101, nl101, nk101, nt101, nu101, na101, nb101, ns101, ne102, nl102, nk102, nt102, nu102, na102, nb102, ns102, ne122, nl122, nk122, nt122, nu122, na122, nb122, ns122, ne250, nl250, nk250, nt250, nu250, na250, nb250, ns250, ne255, nl255, nk255, nt255, nu255, na255, nb255, ns255, ne1000, nl1000, nk1000, nt1000, nu1000, na1000, nb1000, ns1000, npred, opt_b, ite_true, ite_false, n10, n01, eq_self, Nat.le_refl, lx.2.1, lx.2.2.1]
      exact bind_e u1 (bind_e u2 rfl)
    · rw [g _ _ (by omega) (by omega)]; exact g0 j hj
    · rw [g _ _ (by unfold kI; omega) (by unfold kI; omega)]; exact (gk k hk).1 j hj
    · rw [g _ _ (by unfold kI; omega) (by unfold kI; omega)]; exact (gk k hk).2 p hp
    · rw [w2.1 _ _ (by omega), v1 j hj, f1.1 _ _ (by omega)]
    · rw [v2 j hj, w1.1 _ _ (by omega), f1.1 _ _ (by omega)]
    · rw [f2.1 _ _ (by omega)]; exact z0
    · rw [f2.1 _ _ (by omega)]; exact z1
  · obtain ⟨s, u, v, w, fw⟩ := c_ktake (σ := σ1) (a := kI x m) (b := kI y m) (by unfold kI; omega) (lx.2.2.2.1 m hm) (ly.2.2.2.1 m hm)
    have g : ∀ a j, a ≠ kI x m → a ≠ kI x m + 1 → s.1 a j = σ1.1 a j := fun a j p q => fw.1 a j (by omega)
    obtain ⟨σ', u1, u2⟩ := ih s (f1.t (fw.w fun a j z => by unfold kI at z; omega)) (fun j hj => by rw [g _ _ (by unfold kI; omega) (by unfold kI; omega)]; exact g0 j hj) (fun k hk => by
      by_cases e : k = m
      · subst e
        exact ⟨fun j hj => by rw [v j hj, f1.1 _ _ (by unfold kI; omega)], fun p hp => by rw [w p hp, f1.1 _ _ (by unfold kI; omega)]⟩
      · exact ⟨fun j hj => by rw [g _ _ (by unfold kI; omega) (by unfold kI; omega)]; exact (gk k (by omega)).1 j hj, fun p hp => by rw [g _ _ (by unfold kI; omega) (by unfold kI; omega)]; exact (gk k (by omega)).2 p hp⟩)
    refine ⟨σ', ?_, u2⟩
    show f_X0_take_b66 (f_X0_take_l66 n) _ _ _ _ = _; unfold f_X0_take_b66
    simp (disch := omega) only [nle, nlt, neq, neqm, nmeq, nlem, nI_add, pk_mul, nI_1, ne0, nl0, nk0, nt0, nu0, ne1, nl1, nk1, nt1, nu1, ne2, nl2, nk2, nt2, nu2, na2, nb2, ns2, ne3, nl3, nk3, nt3, nu3, na3, nb3, ns3, ne4, nl4, nk4, nt4, nu4, na4, nb4, ns4, ne5, nl5, nk5, nt5, nu5, na5, nb5, nm5, nn5, ns5, ne6, nl6, nk6, nt6, nu6, na6, nb6, ns6, ne7, nl7, nk7, nt7, nu7, na7, nb7, ns7, ne8, nl8, nk8, nt8, nu8, na8, nb8, ns8, ne9, nl9, nk9, nt9, nu9, na9, nb9, ns9, ne10, nl10, nk10, nt10, nu10, na10, nb10, nm10, nn10, ns10, ne16, nl16, nk16, nt16, nu16, na16, nb16, ns16, ne18, nl18, nk18, nt18, nu18, na18, nb18, ns18, ne20, nl20, nk20, nt20, nu20, na20, nb20, ns20, ne30, nl30, nk30, nt30, nu30, na30, nb30, ns30, ne32, nl32, nk32, nt32, nu32, na32, nb32, ns32, ne40, nl40, nk40, nt40, nu40, na40, nb40, nm40, nn40, ns40, ne48, nl48, nk48, nt48, nu48, na48, nb48, ns48, ne56, nl56, nk56, nt56, nu56, na56, nb56, ns56, ne57, nl57, nk57, nt57, nu57, na57, nb57, ns57, ne59, nl59, nk59, nt59, nu59, na59, nb59, ns59, ne96, nl96, nk96, nt96, nu96, na96, nb96, ns96, ne97, nl97, nk97, nt97, nu97, na97, nb97, ns97, ne98, nl98, nk98, nt98, nu98, na98, nb98, ns98, ne99, nl99, nk99, nt99, nu99, na99, nb99, ns99, ne100, nl100, nk100, nt100, nu100, na100, nb100, ns100, ne101, nl101, nk101, nt101, nu101, na101, nb101, ns101, ne102, nl102, nk102, nt102, nu102, na102, nb102, ns102, ne122, nl122, nk122, nt122, nu122, na122, nb122, ns122, ne250, nl250, nk250, nt250, nu250, na250, nb250, ns250, ne255, nl255, nk255, nt255, nu255, na255, nb255, ns255, ne1000, nl1000, nk1000, nt1000, nu1000, na1000, nb1000, ns1000, npred, opt_b, ite_true, ite_false, n10, n01, eq_self, show ¬ 6 ≤ m by omega, c_keyAt hx hm, c_keyAt hy hm]
    exact bind_e u u1
section KEEP
variable {σ : St} {S : HS} {b : Nat}
def kpA (σ : St) (b : Nat) (S : HS) (m : Nat) : Prop := ∀ k, k < m → σ.1 b k = nI (ki S k) ∧ σ.1 b (6 + k) = nI (ow S k) ∧ σ.1 b (12 + k) = my S k
def kpB (σ0 σ : St) (b o a m : Nat) : Prop := ∀ j, j < m → σ.1 b (o + j) = σ0.1 a j
theorem ln_b (hb : b = 105 ∨ b = 106) : ln b = 107 := hb.elim (fun e => by rw [e]; exact ln105) (fun e => by rw [e]; exact ln106)
theorem nb12 (a : Nat) : 12 + nI a = nI (12 + a) := nI_add 12 a
theorem m_keep4 (H : HM σ S) (hb : b = 105 ∨ b = 106) {σ1 : St} (f1 : Fr (fun a _ => a = b) σ σ1) (hA : kpA σ1 b S 6) (hB : kpB σ σ1 b 18 100 30) (hC : kpB σ σ1 b 48 101 8) : ∃ σ', f_X6_keep_l101 FU σ1 93 b 0 = some σ' ∧ HK σ' b S ∧ Fr (fun a _ => a = b) σ σ' := by
  have lb := ln_b hb
  have gen := lp_0 (P := fun n m => ∀ σ1, Fr (fun a _ => a = b) σ σ1 → kpA σ1 b S 6 → kpB σ σ1 b 18 100 30 → kpB σ σ1 b 48 101 8 → kpB σ σ1 b 56 102 m → ∃ σ', f_X6_keep_l101 n σ1 93 b (nI m) = some σ' ∧ HK σ' b S ∧ Fr (fun a _ => a = b) σ σ') 40 (by omega) (fun n σ1 f1 hA hB hC hD => ?_) (fun n m hm ih σ1 f1 hA hB hC hD => ?_)
  · exact gen σ1 f1 hA hB hC (fun j hj => absurd hj (Nat.not_lt_zero j))
  · have H1 : HM σ1 S := H.fr (f1.w fun a j z => by unfold MF; omega)
    have s96 : ∀ (σ : St) v, stI σ b 96 v = some (setI σ b 96 v) := fun σ v => stI_n (j := 96) (by omega)
    have s97 : ∀ (σ : St) v, stI σ b 97 v = some (setI σ b 97 v) := fun σ v => stI_n (j := 97) (by omega)
    have s98 : ∀ (σ : St) v, stI σ b 98 v = some (setI σ b 98 v) := fun σ v => stI_n (j := 98) (by omega)
    have s99 : ∀ (σ : St) v, stI σ b 99 v = some (setI σ b 99 v) := fun σ v => stI_n (j := 99) (by omega)
    have s100 : ∀ (σ : St) v, stI σ b 100 v = some (setI σ b 100 v) := fun σ v => stI_n (j := 100) (by omega)
    have s101 : ∀ (σ : St) v, stI σ b 101 v = some (setI σ b 101 v) := fun σ v => stI_n (j := 101) (by omega)
    have s102 : ∀ (σ : St) v, stI σ b 102 v = some (setI σ b 102 v) := fun σ v => stI_n (j := 102) (by omega)
    refine ⟨setI (setI (setI (setI (setI (setI (setI σ1 b 96 (nI (nk S))) b 97 (nI (nl S))) b 98 (nI (pl S))) b 99 (nI (dp S))) b 100 (nI (tg S))) b 101 (co S)) b 102 (se S), ?_, ?_, ?_⟩
    · show f_X6_keep_b101 (f_X6_keep_l101 n) _ _ _ _ = _; unfold f_X6_keep_b101
      simp (disch := omega) only [nle, nlt, neq, neqm, nmeq, nlem, nI_add, pk_mul, nI_1, ne0, nl0, nk0, nt0, nu0, ne1, nl1, nk1, nt1, nu1, ne2, nl2, nk2, nt2, nu2, na2, nb2, ns2, ne3, nl3, nk3, nt3, nu3, na3, nb3, ns3, ne4, nl4, nk4, nt4, nu4, na4, nb4, ns4, ne5, nl5, nk5, nt5, nu5, na5, nb5, nm5, nn5, ns5, ne6, nl6, nk6, nt6, nu6, na6, nb6, ns6, ne7, nl7, nk7, nt7, nu7, na7, nb7, ns7, ne8, nl8, nk8, nt8, nu8, na8, nb8, ns8, ne9, nl9, nk9, nt9, nu9, na9, nb9, ns9, ne10, nl10, nk10, nt10, nu10, na10, nb10, nm10, nn10, ns10, ne16, nl16, nk16, nt16, nu16, na16, nb16, ns16, ne18, nl18, nk18, nt18, nu18, na18, nb18, ns18, ne20, nl20, nk20, nt20, nu20, na20, nb20, ns20, ne30, nl30, nk30, nt30, nu30, na30, nb30, ns30, ne32, nl32, nk32, nt32, nu32, na32, nb32, ns32, ne40, nl40, nk40, nt40, nu40, na40, nb40, nm40, nn40, ns40, ne48, nl48, nk48, nt48, nu48, na48, nb48, ns48, ne56, nl56, nk56, nt56, nu56, na56, nb56, ns56, ne57, nl57, nk57, nt57, nu57, na57, nb57, ns57, ne59, nl59, nk59, nt59, nu59, na59, nb59, ns59, ne96, nl96, nk96, nt96, nu96, na96, nb96, ns96, ne97, nl97, nk97, nt97, nu97, na97, nb97, ns97, ne98, nl98, nk98, nt98, nu98, na98, nb98, ns98, ne99, nl99, nk99, nt99, nu99, na99, nb99, ns99, ne100, nl100, nk100, nt100, nu100, na100, nb100, ns100, ne101, nl101, nk101, nt101, nu101, na101, nb101, ns101, ne102, nl102, nk102, nt102, nu102, na102, nb102, ns102, ne122, nl122, nk122, nt122, nu122, na122, nb122, ns122, ne250, nl250, nk250, nt250, nu250, na250, nb250, ns250, ne255, nl255, nk255, nt255, nu255, na255, nb255, ns255, ne1000, nl1000, nk1000, nt1000, nu1000, na1000, nb1000, ns1000, npred, opt_b, ite_true, ite_false, n10, n01, eq_self, Nat.le_refl, s96, s97, s98, s99, s100, s101, s102, setI_a (show 93 ≠ b by omega), H1.1.1, H1.1.2.1, H1.1.2.2.1, H1.1.2.2.2.1, H1.1.2.2.2.2.1, H1.1.2.2.2.2.2.1, H1.1.2.2.2.2.2.2]
    · have g : ∀ j, j < 96 → (setI (setI (setI (setI (setI (setI (setI σ1 b 96 (nI (nk S))) b 97 (nI (nl S))) b 98 (nI (pl S))) b 99 (nI (dp S))) b 100 (nI (tg S))) b 101 (co S)) b 102 (se S)).1 b j = σ1.1 b j := fun j h => by
        rw [setI_k (by omega), setI_k (by omega), setI_k (by omega), setI_k (by omega), setI_k (by omega), setI_k (by omega), setI_k (by omega)]
      refine ⟨⟨?_, ?_, ?_, ?_, ?_, ?_, ?_⟩, fun k hk => ⟨?_, ?_, ?_⟩, fun k hk p hp => ?_, fun l hl => ?_, fun l hl p hp => ?_⟩
      · rw [setI_k (by decide), setI_k (by decide), setI_k (by decide), setI_k (by decide), setI_s]
      · rw [setI_k (by decide), setI_k (by decide), setI_k (by decide), setI_s]
      · rw [setI_k (by decide), setI_k (by decide), setI_s]
      · rw [setI_k (by decide), setI_k (by decide), setI_k (by decide), setI_k (by decide), setI_k (by decide), setI_k (by decide), setI_s]
      · rw [setI_k (by decide), setI_k (by decide), setI_k (by decide), setI_k (by decide), setI_k (by decide), setI_s]
      · rw [setI_k (by decide), setI_s]
      · rw [setI_s]
      · rw [g _ (by omega)]; exact (hA k hk).1
      · rw [g _ (by omega)]; exact (hA k hk).2.1
      · rw [g _ (by omega)]; exact (hA k hk).2.2
      · rw [g _ (by omega), hB _ (by omega)]; exact H.2.2.1 k hk p hp
      · rw [g _ (by omega), hC _ (by omega)]; exact H.2.2.2.1 l hl
      · rw [g _ (by omega), hD _ (by omega)]; exact H.2.2.2.2 l hl p hp
    · exact Fr.t (Fr.t (Fr.t (Fr.t (Fr.t (Fr.t (f1.t (Fr.i rfl)) (Fr.i rfl)) (Fr.i rfl)) (Fr.i rfl)) (Fr.i rfl)) (Fr.i rfl)) (Fr.i rfl)
  · have g : ∀ v j, j ≠ 56 + m → (setI σ1 b (56 + m) v).1 b j = σ1.1 b j := fun v j h => setI_k h
    obtain ⟨σ', u1, u2⟩ := ih (setI σ1 b (56 + m) (σ1.1 102 m)) (f1.t (Fr.i rfl)) (fun k hk => by rw [g _ _ (by omega), g _ _ (by omega), g _ _ (by omega)]; exact hA k hk) (fun j hj => by rw [g _ _ (by omega)]; exact hB j hj) (fun j hj => by rw [g _ _ (by omega)]; exact hC j hj) (fun j hj => by
      by_cases e : j = m
      · rw [e, setI_s, f1.1 _ _ (by omega)]
      · rw [g _ _ (by omega)]; exact hD j (by omega))
    refine ⟨σ', ?_, u2⟩
    show f_X6_keep_b101 (f_X6_keep_l101 n) _ _ _ _ = _; unfold f_X6_keep_b101
    simp (disch := omega) only [nle, nlt, neq, neqm, nmeq, nlem, nI_add, pk_mul, nI_1, ne0, nl0, nk0, nt0, nu0, ne1, nl1, nk1, nt1, nu1, ne2, nl2, nk2, nt2, nu2, na2, nb2, ns2, ne3, nl3, nk3, nt3, nu3, na3, nb3, ns3, ne4, nl4, nk4, nt4, nu4, na4, nb4, ns4, ne5, nl5, nk5, nt5, nu5, na5, nb5, nm5, nn5, ns5, ne6, nl6, nk6, nt6, nu6, na6, nb6, ns6, ne7, nl7, nk7, nt7, nu7, na7, nb7, ns7, ne8, nl8, nk8, nt8, nu8, na8, nb8, ns8, ne9, nl9, nk9, nt9, nu9, na9, nb9, ns9, ne10, nl10, nk10, nt10, nu10, na10, nb10, nm10, nn10, ns10, ne16, nl16, nk16, nt16, nu16, na16, nb16, ns16, ne18, nl18, nk18, nt18, nu18, na18, nb18, ns18, ne20, nl20, nk20, nt20, nu20, na20, nb20, ns20, ne30, nl30, nk30, nt30, nu30, na30, nb30, ns30, ne32, nl32, nk32, nt32, nu32, na32, nb32, ns32, ne40, nl40, nk40, nt40, nu40, na40, nb40, nm40, nn40, ns40, ne48, nl48, nk48, nt48, nu48, na48, nb48, ns48, ne56, nl56, nk56, nt56, nu56, na56, nb56, ns56, ne57, nl57, nk57, nt57, nu57, na57, nb57, ns57, ne59, nl59, nk59, nt59, nu59, na59, nb59, ns59, ne96, nl96, nk96, nt96, nu96, na96, nb96, ns96, ne97, nl97, nk97, nt97, nu97, na97, nb97, ns97, ne98, nl98, nk98, nt98, nu98, na98, nb98, ns98, ne99, nl99, nk99, nt99, nu99, na99, nb99, ns99, ne100, nl100, nk100, nt100, nu100, na100, nb100, ns100, ne101, nl101, nk101, nt101, nu101, na101, nb101, ns101, ne102, nl102, nk102, nt102, nu102, na102, nb102, ns102, ne122, nl122, nk122, nt122, nu122, na122, nb122, ns122, ne250, nl250, nk250, nt250, nu250, na250, nb250, ns250, ne255, nl255, nk255, nt255, nu255, na255, nb255, ns255, ne1000, nl1000, nk1000, nt1000, nu1000, na1000, nb1000, ns1000, npred, opt_b, ite_true, ite_false, n10, n01, eq_self, show ¬ 40 ≤ m by omega]
    exact bind_e (ldI_n (by rw [ln102]; exact hm)) (bind_e (stI_n (by omega)) u1)
theorem m_keep3 (H : HM σ S) (hb : b = 105 ∨ b = 106) {σ1 : St} (f1 : Fr (fun a _ => a = b) σ σ1) (hA : kpA σ1 b S 6) (hB : kpB σ σ1 b 18 100 30) : ∃ σ', f_X6_keep_l75 FU σ1 93 b 0 = some σ' ∧ HK σ' b S ∧ Fr (fun a _ => a = b) σ σ' := by
  have lb := ln_b hb
  have gen := lp_0 (P := fun n m => ∀ σ1, Fr (fun a _ => a = b) σ σ1 → kpA σ1 b S 6 → kpB σ σ1 b 18 100 30 → kpB σ σ1 b 48 101 m → ∃ σ', f_X6_keep_l75 n σ1 93 b (nI m) = some σ' ∧ HK σ' b S ∧ Fr (fun a _ => a = b) σ σ') 8 (by omega) (fun n σ1 f1 hA hB hC => ?_) (fun n m hm ih σ1 f1 hA hB hC => ?_)
  · exact gen σ1 f1 hA hB (fun j hj => absurd hj (Nat.not_lt_zero j))
  · obtain ⟨σ', u1, u2⟩ := m_keep4 H hb f1 hA hB hC
    refine ⟨σ', ?_, u2⟩
    show f_X6_keep_b75 (f_X6_keep_l75 n) _ _ _ _ = _; unfold f_X6_keep_b75
    simp (disch := omega) only [nle, nlt, neq, neqm, nmeq, nlem, nI_add, pk_mul, nI_1, ne0, nl0, nk0, nt0, nu0, ne1, nl1, nk1, nt1, nu1, ne2, nl2, nk2, nt2, nu2, na2, nb2, ns2, ne3, nl3, nk3, nt3, nu3, na3, nb3, ns3, ne4, nl4, nk4, nt4, nu4, na4, nb4, ns4, ne5, nl5, nk5, nt5, nu5, na5, nb5, nm5, nn5, ns5, ne6, nl6, nk6, nt6, nu6, na6, nb6, ns6, ne7, nl7, nk7, nt7, nu7, na7, nb7, ns7, ne8, nl8, nk8, nt8, nu8, na8, nb8, ns8, ne9, nl9, nk9, nt9, nu9, na9, nb9, ns9, ne10, nl10, nk10, nt10, nu10, na10, nb10, nm10, nn10, ns10, ne16, nl16, nk16, nt16, nu16, na16, nb16, ns16, ne18, nl18, nk18, nt18, nu18, na18, nb18, ns18, ne20, nl20, nk20, nt20, nu20, na20, nb20, ns20, ne30, nl30, nk30, nt30, nu30, na30, nb30, ns30, ne32, nl32, nk32, nt32, nu32, na32, nb32, ns32, ne40, nl40, nk40, nt40, nu40, na40, nb40, nm40, nn40, ns40, ne48, nl48, nk48, nt48, nu48, na48, nb48, ns48, ne56, nl56, nk56, nt56, nu56, na56, nb56, ns56, ne57, nl57, nk57, nt57, nu57, na57, nb57, ns57, ne59, nl59, nk59, nt59, nu59, na59, nb59, ns59, ne96, nl96, nk96, nt96, nu96, na96, nb96, ns96, ne97, nl97, nk97, nt97, nu97, na97, nb97, ns97, ne98, nl98, nk98, nt98, nu98, na98, nb98, ns98, ne99, nl99, nk99, nt99, nu99, na99, nb99, ns99, ne100, nl100, nk100, nt100, nu100, na100, nb100, ns100, ne101, nl101, nk101, nt101, nu101, na101, nb101, ns101, ne102, nl102, nk102, nt102, nu102, na102, nb102, ns102, ne122, nl122, nk122, nt122, nu122, na122, nb122, ns122, ne250, nl250, nk250, nt250, nu250, na250, nb250, ns250, ne255, nl255, nk255, nt255, nu255, na255, nb255, ns255, ne1000, nl1000, nk1000, nt1000, nu1000, na1000, nb1000, ns1000, npred, opt_b, ite_true, ite_false, n10, n01, eq_self, Nat.le_refl]
    exact u1
  · have g : ∀ v j, j ≠ 48 + m → (setI σ1 b (48 + m) v).1 b j = σ1.1 b j := fun v j h => setI_k h
    obtain ⟨σ', u1, u2⟩ := ih (setI σ1 b (48 + m) (σ1.1 101 m)) (f1.t (Fr.i rfl)) (fun k hk => by rw [g _ _ (by omega), g _ _ (by omega), g _ _ (by omega)]; exact hA k hk) (fun j hj => by rw [g _ _ (by omega)]; exact hB j hj) (fun j hj => by
      by_cases e : j = m
      · rw [e, setI_s, f1.1 _ _ (by omega)]
      · rw [g _ _ (by omega)]; exact hC j (by omega))
    refine ⟨σ', ?_, u2⟩
    show f_X6_keep_b75 (f_X6_keep_l75 n) _ _ _ _ = _; unfold f_X6_keep_b75
    simp (disch := omega) only [nle, nlt, neq, neqm, nmeq, nlem, nI_add, pk_mul, nI_1, ne0, nl0, nk0, nt0, nu0, ne1, nl1, nk1, nt1, nu1, ne2, nl2, nk2, nt2, nu2, na2, nb2, ns2, ne3, nl3, nk3, nt3, nu3, na3, nb3, ns3, ne4, nl4, nk4, nt4, nu4, na4, nb4, ns4, ne5, nl5, nk5, nt5, nu5, na5, nb5, nm5, nn5, ns5, ne6, nl6, nk6, nt6, nu6, na6, nb6, ns6, ne7, nl7, nk7, nt7, nu7, na7, nb7, ns7, ne8, nl8, nk8, nt8, nu8, na8, nb8, ns8, ne9, nl9, nk9, nt9, nu9, na9, nb9, ns9, ne10, nl10, nk10, nt10, nu10, na10, nb10, nm10, nn10, ns10, ne16, nl16, nk16, nt16, nu16, na16, nb16, ns16, ne18, nl18, nk18, nt18, nu18, na18, nb18, ns18, ne20, nl20, nk20, nt20, nu20, na20, nb20, ns20, ne30, nl30, nk30, nt30, nu30, na30, nb30, ns30, ne32, nl32, nk32, nt32, nu32, na32, nb32, ns32, ne40, nl40, nk40, nt40, nu40, na40, nb40, nm40, nn40, ns40, ne48, nl48, nk48, nt48, nu48, na48, nb48, ns48, ne56, nl56, nk56, nt56, nu56, na56, nb56, ns56, ne57, nl57, nk57, nt57, nu57, na57, nb57, ns57, ne59, nl59, nk59, nt59, nu59, na59, nb59, ns59, ne96, nl96, nk96, nt96, nu96, na96, nb96, ns96, ne97, nl97, nk97, nt97, nu97, na97, nb97, ns97, ne98, nl98, nk98, nt98, nu98, na98, nb98, ns98, ne99, nl99, nk99, nt99, nu99, na99, nb99, ns99, ne100, nl100, nk100, nt100, nu100, na100, nb100, ns100, ne101, nl101, nk101, nt101, nu101, na101, nb101, ns101, ne102, nl102, nk102, nt102, nu102, na102, nb102, ns102, ne122, nl122, nk122, nt122, nu122, na122, nb122, ns122, ne250, nl250, nk250, nt250, nu250, na250, nb250, ns250, ne255, nl255, nk255, nt255, nu255, na255, nb255, ns255, ne1000, nl1000, nk1000, nt1000, nu1000, na1000, nb1000, ns1000, npred, opt_b, ite_true, ite_false, n10, n01, eq_self, show ¬ 8 ≤ m by omega]
    exact bind_e (ldI_n (by rw [ln101]; exact hm)) (bind_e (stI_n (by omega)) u1)
theorem m_keep2 (H : HM σ S) (hb : b = 105 ∨ b = 106) {σ1 : St} (f1 : Fr (fun a _ => a = b) σ σ1) (hA : kpA σ1 b S 6) : ∃ σ', f_X6_keep_l49 FU σ1 93 b 0 = some σ' ∧ HK σ' b S ∧ Fr (fun a _ => a = b) σ σ' := by
  have lb := ln_b hb
  have gen := lp_0 (P := fun n m => ∀ σ1, Fr (fun a _ => a = b) σ σ1 → kpA σ1 b S 6 → kpB σ σ1 b 18 100 m → ∃ σ', f_X6_keep_l49 n σ1 93 b (nI m) = some σ' ∧ HK σ' b S ∧ Fr (fun a _ => a = b) σ σ') 30 (by omega) (fun n σ1 f1 hA hB => ?_) (fun n m hm ih σ1 f1 hA hB => ?_)
  · exact gen σ1 f1 hA (fun j hj => absurd hj (Nat.not_lt_zero j))
  · obtain ⟨σ', u1, u2⟩ := m_keep3 H hb f1 hA hB
    refine ⟨σ', ?_, u2⟩
    show f_X6_keep_b49 (f_X6_keep_l49 n) _ _ _ _ = _; unfold f_X6_keep_b49
    simp (disch := omega) only [nle, nlt, neq, neqm, nmeq, nlem, nI_add, pk_mul, nI_1, ne0, nl0, nk0, nt0, nu0, ne1, nl1, nk1, nt1, nu1, ne2, nl2, nk2, nt2, nu2, na2, nb2, ns2, ne3, nl3, nk3, nt3, nu3, na3, nb3, ns3, ne4, nl4, nk4, nt4, nu4, na4, nb4, ns4, ne5, nl5, nk5, nt5, nu5, na5, nb5, nm5, nn5, ns5, ne6, nl6, nk6, nt6, nu6, na6, nb6, ns6, ne7, nl7, nk7, nt7, nu7, na7, nb7, ns7, ne8, nl8, nk8, nt8, nu8, na8, nb8, ns8, ne9, nl9, nk9, nt9, nu9, na9, nb9, ns9, ne10, nl10, nk10, nt10, nu10, na10, nb10, nm10, nn10, ns10, ne16, nl16, nk16, nt16, nu16, na16, nb16, ns16, ne18, nl18, nk18, nt18, nu18, na18, nb18, ns18, ne20, nl20, nk20, nt20, nu20, na20, nb20, ns20, ne30, nl30, nk30, nt30, nu30, na30, nb30, ns30, ne32, nl32, nk32, nt32, nu32, na32, nb32, ns32, ne40, nl40, nk40, nt40, nu40, na40, nb40, nm40, nn40, ns40, ne48, nl48, nk48, nt48, nu48, na48, nb48, ns48, ne56, nl56, nk56, nt56, nu56, na56, nb56, ns56, ne57, nl57, nk57, nt57, nu57, na57, nb57, ns57, ne59, nl59, nk59, nt59, nu59, na59, nb59, ns59, ne96, nl96, nk96, nt96, nu96, na96, nb96, ns96, ne97, nl97, nk97, nt97, nu97, na97, nb97, ns97, ne98, nl98, nk98, nt98, nu98, na98, nb98, ns98, ne99, nl99, nk99, nt99, nu99, na99, nb99, ns99, ne100, nl100, nk100, nt100, nu100, na100, nb100, ns100, ne101, nl101, nk101, nt101, nu101, na101, nb101, ns101, ne102, nl102, nk102, nt102, nu102, na102, nb102, ns102, ne122, nl122, nk122, nt122, nu122, na122, nb122, ns122, ne250, nl250, nk250, nt250, nu250, na250, nb250, ns250, ne255, nl255, nk255, nt255, nu255, na255, nb255, ns255, ne1000, nl1000, nk1000, nt1000, nu1000, na1000, nb1000, ns1000, npred, opt_b, ite_true, ite_false, n10, n01, eq_self, Nat.le_refl]
    exact u1
  · have g : ∀ v j, j ≠ 18 + m → (setI σ1 b (18 + m) v).1 b j = σ1.1 b j := fun v j h => setI_k h
    obtain ⟨σ', u1, u2⟩ := ih (setI σ1 b (18 + m) (σ1.1 100 m)) (f1.t (Fr.i rfl)) (fun k hk => by rw [g _ _ (by omega), g _ _ (by omega), g _ _ (by omega)]; exact hA k hk) (fun j hj => by
      by_cases e : j = m
      · rw [e, setI_s, f1.1 _ _ (by omega)]
      · rw [g _ _ (by omega)]; exact hB j (by omega))
    refine ⟨σ', ?_, u2⟩
    show f_X6_keep_b49 (f_X6_keep_l49 n) _ _ _ _ = _; unfold f_X6_keep_b49
    simp (disch := omega) only [nle, nlt, neq, neqm, nmeq, nlem, nI_add, pk_mul, nI_1, ne0, nl0, nk0, nt0, nu0, ne1, nl1, nk1, nt1, nu1, ne2, nl2, nk2, nt2, nu2, na2, nb2, ns2, ne3, nl3, nk3, nt3, nu3, na3, nb3, ns3, ne4, nl4, nk4, nt4, nu4, na4, nb4, ns4, ne5, nl5, nk5, nt5, nu5, na5, nb5, nm5, nn5, ns5, ne6, nl6, nk6, nt6, nu6, na6, nb6, ns6, ne7, nl7, nk7, nt7, nu7, na7, nb7, ns7, ne8, nl8, nk8, nt8, nu8, na8, nb8, ns8, ne9, nl9, nk9, nt9, nu9, na9, nb9, ns9, ne10, nl10, nk10, nt10, nu10, na10, nb10, nm10, nn10, ns10, ne16, nl16, nk16, nt16, nu16, na16, nb16, ns16, ne18, nl18, nk18, nt18, nu18, na18, nb18, ns18, ne20, nl20, nk20, nt20, nu20, na20, nb20, ns20, ne30, nl30, nk30, nt30, nu30, na30, nb30, ns30, ne32, nl32, nk32, nt32, nu32, na32, nb32, ns32, ne40, nl40, nk40, nt40, nu40, na40, nb40, nm40, nn40, ns40, ne48, nl48, nk48, nt48, nu48, na48, nb48, ns48, ne56, nl56, nk56, nt56, nu56, na56, nb56, ns56, ne57, nl57, nk57, nt57, nu57, na57, nb57, ns57, ne59, nl59, nk59, nt59, nu59, na59, nb59, ns59, ne96, nl96, nk96, nt96, nu96, na96, nb96, ns96, ne97, nl97, nk97, nt97, nu97, na97, nb97, ns97, ne98, nl98, nk98, nt98, nu98, na98, nb98, ns98, ne99, nl99, nk99, nt99, nu99, na99, nb99, ns99, ne100, nl100, nk100, nt100, nu100, na100, nb100, ns100, ne101, nl101, nk101, nt101, nu101, na101, nb101, ns101, ne102, nl102, nk102, nt102, nu102, na102, nb102, ns102, ne122, nl122, nk122, nt122, nu122, na122, nb122, ns122, ne250, nl250, nk250, nt250, nu250, na250, nb250, ns250, ne255, nl255, nk255, nt255, nu255, na255, nb255, ns255, ne1000, nl1000, nk1000, nt1000, nu1000, na1000, nb1000, ns1000, npred, opt_b, ite_true, ite_false, n10, n01, eq_self, show ¬ 30 ≤ m by omega]
    exact bind_e (ldI_n (by rw [ln100]; exact hm)) (bind_e (stI_n (by omega)) u1)
theorem m_keep (H : HM σ S) (hb : b = 105 ∨ b = 106) : ∃ σ', f_X6_keep σ 93 b = some σ' ∧ HK σ' b S ∧ Fr (fun a _ => a = b) σ σ' := by
  have lb := ln_b hb
  have gen := lp_0 (P := fun n m => ∀ σ1, Fr (fun a _ => a = b) σ σ1 → kpA σ1 b S m → ∃ σ', f_X6_keep_l2 n σ1 93 b (nI m) = some σ' ∧ HK σ' b S ∧ Fr (fun a _ => a = b) σ σ') 6 (by omega) (fun n σ1 f1 hA => ?_) (fun n m hm ih σ1 f1 hA => ?_)
  · exact gen σ (Fr.r σ) (fun j hj => absurd hj (Nat.not_lt_zero j))
  · obtain ⟨σ', u1, u2⟩ := m_keep2 H hb f1 hA
    refine ⟨σ', ?_, u2⟩
    show f_X6_keep_b2 (f_X6_keep_l2 n) _ _ _ _ = _; unfold f_X6_keep_b2
    simp (disch := omega) only [nle, nlt, neq, neqm, nmeq, nlem, nI_add, pk_mul, nI_1, ne0, nl0, nk0, nt0, nu0, ne1, nl1, nk1, nt1, nu1, ne2, nl2, nk2, nt2, nu2, na2, nb2, ns2, ne3, nl3, nk3, nt3, nu3, na3, nb3, ns3, ne4, nl4, nk4, nt4, nu4, na4, nb4, ns4, ne5, nl5, nk5, nt5, nu5, na5, nb5, nm5, nn5, ns5, ne6, nl6, nk6, nt6, nu6, na6, nb6, ns6, ne7, nl7, nk7, nt7, nu7, na7, nb7, ns7, ne8, nl8, nk8, nt8, nu8, na8, nb8, ns8, ne9, nl9, nk9, nt9, nu9, na9, nb9, ns9, ne10, nl10, nk10, nt10, nu10, na10, nb10, nm10, nn10, ns10, ne16, nl16, nk16, nt16, nu16, na16, nb16, ns16, ne18, nl18, nk18, nt18, nu18, na18, nb18, ns18, ne20, nl20, nk20, nt20, nu20, na20, nb20, ns20, ne30, nl30, nk30, nt30, nu30, na30, nb30, ns30, ne32, nl32, nk32, nt32, nu32, na32, nb32, ns32, ne40, nl40, nk40, nt40, nu40, na40, nb40, nm40, nn40, ns40, ne48, nl48, nk48, nt48, nu48, na48, nb48, ns48, ne56, nl56, nk56, nt56, nu56, na56, nb56, ns56, ne57, nl57, nk57, nt57, nu57, na57, nb57, ns57, ne59, nl59, nk59, nt59, nu59, na59, nb59, ns59, ne96, nl96, nk96, nt96, nu96, na96, nb96, ns96, ne97, nl97, nk97, nt97, nu97, na97, nb97, ns97, ne98, nl98, nk98, nt98, nu98, na98, nb98, ns98, ne99, nl99, nk99, nt99, nu99, na99, nb99, ns99, ne100, nl100, nk100, nt100, nu100, na100, nb100, ns100, ne101, nl101, nk101, nt101, nu101, na101, nb101, ns101, ne102, nl102, nk102, nt102, nu102, na102, nb102, ns102, ne122, nl122, nk122, nt122, nu122, na122, nb122, ns122, ne250, nl250, nk250, nt250, nu250, na250, nb250, ns250, ne255, nl255, nk255, nt255, nu255, na255, nb255, ns255, ne1000, nl1000, nk1000, nt1000, nu1000, na1000, nb1000, ns1000, npred, opt_b, ite_true, ite_false, n10, n01, eq_self, Nat.le_refl]
    exact u1
  · have H1 : HM σ1 S := H.fr (f1.w fun a j z => by unfold MF; omega)
    have H2 : HM (setI σ1 b m (nI (ki S m))) S := H1.fr (Fr.i (by unfold MF; omega))
    have H3 : HM (setI (setI σ1 b m (nI (ki S m))) b (6 + m) (nI (ow S m))) S := H2.fr (Fr.i (by unfold MF; omega))
    obtain ⟨σ', u1, u2⟩ := ih (setI (setI (setI σ1 b m (nI (ki S m))) b (6 + m) (nI (ow S m))) b (12 + m) (my S m)) (((f1.t (Fr.i rfl)).t (Fr.i rfl)).t (Fr.i rfl)) (fun k hk => by
      by_cases e : k = m
      · subst e
        exact ⟨by rw [setI_k (by omega), setI_k (by omega), setI_s], by rw [setI_k (by omega), setI_s], by rw [setI_s]⟩
      · refine ⟨?_, ?_, ?_⟩
        · rw [setI_k (by omega), setI_k (by omega), setI_k (by omega)]; exact (hA k (by omega)).1
        · rw [setI_k (by omega), setI_k (by omega), setI_k (by omega)]; exact (hA k (by omega)).2.1
        · rw [setI_k (by omega), setI_k (by omega), setI_k (by omega)]; exact (hA k (by omega)).2.2)
    refine ⟨σ', ?_, u2⟩
    show f_X6_keep_b2 (f_X6_keep_l2 n) _ _ _ _ = _; unfold f_X6_keep_b2
    simp (disch := omega) only [nle, nlt, neq, neqm, nmeq, nlem, nI_add, pk_mul, nI_1, ne0, nl0, nk0, nt0, nu0, ne1, nl1, nk1, nt1, nu1, ne2, nl2, nk2, nt2, nu2, na2, nb2, ns2, ne3, nl3, nk3, nt3, nu3, na3, nb3, ns3, ne4, nl4, nk4, nt4, nu4, na4, nb4, ns4, ne5, nl5, nk5, nt5, nu5, na5, nb5, nm5, nn5, ns5, ne6, nl6, nk6, nt6, nu6, na6, nb6, ns6, ne7, nl7, nk7, nt7, nu7, na7, nb7, ns7, ne8, nl8, nk8, nt8, nu8, na8, nb8, ns8, ne9, nl9, nk9, nt9, nu9, na9, nb9, ns9, ne10, nl10, nk10, nt10, nu10, na10, nb10, nm10, nn10, ns10, ne16, nl16, nk16, nt16, nu16, na16, nb16, ns16, ne18, nl18, nk18, nt18, nu18, na18, nb18, ns18, ne20, nl20, nk20, nt20, nu20, na20, nb20, ns20, ne30, nl30, nk30, nt30, nu30, na30, nb30, ns30, ne32, nl32, nk32, nt32, nu32, na32, nb32, ns32, ne40, nl40, nk40, nt40, nu40, na40, nb40, nm40, nn40, ns40, ne48, nl48, nk48, nt48, nu48, na48, nb48, ns48, ne56, nl56, nk56, nt56, nu56, na56, nb56, ns56, ne57, nl57, nk57, nt57, nu57, na57, nb57, ns57, ne59, nl59, nk59, nt59, nu59, na59, nb59, ns59, ne96, nl96, nk96, nt96, nu96, na96, nb96, ns96, ne97, nl97, nk97, nt97, nu97, na97, nb97, ns97, ne98, nl98, nk98, nt98, nu98, na98, nb98, ns98, ne99, nl99, nk99, nt99, nu99, na99, nb99, ns99, ne100, nl100, nk100, nt100, nu100, na100, nb100, ns100, ne101, nl101, nk101, nt101, nu101, na101, nb101, ns101, ne102, nl102, nk102, nt102, nu102, na102, nb102, ns102, ne122, nl122, nk122, nt122, nu122, na122, nb122, ns122, ne250, nl250, nk250, nt250, nu250, na250, nb250, ns250, ne255, nl255, nk255, nt255, nu255, na255, nb255, ns255, ne1000, nl1000, nk1000, nt1000, nu1000, na1000, nb1000, ns1000, npred, opt_b, ite_true, ite_false, n10, n01, eq_self, show ¬ 6 ≤ m by omega, nb12]
    exact bind_e (H1.k hm) (bind_e (stI_n (by omega)) (bind_e (H2.o hm) (bind_e (stI_n (by omega)) (bind_e (H3.m hm) (bind_e (stI_n (by omega)) u1)))))
end KEEP
