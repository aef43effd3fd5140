/-! what filing costs; the least of it -/
/-- a cut from a to b -/
def fc (a b : Nat) : Nat := sm (fun i => a + 1 + i) (b - a)
theorem fc_0 {a b : Nat} (h : b ≤ a) : fc a b = 0 := by
  unfold fc
  rw [show b - a = 0 by omega]
  rfl
theorem sm_ml {f : Nat → Nat} : ∀ {m n : Nat}, m ≤ n → sm f m ≤ sm f n
  | m, 0, h => by rw [show m = 0 by omega]; exact Nat.le_refl _
  | m, n + 1, h => by
    by_cases e : m = n + 1
    · rw [e]; exact Nat.le_refl _
    · have := sm_ml (f := f) (m := m) (n := n) (by omega)
      rw [sm]
      omega
theorem fc_m {a b b' : Nat} (h : b ≤ b') : fc a b ≤ fc a b' := sm_ml (by omega)
theorem fc_le {a b : Nat} (h : b ≤ 4) : fc a b ≤ 16 := by
  unfold fc
  have h1 : sm (fun i => a + 1 + i) (b - a) ≤ (b - a) * 4 := sm_le fun i hi => by show a + 1 + i ≤ 4; omega
  omega
/-- a key's costs up to a row -/
def fcr (S : HS) (k : Nat) (row : Nat → Nat) : Nat := sm (fun p => fc (cu S k p) (row p)) (pl S)
theorem fcr_le {S : HS} (I : Inv S) {k : Nat} {row : Nat → Nat} (h : ∀ p, p < pl S → row p ≤ dp S) : fcr S k row ≤ 80 := by
  have p5 := I.1.2.1
  have d4 := I.1.2.2.2.1
  have h1 : fcr S k row ≤ pl S * 16 := sm_le fun p hp => fc_le (by have := h p hp; omega)
  omega
section LEAST
variable {σ : St} {S : HS}
theorem c_cost (H : HC σ 39 S) (I : Inv S) {k : Nat} (hk : k < 6) {row : Nat → Nat} (hr : ∀ q, q < pl S → σ.1 7 q = nI (row q) ∧ row q ≤ dp S) : f_X0_cost σ 39 (kI 39 k) 7 = some (nI (fcr S k row)) := by
  have p5 := I.1.2.1
  have d4 := I.1.2.2.2.1
  have e0 := H.1.1
  have inn : ∀ (K : Nat → Nat → Nat → Int32 → Int32 → Option Int32) (A p : Nat), p < pl S → f_X0_cost_l27 σ K FU 39 (kI 39 k) 7 (nI A) (nI p) (nI (cu S k p + 1)) = K 39 (kI 39 k) 7 (nI (A + fc (cu S k p) (row p))) (nI (p + 1)) := by
    intro K A p hp
    have c4 := ((I.2.1 k).2.2 p).1
    have r4 := hr p hp
    have gen := lp_0 (P := fun n m => f_X0_cost_l27 σ K n 39 (kI 39 k) 7 (nI (A + sm (fun i => cu S k p + 1 + i) m)) (nI p) (nI (cu S k p + 1 + m)) = K 39 (kI 39 k) 7 (nI (A + fc (cu S k p) (row p))) (nI (p + 1))) (row p - cu S k p) (by omega) (fun n => ?_) (fun n m hm ih => ?_)
    · exact gen
    · show f_X0_cost_b27 _ _ (f_X0_cost_l27 _ _ n) _ _ _ _ _ _ = _; unfold f_X0_cost_b27
      rw [c_at (by rw [ln7]; omega), bind_s, r4.1, if_pos ((nI_ltI (by omega) (by omega)).mpr (by omega)), bind_s, nI_1]
      rfl
    · show f_X0_cost_b27 _ _ (f_X0_cost_l27 _ _ n) _ _ _ _ _ _ = _; unfold f_X0_cost_b27
      rw [c_at (by rw [ln7]; omega), bind_s, r4.1, if_neg (fun z => by have := (nI_ltI (by omega) (by omega)).mp z; omega), nI_add, bind_s, nI_1, bind_s]
      rw [sm, ← Nat.add_assoc A] at ih
      exact ih
  show f_X0_cost_l5 σ FU 39 (kI 39 k) 7 (nI (sm (fun p => fc (cu S k p) (row p)) 0)) (nI 0) = _
  refine lp_0 (P := fun n m => f_X0_cost_l5 σ n 39 (kI 39 k) 7 (nI (sm (fun p => fc (cu S k p) (row p)) m)) (nI m) = some (nI (fcr S k row))) (pl S) (by omega) (fun n => ?_) (fun n m hm ih => ?_)
  · show f_X0_cost_b5 _ (f_X0_cost_l5 _ n) _ _ _ _ _ = _; unfold f_X0_cost_b5
    rw [e0, if_pos (nI_le (Nat.le_refl _) (by omega))]
    rfl
  · show f_X0_cost_b5 _ (f_X0_cost_l5 _ n) _ _ _ _ _ = _; unfold f_X0_cost_b5
    rw [e0, if_neg (nI_ge hm (by omega)), kI_cut H hk (by omega), bind_s, nI_1, bind_s, inn _ _ m hm]
    exact ih
/-- a row to which a key can be filed -/
def vdp (S : HS) (k : Nat) (row : Nat → Nat) (p : Nat) : Bool := decide (cu S k p ≤ row p ∧ (ki S k = 4 → row p = cu S k p))
def vd (S : HS) (k : Nat) (row : Nat → Nat) : Bool := al (vdp S k row) (pl S)
abbrev dgS (S : HS) (r : Nat) : Nat → Nat := dg (dp S + 1) (pl S) r
theorem m_filing (H : HM σ S) (I : Inv S) {k r : Nat} (hk : k < 6) (hr : r < 2 ^ 31) : f_X6_filing σ 93 (nI k) (nI r) = some (if vd S k (dgS S r) then nI (fcr S k (dgS S r)) else -1) := by
  have p5 := I.1.2.1
  have d4 := I.1.2.2.2.1
  have e3 := H.1.1
  have k5 := (I.2.1 k).1
  have inn : ∀ (K : Nat → Int32 → Int32 → Int32 → Int32 → Option Int32) (A p : Nat), p < pl S → f_X6_filing_b62 σ K 93 (nI k) (nI r) (nI A) (nI p) (nI (cu S k p)) (nI (dgS S r p)) = K 93 (nI k) (nI r) (nI (A + fc (cu S k p) (dgS S r p))) (nI (p + 1)) := by
    intro K A p hp
    have c4 := ((I.2.1 k).2.2 p).1
    have r4 : dgS S r p ≤ dp S := dg_le
    have gen := lp_0 (P := fun n m => f_X6_filing_l68 σ K n 93 (nI k) (nI r) (nI (A + sm (fun i => cu S k p + 1 + i) m)) (nI p) (nI (dgS S r p)) (nI (cu S k p + 1 + m)) = K 93 (nI k) (nI r) (nI (A + fc (cu S k p) (dgS S r p))) (nI (p + 1))) (dgS S r p - cu S k p) (by omega) (fun n => ?_) (fun n m hm ih => ?_)
    · unfold f_X6_filing_b62
      rw [nI_1, bind_s]
      exact gen
    · show f_X6_filing_b68 σ K (f_X6_filing_l68 σ K n) _ _ _ _ _ _ _ = _
      unfold f_X6_filing_b68
      rw [if_pos ((nI_ltI (by omega) (by omega)).mpr (by omega)), bind_s, nI_1]
      rfl
    · show f_X6_filing_b68 σ K (f_X6_filing_l68 σ K n) _ _ _ _ _ _ _ = _
      unfold f_X6_filing_b68
      rw [if_neg (fun z => by have := (nI_ltI (by omega) (by omega)).mp z; omega), nI_add, bind_s, nI_1, bind_s]
      rw [sm, ← Nat.add_assoc A] at ih
      exact ih
  have gen := lp_0 (P := fun n m => al (vdp S k (dgS S r)) m = true → f_X6_filing_l5 σ n 93 (nI k) (nI r) (nI (sm (fun p => fc (cu S k p) (dgS S r p)) m)) (nI m) = some (if vd S k (dgS S r) then nI (fcr S k (dgS S r)) else -1)) (pl S) (by omega) (fun n h => ?_) (fun n m hm ih h => ?_)
  · exact gen rfl
  · show f_X6_filing_b5 _ (f_X6_filing_l5 _ n) _ _ _ _ _ = _; unfold f_X6_filing_b5
    rw [e3, if_pos (nI_le (Nat.le_refl _) (by omega))]
    unfold vd
    rw [h]
    rfl
  · have c4 := ((I.2.1 k).2.2 m).1
    have r4 := dg_le (D := dp S) (P := pl S) (r := r) (p := m)
    have r4' : dgS S r m ≤ dp S := r4
    have no : vdp S k (dgS S r) m = false → vd S k (dgS S r) = false := fun z => by
      apply Bool.eq_false_iff.mpr
      intro y
      have := al_iff.mp y m hm
      rw [z] at this
      cases this
    show f_X6_filing_b5 _ (f_X6_filing_l5 _ n) _ _ _ _ _ = _; unfold f_X6_filing_b5
    rw [e3, if_neg (nI_ge hm (by omega)), l_5, pk_mul, nI_add, H.c hk (by omega), bind_s, m_dig H I hr hm, bind_s]
    show (if nI (dgS S r m) < nI (cu S k m) then _ else (if nI (dgS S r m) ≤ nI (cu S k m) then _ else _)) = _
    rw [sm] at ih
    by_cases q : dgS S r m < cu S k m
    · rw [if_pos ((nI_ltI (by omega) (by omega)).mpr q), no (decide_eq_false (fun z => by omega))]
      rfl
    · rw [if_neg (fun z => q ((nI_ltI (by omega) (by omega)).mp z))]
      by_cases q2 : dgS S r m ≤ cu S k m
      · rw [if_pos (nI_le q2 (by omega))]
        refine (inn _ _ m hm).trans (ih ?_)
        rw [al, h, Bool.true_and]
        exact decide_eq_true ⟨by omega, fun _ => by omega⟩
      · rw [if_neg (nI_ge (by omega) (by omega)), H.k hk, bind_s]
        by_cases q4 : ki S k = 4
        · rw [if_pos (by rw [q4]; rfl), no (decide_eq_false (fun z => by have := z.2 q4; omega))]
          rfl
        · rw [if_neg (fun z => q4 (nI_inj (by omega) (by decide) (z.trans l_4)))]
          refine (inn _ _ m hm).trans (ih ?_)
          rw [al, h, Bool.true_and]
          exact decide_eq_true ⟨by omega, fun z => absurd z q4⟩
/-- a house of which one key is cut like a row, up to a place -/
def rS (S : HS) (k : Nat) (g : Nat → Nat) (m : Nat) : HS := wCu S (fun j i => if j = k ∧ i < m then g i else cu S j i)
theorem rS_0 (S : HS) (k : Nat) (g : Nat → Nat) : rS S k g 0 = S := by
  have e : (fun j i => if j = k ∧ i < 0 then g i else cu S j i) = cu S := funext fun j => funext fun i => if_neg (fun z => Nat.not_lt_zero _ z.2)
  unfold rS
  rw [e, wCu_s]
theorem rS_s (S : HS) (k : Nat) (g : Nat → Nat) (m : Nat) : sCu (rS S k g m) k m (g m) = rS S k g (m + 1) := by
  unfold rS
  rw [sCu_w, wCu_w, wCu_c]
  refine congrArg (wCu S) (funext fun j => funext fun i => ?_)
  by_cases e : j = k
  · by_cases e2 : i = m
    · rw [if_pos ⟨e, e2⟩, if_pos ⟨e, by omega⟩, e2]
    · rw [if_neg (fun z => e2 z.2)]
      by_cases e3 : i < m
      · rw [if_pos ⟨e, e3⟩, if_pos ⟨e, by omega⟩]
      · rw [if_neg (fun z => e3 z.2), if_neg (fun z => e3 (by omega))]
  · rw [if_neg (fun z => e z.1), if_neg (fun z => e z.1), if_neg (fun z => e z.1)]
theorem inv_rS (I : Inv S) {k m : Nat} {g : Nat → Nat} (hk : k < nk S) (hg : ∀ i, i < m → g i ≤ dp S) (hm : m ≤ pl S) : Inv (rS S k g m) := by
  refine ⟨I.1, fun j => ⟨(I.2.1 j).1, (I.2.1 j).2.1, fun i => ?_⟩, fun j hj => ⟨(I.2.2.1 j hj).1, (I.2.2.1 j hj).2.1, (I.2.2.1 j hj).2.2.1, fun i => ?_⟩, I.2.2.2⟩
  · show (if j = k ∧ i < m then g i else cu S j i) ≤ dp S ∧ (pl S ≤ i → (if j = k ∧ i < m then g i else cu S j i) = 0)
    by_cases e : j = k ∧ i < m
    · rw [if_pos e]; exact ⟨hg i e.2, fun z => by omega⟩
    · rw [if_neg e]; exact (I.2.1 j).2.2 i
  · have hj' : nk S ≤ j := hj
    show (if j = k ∧ i < m then g i else cu S j i) = 0
    rw [if_neg (by omega)]
    exact (I.2.2.1 j hj).2.2.2 i
theorem opc_c {S : HS} {k o : Nat} {r r' : Nat → Nat} (h : ∀ p, p < pl S → r p = r' p) (l : Nat) : opc S k o r l = opc S k o r' l := by
  have e1 : brk (pl S) (tg S) k o r = brk (pl S) (tg S) k o r' := by
    unfold brk
    rw [sm_c h]
  have e2 : fitb (pl S) (dp S) k o r (as S l) = fitb (pl S) (dp S) k o r' (as S l) := al_c fun p hp => by
    unfold dep
    rw [h p hp]
  unfold opc
  rw [e1, e2]
theorem opAs_c {S : HS} {k o : Nat} {r r' : Nat → Nat} (h : ∀ p, p < pl S → r p = r' p) (l : Nat) : opAs S k o r l = opAs S k o r' l := by
  have e1 : brk (pl S) (tg S) k o r = brk (pl S) (tg S) k o r' := by
    unfold brk
    rw [sm_c h]
  unfold opAs
  rw [e1, opc_c h]
theorem op_rS {k l : Nat} {g : Nat → Nat} : op (rS S k g (pl S)) k l = opAs S (ki S k) (ow S k) g l := by
  have e0 : ∀ p, p < pl S → cu (rS S k g (pl S)) k p = g p := fun p hp => if_pos ⟨rfl, hp⟩
  have e1 : op (rS S k g (pl S)) k l = opAs (rS S k g (pl S)) (ki S k) (ow S k) g l := opAs_c (S := rS S k g (pl S)) e0 l
  have e2 : bes (rS S k g (pl S)) (ki S k) l = bes S (ki S k) l := by
    unfold bes
    by_cases q : ki S k = 5
    · congr 1
      refine an_c fun j _ => ?_
      show (decide (ki S j = 0) && opc S (ki S j) (ow S j) (cu (rS S k g (pl S)) j) l) = (decide (ki S j = 0) && opc S (ki S j) (ow S j) (cu S j) l)
      by_cases z : j = k
      · subst z
        rw [decide_eq_false (show ¬ ki S j = 0 by omega), Bool.false_and, Bool.false_and]
      · have : cu (rS S k g (pl S)) j = cu S j := funext fun i => if_neg (fun y => z y.1)
        rw [this]
    · rw [decide_eq_false q, Bool.false_and, Bool.false_and]
  rw [e1]
  show (!brk (pl S) (tg S) (ki S k) (ow S k) g && (opc S (ki S k) (ow S k) g l || bes (rS S k g (pl S)) (ki S k) l)) = _
  rw [e2]
  rfl
/-- is it as it is asked: the set it may have, or one lock -/
def soS (S : HS) (k : Nat) (lk : Option Nat) (row : Nat → Nat) : Bool := match lk with
  | none => decide (mk (opAs S (ki S k) (ow S k) row) (nl S) = my S k)
  | some l => opAs S (ki S k) (ow S k) row l
def lkI (lk : Option Nat) : Int32 := match lk with
  | none => -1
  | some l => nI l
def okm (S : HS) (k : Nat) (lk : Option Nat) (r : Nat) : Bool := vd S k (dgS S r) && soS S k lk (dgS S r)
def LQ (P k a j : Nat) : Prop := a = 107 ∨ a = 108 ∨ (a = 100 ∧ 5 * k ≤ j ∧ j < 5 * k + P)
def LpF (a _j : Nat) : Prop := a = 107 ∨ a = 108
theorem m_rest (I : Inv S) (h3 : σ.1 93 3 = nI (pl S)) {k r : Nat} (hk : k < 6) (c100 : ∀ q, q < pl S → σ.1 100 (5 * k + q) = nI (cu S k q)) (K : St → Nat → Int32 → Int32 → Int32 → Int32 → Option (Int32 × St)) (x2 x3 x5 x6 : Int32) (τ : St) (f : Fr (LQ (pl S) k) σ τ) (h7 : ∀ q, q < pl S → τ.1 107 q = nI (cu S k q)) : ∃ σ', f_X6_least_l190 K FU τ 93 (nI k) x2 x3 (nI r) x5 x6 0 = K σ' 93 (nI k) x2 (if x6 = 0 then x3 else x5) (nI (r + 1)) ∧ Fr LpF σ σ' ∧ (∀ q, σ'.1 108 q = τ.1 108 q) ∧ ∀ q, σ'.1 107 q = τ.1 107 q := by
  have p5 := I.1.2.1
  have gen := lp_0 (P := fun n m => ∀ τ1, Fr (LQ (pl S) k) σ τ1 → (∀ q, τ1.1 108 q = τ.1 108 q) → (∀ q, τ1.1 107 q = τ.1 107 q) → (∀ q, q < m → τ1.1 100 (5 * k + q) = σ.1 100 (5 * k + q)) → ∃ σ', f_X6_least_l190 K n τ1 93 (nI k) x2 x3 (nI r) x5 x6 (nI m) = K σ' 93 (nI k) x2 (if x6 = 0 then x3 else x5) (nI (r + 1)) ∧ Fr LpF σ σ' ∧ (∀ q, σ'.1 108 q = τ.1 108 q) ∧ ∀ q, σ'.1 107 q = τ.1 107 q) (pl S) (by omega) (fun n τ1 f1 g1 g2 g3 => ?_) (fun n m hm ih τ1 f1 g1 g2 g3 => ?_)
  · exact gen τ f (fun q => rfl) (fun q => rfl) (fun q hq => absurd hq (Nat.not_lt_zero q))
  · refine ⟨τ1, ?_, ⟨fun a j z => ?_, f1.2⟩, g1, g2⟩
    · show f_X6_least_b190 _ (f_X6_least_l190 _ n) _ _ _ _ _ _ _ _ _ = _; unfold f_X6_least_b190
      unfold f_X6_least_b231
      rw [f1.1 93 3 (by unfold LQ; omega), h3, if_pos (nI_le (Nat.le_refl _) (by omega)), bind_s, nI_1]
      split <;> rfl
    · by_cases e : a = 100 ∧ 5 * k ≤ j ∧ j < 5 * k + pl S
      · obtain ⟨rfl, e1, e2⟩ := e
        have := g3 (j - 5 * k) (by omega)
        rw [show 5 * k + (j - 5 * k) = j by omega] at this
        exact this
      · exact f1.1 a j (by unfold LQ; unfold LpF at z; omega)
  · obtain ⟨σ', u1, u2⟩ := ih (setI τ1 100 (5 * k + m) (nI (cu S k m))) (f1.t (Fr.i (by unfold LQ; omega))) (fun q => by rw [setI_a (by decide)]; exact g1 q) (fun q => by rw [setI_a (by decide)]; exact g2 q) (fun q hq => by
      by_cases e : q = m
      · rw [e, setI_s, c100 m hm]
      · rw [setI_k (by omega)]; exact g3 q (by omega))
    refine ⟨σ', ?_, u2⟩
    show f_X6_least_b190 _ (f_X6_least_l190 _ n) _ _ _ _ _ _ _ _ _ = _; unfold f_X6_least_b190
    rw [f1.1 93 3 (by unfold LQ; omega), h3, if_neg (nI_ge hm (by omega)), ldI_n (by rw [ln107]; omega), bind_s, g2 m, h7 m hm, l_5, pk_mul, nI_add, stI_n (by rw [ln100]; omega), bind_s, nI_1, bind_s]
    exact u1
theorem m_try (H : HM σ S) (I : Inv S) {k r : Nat} (hk : k < nk S) (hr : r < 2 ^ 31) (lk : Option Nat) (hl : ∀ l, lk = some l → l < 8) (K : St → Nat → Int32 → Int32 → Int32 → Int32 → Option (Int32 × St)) (x3 x5 : Int32) (h7 : ∀ q, q < pl S → σ.1 107 q = nI (cu S k q)) : ∃ σ', f_X6_least_b77 K σ 93 (nI k) (lkI lk) x3 (nI r) x5 = K σ' 93 (nI k) (lkI lk) (if soS S k lk (dgS S r) then x5 else x3) (nI (r + 1)) ∧ Fr LpF σ σ' ∧ (∀ q, σ'.1 107 q = σ.1 107 q) ∧ (if soS S k lk (dgS S r) then (∀ q, q < pl S → σ'.1 108 q = nI (dgS S r q)) else (∀ q, σ'.1 108 q = σ.1 108 q)) := by
  have p5 := I.1.2.1
  have d4 := I.1.2.2.2.1
  have n6 := I.1.2.2.2.2.2.2.1
  have n8 := I.1.2.2.2.2.2.2.2
  have k6 : k < 6 := by omega
  have h3 := H.1.1
  have c100 : ∀ q, q < pl S → σ.1 100 (5 * k + q) = nI (cu S k q) := fun q hq => H.2.2.1 k k6 q (by omega)
  have hdg : ∀ i, dgS S r i ≤ dp S := fun i => dg_le
  -- all is cut: is it so, then the best, then back
  have fin : ∀ τ, Fr (LQ (pl S) k) σ τ → HM τ (rS S k (dgS S r) (pl S)) → (∀ q, τ.1 107 q = σ.1 107 q) → (∀ q, τ.1 108 q = σ.1 108 q) → ∃ σ', f_X6_least_b147 K τ 93 (nI k) (lkI lk) x3 (nI r) x5 (if soS S k lk (dgS S r) then 1 else 0) = K σ' 93 (nI k) (lkI lk) (if soS S k lk (dgS S r) then x5 else x3) (nI (r + 1)) ∧ Fr LpF σ σ' ∧ (∀ q, σ'.1 107 q = σ.1 107 q) ∧ (if soS S k lk (dgS S r) then (∀ q, q < pl S → σ'.1 108 q = nI (dgS S r q)) else (∀ q, σ'.1 108 q = σ.1 108 q)) := by
    intro τ f hτ e7 e8
    unfold f_X6_least_b147 f_X6_least_b187
    cases so : soS S k lk (dgS S r)
    · simp only [Bool.false_eq_true, if_false, if_true]
      obtain ⟨σ', u1, u2, u3, u4⟩ := m_rest I h3 k6 c100 K (lkI lk) x3 x5 0 τ f (fun q hq => by rw [e7]; exact h7 q hq) (r := r)
      exact ⟨σ', u1, u2, fun q => by rw [u4, e7], fun q => by rw [u3, e8]⟩
    · simp only [if_true, n10, if_false]
      have gen := lp_0 (P := fun n m => ∀ τ1, Fr (LQ (pl S) k) σ τ1 → HM τ1 (rS S k (dgS S r) (pl S)) → (∀ q, τ1.1 107 q = σ.1 107 q) → (∀ q, q < m → τ1.1 108 q = nI (dgS S r q)) → ∃ σ', f_X6_least_l157 K n τ1 93 (nI k) (lkI lk) x3 (nI r) x5 1 (nI m) = K σ' 93 (nI k) (lkI lk) x5 (nI (r + 1)) ∧ Fr LpF σ σ' ∧ (∀ q, σ'.1 107 q = σ.1 107 q) ∧ ∀ q, q < pl S → σ'.1 108 q = nI (dgS S r q)) (pl S) (by omega) (fun n τ1 f1 hτ1 g1 g2 => ?_) (fun n m hm ih τ1 f1 hτ1 g1 g2 => ?_)
      · exact gen τ f hτ e7 (fun q hq => absurd hq (Nat.not_lt_zero q))
      · obtain ⟨σ', u1, u2, u3, u4⟩ := m_rest I h3 k6 c100 K (lkI lk) x3 x5 1 τ1 f1 (fun q hq => by rw [g1]; exact h7 q hq) (r := r)
        rw [if_neg (by decide)] at u1
        refine ⟨σ', ?_, u2, fun q => by rw [u4, g1], fun q hq => by rw [u3]; exact g2 q hq⟩
        show f_X6_least_b157 _ (f_X6_least_l157 _ n) _ _ _ _ _ _ _ _ _ = _; unfold f_X6_least_b157
        unfold f_X6_least_b187
        rw [f1.1 93 3 (by unfold LQ; omega), h3, if_pos (nI_le (Nat.le_refl _) (by omega))]
        exact u1
      · have Ir := inv_rS I hk (m := pl S) (g := dgS S r) (fun i _ => hdg i) (Nat.le_refl _)
        have dgE : f_X6_of τ1 93 (nI r) (nI m) = some (nI (dgS S r m)) := m_dig hτ1 Ir hr hm
        obtain ⟨σ', u1, u2⟩ := ih (setI τ1 108 m (nI (dgS S r m))) (f1.t (Fr.i (by unfold LQ; omega))) (hτ1.fr (Fr.i (by unfold MF; omega))) (fun q => by rw [setI_a (by decide)]; exact g1 q) (fun q hq => by
          by_cases e : q = m
          · rw [e, setI_s]
          · rw [setI_k e]; exact g2 q (by omega))
        refine ⟨σ', ?_, u2⟩
        show f_X6_least_b157 _ (f_X6_least_l157 _ n) _ _ _ _ _ _ _ _ _ = _; unfold f_X6_least_b157
        rw [f1.1 93 3 (by unfold LQ; omega), h3, if_neg (nI_ge hm (by omega)), dgE, bind_s, stI_n (by rw [ln108]; omega), bind_s, nI_1, bind_s]
        exact u1
  unfold f_X6_least_b77
  have gen := lp_0 (P := fun n m => m ≤ pl S → ∀ τ, Fr (LQ (pl S) k) σ τ → HM τ (rS S k (dgS S r) m) → (∀ q, τ.1 107 q = σ.1 107 q) → (∀ q, τ.1 108 q = σ.1 108 q) → ∃ σ', f_X6_least_l80 K n τ 93 (nI k) (lkI lk) x3 (nI r) x5 (nI m) = K σ' 93 (nI k) (lkI lk) (if soS S k lk (dgS S r) then x5 else x3) (nI (r + 1)) ∧ Fr LpF σ σ' ∧ (∀ q, σ'.1 107 q = σ.1 107 q) ∧ (if soS S k lk (dgS S r) then (∀ q, q < pl S → σ'.1 108 q = nI (dgS S r q)) else (∀ q, σ'.1 108 q = σ.1 108 q))) (pl S) (by omega) (fun n _ τ f hτ e7 e8 => ?_) (fun n m hm ih _ τ f hτ e7 e8 => ?_)
  · exact gen (Nat.zero_le _) σ (Fr.r σ) (by rw [rS_0]; exact H) (fun q => rfl) (fun q => rfl)
  · have Ir := inv_rS I hk (m := pl S) (g := dgS S r) (fun i _ => hdg i) (Nat.le_refl _)
    obtain ⟨σ', u1, u2⟩ := fin τ f hτ e7 e8
    refine ⟨σ', ?_, u2⟩
    show f_X6_least_b80 _ (f_X6_least_l80 _ n) _ _ _ _ _ _ _ _ = _; unfold f_X6_least_b80
    rw [f.1 93 3 (by unfold LQ; omega), h3, if_pos (nI_le (Nat.le_refl _) (by omega))]
    cases lk with
    | none =>
      show (if (-1 : Int32) = -1 then _ else _) = _
      rw [if_pos rfl]
      have oE : f_X6_openedBy τ 93 (nI k) = some (mk (opAs S (ki S k) (ow S k) (dgS S r)) (nl S)) := by
        have := m_openedBy hτ Ir k6
        rw [this]
        exact congrArg some (mk_c fun l _ => op_rS)
      have mE : ldI τ 99 (nI k) = some (my S k) := hτ.m k6
      rw [oE, bind_s, mE, bind_s]
      by_cases q : mk (opAs S (ki S k) (ow S k) (dgS S r)) (nl S) = my S k
      · have so : soS S k none (dgS S r) = true := decide_eq_true q
        rw [so] at u1 ⊢
        rw [if_pos q]
        exact u1
      · have so : soS S k none (dgS S r) = false := decide_eq_false q
        rw [so] at u1 ⊢
        rw [if_neg q]
        exact u1
    | some l =>
      have l8 := hl l rfl
      show (if nI l = -1 then _ else _) = _
      rw [if_neg (nm1_ne l (by omega))]
      refine bind_e (m_opensIt hτ Ir k6 l8) ?_
      rw [op_rS]
      exact u1
  · have Im := inv_rS I hk (m := m) (g := dgS S r) (fun i _ => hdg i) (by omega)
    have dgE : f_X6_of τ 93 (nI r) (nI m) = some (nI (dgS S r m)) := m_dig hτ Im hr hm
    obtain ⟨σ', u1, u2⟩ := ih (by omega) (setI τ 100 (5 * k + m) (nI (dgS S r m))) (f.t (Fr.i (by unfold LQ; omega))) (by
      have := m_sCu hτ k m (dgS S r m) (by omega)
      rw [rS_s] at this
      exact this) (fun q => by rw [setI_a (by decide)]; exact e7 q) (fun q => by rw [setI_a (by decide)]; exact e8 q)
    refine ⟨σ', ?_, u2⟩
    show f_X6_least_b80 _ (f_X6_least_l80 _ n) _ _ _ _ _ _ _ _ = _; unfold f_X6_least_b80
    rw [f.1 93 3 (by unfold LQ; omega), h3, if_neg (nI_ge hm (by omega)), dgE, bind_s, l_5, pk_mul, nI_add, stI_n (by rw [ln100]; omega), bind_s, nI_1, bind_s]
    exact u1
/-- the model's best row of filing -/
def LB (σ : St) (S : HS) (k : Nat) (b : Option Nat) (v : Int32) : Prop := (b = none ∧ v = -1) ∨ ∃ r, b = some r ∧ v = nI (fcr S k (dgS S r)) ∧ ∀ q, q < pl S → σ.1 108 q = nI (dgS S r q)
theorem m_least (H : HM σ S) (I : Inv S) {k : Nat} (hk : k < nk S) (lk : Option Nat) (hl : ∀ l, lk = some l → l < 8) : ∃ v σ', f_X6_least σ 93 (nI k) (lkI lk) = some (v, σ') ∧ LB σ' S k (bst (okm S k lk) (fun r => fcr S k (dgS S r)) (MR S)) v ∧ Fr LpF σ σ' := by
  have p5 := I.1.2.1
  have d4 := I.1.2.2.2.1
  have n6 := I.1.2.2.2.2.2.2.1
  have k6 : k < 6 := by omega
  have rl := rows_le I
  have hM : MR S ≤ 3125 := rl
  have rows := lp_0 (P := fun n m => ∀ τ v, Fr LpF σ τ → (∀ q, q < pl S → τ.1 107 q = nI (cu S k q)) → LB τ S k (bst (okm S k lk) (fun r => fcr S k (dgS S r)) m) v → ∃ v' σ', f_X6_least_l41 n τ 93 (nI k) (lkI lk) v (nI m) = some (v', σ') ∧ LB σ' S k (bst (okm S k lk) (fun r => fcr S k (dgS S r)) (MR S)) v' ∧ Fr LpF σ σ') (MR S) (by omega) (fun n τ v f h7 hb => ?_) (fun n m hm ih τ v f h7 hb => ?_)
  · have gen := lp_0 (P := fun n m => ∀ τ, Fr LpF σ τ → (∀ q, q < m → τ.1 107 q = nI (cu S k q)) → ∃ v' σ', f_X6_least_l5 n τ 93 (nI k) (lkI lk) (-1) (nI m) = some (v', σ') ∧ LB σ' S k (bst (okm S k lk) (fun r => fcr S k (dgS S r)) (MR S)) v' ∧ Fr LpF σ σ') (pl S) (by omega) (fun n τ f h7 => ?_) (fun n m hm ih τ f h7 => ?_)
    · exact gen σ (Fr.r σ) (fun q hq => absurd hq (Nat.not_lt_zero q))
    · obtain ⟨v', σ', u1, u2⟩ := rows τ (-1) f h7 (Or.inl ⟨rfl, rfl⟩)
      refine ⟨v', σ', ?_, u2⟩
      show f_X6_least_b5 (f_X6_least_l5 n) _ _ _ _ _ _ = _; unfold f_X6_least_b5
      rw [f.1 93 3 (by unfold LpF; omega), H.1.1, if_pos (nI_le (Nat.le_refl _) (by omega))]
      exact u1
    · have H1 : HM τ S := H.fr (f.w fun a j z => by unfold LpF at z; unfold MF; omega)
      obtain ⟨v', σ', u1, u2⟩ := ih (setI τ 107 m (nI (cu S k m))) (f.t (Fr.i (by unfold LpF; omega))) (fun q hq => by
        by_cases e : q = m
        · rw [e, setI_s]
        · rw [setI_k e]; exact h7 q (by omega))
      refine ⟨v', σ', ?_, u2⟩
      show f_X6_least_b5 (f_X6_least_l5 n) _ _ _ _ _ _ = _; unfold f_X6_least_b5
      rw [f.1 93 3 (by unfold LpF; omega), H.1.1, if_neg (nI_ge hm (by omega)), l_5, pk_mul, nI_add, H1.c k6 (by omega), bind_s, stI_n (by rw [ln107]; omega), bind_s, nI_1, bind_s]
      exact u1
  · have H1 : HM τ S := H.fr (f.w fun a j z => by unfold LpF at z; unfold MF; omega)
    refine ⟨v, τ, ?_, hb, f⟩
    show f_X6_least_b41 (f_X6_least_l41 n) _ _ _ _ _ _ = _; unfold f_X6_least_b41
    rw [m_rows H1 I, bind_s, if_pos (MR_le I)]
  · have H1 : HM τ S := H.fr (f.w fun a j z => by unfold LpF at z; unfold MF; omega)
    have hm31 : m < 2 ^ 31 := by omega
    have cm := fcr_le I (k := k) (row := dgS S m) (fun p _ => dg_le)
    have skip : bst (okm S k lk) (fun r => fcr S k (dgS S r)) (m + 1) = bst (okm S k lk) (fun r => fcr S k (dgS S r)) m → ∃ v' σ', f_X6_least_b231 (f_X6_least_l41 n) τ 93 (nI k) (lkI lk) v (nI m) = some (v', σ') ∧ LB σ' S k (bst (okm S k lk) (fun r => fcr S k (dgS S r)) (MR S)) v' ∧ Fr LpF σ σ' := fun e => by
      rw [e] at ih
      obtain ⟨v', σ', u1, u2⟩ := ih τ v f h7 hb
      refine ⟨v', σ', ?_, u2⟩
      unfold f_X6_least_b231
      rw [nI_1, bind_s]
      exact u1
    have tr : vd S k (dgS S m) = true → (soS S k lk (dgS S m) = true → bst (okm S k lk) (fun r => fcr S k (dgS S r)) (m + 1) = some m) → (soS S k lk (dgS S m) = false → bst (okm S k lk) (fun r => fcr S k (dgS S r)) (m + 1) = bst (okm S k lk) (fun r => fcr S k (dgS S r)) m) → ∃ v' σ', f_X6_least_b77 (f_X6_least_l41 n) τ 93 (nI k) (lkI lk) v (nI m) (nI (fcr S k (dgS S m))) = some (v', σ') ∧ LB σ' S k (bst (okm S k lk) (fun r => fcr S k (dgS S r)) (MR S)) v' ∧ Fr LpF σ σ' := by
      intro hv y1 y2
      obtain ⟨τ', w1, w2, w3, w4⟩ := m_try H1 I hk hm31 lk hl (f_X6_least_l41 n) v (nI (fcr S k (dgS S m))) h7
      cases so : soS S k lk (dgS S m)
      · rw [so] at w1 w4
        rw [if_neg Bool.false_ne_true] at w1 w4
        rw [y2 so] at ih
        have hb' : LB τ' S k (bst (okm S k lk) (fun r => fcr S k (dgS S r)) m) v := by
          rcases hb with h | ⟨r, h1, h2, h3⟩
          · exact Or.inl h
          · exact Or.inr ⟨r, h1, h2, fun q hq => by rw [w4]; exact h3 q hq⟩
        obtain ⟨v', σ', u1, u2⟩ := ih τ' v (f.t w2) (fun q hq => by rw [w3]; exact h7 q hq) hb'
        exact ⟨v', σ', w1.trans u1, u2⟩
      · rw [so] at w1 w4
        rw [if_pos rfl] at w1 w4
        rw [y1 so] at ih
        obtain ⟨v', σ', u1, u2⟩ := ih τ' _ (f.t w2) (fun q hq => by rw [w3]; exact h7 q hq) (Or.inr ⟨m, rfl, rfl, w4⟩)
        exact ⟨v', σ', w1.trans u1, u2⟩
    show ∃ v' σ', f_X6_least_b41 (f_X6_least_l41 n) τ 93 (nI k) (lkI lk) v (nI m) = some (v', σ') ∧ LB σ' S k (bst (okm S k lk) (fun r => fcr S k (dgS S r)) (MR S)) v' ∧ Fr LpF σ σ'
    unfold f_X6_least_b41
    rw [m_rows H1 I, bind_s, if_neg (MR_gt I hm), m_filing H1 I k6 hm31, bind_s]
    cases hv : vd S k (dgS S m)
    · rw [if_neg Bool.false_ne_true, if_pos (by decide)]
      refine skip (bst_skip (Nat.le_succ m) (fun r h1 h2 => ?_))
      rw [show r = m by omega]
      unfold okm
      rw [hv, Bool.false_and]
    · rw [if_pos rfl, if_neg (nI_pos (by omega))]
      rcases hb with ⟨e1, e2⟩ | ⟨r, e1, e2, e3⟩
      · rw [if_pos (by rw [e2]; decide)]
        refine tr hv (fun so => ?_) (fun so => ?_)
        · rw [bst, e1]
          simp only [okm, hv, so, Bool.and_self, if_true]
        · rw [bst, e1]
          simp only [okm, so, Bool.and_false, Bool.false_eq_true, if_false]
      · have cr := fcr_le I (k := k) (row := dgS S r) (fun p _ => dg_le)
        rw [if_neg (by rw [e2]; exact nI_pos (by omega))]
        by_cases q : fcr S k (dgS S m) < fcr S k (dgS S r)
        · rw [if_pos (by rw [e2]; exact (nI_ltI (by omega) (by omega)).mpr q)]
          refine tr hv (fun so => ?_) (fun so => ?_)
          · rw [bst, e1]
            simp only [okm, hv, so, Bool.and_self, decide_eq_true q, if_true]
          · rw [bst, e1]
            simp only [okm, so, Bool.and_false, Bool.false_and, Bool.false_eq_true, if_false]
        · rw [if_neg (by rw [e2]; exact fun z => q ((nI_ltI (by omega) (by omega)).mp z))]
          refine skip ?_
          rw [bst, e1]
          simp only [decide_eq_false q, Bool.and_false, Bool.false_eq_true, if_false]
end LEAST
