section FOUND
variable {σ : St} {S : HS}
/-- the told number at a place -/
abbrev elJ (σ : St) (s p : Nat) : Int64 := σ.2 96 (40 * s + p)
def gd (σ : St) (S : HS) (s p : Nat) : Bool := decide (¬ lg_cmp (elJ σ s p) 0 < 0 ∧ lg_cmp (elJ σ s p) (Int32.toInt64 (nI (dp S))) ≤ 0)
theorem gd_n (I : Inv S) {s p : Nat} (h : gd σ S s p = true) : ∃ w, w ≤ dp S ∧ elJ σ s p = lN w := by
  have d4 := I.1.2.2.2.1
  unfold gd at h
  obtain ⟨h1, h2⟩ := of_decide_eq_true h
  rw [lg_cmp_lt] at h1
  obtain ⟨k, hk, e⟩ := pk_lOf h1
  rw [e, lg_cmp_le, nI_l (by omega), pk_lLE hk (by omega)] at h2
  exact ⟨k, h2, e⟩
theorem c_tells {s t z : Nat} (H : HC σ 39 S) (I : Inv S) (hs : s < 8) (ht : t < 5) (h0 : σ.1 (21 + 2 * s) 0 = nI t) (h1 : σ.1 (21 + 2 * s) 1 = nI z) (hz : z ≤ 40) (hP : pl S ≤ z) (he : ∀ i, i < 40 → σ.2 (22 + 2 * s) i = σ.2 96 (40 * s + i)) : f_X5_tellsCuts σ 0 (21 + 2 * s) = some (if al (gd σ S s) (pl S) then 1 else 0) := by
  have p5 := I.1.2.1
  unfold f_X5_tellsCuts
  rw [H.1.1, h1, if_pos (nI_le hP (by omega))]
  have gen := lp_0 (P := fun n m => al (gd σ S s) m = true → f_X5_tellsCuts_l18 σ n 0 (21 + 2 * s) (nI m) = some (if al (gd σ S s) (pl S) then 1 else 0)) (pl S) (by omega) (fun n h => ?_) (fun n m hm ih h => ?_)
  · exact gen rfl
  · show f_X5_tellsCuts_b18 _ (f_X5_tellsCuts_l18 _ n) _ _ _ = _; unfold f_X5_tellsCuts_b18
    rw [H.1.1, if_pos (nI_le (Nat.le_refl _) (by omega)), h]
    rfl
  · have no : gd σ S s m = false → al (gd σ S s) (pl S) = false := fun w => by
      apply Bool.eq_false_iff.mpr
      intro y
      have := al_iff.mp y m hm
      rw [w] at this
      cases this
    show f_X5_tellsCuts_b18 _ (f_X5_tellsCuts_l18 _ n) _ _ _ = _; unfold f_X5_tellsCuts_b18
    rw [H.1.1, if_neg (nI_ge hm (by omega)), c_el ht (by rw [sh_a]; exact ln_s s hs) h0 h1 hz (show m < z by omega), bind_s, sh_a, he m (by omega), H.1.2.1]
    by_cases q : lg_cmp (elJ σ s m) 0 < 0
    · rw [if_pos q, no (decide_eq_false (fun z => z.1 q))]
      rfl
    · rw [if_neg q]
      by_cases q2 : lg_cmp (elJ σ s m) (Int32.toInt64 (nI (dp S))) ≤ 0
      · rw [if_pos q2, nI_1, bind_s]
        exact ih (by rw [al, h, Bool.true_and]; exact decide_eq_true ⟨q, q2⟩)
      · rw [if_neg q2, no (decide_eq_false (fun z => q2 z.2))]
        rfl
theorem m_tells {s : Nat} {x : Int32} (H : HM σ S) (I : Inv S) (hs : s < 8) : f_X6_found_l72 FU σ 93 (nI s) x 0 = if al (gd σ S s) (pl S) then f_X6_found_l138 FU σ 93 (nI s) x 0 0 else f_X6_found_b119 σ 93 := by
  have p5 := I.1.2.1
  have gen := lp_0 (P := fun n m => al (gd σ S s) m = true → f_X6_found_l72 n σ 93 (nI s) x (nI m) = if al (gd σ S s) (pl S) then f_X6_found_l138 FU σ 93 (nI s) x 0 0 else f_X6_found_b119 σ 93) (pl S) (by omega) (fun n h => ?_) (fun n m hm ih h => ?_)
  · exact gen rfl
  · show f_X6_found_b72 (f_X6_found_l72 n) _ _ _ _ _ = _; unfold f_X6_found_b72
    rw [H.1.1, if_pos (nI_le (Nat.le_refl _) (by omega)), h]
    rfl
  · have no : gd σ S s m = false → al (gd σ S s) (pl S) = false := fun w => by
      apply Bool.eq_false_iff.mpr
      intro y
      have := al_iff.mp y m hm
      rw [w] at this
      cases this
    have rd : ldJ σ 96 (40 * nI s + nI m) = some (elJ σ s m) := by
      rw [nn40, nI_add, ldJ_n (by rw [ln96]; omega)]
    show f_X6_found_b72 (f_X6_found_l72 n) _ _ _ _ _ = _; unfold f_X6_found_b72
    rw [H.1.1, if_neg (nI_ge hm (by omega)), rd, bind_s, bind_s, H.1.2.1]
    by_cases q : lg_cmp (elJ σ s m) 0 < 0
    · rw [if_pos q, no (decide_eq_false (fun z => z.1 q)), if_neg Bool.false_ne_true]
    · rw [if_neg q]
      by_cases q2 : lg_cmp (elJ σ s m) (Int32.toInt64 (nI (dp S))) ≤ 0
      · rw [if_pos q2, nI_1, bind_s]
        exact ih (by rw [al, h, Bool.true_and]; exact decide_eq_true ⟨q, q2⟩)
      · rw [if_neg q2, no (decide_eq_false (fun z => q2 z.2)), if_neg Bool.false_ne_true]
/-- whose a found key was -/
def fnd (S : HS) (w : Nat → Nat) (x : Int32) (k : Nat) : Bool := vd S k w && sub (bt x) (opAs S (ki S k) (ow S k) w) (nl S)
theorem c_can (H : HC σ 39 S) (I : Inv S) {w : Nat → Nat} {k : Nat} (hk : k < 6) (hr : ∀ q, q < pl S → σ.1 7 q = nI (w q) ∧ w q ≤ dp S) : f_X4_canBecomeTold σ 5 (kI 39 k) = some (if vd S k w then 1 else 0) := by
  have p5 := I.1.2.1
  have d4 := I.1.2.2.2.1
  have k5 := (I.2.1 k).1
  have gen := lp_0 (P := fun n m => al (vdp S k w) m = true → f_X4_canBecomeTold_l2 σ n 5 (kI 39 k) (nI m) = some (if vd S k w then 1 else 0)) (pl S) (by omega) (fun n h => ?_) (fun n m hm ih h => ?_)
  · exact gen rfl
  · show f_X4_canBecomeTold_b2 _ (f_X4_canBecomeTold_l2 _ n) _ _ _ = _; unfold f_X4_canBecomeTold_b2
    rw [H.1.1, if_pos (nI_le (Nat.le_refl _) (by omega))]
    unfold vd
    rw [h]
    rfl
  · have no : vdp S k w m = false → vd S k w = false := fun z => by
      apply Bool.eq_false_iff.mpr
      intro y
      have := al_iff.mp y m hm
      rw [z] at this
      cases this
    have c4 := ((I.2.1 k).2.2 m).1
    have w4 := hr m hm
    show f_X4_canBecomeTold_b2 _ (f_X4_canBecomeTold_l2 _ n) _ _ _ = _; unfold f_X4_canBecomeTold_b2
    unfold f_X4_canBecomeTold_b54
    rw [H.1.1, if_neg (nI_ge hm (by omega)), kI_cut H hk (by omega), bind_s, c_at (by rw [ln7]; omega), bind_s, w4.1, (H.2.1 k hk).1]
    by_cases q : w m < cu S k m
    · rw [if_pos ((nI_ltI (by omega) (by omega)).mpr q), no (decide_eq_false (fun z => by omega))]
      rfl
    · rw [if_neg (fun z => q ((nI_ltI (by omega) (by omega)).mp z))]
      by_cases k4 : ki S k = 4
      · rw [if_pos (by rw [k4]; rfl)]
        by_cases q2 : cu S k m = w m
        · rw [if_pos (by rw [q2]), nI_1, bind_s]
          exact ih (by rw [al, h, Bool.true_and]; exact decide_eq_true ⟨by omega, fun _ => q2.symm⟩)
        · rw [if_neg (fun z => q2 (nI_inj (by omega) (by omega) z)), no (decide_eq_false (fun z => q2 (z.2 k4).symm))]
          rfl
      · rw [if_neg (fun z => k4 (nI_inj (by omega) (by decide) (z.trans l_4))), nI_1, bind_s]
        exact ih (by rw [al, h, Bool.true_and]; exact decide_eq_true ⟨by omega, fun z => absurd z k4⟩)
theorem c_ofTold (H : HC σ 39 S) (I : Inv S) {w : Nat → Nat} {x : Int32} (hx : mk (bt x) (nl S) = x) (hr : ∀ q, q < pl S → σ.1 7 q = nI (w q) ∧ w q ≤ dp S) : f_X4_keysOfTold σ 5 x = some (mk (fnd S w x) (nk S)) := by
  have n6 := I.1.2.2.2.2.2.2.1
  have n8 := I.1.2.2.2.2.2.2.2
  have h5 := H.1.2.2.2.2.2.1
  show f_X4_keysOfTold_l4 σ FU 5 x (mk (fnd S w x) 0) (nI 0) = _
  refine lp_0 (P := fun n m => f_X4_keysOfTold_l4 σ n 5 x (mk (fnd S w x) m) (nI m) = some (mk (fnd S w x) (nk S))) (nk S) (by omega) (fun n => ?_) (fun n m hm ih => ?_)
  · show f_X4_keysOfTold_b4 _ (f_X4_keysOfTold_l4 _ n) _ _ _ _ = _; unfold f_X4_keysOfTold_b4
    rw [h5, if_pos (nI_le (Nat.le_refl _) (by omega))]
  · have m6 : m < 6 := by omega
    have sb : x &&& (mk (opAs S (ki S m) (ow S m) w) (nl S) ^^^ (-1)) = 0 ↔ sub (bt x) (opAs S (ki S m) (ow S m) w) (nl S) = true := by
      have := mk_sub (f := bt x) (g := opAs S (ki S m) (ow S m) w) (show nl S ≤ 32 by omega)
      rw [hx] at this
      exact this
    show f_X4_keysOfTold_b4 _ (f_X4_keysOfTold_l4 _ n) _ _ _ _ = _; unfold f_X4_keysOfTold_b4
    unfold f_X4_keysOfTold_b73
    rw [h5, if_neg (nI_ge hm (by omega)), c_keyAt isH39 m6, bind_s, c_bes H isH39 I (H.K I m6), bind_s, c_oas H isH39 I (H.K I m6) ⟨ln7, fun q hq => (hr q hq).1, fun q hq => (hr q hq).2⟩, bind_s, c_can H I m6 hr, bind_s, ifz]
    by_cases q : vd S m w = true
    · rw [if_pos q]
      by_cases q2 : sub (bt x) (opAs S (ki S m) (ow S m) w) (nl S) = true
      · rw [if_pos (sb.mpr q2), bind_s, nI_1, bind_s]
        rw [mk_up (fnd S w x) (by unfold fnd; rw [q, q2]; rfl)] at ih
        exact ih
      · rw [if_neg (fun z => q2 (sb.mp z)), nI_1, bind_s]
        rw [mk_un (fnd S w x) (by unfold fnd; rw [q, Bool.true_and]; revert q2; cases sub (bt x) (opAs S (ki S m) (ow S m) w) (nl S) <;> simp)] at ih
        exact ih
    · rw [if_neg q, nI_1, bind_s]
      rw [mk_un (fnd S w x) (by unfold fnd; revert q; cases vd S m w <;> simp)] at ih
      exact ih
theorem c_found {s t z : Nat} {x : Int32} {w : Nat → Nat} (H0 : HC σ 39 S) (I : Inv S) (hx : mk (bt x) (nl S) = x) (hs : s < 8) (ht : t < 5) (h0 : σ.1 (21 + 2 * s) 0 = nI t) (h1 : σ.1 (21 + 2 * s) 1 = nI z) (hz : z ≤ 40) (hP : pl S ≤ z) (he : ∀ i, i < 40 → σ.2 (22 + 2 * s) i = σ.2 96 (40 * s + i)) (hw : ∀ q, q < pl S → elJ σ s q = lN (w q) ∧ w q ≤ dp S) : ∃ σ', f_X5_found_l63 FU σ 0 x (21 + 2 * s) 0 = some (mk (fnd S w x) (nk S), σ') ∧ Fr SC σ σ' := by
  have p5 := I.1.2.1
  have gen := lp_0 (P := fun n m => ∀ σ1, Fr SC σ σ1 → (∀ q, q < m → σ1.1 7 q = nI (w q)) → ∃ σ', f_X5_found_l63 n σ1 0 x (21 + 2 * s) (nI m) = some (mk (fnd S w x) (nk S), σ') ∧ Fr SC σ σ') (pl S) (by omega) (fun n σ1 f1 h => ?_) (fun n m hm ih σ1 f1 h => ?_)
  · exact gen σ (Fr.r σ) (fun q hq => absurd hq (Nat.not_lt_zero q))
  · have H1 := H0.cf (f1.w fun _ _ => SC_CF)
    refine ⟨σ1, ?_, f1⟩
    show f_X5_found_b63 (f_X5_found_l63 n) _ _ _ _ _ = _; unfold f_X5_found_b63
    rw [H1.1.1, if_pos (nI_le (Nat.le_refl _) (by omega)), c_ofTold H1 I hx (fun q hq => ⟨h q hq, (hw q hq).2⟩), bind_s]
  · have H1 := H0.cf (f1.w fun _ _ => SC_CF)
    obtain ⟨σ', u1, u2⟩ := ih (setI σ1 7 m (nI (w m))) (f1.t (Fr.i (by unfold SC; omega))) (fun q hq => by
      by_cases e : q = m
      · rw [e, setI_s]
      · rw [setI_k e]; exact h q (by omega))
    refine ⟨σ', ?_, u2⟩
    show f_X5_found_b63 (f_X5_found_l63 n) _ _ _ _ _ = _; unfold f_X5_found_b63
    unfold f_X4_tellCut
    rw [H1.1.1, if_neg (nI_ge hm (by omega)), c_el ht (by rw [sh_a]; exact ln_s s hs) (by rw [f1.1 _ _ (by unfold SC; omega)]; exact h0) (by rw [f1.1 _ _ (by unfold SC; omega)]; exact h1) hz (show m < z by omega), bind_s, sh_a, f1.2, he m (by omega), (show σ.2 96 (40 * s + m) = lN (w m) from (hw m hm).1), lN_i, c_put (by rw [ln7]; omega), bind_s, bind_s, nI_1, bind_s]
    exact u1
theorem m_fk (H : HM σ S) (I : Inv S) {s k : Nat} {x : Int32} {w : Nat → Nat} (hx : mk (bt x) (nl S) = x) (hs : s < 8) (hk : k < nk S) (hw : ∀ q, q < pl S → elJ σ s q = lN (w q) ∧ w q ≤ dp S) (K : St → Nat → Int32 → Int32 → Int32 → Int32 → Option (Int32 × St)) (acc : Int32) : ∃ σ', f_X6_found_l153 K FU σ 93 (nI s) x acc (nI k) 1 0 = K σ' 93 (nI s) x (if fnd S w x k then acc ||| bitI k else acc) (nI (k + 1)) ∧ Fr LpF σ σ' := by
  have p5 := I.1.2.1
  have d4 := I.1.2.2.2.1
  have n6 := I.1.2.2.2.2.2.2.1
  have n8 := I.1.2.2.2.2.2.2.2
  have k6 : k < 6 := by omega
  have k5 := (I.2.1 k).1
  have h3 := H.1.1
  have c100 : ∀ q, q < pl S → σ.1 100 (5 * k + q) = nI (cu S k q) := fun q hq => H.2.2.1 k k6 q (by omega)
  have rd : ∀ τ : St, τ.2 = σ.2 → ∀ q, q < pl S → ldJ τ 96 (40 * nI s + nI q) = some (lN (w q)) := fun τ e q hq => by
    rw [nn40, nI_add, ldJ_n (by rw [ln96]; omega), e]
    exact congrArg some (hw q hq).1
  -- back
  have back : ∀ (τ : St) (acc' : Int32), Fr (LQ (pl S) k) σ τ → (∀ q, q < pl S → τ.1 107 q = nI (cu S k q)) → ∃ σ', f_X6_found_b313 K τ 93 (nI s) x acc' (nI k) = K σ' 93 (nI s) x acc' (nI (k + 1)) ∧ Fr LpF σ σ' := by
    intro τ acc' f h7
    unfold f_X6_found_b313
    have gen := lp_0 (P := fun n m => ∀ τ1, Fr (LQ (pl S) k) σ τ1 → (∀ q, q < pl S → τ1.1 107 q = nI (cu S k q)) → (∀ q, q < m → τ1.1 100 (5 * k + q) = σ.1 100 (5 * k + q)) → ∃ σ', f_X6_found_l316 K n τ1 93 (nI s) x acc' (nI k) (nI m) = K σ' 93 (nI s) x acc' (nI (k + 1)) ∧ Fr LpF σ σ') (pl S) (by omega) (fun n τ1 f1 g1 g2 => ?_) (fun n m hm ih τ1 f1 g1 g2 => ?_)
    · exact gen τ f h7 (fun q hq => absurd hq (Nat.not_lt_zero q))
    · refine ⟨τ1, ?_, ⟨fun a j z => ?_, f1.2⟩⟩
      · show f_X6_found_b316 _ (f_X6_found_l316 _ n) _ _ _ _ _ _ _ = _; unfold f_X6_found_b316
        unfold f_X6_found_b350
        rw [f1.1 93 3 (by unfold LQ; omega), h3, if_pos (nI_le (Nat.le_refl _) (by omega)), bind_s, nI_1]
      · by_cases e : a = 100 ∧ 5 * k ≤ j ∧ j < 5 * k + pl S
        · obtain ⟨rfl, e1, e2⟩ := e
          have := g2 (j - 5 * k) (by omega)
          rw [show 5 * k + (j - 5 * k) = j by omega] at this
          exact this
        · exact f1.1 a j (by unfold LQ; unfold LpF at z; omega)
    · obtain ⟨σ', u1, u2⟩ := ih (setI τ1 100 (5 * k + m) (nI (cu S k m))) (f1.t (Fr.i (by unfold LQ; omega))) (fun q hq => by rw [setI_a (by decide)]; exact g1 q hq) (fun q hq => by
        by_cases e : q = m
        · rw [e, setI_s, c100 m hm]
        · rw [setI_k (by omega)]; exact g2 q (by omega))
      refine ⟨σ', ?_, u2⟩
      show f_X6_found_b316 _ (f_X6_found_l316 _ n) _ _ _ _ _ _ _ = _; unfold f_X6_found_b316
      rw [f1.1 93 3 (by unfold LQ; omega), h3, if_neg (nI_ge hm (by omega)), ldI_n (by rw [ln107]; omega), bind_s, g1 m hm, l_5, pk_mul, nI_add, stI_n (by rw [ln100]; omega), bind_s, nI_1, bind_s]
      exact u1
  -- cut as told, and so
  have try_ : ∀ (τ : St), Fr LpF σ τ → (∀ q, q < pl S → τ.1 107 q = nI (cu S k q)) → vd S k w = true → ∃ σ', f_X6_found_l251 K FU τ 93 (nI s) x acc (nI k) 0 = K σ' 93 (nI s) x (if fnd S w x k then acc ||| bitI k else acc) (nI (k + 1)) ∧ Fr LpF σ σ' := by
    intro τ f h7 hv
    have gen := lp_0 (P := fun n m => m ≤ pl S → ∀ τ1, Fr (LQ (pl S) k) σ τ1 → HM τ1 (rS S k w m) → (∀ q, q < pl S → τ1.1 107 q = nI (cu S k q)) → ∃ σ', f_X6_found_l251 K n τ1 93 (nI s) x acc (nI k) (nI m) = K σ' 93 (nI s) x (if fnd S w x k then acc ||| bitI k else acc) (nI (k + 1)) ∧ Fr LpF σ σ') (pl S) (by omega) (fun n _ τ1 f1 hτ g1 => ?_) (fun n m hm ih _ τ1 f1 hτ g1 => ?_)
    · exact gen (Nat.zero_le _) τ (f.w fun a j z => by unfold LpF at z; unfold LQ; omega) (by rw [rS_0]; exact H.fr (f.w fun a j z => by unfold LpF at z; unfold MF; omega)) h7
    · have Ir := inv_rS I hk (m := pl S) (g := w) (fun i hi => (hw i hi).2) (Nat.le_refl _)
      have oE : f_X6_openedBy τ1 93 (nI k) = some (mk (opAs S (ki S k) (ow S k) w) (nl S)) := by
        have := m_openedBy hτ Ir k6
        rw [this]
        exact congrArg some (mk_c fun l _ => op_rS)
      have sb : x &&& (mk (opAs S (ki S k) (ow S k) w) (nl S) ^^^ (-1)) = 0 ↔ sub (bt x) (opAs S (ki S k) (ow S k) w) (nl S) = true := by
        have := mk_sub (f := bt x) (g := opAs S (ki S k) (ow S k) w) (show nl S ≤ 32 by omega)
        rw [hx] at this
        exact this
      by_cases q2 : sub (bt x) (opAs S (ki S k) (ow S k) w) (nl S) = true
      · obtain ⟨σ', u1, u2⟩ := back τ1 (acc ||| bitI k) f1 g1
        refine ⟨σ', ?_, u2⟩
        show f_X6_found_b251 _ (f_X6_found_l251 _ n) _ _ _ _ _ _ _ = _; unfold f_X6_found_b251
        rw [f1.1 93 3 (by unfold LQ; omega), h3, if_pos (nI_le (Nat.le_refl _) (by omega)), oE, bind_s, if_pos (sb.mpr q2), bind_s, if_pos (show fnd S w x k = true by unfold fnd; rw [hv, q2]; rfl)]
        exact u1
      · obtain ⟨σ', u1, u2⟩ := back τ1 acc f1 g1
        refine ⟨σ', ?_, u2⟩
        show f_X6_found_b251 _ (f_X6_found_l251 _ n) _ _ _ _ _ _ _ = _; unfold f_X6_found_b251
        rw [f1.1 93 3 (by unfold LQ; omega), h3, if_pos (nI_le (Nat.le_refl _) (by omega)), oE, bind_s, if_neg (fun z => q2 (sb.mp z)), if_neg (show ¬ fnd S w x k = true by unfold fnd; rw [hv, Bool.true_and]; exact q2)]
        exact u1
    · obtain ⟨σ', u1, u2⟩ := ih (by omega) (setI τ1 100 (5 * k + m) (nI (w m))) (f1.t (Fr.i (by unfold LQ; omega))) (by
        have := m_sCu hτ k m (w m) (by omega)
        rw [rS_s] at this
        exact this) (fun q hq => by rw [setI_a (by decide)]; exact g1 q hq)
      refine ⟨σ', ?_, u2⟩
      show f_X6_found_b251 _ (f_X6_found_l251 _ n) _ _ _ _ _ _ _ = _; unfold f_X6_found_b251
      rw [f1.1 93 3 (by unfold LQ; omega), h3, if_neg (nI_ge hm (by omega)), rd τ1 f1.2 m hm, bind_s, lN_i, l_5, pk_mul, nI_add, stI_n (by rw [ln100]; omega), bind_s, nI_1, bind_s]
      exact u1
  have gen := lp_0 (P := fun n m => ∀ τ, Fr LpF σ τ → (∀ q, q < m → τ.1 107 q = nI (cu S k q)) → ∃ σ', f_X6_found_l153 K n τ 93 (nI s) x acc (nI k) (if al (vdp S k w) m then 1 else 0) (nI m) = K σ' 93 (nI s) x (if fnd S w x k then acc ||| bitI k else acc) (nI (k + 1)) ∧ Fr LpF σ σ') (pl S) (by omega) (fun n τ f g => ?_) (fun n m hm ih τ f g => ?_)
  · exact gen σ (Fr.r σ) (fun q hq => absurd hq (Nat.not_lt_zero q))
  · cases hv : vd S k w
    · have hv' : al (vdp S k w) (pl S) = false := hv
      refine ⟨τ, ?_, f⟩
      show f_X6_found_b153 _ (f_X6_found_l153 _ n) _ _ _ _ _ _ _ _ = _; unfold f_X6_found_b153
      unfold f_X6_found_b350
      rw [f.1 93 3 (by unfold LpF; omega), h3, if_pos (nI_le (Nat.le_refl _) (by omega)), hv', if_neg Bool.false_ne_true, if_pos rfl, nI_1, bind_s, if_neg (show ¬ fnd S w x k = true by unfold fnd; rw [hv, Bool.false_and]; exact Bool.false_ne_true)]
    · have hv' : al (vdp S k w) (pl S) = true := hv
      obtain ⟨σ', u1, u2⟩ := try_ τ f g hv
      refine ⟨σ', ?_, u2⟩
      show f_X6_found_b153 _ (f_X6_found_l153 _ n) _ _ _ _ _ _ _ _ = _; unfold f_X6_found_b153
      rw [f.1 93 3 (by unfold LpF; omega), h3, if_pos (nI_le (Nat.le_refl _) (by omega)), hv', if_pos rfl, if_neg (by decide)]
      exact u1
  · have H1 : HM τ S := H.fr (f.w fun a j z => by unfold LpF at z; unfold MF; omega)
    have c4 := ((I.2.1 k).2.2 m).1
    have w4 := (hw m hm).2
    obtain ⟨τ2, hτ2⟩ : ∃ τ2, τ2 = setI τ 107 m (nI (cu S k m)) := ⟨_, rfl⟩
    have f2 : Fr LpF σ τ2 := by rw [hτ2]; exact f.t (Fr.i (by unfold LpF; omega))
    have l107 : ldI τ2 107 (nI m) = some (nI (cu S k m)) := by rw [ldI_n (by rw [ln107]; omega), hτ2, setI_s]
    have l97 : ldI τ2 97 (nI k) = some (nI (ki S k)) := by rw [hτ2]; exact (H1.fr (Fr.i (by unfold MF; omega))).k k6
    obtain ⟨σ', u1, u2⟩ := ih τ2 f2 (fun q hq => by
      rw [hτ2]
      by_cases e : q = m
      · rw [e, setI_s]
      · rw [setI_k e]; exact g q (by omega))
    refine ⟨σ', ?_, u2⟩
    show f_X6_found_b153 _ (f_X6_found_l153 _ n) _ _ _ _ _ _ _ _ = _; unfold f_X6_found_b153
    unfold f_X6_found_b231 f_X6_found_b234
    rw [f.1 93 3 (by unfold LpF; omega), h3, if_neg (nI_ge hm (by omega)), l_5, pk_mul, nI_add, H1.c k6 (by omega), bind_s, stI_n (by rw [ln107]; omega), bind_s, ← hτ2, rd τ2 f2.2 m hm, bind_s, lN_i, bind_s, l107, bind_s, bind_s, l97, bind_s]
    rw [al_s] at u1
    by_cases q : w m < cu S k m
    · rw [if_pos ((nI_ltI (by omega) (by omega)).mpr q), nI_1]
      rw [show vdp S k w m = false from decide_eq_false (fun z => by omega), Bool.and_false, if_neg Bool.false_ne_true] at u1
      exact u1
    · rw [if_neg (fun z => q ((nI_ltI (by omega) (by omega)).mp z))]
      by_cases q2 : w m ≤ cu S k m
      · rw [if_pos (nI_le q2 (by omega)), nI_1]
        rw [show vdp S k w m = true from decide_eq_true ⟨by omega, fun _ => by omega⟩, Bool.and_true] at u1
        exact u1
      · rw [if_neg (nI_ge (by omega) (by omega)), bind_s]
        by_cases k4 : ki S k = 4
        · rw [if_pos (show nI (ki S k) = 4 by rw [k4]; rfl)]
          rw [show vdp S k w m = false from decide_eq_false (fun z => by have := z.2 k4; omega), Bool.and_false, if_neg Bool.false_ne_true] at u1
          first | exact u1 | (rw [nI_1]; exact u1) | (rw [nI_1, bind_s]; exact u1)
        · rw [if_neg (show ¬ nI (ki S k) = 4 from fun z => k4 (nI_inj (by omega) (by decide) (z.trans l_4)))]
          rw [show vdp S k w m = true from decide_eq_true ⟨by omega, fun z => absurd z k4⟩, Bool.and_true] at u1
          first | exact u1 | (rw [nI_1]; exact u1) | (rw [nI_1, bind_s]; exact u1)
theorem m_found (H0 : HM σ S) (I : Inv S) {s : Nat} {x : Int32} {w : Nat → Nat} (hx : mk (bt x) (nl S) = x) (hs : s < 8) (hw : ∀ q, q < pl S → elJ σ s q = lN (w q) ∧ w q ≤ dp S) : ∃ σ', f_X6_found_l138 FU σ 93 (nI s) x 0 0 = some (mk (fnd S w x) (nk S), σ') ∧ Fr LpF σ σ' := by
  have n6 := I.1.2.2.2.2.2.2.1
  have gen := lp_0 (P := fun n m => ∀ τ, Fr LpF σ τ → ∃ σ', f_X6_found_l138 n τ 93 (nI s) x (mk (fnd S w x) m) (nI m) = some (mk (fnd S w x) (nk S), σ') ∧ Fr LpF σ σ') (nk S) (by omega) (fun n τ f => ?_) (fun n m hm ih τ f => ?_)
  · exact gen σ (Fr.r σ)
  · have H1 : HM τ S := H0.fr (f.w fun a j z => by unfold LpF at z; unfold MF; omega)
    refine ⟨τ, ?_, f⟩
    show f_X6_found_b138 (f_X6_found_l138 n) _ _ _ _ _ _ = _; unfold f_X6_found_b138
    rw [H1.1.2.2.2.1, if_pos (nI_le (Nat.le_refl _) (by omega))]
  · have H1 : HM τ S := H0.fr (f.w fun a j z => by unfold LpF at z; unfold MF; omega)
    obtain ⟨τ2, w1, w2⟩ := m_fk H1 I hx hs hm (w := w) (fun q hq => by
      have := hw q hq
      unfold elJ at this ⊢
      rw [f.2]
      exact this) (f_X6_found_l138 n) (mk (fnd S w x) m)
    obtain ⟨σ', u1, u2⟩ := ih τ2 (f.t w2)
    refine ⟨σ', ?_, u2⟩
    show f_X6_found_b138 (f_X6_found_l138 n) _ _ _ _ _ _ = _; unfold f_X6_found_b138
    rw [H1.1.2.2.2.1, if_neg (nI_ge hm (by omega)), w1]
    cases q : fnd S w x m
    · rw [mk_un (fnd S w x) q] at u1
      rw [if_neg Bool.false_ne_true]
      exact u1
    · rw [mk_up (fnd S w x) q] at u1
      rw [if_pos rfl]
      exact u1
theorem op_found (H : Sm σ S) (x y : Int32) : Agr (fun s => f_X5_found s 0 x y) (fun s => f_X6_found s 93 x y) σ := by
  obtain ⟨hc, hm, I, R⟩ := id H
  have n6 := I.1.2.2.2.2.2.2.1
  have n8 := I.1.2.2.2.2.2.2.2
  have p5 := I.1.2.1
  by_cases q : inR x 0 8
  · obtain ⟨s, s0, hs, rfl⟩ := q
    obtain ⟨s1, s2, s3, ⟨z, z40, s4⟩, s5⟩ := R.2.1 s hs
    by_cases q1 : inR y 0 (2 ^ nl S)
    · obtain ⟨v, -, hv, rfl⟩ := q1
      have hx := mk_of (show nl S ≤ 32 by omega) hv
      rcases hOk_c s3 with ⟨t, ht, et⟩ | ⟨i, hi, i0, hb⟩
      · have ec : σ.1 (21 + 2 * s) 0 = nI t := s1.trans et
        have ec1 : σ.1 (21 + 2 * s) 1 = nI z := s2.trans s4
        have ctop : f_X5_found σ 0 (nI s) (nI v) = (f_X5_tellsCuts σ 0 (21 + 2 * s)).bind fun v_47 => (if v_47 = 0 then (b2 (f_X5_refuse σ 0 (-2)) fun v_56 s_56 => (some (v_56, s_56))) else (f_X5_found_l63 FU σ 0 (nI v) (21 + 2 * s) 0)) := by
          unfold f_X5_found
          rw [c_isShelf_i hs, bind_s, if_neg (by decide), c_isLocks_i hc I hv, bind_s, if_neg (by decide), c_shelf hs, bind_s, (c_row_i ht ec).1, bind_s, if_neg (by decide)]
        have mtop : ∀ τ, HM τ S → τ.1 94 s = nI t → τ.1 95 s = nI z → f_X6_found τ 93 (nI s) (nI v) = if nI (pl S) ≤ nI z then f_X6_found_l72 FU τ 93 (nI s) (nI v) 0 else (b2 (f_X6_no τ 93 (-2)) fun v_65 s_65 => (some (v_65, s_65))) := by
          intro τ hτ e1 e2
          unfold f_X6_found
          rw [w_6, wi_0_7 s0 hs, bind_s, if_neg (by decide), m_set_i hτ I hv, bind_s, if_neg (by decide), (m_row_i hs ht e1).1, bind_s, if_pos (by decide), ldI_n (by rw [ln95]; exact hs), bind_s, e2, hτ.1.1]
        by_cases hP : pl S ≤ z
        · have ct := c_tells hc I hs ht ec ec1 z40 hP s5
          cases g : al (gd σ S s) (pl S)
          · refine Agr.ref H 0 (by decide) ?_ (fun hm' hf => ?_)
            · show f_X5_found σ 0 (nI s) (nI v) = _
              rw [ctop, ct, g, if_neg Bool.false_ne_true, bind_s, if_pos rfl, ref_2, b2_s]
              rfl
            · have g' : al (gd (R1 σ 0) S s) (pl S) = false := g
              show f_X6_found (R1 σ 0) 93 (nI s) (nI v) = _
              rw [mtop _ hm' ((hf.1 94 s (by omega)).trans et) ((hf.1 95 s (by omega)).trans s4), if_pos (nI_le hP (by omega)), m_tells hm' I hs, g', if_neg Bool.false_ne_true]
              unfold f_X6_found_b119
              rw [nof_2, b2_s]
              rfl
          · have hex : ∀ p, ∃ w, p < pl S → elJ σ s p = lN w ∧ w ≤ dp S := fun p => by
              by_cases hp : p < pl S
              · obtain ⟨w, w1, w2⟩ := gd_n I (al_iff.mp g p hp)
                exact ⟨w, fun _ => ⟨w2, w1⟩⟩
              · exact ⟨0, fun z => absurd z hp⟩
            obtain ⟨w, hw⟩ := Classical.axiomOfChoice hex
            obtain ⟨σ1, u1, u2⟩ := c_found hc I hx hs ht ec ec1 z40 hP s5 hw
            refine Agr.q (σ1 := σ1) (r := mk (fnd S w (nI v)) (nk S)) H ?_ u2 (fun H1 => ?_)
            · show f_X5_found σ 0 (nI s) (nI v) = _
              rw [ctop, ct, g, if_pos rfl, bind_s, if_neg (by decide)]
              exact u1
            · have hw1 : ∀ q, q < pl S → elJ σ1 s q = lN (w q) ∧ w q ≤ dp S := fun q hq => by
                have := hw q hq
                unfold elJ at this ⊢
                rw [u2.2]
                exact this
              obtain ⟨σ2, v1, v2⟩ := m_found H1.2.1 I hx hs hw1
              refine ⟨σ2, ?_, S, H1.sc (v2.w fun a j z => by unfold LpF at z; unfold SC; omega)⟩
              have g1 : al (gd σ1 S s) (pl S) = true := by
                have : gd σ1 S s = gd σ S s := funext fun p => by
                  unfold gd elJ
                  rw [u2.2]
                rw [this]
                exact g
              show f_X6_found σ1 93 (nI s) (nI v) = _
              rw [mtop _ H1.2.1 ((u2.1 94 s (by unfold SC; omega)).trans et) ((u2.1 95 s (by unfold SC; omega)).trans s4), if_pos (nI_le hP (by omega)), m_tells H1.2.1 I hs, g1, if_pos rfl]
              exact v1
        · refine Agr.ref H 0 (by decide) ?_ (fun hm' hf => ?_)
          · show f_X5_found σ 0 (nI s) (nI v) = _
            rw [ctop]
            unfold f_X5_tellsCuts
            rw [hc.1.1, ec1, if_neg (nI_ge (by omega) (by omega)), bind_s, if_pos rfl, ref_2, b2_s]
            rfl
          · show f_X6_found (R1 σ 0) 93 (nI s) (nI v) = _
            rw [mtop _ hm' ((hf.1 94 s (by omega)).trans et) ((hf.1 95 s (by omega)).trans s4), if_neg (nI_ge (by omega) (by omega)), nof_2, b2_s]
            rfl
      · have hbc : NoR (nk S) (σ.1 (21 + 2 * s) 0) i := by rw [s1]; exact hb
        refine Agr.ref H i hi ?_ (fun hm' hf => ?_)
        · unfold f_X5_found
          rw [c_isShelf_i hs, bind_s, if_neg (by decide), c_isLocks_i hc I hv, bind_s, if_neg (by decide), c_shelf hs, bind_s, (c_row_n n6 hbc).1, bind_s, if_pos rfl, (c_row_n n6 hbc).2, bind_s, ref_i hi, b2_s]
        · have hb' : NoR (nk S) ((R1 σ i).1 94 s) i := by rw [hf.1 94 s (by omega)]; exact hb
          unfold f_X6_found
          rw [w_6, wi_0_7 s0 hs, bind_s, if_neg (by decide), m_set_i hm' I hv, bind_s, if_neg (by decide), (m_row_n hs n6 hb').1, bind_s, if_neg (rfn_neg i hi), nof_i hi, b2_s]
    · refine Agr.ref H 0 (by decide) ?_ (fun hm' hf => ?_)
      · unfold f_X5_found f_X5_found_b16
        rw [c_isShelf_i hs, bind_s, if_neg (by decide), c_isLocks_o hc I q1, bind_s, if_pos rfl, ref_2, b2_s]
        rfl
      · unfold f_X6_found f_X6_found_b26
        rw [w_6, wi_0_7 s0 hs, bind_s, if_neg (by decide), m_set_o hm' I q1, bind_s, if_pos rfl, nof_2, b2_s]
        rfl
  · refine Agr.ref H 0 (by decide) ?_ (fun hm' hf => ?_)
    · unfold f_X5_found f_X5_found_b16
      rw [c_isShelf_o q, bind_s, if_pos rfl, ref_2, b2_s]
      rfl
    · unfold f_X6_found f_X6_found_b26
      rw [w_6, wo_0_7 q, bind_s, if_pos rfl, nof_2, b2_s]
      rfl
end FOUND
