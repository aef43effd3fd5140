/-! rows by numbers -/
/-- the digit at a place -/
def dg (B P r p : Nat) : Nat := r / B ^ (P - 1 - p) % B
theorem dg_lt {B P r p : Nat} (h : 0 < B) : dg B P r p < B := Nat.mod_lt _ h
theorem dg_le {D P r p : Nat} : dg (D + 1) P r p ≤ D := Nat.le_of_lt_succ (dg_lt (Nat.succ_pos D))
section DIG
variable {σ : St} {S : HS}
theorem m_dig (H : HM σ S) (I : Inv S) {r p : Nat} (hr : r < 2 ^ 31) (hp : p < pl S) : f_X6_of σ 93 (nI r) (nI p) = some (nI (dg (dp S + 1) (pl S) r p)) := by
  have p5 := I.1.2.1
  have d4 := I.1.2.2.2.1
  have e3 := H.1.1
  have e4 := H.1.2.1
  have gen := lp_0 (P := fun n m => m ≤ pl S - 1 - p → f_X6_of_l7 σ n 93 (nI (r / (dp S + 1) ^ m)) (nI p) (nI (pl S - 1 - m)) = some (nI (dg (dp S + 1) (pl S) r p))) (pl S - 1 - p) (by omega) (fun n _ => ?_) (fun n m hm ih _ => ?_)
  · unfold f_X6_of
    rw [e3, npred (by omega), bind_s]
    have := gen (Nat.zero_le _)
    rw [Nat.pow_zero, Nat.div_one] at this
    exact this
  · have hle : r / (dp S + 1) ^ (pl S - 1 - p) ≤ r := Nat.div_le_self _ _
    show f_X6_of_b7 _ (f_X6_of_l7 _ n) _ _ _ _ = _; unfold f_X6_of_b7
    rw [if_pos (nI_le (by omega) (by omega)), e4, nI_1, rm_n (by omega) (by omega) (by omega)]
    rfl
  · have hle : r / (dp S + 1) ^ m ≤ r := Nat.div_le_self _ _
    have h := ih (by omega)
    show f_X6_of_b7 _ (f_X6_of_l7 _ n) _ _ _ _ = _; unfold f_X6_of_b7
    rw [if_neg (nI_ge (by omega) (by omega)), e4, nI_1, dv_n (by omega) (by omega) (by omega), bind_s, i_m1, npred (by omega), bind_s, Nat.div_div_eq_div_mul, ← Nat.pow_succ, show pl S - 1 - m - 1 = pl S - 1 - (m + 1) by omega]
    exact h
theorem m_rows (H : HM σ S) (I : Inv S) : f_X6_rows σ 93 = some (nI ((dp S + 1) ^ pl S)) := by
  have p5 := I.1.2.1
  have d4 := I.1.2.2.2.1
  have e3 := H.1.1
  have e4 := H.1.2.1
  have gen := lp_0 (P := fun n m => f_X6_rows_l4 σ n 93 (nI ((dp S + 1) ^ m)) (nI m) = some (nI ((dp S + 1) ^ pl S))) (pl S) (by omega) (fun n => ?_) (fun n m hm ih => ?_)
  · rw [Nat.pow_zero] at gen
    exact gen
  · show f_X6_rows_b4 _ (f_X6_rows_l4 _ n) _ _ _ = _; unfold f_X6_rows_b4
    rw [e3, if_pos (nI_le (Nat.le_refl _) (by omega))]
  · show f_X6_rows_b4 _ (f_X6_rows_l4 _ n) _ _ _ = _; unfold f_X6_rows_b4
    rw [e3, if_neg (nI_ge hm (by omega)), e4, nI_1, pk_mul, bind_s, bind_s, nI_1, ← Nat.pow_succ]
    exact ih
theorem rows_le (I : Inv S) : (dp S + 1) ^ pl S ≤ 3125 := by
  have h1 : (dp S + 1) ^ pl S ≤ 5 ^ pl S := Nat.pow_le_pow_left (by have := I.1.2.2.2.1; omega) _
  have h2 : 5 ^ pl S ≤ 5 ^ 5 := Nat.pow_le_pow_right (by decide) I.1.2.1
  exact Nat.le_trans h1 h2
theorem m_dsum (H : HM σ S) (I : Inv S) {r : Nat} (hr : r < 2 ^ 31) : f_X6_sum σ 93 (nI r) = some (nI (sm (dg (dp S + 1) (pl S) r) (pl S))) := by
  have p5 := I.1.2.1
  have e3 := H.1.1
  show f_X6_sum_l4 σ FU 93 (nI r) (nI (sm (dg (dp S + 1) (pl S) r) 0)) (nI 0) = _
  refine lp_0 (P := fun n m => f_X6_sum_l4 σ n 93 (nI r) (nI (sm (dg (dp S + 1) (pl S) r) m)) (nI m) = some (nI (sm (dg (dp S + 1) (pl S) r) (pl S)))) (pl S) (by omega) (fun n => ?_) (fun n m hm ih => ?_)
  · show f_X6_sum_b4 _ (f_X6_sum_l4 _ n) _ _ _ _ = _; unfold f_X6_sum_b4
    rw [e3, if_pos (nI_le (Nat.le_refl _) (by omega))]
  · show f_X6_sum_b4 _ (f_X6_sum_l4 _ n) _ _ _ _ = _; unfold f_X6_sum_b4
    rw [e3, if_neg (nI_ge hm (by omega)), m_dig H I hr hm, bind_s, nI_add, bind_s, bind_s, nI_1]
    exact ih
theorem sum_le {D P : Nat} {f : Nat → Nat} (hP : P ≤ 5) (hD : D ≤ 4) (h : ∀ p, p < P → f p ≤ D) : sm f P ≤ 20 := by
  have h1 := sm_le h
  have h2 : P * D ≤ 5 * 4 := Nat.mul_le_mul hP hD
  omega
/-- rows of which the sum is half of the most -/
def hlf (S : HS) (r : Nat) : Bool := decide (sm (dg (dp S + 1) (pl S) r) (pl S) = pl S * dp S / 2)
theorem m_unlike (H : HM σ S) (I : Inv S) : f_X6_unlike σ 93 = some (nI (cnt (hlf S) ((dp S + 1) ^ pl S))) := by
  have p5 := I.1.2.1
  have d4 := I.1.2.2.2.1
  have e3 := H.1.1
  have e4 := H.1.2.1
  have rl := rows_le I
  have h1 : pl S * dp S ≤ 5 * 4 := Nat.mul_le_mul p5 d4
  show f_X6_unlike_l4 σ FU 93 (nI (cnt (hlf S) 0)) (nI 0) = _
  refine lp_0 (P := fun n m => f_X6_unlike_l4 σ n 93 (nI (cnt (hlf S) m)) (nI m) = some (nI (cnt (hlf S) ((dp S + 1) ^ pl S)))) ((dp S + 1) ^ pl S) (by omega) (fun n => ?_) (fun n m hm ih => ?_)
  · show f_X6_unlike_b4 _ (f_X6_unlike_l4 _ n) _ _ _ = _; unfold f_X6_unlike_b4
    rw [m_rows H I, bind_s, if_pos (nI_le (Nat.le_refl _) (by omega))]
  · have hs := sum_le (f := dg (dp S + 1) (pl S) m) p5 d4 (fun p _ => dg_le)
    show f_X6_unlike_b4 _ (f_X6_unlike_l4 _ n) _ _ _ = _; unfold f_X6_unlike_b4
    unfold f_X6_unlike_b34
    rw [m_rows H I, bind_s, if_neg (nI_ge hm (by omega)), m_dsum H I (by omega), bind_s, e3, e4, pk_mul, l_2, dv_n (by omega) (by decide) (by decide), bind_s]
    rw [cnt] at ih
    by_cases q : sm (dg (dp S + 1) (pl S) m) (pl S) = pl S * dp S / 2
    · rw [if_pos (by rw [q]), nI_1, bind_s, nI_1, bind_s]
      rw [if_pos (by unfold hlf; exact decide_eq_true q)] at ih
      exact ih
    · rw [if_neg (fun z => q (nI_inj (by omega) (by omega) z)), nI_1, bind_s]
      rw [if_neg (by unfold hlf; rw [decide_eq_false q]; exact Bool.false_ne_true)] at ih
      exact ih
def wy (D : Nat) : Nat → Nat → Nat
  | 0, s => if s = 0 then 1 else 0
  | p + 1, s => sm (fun v => if v ≤ s then wy D p (s - v) else 0) (D + 1)
theorem ln20 : ln 20 = 21 := by decide +kernel
theorem at_neg {a : Nat} {x : Int32} (h : x < 0) : f_X5_at σ a x = some 0 := by
  unfold f_X5_at
  rw [if_pos h]
theorem sub_neg {a b : Nat} (h : a < b) (hb : b < 2 ^ 30) : nI a - nI b < 0 := by
  apply Int32.lt_iff_toInt_lt.mpr
  rw [pk_sub_toInt (by omega) (by omega)]
  have : (0 : Int32).toInt = 0 := rfl
  omega
theorem c_ways (H : HC σ 39 S) (I : Inv S) {w : Nat → Nat} {s : Nat} (hs : s ≤ 10) (hw : ∀ j, j ≤ s → σ.1 20 j = nI (w j)) : f_X4_waysWithOneMore σ 5 (nI s) = some (nI (sm (fun v => if v ≤ s then w (s - v) else 0) (dp S + 1))) := by
  have d4 := I.1.2.2.2.1
  have e1 := H.1.2.1
  show f_X4_waysWithOneMore_l4 σ FU 5 (nI s) (nI (sm (fun v => if v ≤ s then w (s - v) else 0) 0)) (nI 0) = _
  refine lp_0 (P := fun n m => f_X4_waysWithOneMore_l4 σ n 5 (nI s) (nI (sm (fun v => if v ≤ s then w (s - v) else 0) m)) (nI m) = some (nI (sm (fun v => if v ≤ s then w (s - v) else 0) (dp S + 1)))) (dp S + 1) (by omega) (fun n => ?_) (fun n m hm ih => ?_)
  · show f_X4_waysWithOneMore_b4 _ (f_X4_waysWithOneMore_l4 _ n) _ _ _ _ = _; unfold f_X4_waysWithOneMore_b4
    rw [e1, if_pos ((nI_ltI (by omega) (by omega)).mpr (Nat.lt_succ_self _))]
  · show f_X4_waysWithOneMore_b4 _ (f_X4_waysWithOneMore_l4 _ n) _ _ _ _ = _; unfold f_X4_waysWithOneMore_b4
    rw [e1, if_neg (fun z => by have := (nI_ltI (by omega) (by omega)).mp z; omega)]
    rw [sm] at ih
    by_cases q : m ≤ s
    · rw [if_pos q] at ih
      rw [pk_sub q, c_at (by rw [ln20]; omega), hw _ (by omega), bind_s, nI_add, bind_s, bind_s, nI_1]
      exact ih
    · rw [if_neg q, Nat.add_zero] at ih
      rw [at_neg (sub_neg (by omega) (by omega)), bind_s, Int32.add_zero, bind_s, bind_s, nI_1]
      exact ih
theorem c_fillI {a N : Nat} (la : ln a = N) (hN : N < 4000) (v : Int32) : ∃ σ', f_J7_fill_53178 σ a v = some σ' ∧ (∀ j, j < N → σ'.1 a j = v) ∧ Fr (fun c _ => c = a) σ σ' := by
  have gen := lp_0 (P := fun n m => ∀ σ1, (∀ j, j < m → σ1.1 a j = v) → Fr (fun c _ => c = a) σ σ1 → ∃ σ', f_J7_fill_53178_l5 n σ1 a v (nI m) (nI N) = some σ' ∧ (∀ j, j < N → σ'.1 a j = v) ∧ Fr (fun c _ => c = a) σ σ') N hN (fun n σ1 h f => ?_) (fun n m hm ih σ1 h f => ?_)
  · obtain ⟨σ', u1, u2⟩ := gen σ (fun j hj => absurd hj (Nat.not_lt_zero j)) (Fr.r σ)
    refine ⟨σ', ?_, u2⟩
    unfold f_J7_fill_53178
    rw [la, bind_s]
    exact u1
  · refine ⟨σ1, ?_, h, f⟩
    show f_J7_fill_53178_b5 (f_J7_fill_53178_l5 n) _ _ _ _ _ = _; unfold f_J7_fill_53178_b5
    rw [if_pos (nI_le (Nat.le_refl _) (by omega))]
  · obtain ⟨σ', u1, u2⟩ := ih (setI σ1 a m v) (fun j hj => by
      by_cases e : j = m
      · rw [e, setI_s]
      · rw [setI_k e]; exact h j (by omega)) (f.t (Fr.i rfl))
    refine ⟨σ', ?_, u2⟩
    show f_J7_fill_53178_b5 (f_J7_fill_53178_l5 n) _ _ _ _ _ = _; unfold f_J7_fill_53178_b5
    rw [if_neg (nI_ge hm (by omega)), stI_n (by rw [la]; exact hm), bind_s, bind_s, nI_1]
    exact u1
theorem c_wayrow (H0 : HC σ 39 S) (I : Inv S) (K : St → Nat → Int32 → Int32 → Option (Int32 × St)) {h p : Nat} (hh : h ≤ 10) {R : Int32 × St → Prop} (kk : ∀ σ1, Fr SC σ σ1 → (∀ j, j ≤ h → σ1.1 20 j = nI (wy (dp S) (p + 1) j)) → ∃ v, K σ1 5 (nI h) (nI (p + 1)) = some v ∧ R v) (σ1 : St) (f1 : Fr SC σ σ1) (g : ∀ j, j ≤ h → σ1.1 20 j = nI (wy (dp S) p j)) : ∃ v, f_X4_rowsOfHalf_l50 K FU σ1 5 (nI h) (nI p) (nI h) = some v ∧ R v := by
  have gen := lp_dn (P := fun n c => ∀ σ1, Fr SC σ σ1 → (∀ j, j < c → σ1.1 20 j = nI (wy (dp S) p j)) → (∀ j, c ≤ j → j ≤ h → σ1.1 20 j = nI (wy (dp S) (p + 1) j)) → ∃ v, f_X4_rowsOfHalf_l50 K n σ1 5 (nI h) (nI p) (nI c - 1) = some v ∧ R v) (h + 1) (by omega) (fun n σ1 f1 g1 g2 => ?_) (fun n c hc ih σ1 f1 g1 g2 => ?_)
  · have := gen σ1 f1 (fun j hj => g j (by omega)) (fun j hj hj2 => absurd hj (by omega))
    rw [nI_pd] at this
    exact this
  · obtain ⟨v, u1, u2⟩ := kk σ1 f1 (fun j hj => g2 j (Nat.zero_le _) hj)
    refine ⟨v, ?_, u2⟩
    show f_X4_rowsOfHalf_b50 _ (f_X4_rowsOfHalf_l50 _ n) _ _ _ _ _ = _; unfold f_X4_rowsOfHalf_b50
    rw [if_pos (by decide), bind_s, nI_1]
    exact u1
  · have H1 := H0.cf (f1.w fun _ _ => SC_CF)
    obtain ⟨v, u1, u2⟩ := ih (setI σ1 20 c (nI (wy (dp S) (p + 1) c))) (f1.t (Fr.i (by unfold SC; omega))) (fun j hj => by rw [setI_k (by omega)]; exact g1 j (by omega)) (fun j hj hj2 => by
      by_cases e : j = c
      · rw [e, setI_s]
      · rw [setI_k e]; exact g2 j (by omega) hj2)
    refine ⟨v, ?_, u2⟩
    rw [nI_pd]
    show f_X4_rowsOfHalf_b50 _ (f_X4_rowsOfHalf_l50 _ n) _ _ _ _ _ = _; unfold f_X4_rowsOfHalf_b50
    rw [if_neg (nI_pos (by omega)), c_ways (w := wy (dp S) p) H1 I (by omega) (fun j hj => g1 j (by omega)), bind_s, c_put (by rw [ln20]; omega), bind_s, bind_s, i_m1]
    exact u1
theorem c_unlike (H : HC σ 39 S) (I : Inv S) : ∃ σ', f_X4_rowsOfHalf σ 5 = some (nI (wy (dp S) (pl S) (pl S * dp S / 2)), σ') ∧ Fr SC σ σ' := by
  have p5 := I.1.2.1
  have d4 := I.1.2.2.2.1
  have e0 := H.1.1
  have e1 := H.1.2.1
  have h1 : pl S * dp S ≤ 5 * 4 := Nat.mul_le_mul p5 d4
  have hh : pl S * dp S / 2 ≤ 10 := by omega
  obtain ⟨s1, a1, a2, a3⟩ := c_fillI (σ := σ) (a := 20) ln20 (by decide) 0
  have f0 : Fr SC σ (setI s1 20 0 1) := (a3.w fun a j z => by unfold SC; omega).t (Fr.i (by unfold SC; omega))
  have gen := lp_0 (P := fun n m => ∀ σ1, Fr SC σ σ1 → (∀ j, j ≤ pl S * dp S / 2 → σ1.1 20 j = nI (wy (dp S) m j)) → ∃ v, f_X4_rowsOfHalf_l37 n σ1 5 (nI (pl S * dp S / 2)) (nI m) = some v ∧ (v.1 = nI (wy (dp S) (pl S) (pl S * dp S / 2)) ∧ Fr SC σ v.2)) (pl S) (by omega) (fun n σ1 f1 g => ?_) (fun n m hm ih σ1 f1 g => ?_)
  · obtain ⟨v, u1, u2, u3⟩ := gen (setI s1 20 0 1) f0 (fun j hj => by
      by_cases e : j = 0
      · rw [e, setI_s]; rfl
      · rw [setI_k e, a2 j (by omega)]
        unfold wy
        rw [if_neg e]
        rfl)
    obtain ⟨v1, v2⟩ := v
    subst u2
    refine ⟨v2, ?_, u3⟩
    unfold f_X4_rowsOfHalf
    rw [e0, e1, pk_mul, l_2, dv_n (by omega) (by decide) (by decide), bind_s, a1, bind_s, show f_X5_put s1 20 0 1 = some (setI s1 20 0 1) from c_put (j := 0) (by rw [ln20]; decide), bind_s]
    exact u1
  · refine ⟨(nI (wy (dp S) (pl S) (pl S * dp S / 2)), σ1), ?_, rfl, f1⟩
    have e0' := (H.cf (f1.w fun _ _ => SC_CF)).1.1
    show f_X4_rowsOfHalf_b37 (f_X4_rowsOfHalf_l37 n) _ _ _ _ = _; unfold f_X4_rowsOfHalf_b37
    rw [e0', if_pos (nI_le (Nat.le_refl _) (by omega)), c_at (by rw [ln20]; omega), bind_s, g _ (Nat.le_refl _)]
  · obtain ⟨v, u1, u2⟩ := c_wayrow H I (f_X4_rowsOfHalf_l37 n) (p := m) hh (R := fun v => v.1 = nI (wy (dp S) (pl S) (pl S * dp S / 2)) ∧ Fr SC σ v.2) ih σ1 f1 g
    refine ⟨v, ?_, u2⟩
    have e0' := (H.cf (f1.w fun _ _ => SC_CF)).1.1
    show f_X4_rowsOfHalf_b37 (f_X4_rowsOfHalf_l37 n) _ _ _ _ = _; unfold f_X4_rowsOfHalf_b37
    rw [e0', if_neg (nI_ge hm (by omega))]
    exact u1
/-- counting by halves -/
def cb (f : Nat → Bool) : Nat → Nat → Nat
  | 0, lo => if f lo then 1 else 0
  | k + 1, lo => cb f k lo + cb f k (lo + 2 ^ k)
theorem cnt_add (f : Nat → Bool) (a : Nat) : ∀ b, cnt f (a + b) = cnt f a + cnt (fun i => f (a + i)) b
  | 0 => rfl
  | b + 1 => by
    rw [← Nat.add_assoc, cnt, cnt, cnt_add f a b]
    omega
theorem cb_cnt (f : Nat → Bool) : ∀ k lo, cb f k lo = cnt (fun i => f (lo + i)) (2 ^ k)
  | 0, lo => by
    rw [cb, Nat.pow_zero, cnt, cnt, Nat.add_zero, Nat.zero_add]
  | k + 1, lo => by
    rw [cb, cb_cnt f k lo, cb_cnt f k (lo + 2 ^ k), Nat.pow_succ, Nat.mul_two, cnt_add]
    congr 1
    exact cnt_c fun i _ => by rw [Nat.add_assoc]
theorem cnt_cut (f : Nat → Bool) (N : Nat) : ∀ m, cnt (fun i => decide (i < N) && f i) (N + m) = cnt f N
  | 0 => cnt_c fun i hi => by
    show (decide (i < N) && f i) = f i
    rw [decide_eq_true (show i < N from hi), Bool.true_and]
  | m + 1 => by
    rw [← Nat.add_assoc, cnt, cnt_cut f N m, if_neg]
    · rfl
    · rw [decide_eq_false (by omega)]
      exact Bool.false_ne_true
theorem wy_all : ∀ P, P < 6 → ∀ D, D < 5 → wy D P (P * D / 2) = cb (fun r => decide (r < (D + 1) ^ P) && decide (sm (dg (D + 1) P r) P = P * D / 2)) 12 0 := by decide +kernel
theorem op_unlike (H : Sm σ S) : Agr (fun s => f_X5_unlike s 0) (fun s => (f_X6_unlike s 93).bind fun v => some (v, s)) σ := by
  obtain ⟨hc, hm, I, R⟩ := id H
  have p5 := I.1.2.1
  have d4 := I.1.2.2.2.1
  obtain ⟨σ1, u1, u2⟩ := c_unlike hc I
  have e : wy (dp S) (pl S) (pl S * dp S / 2) = cnt (hlf S) ((dp S + 1) ^ pl S) := by
    have rl := rows_le I
    rw [wy_all _ (by omega) _ (by omega), cb_cnt, ← cnt_cut (hlf S) ((dp S + 1) ^ pl S) (2 ^ 12 - (dp S + 1) ^ pl S), show (dp S + 1) ^ pl S + (2 ^ 12 - (dp S + 1) ^ pl S) = 2 ^ 12 by omega]
    exact cnt_c fun i _ => by
      rw [Nat.zero_add]
      rfl
  rw [e] at u1
  refine Agr.q (σ1 := σ1) (r := nI (cnt (hlf S) ((dp S + 1) ^ pl S))) H ?_ u2 (fun H1 => ⟨σ1, ?_, S, H1⟩)
  · show f_X5_unlike σ 0 = _
    unfold f_X5_unlike
    exact b2_e u1 rfl
  · exact bind_e (m_unlike H1.2.1 I) rfl
end DIG
