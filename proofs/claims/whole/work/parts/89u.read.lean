/-! words and numbers on the tape -/
def wd (T : Nat → Nat) (n e i : Nat) : Bool := decide (tc T n e = 1 ∧ tq T n e - tp T n e = sLen i) && al (fun j => decide (nI (T (tp T n e + j)) = sCh i j &&& 255)) (sLen i)
def nm (T : Nat → Nat) (n e a b : Nat) : Bool := decide (tc T n e = 2 ∧ tq T n e - tp T n e ≤ 2 ∧ a ≤ dv T (tp T n e) (tq T n e) ∧ dv T (tp T n e) (tq T n e) < b)
theorem sLen_le : ∀ i, i < 9 → 1 ≤ sLen i ∧ sLen i ≤ 8 := by decide +kernel
theorem chA_n {i j : Nat} (h : j < sLen i) (h8 : sLen i ≤ 8) : chA i (nI j) = some (sCh i j &&& 255) := by
  unfold chA
  rw [nI_clamp (by omega), if_neg]
  rintro (z | z)
  · exact absurd z (nI_pos (by omega))
  · omega
section READ
variable {σ : St} {T : Nat → Nat} {n e : Nat}
theorem c_word (hT : Tb T n) (he : e ≤ n) (h : Tc σ T n) (C : CT σ T n e) {i : Nat} (hi : i < 9) : f_X3_isWord σ 3 i = some (if wd T n e i then 1 else 0) := by
  have hn := hT.1
  have hp := tp_le (T := T) he
  have hq := tq_le (T := T) he
  have c4 := tc_4 T n e
  have s8 := sLen_le i hi
  unfold f_X3_isWord wd
  rw [C.1, C.2.2, C.2.1, pk_sub hq.1]
  by_cases q1 : tc T n e = 1
  · rw [if_pos (show nI (tc T n e) = 1 by rw [q1]; rfl)]
    by_cases q2 : tq T n e - tp T n e = sLen i
    · rw [if_pos (by rw [q2]), decide_eq_true ⟨q1, q2⟩, Bool.true_and]
      have gen := lp_0 (P := fun f m => al (fun j => decide (nI (T (tp T n e + j)) = sCh i j &&& 255)) m = true → f_X3_isWord_l28 σ f 3 i (nI m) = some (if al (fun j => decide (nI (T (tp T n e + j)) = sCh i j &&& 255)) (sLen i) then 1 else 0)) (sLen i) (by omega) (fun f g => ?_) (fun f m hm ih g => ?_)
      · exact gen rfl
      · show f_X3_isWord_b28 _ (f_X3_isWord_l28 _ f) _ _ _ = _; unfold f_X3_isWord_b28
        rw [if_pos (nI_le (Nat.le_refl _) (by omega)), g]
        rfl
      · show f_X3_isWord_b28 _ (f_X3_isWord_l28 _ f) _ _ _ = _; unfold f_X3_isWord_b28
        rw [if_neg (nI_ge hm (by omega)), C.2.1, nI_add, c_ltr h (by omega), bind_s, chA_n hm s8.2, bind_s]
        by_cases w : nI (T (tp T n e + m)) = sCh i m &&& 255
        · rw [if_pos w, nI_1, bind_s]
          exact ih (by rw [al, g, Bool.true_and]; exact decide_eq_true w)
        · rw [if_neg w]
          have : al (fun j => decide (nI (T (tp T n e + j)) = sCh i j &&& 255)) (sLen i) = false := by
            apply Bool.eq_false_iff.mpr
            intro z
            exact w (of_decide_eq_true (al_iff.mp z m hm))
          rw [this]
          rfl
    · rw [if_neg (fun z => q2 (nI_inj (by omega) (by omega) z)), decide_eq_false (fun z => q2 z.2), Bool.false_and]
      rfl
  · rw [if_neg (show ¬ nI (tc T n e) = 1 from fun z => q1 (nI_inj (a := tc T n e) (b := 1) (by omega) (by decide) z)), decide_eq_false (fun z => q1 z.1), Bool.false_and]
    rfl
theorem cdI_n {c k : Nat} (hc : c ≤ 4) (hk : k < 4) : cdI c = nI k ↔ c = k := by
  unfold cdI
  by_cases q : c = 4
  · rw [if_pos q]
    exact ⟨fun z => absurd z.symm (nm1_ne k (by omega)), fun z => by omega⟩
  · rw [if_neg q]
    exact ⟨fun z => nI_inj (by omega) (by omega) z, fun z => by rw [z]⟩
theorem m_word (hT : Tb T n) (he : e ≤ n) (h : Tm σ T n) (C : MT σ T n e) {i : Nat} (hi : i < 9) : f_X6_isWord σ 93 i = some (if wd T n e i then 1 else 0) := by
  have hn := hT.1
  have hp := tp_le (T := T) he
  have hq := tq_le (T := T) he
  have c4 := tc_4 T n e
  have s8 := sLen_le i hi
  have c1 := cdI_n (c := tc T n e) (k := 1) c4 (by decide)
  unfold f_X6_isWord wd
  rw [C.2.2.1, C.1, C.2.1, pk_sub hq.1]
  by_cases q1 : tc T n e = 1
  · rw [if_pos (show cdI (tc T n e) = 1 from c1.mpr q1)]
    by_cases q2 : tq T n e - tp T n e = sLen i
    · rw [if_pos (by rw [q2]), decide_eq_true ⟨q1, q2⟩, Bool.true_and]
      have gen := lp_0 (P := fun f m => al (fun j => decide (nI (T (tp T n e + j)) = sCh i j &&& 255)) m = true → f_X6_isWord_l28 σ f 93 i (nI m) = some (if al (fun j => decide (nI (T (tp T n e + j)) = sCh i j &&& 255)) (sLen i) then 1 else 0)) (sLen i) (by omega) (fun f g => ?_) (fun f m hm ih g => ?_)
      · exact gen rfl
      · show f_X6_isWord_b28 _ (f_X6_isWord_l28 _ f) _ _ _ = _; unfold f_X6_isWord_b28
        rw [if_pos (nI_le (Nat.le_refl _) (by omega)), g]
        rfl
      · show f_X6_isWord_b28 _ (f_X6_isWord_l28 _ f) _ _ _ = _; unfold f_X6_isWord_b28
        rw [if_neg (nI_ge hm (by omega)), C.2.1, nI_add, m_ltr h (by omega), bind_s, chA_n hm s8.2, bind_s]
        by_cases w : nI (T (tp T n e + m)) = sCh i m &&& 255
        · rw [if_pos w, nI_1, bind_s]
          exact ih (by rw [al, g, Bool.true_and]; exact decide_eq_true w)
        · rw [if_neg w]
          have : al (fun j => decide (nI (T (tp T n e + j)) = sCh i j &&& 255)) (sLen i) = false := by
            apply Bool.eq_false_iff.mpr
            intro z
            exact w (of_decide_eq_true (al_iff.mp z m hm))
          rw [this]
          rfl
    · rw [if_neg (fun z => q2 (nI_inj (by omega) (by omega) z)), decide_eq_false (fun z => q2 z.2), Bool.false_and]
      rfl
  · rw [if_neg (show ¬ cdI (tc T n e) = 1 from fun z => q1 (c1.mp z)), decide_eq_false (fun z => q1 z.1), Bool.false_and]
    rfl
theorem dig_all (he : e ≤ n) (h2 : tc T n e = 2) {i : Nat} (h3 : tp T n e ≤ i) (h4 : i < tq T n e) : so (T i) = 2 := by
  have hlt := tc_n (T := T) he (by omega)
  have ec : tc T n e = so (T (tp T n e)) := by
    unfold tc
    rw [if_pos hlt]
  by_cases q : i = tp T n e
  · rw [q, ← ec]; exact h2
  · unfold tq at h4
    rw [if_pos hlt, if_pos (Or.inr h2), h2] at h4
    exact rn_all T 2 _ _ i (by omega) h4
theorem vdn_lt (hT : Tb T n) (p j : Nat) : vdn T p j < 3000 := by
  have h1 := hT.2 p
  have h2 := hT.2 (p + 1)
  unfold vdn
  split
  · omega
  · split <;> omega
theorem dv_lt (hT : Tb T n) (p q : Nat) : dv T p q < 3000 := by
  have := vdn_lt hT p (q - p)
  unfold dv
  split <;> omega
theorem iw_n {v a b : Nat} (hv : v < 2 ^ 20) (ha : a < 2 ^ 20) (hb : b < 2 ^ 20) : f_X5_isWithin (nI v) (nI a) (nI b - 1) = some (if a ≤ v ∧ v < b then 1 else 0) := by
  by_cases q : a ≤ v ∧ v < b
  · rw [if_pos q, w_in q.1 q.2 (by omega)]
  · rw [if_neg q, w_out (fun ⟨k, k1, k2, e⟩ => q (by have := nI_inj (by omega) (by omega) e; omega)) (by omega) (by omega)]
theorem c_num (hT : Tb T n) (he : e ≤ n) (h : Tc σ T n) (C : CT σ T n e) {a b : Nat} (ha : a < 2 ^ 20) (hb : b < 2 ^ 20) : (nm T n e a b = true → ∃ σ', f_X3_readNumber σ 3 (nI a) (nI b - 1) = some (nI (dv T (tp T n e) (tq T n e)), σ') ∧ CT σ' T n (tq T n e) ∧ Fr TcF σ σ') ∧ (nm T n e a b = false → f_X3_readNumber σ 3 (nI a) (nI b - 1) = some (-1, σ)) := by
  have hn := hT.1
  have hp := tp_le (T := T) he
  have hq := tq_le (T := T) he
  have c4 := tc_4 T n e
  have top : f_X3_readNumber σ 3 (nI a) (nI b - 1) = if tc T n e = 2 ∧ tq T n e - tp T n e ≤ 2 then (if a ≤ dv T (tp T n e) (tq T n e) ∧ dv T (tp T n e) (tq T n e) < b then ((f_X3_toNextToken σ 3).bind fun s_76 => (some (nI (dv T (tp T n e) (tq T n e)), s_76))) else some (-1, σ)) else some (-1, σ) := by
    unfold f_X3_readNumber
    rw [C.1, C.2.2, C.2.1, pk_sub hq.1]
    by_cases q1 : tc T n e = 2
    · rw [if_pos (show nI (tc T n e) = 2 by rw [q1]; rfl)]
      by_cases q2 : tq T n e - tp T n e ≤ 2
      · rw [if_pos (show nI (tq T n e - tp T n e) ≤ 2 from nI_le (a := tq T n e - tp T n e) (b := 2) q2 (by decide)), if_pos ⟨q1, q2⟩, bind_s]
        have ed : dv T (tp T n e) (tq T n e) = vdn T (tp T n e) (tq T n e - tp T n e) := if_pos q2
        have gen := lp_0 (P := fun f m => f_X3_readNumber_l31 f σ 3 (nI a) (nI b - 1) (nI (vdn T (tp T n e) m)) (nI (tp T n e + m)) = (if a ≤ dv T (tp T n e) (tq T n e) ∧ dv T (tp T n e) (tq T n e) < b then ((f_X3_toNextToken σ 3).bind fun s_76 => (some (nI (dv T (tp T n e) (tq T n e)), s_76))) else some (-1, σ))) (tq T n e - tp T n e) (by omega) (fun f => ?_) (fun f m hm ih => ?_)
        · exact gen
        · show f_X3_readNumber_b31 (f_X3_readNumber_l31 f) _ _ _ _ _ _ = _; unfold f_X3_readNumber_b31
          have vl' := vdn_lt hT (tp T n e) (tq T n e - tp T n e)
          rw [C.2.2, if_pos (nI_le (by omega) (by omega)), iw_n (by omega) ha hb, bind_s, ed]
          by_cases w : a ≤ vdn T (tp T n e) (tq T n e - tp T n e) ∧ vdn T (tp T n e) (tq T n e - tp T n e) < b
          · rw [if_pos w, if_neg (by decide), if_pos w]
          · rw [if_neg w, if_pos rfl, if_neg w]
        · have d2 := so_2 (dig_all he q1 (i := tp T n e + m) (by omega) (by omega))
          show f_X3_readNumber_b31 (f_X3_readNumber_l31 f) _ _ _ _ _ _ = _; unfold f_X3_readNumber_b31
          rw [C.2.2, if_neg (nI_ge (by omega) (by omega)), c_ltr h (by omega), bind_s, show (10 : Int32) = nI 10 from rfl, pk_mul, nI_add, show (48 : Int32) = nI 48 from rfl, pk_sub (by omega), vdn_s (T := T) (tp T n e) m (by omega) d2.1, bind_s, nI_1, bind_s]
          exact ih
      · rw [if_neg (show ¬ nI (tq T n e - tp T n e) ≤ 2 from nI_ge (a := 2) (b := tq T n e - tp T n e) (by omega) (by omega)), if_neg (fun z => q2 z.2)]
    · rw [if_neg (show ¬ nI (tc T n e) = 2 from fun z => q1 (nI_inj (a := tc T n e) (b := 2) (by omega) (by decide) z)), if_neg (fun z => q1 z.1)]
  constructor
  · intro y
    obtain ⟨y1, y2, y3, y4⟩ := of_decide_eq_true y
    obtain ⟨σ', u1, u2, u3⟩ := c_next hT hq.2.1 h C.2.2
    refine ⟨σ', ?_, u2, u3⟩
    rw [top, if_pos ⟨y1, y2⟩, if_pos ⟨y3, y4⟩, u1, bind_s]
  · intro y
    have y' := of_decide_eq_false y
    rw [top]
    split
    · rename_i y1
      rw [if_neg (fun z => y' ⟨y1.1, y1.2, z.1, z.2⟩)]
    · rfl
theorem m_num (hT : Tb T n) (he : e ≤ n) (h : Tm σ T n) (h18 : σ.1 93 18 = nI e) {a b : Nat} (ha : a < 2 ^ 20) (hb : b ≤ 1000) : ∃ σ', f_X6_number σ 93 (nI a) (nI b - 1) = some (if nm T n e a b then 1 else 0, σ') ∧ MT σ' T n e ∧ Fr TmF σ σ' := by
  have c4 := tc_4 T n e
  obtain ⟨σ', u1, u2, u3⟩ := m_next hT he h h18
  have c2 := cdI_n (c := tc T n e) (k := 2) c4 (by decide)
  have dl := dv_lt hT (tp T n e) (tq T n e)
  refine ⟨σ', ?_, u2, u3⟩
  unfold f_X6_number nm
  rw [u1, bind_s, u2.2.2.1]
  by_cases q1 : tc T n e = 2
  · rw [if_pos (show cdI (tc T n e) = 2 from c2.mpr q1), u2.2.2.2 q1, w_6, iw_n (by omega) ha (by omega), bind_s]
    by_cases w : a ≤ dv T (tp T n e) (tq T n e) ∧ dv T (tp T n e) (tq T n e) < b
    · have q2 : tq T n e - tp T n e ≤ 2 := by
        apply Classical.byContradiction
        intro z
        have : dv T (tp T n e) (tq T n e) = 1000 := if_neg z
        omega
      rw [if_pos w, if_neg (by decide), decide_eq_true ⟨q1, q2, w⟩]
      rfl
    · rw [if_neg w, if_pos rfl, decide_eq_false (fun z => w z.2.2)]
      rfl
  · rw [if_neg (show ¬ cdI (tc T n e) = 2 from fun z => q1 (c2.mp z)), decide_eq_false (fun z => q1 z.1)]
    rfl
end READ
/-! both read the same: a piece of reading from the place e on, the class a token ahead or not -/
def H75 (a _j : Nat) : Prop := 75 ≤ a ∧ a ≤ 90
def CFH (a j : Nat) : Prop := TcF a j ∨ H75 a j
def XG (a j : Nat) : Prop := (a = 93 ∧ j ≠ 16 ∧ j ≠ 23 ∧ ¬ (18 ≤ j ∧ j ≤ 21)) ∨ (97 ≤ a ∧ a ≤ 102)
def RS (T : Nat → Nat) (n e d : Nat) (U : HS) (pm : St → Prop) (fc fm : St → Option (Int32 × St)) : Prop :=
  (∃ e' U', Inv U' ∧ nk U ≤ nk U' ∧ d ≤ e' ∧ e' ≤ n ∧ (∀ σ, Tc σ T n → HC σ 75 U → CT σ T n e → ∃ σ', fc σ = some (1, σ') ∧ HC σ' 75 U' ∧ CT σ' T n e' ∧ Fr CFH σ σ') ∧ ∀ σ, Tm σ T n → HM σ U → pm σ → ∃ σ', fm σ = some (1, σ') ∧ HM σ' U' ∧ MT σ' T n e' ∧ Fr XF σ σ') ∨
  ∃ pf, pf ≤ 250 ∧ (∀ σ, Tc σ T n → HC σ 75 U → CT σ T n e → ∃ σ', fc σ = some (0, σ') ∧ σ'.1 3 3 = nI pf ∧ Fr CFH σ σ') ∧ ∀ σ, Tm σ T n → HM σ U → pm σ → ∃ σ', fm σ = some (0, σ') ∧ σ'.1 93 19 = nI pf ∧ Fr XF σ σ'
section RSS
variable {T : Nat → Nat} {n e d : Nat} {U : HS} {pm : St → Prop} {fc fm : St → Option (Int32 × St)}
theorem TcF_C {a j : Nat} (h : TcF a j) : CFH a j := Or.inl h
theorem TmF_X {a j : Nat} (h : TmF a j) : XF a j := by unfold TmF at h; unfold XF; omega
theorem XG_X {a j : Nat} (h : XG a j) : XF a j := by unfold XG at h; unfold XF; omega
theorem Tc.f2 {σ σ' : St} (h : Tc σ T n) (f : Fr CFH σ σ') : Tc σ' T n := ⟨by rw [f.1 _ _ (by unfold CFH TcF H75; omega)]; exact h.1, fun i hi => by rw [f.1 _ _ (by unfold CFH TcF H75; omega)]; exact h.2 i hi⟩
theorem Tm.f2 {σ σ' : St} (h : Tm σ T n) (f : Fr XF σ σ') : Tm σ' T n := ⟨by rw [f.1 _ _ (by unfold XF; omega)]; exact h.1, fun i hi => by rw [f.1 _ _ (by unfold XF; omega)]; exact h.2 i hi⟩
theorem CT.f2 {σ σ' : St} (h : CT σ T n e) (f : Fr H75 σ σ') : CT σ' T n e := ⟨by rw [f.1 _ _ (by unfold H75; omega)]; exact h.1, by rw [f.1 _ _ (by unfold H75; omega)]; exact h.2.1, by rw [f.1 _ _ (by unfold H75; omega)]; exact h.2.2⟩
theorem MT.f2 {σ σ' : St} (h : MT σ T n e) (f : Fr XG σ σ') : MT σ' T n e := ⟨by rw [f.1 _ _ (by unfold XG; omega)]; exact h.1, by rw [f.1 _ _ (by unfold XG; omega)]; exact h.2.1, by rw [f.1 _ _ (by unfold XG; omega)]; exact h.2.2.1, fun z => by rw [f.1 _ _ (by unfold XG; omega)]; exact h.2.2.2 z⟩
theorem HC.t75 {σ σ' : St} (h : HC σ 75 U) (f : Fr TcF σ σ') : HC σ' 75 U := h.fr f (fun a j u v z => by unfold TcF at z; omega)
theorem HM.tm {σ σ' : St} (h : HM σ U) (f : Fr TmF σ σ') : HM σ' U := h.fr (f.w fun a j z => by unfold TmF at z; unfold MF; omega)
theorem RS.c {pm' : St → Prop} {fc' fm' : St → Option (Int32 × St)} (h : RS T n e d U pm' fc' fm') (h1 : ∀ σ, Tc σ T n → HC σ 75 U → CT σ T n e → fc σ = fc' σ) (h2 : ∀ σ, Tm σ T n → HM σ U → pm σ → pm' σ ∧ fm σ = fm' σ) : RS T n e d U pm fc fm := by
  rcases h with ⟨e', U', a, b, c, c', g1, g2⟩ | ⟨pf, a, g1, g2⟩
  · refine Or.inl ⟨e', U', a, b, c, c', fun σ x1 x2 x3 => ?_, fun σ x1 x2 x3 => ?_⟩
    · rw [h1 σ x1 x2 x3]; exact g1 σ x1 x2 x3
    · obtain ⟨y1, y2⟩ := h2 σ x1 x2 x3
      rw [y2]; exact g2 σ x1 x2 y1
  · refine Or.inr ⟨pf, a, fun σ x1 x2 x3 => ?_, fun σ x1 x2 x3 => ?_⟩
    · rw [h1 σ x1 x2 x3]; exact g1 σ x1 x2 x3
    · obtain ⟨y1, y2⟩ := h2 σ x1 x2 x3
      rw [y2]; exact g2 σ x1 x2 y1
/-- the model takes its next token -/
theorem RS.syn {km : St → Option (Int32 × St)} (hT : Tb T n) (he : e ≤ n) (h : RS T n e d U (fun σ => MT σ T n e) fc km) : RS T n e d U (fun σ => σ.1 93 18 = nI e) fc (fun σ => (f_X6_next σ 93).bind km) := by
  rcases h with ⟨e', U', a, b, c, c', g1, g2⟩ | ⟨pf, a, g1, g2⟩
  · refine Or.inl ⟨e', U', a, b, c, c', g1, fun σ x1 x2 x3 => ?_⟩
    obtain ⟨σ1, u1, u2, u3⟩ := m_next hT he x1 x3
    obtain ⟨σ2, w1, w2, w3, w4⟩ := g2 σ1 (x1.fr u3) (x2.tm u3) u2
    exact ⟨σ2, bind_e u1 w1, w2, w3, (u3.w fun _ _ => TmF_X).t w4⟩
  · refine Or.inr ⟨pf, a, g1, fun σ x1 x2 x3 => ?_⟩
    obtain ⟨σ1, u1, u2, u3⟩ := m_next hT he x1 x3
    obtain ⟨σ2, w1, w2, w3⟩ := g2 σ1 (x1.fr u3) (x2.tm u3) u2
    exact ⟨σ2, bind_e u1 w1, w2, (u3.w fun _ _ => TmF_X).t w3⟩
/-- the class goes ahead by a token -/
theorem RS.cad {kc : St → Option (Int32 × St)} (hT : Tb T n) (he : e ≤ n) (h : RS T n (tq T n e) d U (fun σ => σ.1 93 18 = nI (tq T n e)) kc fm) : RS T n e d U (fun σ => MT σ T n e) (fun σ => (f_X3_toNextToken σ 3).bind kc) fm := by
  have hq := tq_le (T := T) he
  rcases h with ⟨e', U', a, b, c, c', g1, g2⟩ | ⟨pf, a, g1, g2⟩
  · refine Or.inl ⟨e', U', a, b, c, c', fun σ x1 x2 x3 => ?_, fun σ x1 x2 x3 => g2 σ x1 x2 x3.1⟩
    obtain ⟨σ1, u1, u2, u3⟩ := c_next hT hq.2.1 x1 x3.2.2
    obtain ⟨σ2, w1, w2, w3, w4⟩ := g1 σ1 (x1.fr u3) (x2.t75 u3) u2
    exact ⟨σ2, bind_e u1 w1, w2, w3, (u3.w fun _ _ => TcF_C).t w4⟩
  · refine Or.inr ⟨pf, a, fun σ x1 x2 x3 => ?_, fun σ x1 x2 x3 => g2 σ x1 x2 x3.1⟩
    obtain ⟨σ1, u1, u2, u3⟩ := c_next hT hq.2.1 x1 x3.2.2
    obtain ⟨σ2, w1, w2, w3⟩ := g1 σ1 (x1.fr u3) (x2.t75 u3) u2
    exact ⟨σ2, bind_e u1 w1, w2, (u3.w fun _ _ => TcF_C).t w3⟩
/-- a number -/
theorem RS.num {kc km : Int32 → St → Option (Int32 × St)} (hT : Tb T n) (he : e ≤ n) (a b : Nat) (ha : a < 2 ^ 20) (hb : b ≤ 1000) (h : ∀ v, a ≤ v → v < b → RS T n (tq T n e) d U (fun σ => σ.1 93 18 = nI (tq T n e)) (kc (nI v)) (km (nI v))) : RS T n e d U (fun σ => σ.1 93 18 = nI e) (fun σ => b2 (f_X3_readNumber σ 3 (nI a) (nI b - 1)) fun v s => if v = -1 then some (0, s) else kc v s) (fun σ => b2 (f_X6_number σ 93 (nI a) (nI b - 1)) fun v s => if v = 0 then some (0, s) else km (s.1 93 21) s) := by
  have hn := hT.1
  have hp := tp_le (T := T) he
  cases y : nm T n e a b
  · refine Or.inr ⟨tp T n e, by omega, fun σ x1 x2 x3 => ?_, fun σ x1 x2 x3 => ?_⟩
    · refine ⟨σ, ?_, x3.2.1, Fr.r _⟩
      exact b2_e ((c_num hT he x1 x3 ha (by omega)).2 y) (if_pos rfl)
    · obtain ⟨σ', u1, u2, u3⟩ := m_num hT he x1 x3 ha hb
      rw [y] at u1
      exact ⟨σ', b2_e u1 (if_pos rfl), u2.2.1, u3.w fun _ _ => TmF_X⟩
  · obtain ⟨y1, y2, y3, y4⟩ := of_decide_eq_true y
    have dl := dv_lt hT (tp T n e) (tq T n e)
    have hne : ¬ nI (dv T (tp T n e) (tq T n e)) = -1 := nm1_ne _ (by omega)
    rcases h (dv T (tp T n e) (tq T n e)) y3 y4 with ⟨e', U', a1, a2, a3, a4, g1, g2⟩ | ⟨pf, a1, g1, g2⟩
    · refine Or.inl ⟨e', U', a1, a2, a3, a4, fun σ x1 x2 x3 => ?_, fun σ x1 x2 x3 => ?_⟩
      · obtain ⟨σ1, u1, u2, u3⟩ := (c_num hT he x1 x3 ha (by omega)).1 y
        obtain ⟨σ2, w1, w2, w3, w4⟩ := g1 σ1 (x1.fr u3) (x2.t75 u3) u2
        exact ⟨σ2, b2_e u1 ((if_neg hne).trans w1), w2, w3, (u3.w fun _ _ => TcF_C).t w4⟩
      · obtain ⟨σ1, u1, u2, u3⟩ := m_num hT he x1 x3 ha hb
        rw [y] at u1
        obtain ⟨σ2, w1, w2, w3, w4⟩ := g2 σ1 (x1.fr u3) (x2.tm u3) u2.1
        rw [← u2.2.2.2 y1] at w1
        exact ⟨σ2, b2_e u1 ((if_neg (by decide)).trans w1), w2, w3, (u3.w fun _ _ => TmF_X).t w4⟩
    · refine Or.inr ⟨pf, a1, fun σ x1 x2 x3 => ?_, fun σ x1 x2 x3 => ?_⟩
      · obtain ⟨σ1, u1, u2, u3⟩ := (c_num hT he x1 x3 ha (by omega)).1 y
        obtain ⟨σ2, w1, w2, w3⟩ := g1 σ1 (x1.fr u3) (x2.t75 u3) u2
        exact ⟨σ2, b2_e u1 ((if_neg hne).trans w1), w2, (u3.w fun _ _ => TcF_C).t w3⟩
      · obtain ⟨σ1, u1, u2, u3⟩ := m_num hT he x1 x3 ha hb
        rw [y] at u1
        obtain ⟨σ2, w1, w2, w3⟩ := g2 σ1 (x1.fr u3) (x2.tm u3) u2.1
        rw [← u2.2.2.2 y1] at w1
        exact ⟨σ2, b2_e u1 ((if_neg (by decide)).trans w1), w2, (u3.w fun _ _ => TmF_X).t w3⟩
/-- both houses change alike -/
theorem RS.upd {U' : HS} {pm' : St → Prop} {kc km : St → Option (Int32 × St)} (hn : nk U ≤ nk U') (h : RS T n e d U' pm' kc km) (h1 : ∀ σ, Tc σ T n → HC σ 75 U → CT σ T n e → ∃ σ', fc σ = kc σ' ∧ HC σ' 75 U' ∧ Fr H75 σ σ') (h2 : ∀ σ, Tm σ T n → HM σ U → pm σ → ∃ σ', fm σ = km σ' ∧ HM σ' U' ∧ pm' σ' ∧ Fr XG σ σ') : RS T n e d U pm fc fm := by
  rcases h with ⟨e', U2, a1, a2, a3, a4, g1, g2⟩ | ⟨pf, a1, g1, g2⟩
  · refine Or.inl ⟨e', U2, a1, by omega, a3, a4, fun σ x1 x2 x3 => ?_, fun σ x1 x2 x3 => ?_⟩
    · obtain ⟨σ1, u1, u2, u3⟩ := h1 σ x1 x2 x3
      obtain ⟨σ2, w1, w2, w3, w4⟩ := g1 σ1 (x1.f2 (u3.w fun _ _ z => Or.inr z)) u2 (x3.f2 u3)
      exact ⟨σ2, u1.trans w1, w2, w3, (u3.w fun _ _ z => Or.inr z).t w4⟩
    · obtain ⟨σ1, u1, u2, u3, u4⟩ := h2 σ x1 x2 x3
      obtain ⟨σ2, w1, w2, w3, w4⟩ := g2 σ1 (x1.f2 (u4.w fun _ _ => XG_X)) u2 u3
      exact ⟨σ2, u1.trans w1, w2, w3, (u4.w fun _ _ => XG_X).t w4⟩
  · refine Or.inr ⟨pf, a1, fun σ x1 x2 x3 => ?_, fun σ x1 x2 x3 => ?_⟩
    · obtain ⟨σ1, u1, u2, u3⟩ := h1 σ x1 x2 x3
      obtain ⟨σ2, w1, w2, w3⟩ := g1 σ1 (x1.f2 (u3.w fun _ _ z => Or.inr z)) u2 (x3.f2 u3)
      exact ⟨σ2, u1.trans w1, w2, (u3.w fun _ _ z => Or.inr z).t w3⟩
    · obtain ⟨σ1, u1, u2, u3, u4⟩ := h2 σ x1 x2 x3
      obtain ⟨σ2, w1, w2, w3⟩ := g2 σ1 (x1.f2 (u4.w fun _ _ => XG_X)) u2 u3
      exact ⟨σ2, u1.trans w1, w2, (u4.w fun _ _ => XG_X).t w3⟩
theorem RS.end' (I : Inv U) (hd : d ≤ e) (he : e ≤ n) : RS T n e d U (fun σ => MT σ T n e) (fun σ => some (1, σ)) (fun σ => some (1, σ)) := Or.inl ⟨e, U, I, Nat.le_refl _, hd, he, fun σ _ x2 x3 => ⟨σ, rfl, x2, x3, Fr.r _⟩, fun σ _ x2 x3 => ⟨σ, rfl, x2, x3, Fr.r _⟩⟩
theorem RS.fin (hT : Tb T n) (I : Inv U) (hd : d ≤ e) (he : e ≤ n) : RS T n e d U (fun σ => σ.1 93 18 = nI e) (fun σ => some (1, σ)) (fun σ => (f_X6_next σ 93).bind fun s => some (1, s)) := RS.syn hT he (RS.end' I hd he)
theorem RS.no (hT : Tb T n) (he : e ≤ n) : RS T n e d U (fun σ => MT σ T n e) (fun σ => some (0, σ)) (fun σ => some (0, σ)) := Or.inr ⟨tp T n e, by have := tp_le (T := T) he; have := hT.1; omega, fun σ _ x2 x3 => ⟨σ, rfl, x3.2.1, Fr.r _⟩, fun σ _ x2 x3 => ⟨σ, rfl, x3.2.1, Fr.r _⟩⟩
theorem RS.b (h : RS T n e d U pm fc fm) : RS T n e d U pm (fun σ => b2 (fc σ) fun v s => if v = 0 then some (0, s) else some (1, s)) fm := by
  rcases h with ⟨e', U', a, b, c, c', g1, g2⟩ | ⟨pf, a, g1, g2⟩
  · refine Or.inl ⟨e', U', a, b, c, c', fun σ x1 x2 x3 => ?_, g2⟩
    obtain ⟨σ', u1, u2⟩ := g1 σ x1 x2 x3
    exact ⟨σ', b2_e u1 (if_neg (by decide)), u2⟩
  · refine Or.inr ⟨pf, a, fun σ x1 x2 x3 => ?_, g2⟩
    obtain ⟨σ', u1, u2⟩ := g1 σ x1 x2 x3
    exact ⟨σ', b2_e u1 (if_pos rfl), u2⟩
theorem RS.i (h : RS T n e d U pm fc fm) : RS T n e d U pm (fun σ => b2 (fc σ) fun v s => some (v, s)) fm := by
  rcases h with ⟨e', U', a, b, c, c', g1, g2⟩ | ⟨pf, a, g1, g2⟩
  · refine Or.inl ⟨e', U', a, b, c, c', fun σ x1 x2 x3 => ?_, g2⟩
    obtain ⟨σ', u1, u2⟩ := g1 σ x1 x2 x3
    exact ⟨σ', b2_e u1 rfl, u2⟩
  · refine Or.inr ⟨pf, a, fun σ x1 x2 x3 => ?_, g2⟩
    obtain ⟨σ', u1, u2⟩ := g1 σ x1 x2 x3
    exact ⟨σ', b2_e u1 rfl, u2⟩
end RSS
