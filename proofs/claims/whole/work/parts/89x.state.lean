/-! a statement, read by both -/
noncomputable def mA0 (σ : St) : Option (Int32 × St) := b2 (f_X6_number σ 93 1 5) fun v s => if v = 0 then some (0, s) else (ptI s 93 3 (s.1 93 21)).bind fun s1 => (f_X6_next s1 93).bind fun s2 => some (1, s2)
noncomputable def mA1 (σ : St) : Option (Int32 × St) := b2 (f_X6_number σ 93 1 4) fun v s => if v = 0 then some (0, s) else (ptI s 93 4 (s.1 93 21)).bind fun s1 => (f_X6_next s1 93).bind fun s2 => some (1, s2)
noncomputable def mA2 (σ : St) : Option (Int32 × St) := b2 (f_X6_number σ 93 1 20) fun v s => if v = 0 then some (0, s) else (ptI s 93 5 (s.1 93 21)).bind fun s1 => (f_X6_next s1 93).bind fun s2 => some (1, s2)
noncomputable def mA3 (σ : St) : Option (Int32 × St) := b2 (f_X6_number σ 93 0 5) fun v_150 s_150 => (if v_150 = 0 then (some (0, s_150)) else ((some (s_150.1 93 21) : Option Int32).bind fun y_162 => (b2 (f_X6_number s_150 93 0 9) fun v_167 s_167 => (if v_167 = 0 then (some (0, s_167)) else (b2 (f_X6_newKey s_167 93 y_162 (s_167.1 93 21)) fun v_181 s_181 => ((f_X6_next s_181 93).bind fun s_186 => ((f_X6_isWord s_186 93 4).bind fun v_192 => (if v_192 = 0 then (some (1, s_186)) else (f_X6_statement_l203 FU s_186 93 v_181 0)))))))))
noncomputable def mA5 (σ : St) : Option (Int32 × St) := b2 (f_X6_newLock σ 93 0) fun v_273 s_273 => ((f_X6_next s_273 93).bind fun s_278 => ((f_X6_isWord s_278 93 6).bind fun v_284 => (if v_284 = 0 then (f_X6_statement_b338 s_278 93 v_273) else (f_X6_statement_l292 FU s_278 93 v_273 0))))
noncomputable def mA8 (σ : St) : Option (Int32 × St) := b2 (f_X6_number σ 93 0 ((σ.1 93 6) - 1)) fun v_379 s_379 => (if v_379 = 0 then (some (0, s_379)) else ((some (s_379.1 93 21) : Option Int32).bind fun y_391 => (b2 (f_X6_number s_379 93 0 ((s_379.1 93 11) - 1)) fun v_400 s_400 => (if v_400 = 0 then (some (0, s_400)) else ((ldI s_400 99 y_391).bind fun v_414 => ((stI s_400 99 y_391 (v_414 ||| (1 <<< ((s_400.1 93 21) &&& 31)))).bind fun s_422 => ((f_X6_next s_422 93).bind fun s_424 => (some (1, s_424)))))))))
noncomputable def mR8 (T : Nat → Nat) (n e : Nat) (σ : St) : Option (Int32 × St) := if wd T n e 8 = true then mA8 σ else some (0, σ)
noncomputable def mR5 (T : Nat → Nat) (n e : Nat) (U : HS) (σ : St) : Option (Int32 × St) := if nl U < 8 ∧ wd T n e 5 = true then mA5 σ else mR8 T n e σ
noncomputable def mR3 (T : Nat → Nat) (n e : Nat) (U : HS) (σ : St) : Option (Int32 × St) := if nk U < 6 ∧ wd T n e 3 = true then mA3 σ else mR5 T n e U σ
noncomputable def mR2 (T : Nat → Nat) (n e : Nat) (U : HS) (σ : St) : Option (Int32 × St) := if wd T n e 2 = true then mA2 σ else mR3 T n e U σ
noncomputable def mR1 (T : Nat → Nat) (n e : Nat) (U : HS) (σ : St) : Option (Int32 × St) := if (nk U = 0 ∧ nl U = 0) ∧ wd T n e 1 = true then mA1 σ else mR2 T n e U σ
noncomputable def mR0 (T : Nat → Nat) (n e : Nat) (U : HS) (σ : St) : Option (Int32 × St) := if (nk U = 0 ∧ nl U = 0) ∧ wd T n e 0 = true then mA0 σ else mR1 T n e U σ
section STATE
variable {T : Nat → Nat} {n e : Nat} {U : HS}
theorem m_st {σ : St} (hT : Tb T n) (he : e ≤ n) (x1 : Tm σ T n) (x2 : HM σ U) (I : Inv U) (x3 : MT σ T n e) : f_X6_statement σ 93 = mR0 T n e U σ := by
  have n6 := I.1.2.2.2.2.2.2.1
  have n8 := I.1.2.2.2.2.2.2.2
  have W : ∀ i, i < 9 → f_X6_isWord σ 93 i = some (if wd T n e i then 1 else 0) := fun i hi => m_word hT he x1 x3 hi
  have E8 : f_X6_statement_b362 σ 93 = mR8 T n e σ := by
    unfold f_X6_statement_b362 mR8
    rw [W 8 (by decide)]
    cases wd T n e 8
    · rw [if_neg Bool.false_ne_true, bind_s, if_pos rfl, if_neg Bool.false_ne_true]
    · rw [if_pos rfl, bind_s, if_neg (by decide), if_pos rfl]
      rfl
  have E5 : f_X6_statement_b253 σ 93 = mR5 T n e U σ := by
    unfold f_X6_statement_b253 mR5
    rw [x2.1.2.2.2.2.1, W 5 (by decide), E8]
    by_cases q : nl U < 8
    · rw [if_neg (show ¬ (8 : Int32) ≤ nI (nl U) from nI_ge (a := nl U) (b := 8) q (by decide))]
      cases wd T n e 5
      · rw [if_neg Bool.false_ne_true, bind_s, if_pos rfl, if_neg (fun z => Bool.false_ne_true z.2)]
      · rw [if_pos rfl, bind_s, if_neg (by decide), if_pos ⟨q, rfl⟩]
        rfl
    · rw [if_pos (show (8 : Int32) ≤ nI (nl U) from nI_le (a := 8) (b := nl U) (by omega) (by omega)), if_neg (fun z => q z.1)]
  have E2 : f_X6_statement_b94 σ 93 = mR2 T n e U σ := by
    unfold f_X6_statement_b94 mR2 mR3
    rw [W 2 (by decide)]
    cases wd T n e 2
    · rw [if_neg Bool.false_ne_true, bind_s, if_pos rfl, if_neg Bool.false_ne_true, x2.1.2.2.2.1, W 3 (by decide), E5]
      by_cases q : nk U < 6
      · rw [if_neg (show ¬ (6 : Int32) ≤ nI (nk U) from nI_ge (a := nk U) (b := 6) q (by decide))]
        cases wd T n e 3
        · rw [if_neg Bool.false_ne_true, bind_s, if_pos rfl, if_neg (fun z => Bool.false_ne_true z.2)]
        · rw [if_pos rfl, bind_s, if_neg (by decide), if_pos ⟨q, rfl⟩]
          rfl
      · rw [if_pos (show (6 : Int32) ≤ nI (nk U) from nI_le (a := 6) (b := nk U) (by omega) (by omega)), if_neg (fun z => q z.1)]
    · rw [if_pos rfl, bind_s, if_neg (by decide), if_pos rfl]
      rfl
  unfold f_X6_statement f_X6_statement_b17 f_X6_statement_b56 mR0 mR1
  rw [m_emp x2, E2]
  by_cases q : nk U = 0 ∧ nl U = 0
  · rw [if_pos (by rw [q.1, q.2]; rfl), if_neg (by decide), if_neg (by decide), W 0 (by decide), W 1 (by decide)]
    cases wd T n e 0
    · rw [if_neg Bool.false_ne_true, bind_s, if_pos rfl, if_neg (show ¬ ((nk U = 0 ∧ nl U = 0) ∧ false = true) from fun z => Bool.false_ne_true z.2)]
      cases wd T n e 1
      · rw [if_neg Bool.false_ne_true, bind_s, if_pos rfl, if_neg (show ¬ ((nk U = 0 ∧ nl U = 0) ∧ false = true) from fun z => Bool.false_ne_true z.2)]
      · rw [if_pos rfl, bind_s, if_neg (by decide), if_pos ⟨q, rfl⟩]
        rfl
    · rw [if_pos rfl, bind_s, if_neg (by decide), if_pos ⟨q, rfl⟩]
      rfl
  · have h0 : ¬ nI (nk U + nl U) = 0 := fun z => q (by have := nI_inj (a := nk U + nl U) (b := 0) (by omega) (by decide) z; omega)
    rw [if_neg h0, if_pos rfl, if_pos rfl, if_neg (show ¬ ((nk U = 0 ∧ nl U = 0) ∧ _) from fun z => q z.1), if_neg (show ¬ ((nk U = 0 ∧ nl U = 0) ∧ _) from fun z => q z.1)]
theorem wd_q {i : Nat} (he : e ≤ n) (h : wd T n e i = true) : e + 1 ≤ tq T n e := by
  unfold wd at h
  rw [Bool.and_eq_true] at h
  have a := of_decide_eq_true h.1
  have h1 := tp_le (T := T) he
  have h2 := (tq_le (T := T) he).2.2 (by omega)
  omega
theorem wd_0 {i : Nat} (h : tc T n e ≠ 1) : wd T n e i = false := by
  unfold wd
  rw [decide_eq_false (fun z => h z.1), Bool.false_and]
theorem st_RS (hT : Tb T n) (he : e ≤ n) (I : Inv U) : RS T n e (e + 1) U (fun σ => MT σ T n e) (fun σ => f_X3_readStatement σ 3 75) (fun σ => f_X6_statement σ 93) := by
  have n6 := I.1.2.2.2.2.2.2.1
  have n8 := I.1.2.2.2.2.2.2.2
  have hq := tq_le (T := T) he
  cases w0 : wd T n e 0
  · cases w1 : wd T n e 1
    · cases w2 : wd T n e 2
      · cases w3 : wd T n e 3
        · cases w5 : wd T n e 5
          · cases w8 : wd T n e 8
            · refine RS.c (RS.no hT he) (fun σ x1 x2 x3 => ?_) (fun σ x1 x2 x3 => ⟨x3, ?_⟩)
              · rw [c_st hT he x1 x3]
                simp [w0, w1, w2, w3, w5, w8]
              · rw [m_st hT he x1 x2 I x3]
                simp [mR0, mR1, mR2, mR3, mR5, mR8, w0, w1, w2, w3, w5, w8]
            · refine RS.c (RS.cad hT he (RS.b (rs_may hT hq.2.1 (wd_q he w8) I))) (fun σ x1 x2 x3 => ?_) (fun σ x1 x2 x3 => ⟨x3, ?_⟩)
              · rw [c_st hT he x1 x3, w0, w1, w2, w3, w5, w8]
                rfl
              · rw [m_st hT he x1 x2 I x3]
                unfold mR0 mR1 mR2 mR3 mR5 mR8
                rw [w0, w1, w2, w3, w5, w8, if_neg (fun z => Bool.false_ne_true z.2), if_neg (fun z => Bool.false_ne_true z.2), if_neg Bool.false_ne_true, if_neg (fun z => Bool.false_ne_true z.2), if_neg (fun z => Bool.false_ne_true z.2), if_pos rfl]
                rfl
          · have w8 := wd_u (by decide) (by decide) w5 (show 5 ≠ 8 by decide)
            by_cases q : nl U < 8
            · refine RS.c (RS.i (rs_lock hT he (wd_q he w5) I q)) (fun σ x1 x2 x3 => ?_) (fun σ x1 x2 x3 => ⟨x3, ?_⟩)
              · rw [c_st hT he x1 x3, w0, w1, w2, w3, w5]
                rfl
              · rw [m_st hT he x1 x2 I x3]
                unfold mR0 mR1 mR2 mR3 mR5
                rw [w0, w1, w2, w3, w5, if_neg (fun z => Bool.false_ne_true z.2), if_neg (fun z => Bool.false_ne_true z.2), if_neg Bool.false_ne_true, if_neg (fun z => Bool.false_ne_true z.2), if_pos ⟨q, rfl⟩]
                rfl
            · refine RS.c (RS.no hT he) (fun σ x1 x2 x3 => ?_) (fun σ x1 x2 x3 => ⟨x3, ?_⟩)
              · rw [c_st hT he x1 x3, w0, w1, w2, w3, w5]
                show (b2 (f_X3_readLock σ 3 75) fun v s => some (v, s)) = some (0, σ)
                unfold f_X3_readLock
                rw [x2.1.2.2.2.2.2.2.1, if_neg (show ¬ nI (nl U) < 8 from fun z => q ((nI_ltI (a := nl U) (b := 8) (by omega) (by decide)).mp z)), b2_s]
              · rw [m_st hT he x1 x2 I x3]
                simp [mR0, mR1, mR2, mR3, mR5, mR8, w0, w1, w2, w3, w5, w8, q]
        · have w5 := wd_u (by decide) (by decide) w3 (show 3 ≠ 5 by decide)
          have w8 := wd_u (by decide) (by decide) w3 (show 3 ≠ 8 by decide)
          by_cases q : nk U < 6
          · refine RS.c (RS.i (rs_key hT he (wd_q he w3) I q)) (fun σ x1 x2 x3 => ?_) (fun σ x1 x2 x3 => ⟨x3, ?_⟩)
            · rw [c_st hT he x1 x3, w0, w1, w2, w3]
              rfl
            · rw [m_st hT he x1 x2 I x3]
              unfold mR0 mR1 mR2 mR3
              rw [w0, w1, w2, w3, if_neg (fun z => Bool.false_ne_true z.2), if_neg (fun z => Bool.false_ne_true z.2), if_neg Bool.false_ne_true, if_pos ⟨q, rfl⟩]
              rfl
          · refine RS.c (RS.no hT he) (fun σ x1 x2 x3 => ?_) (fun σ x1 x2 x3 => ⟨x3, ?_⟩)
            · rw [c_st hT he x1 x3, w0, w1, w2, w3]
              show (b2 (f_X3_readKey σ 3 75) fun v s => some (v, s)) = some (0, σ)
              unfold f_X3_readKey
              rw [x2.1.2.2.2.2.2.1, if_neg (show ¬ nI (nk U) < 6 from fun z => q ((nI_ltI (a := nk U) (b := 6) (by omega) (by decide)).mp z)), b2_s]
            · rw [m_st hT he x1 x2 I x3]
              simp [mR0, mR1, mR2, mR3, mR5, mR8, w0, w1, w2, w3, w5, w8, q]
      · refine RS.c (RS.cad hT he (RS.i (rs_strength hT hq.2.1 (wd_q he w2) I))) (fun σ x1 x2 x3 => ?_) (fun σ x1 x2 x3 => ⟨x3, ?_⟩)
        · rw [c_st hT he x1 x3, w0, w1, w2]
          rfl
        · rw [m_st hT he x1 x2 I x3]
          unfold mR0 mR1 mR2
          rw [w0, w1, w2, if_neg (fun z => Bool.false_ne_true z.2), if_neg (fun z => Bool.false_ne_true z.2), if_pos rfl]
          rfl
    · have w2 := wd_u (by decide) (by decide) w1 (show 1 ≠ 2 by decide)
      have w3 := wd_u (by decide) (by decide) w1 (show 1 ≠ 3 by decide)
      have w5 := wd_u (by decide) (by decide) w1 (show 1 ≠ 5 by decide)
      have w8 := wd_u (by decide) (by decide) w1 (show 1 ≠ 8 by decide)
      by_cases q : nk U = 0 ∧ nl U = 0
      · refine RS.c (RS.i (rs_deep hT he (wd_q he w1) I q)) (fun σ x1 x2 x3 => ?_) (fun σ x1 x2 x3 => ⟨x3, ?_⟩)
        · rw [c_st hT he x1 x3, w0, w1]
          rfl
        · rw [m_st hT he x1 x2 I x3]
          unfold mR0 mR1
          rw [w0, w1, if_neg (fun z => Bool.false_ne_true z.2), if_pos ⟨q, rfl⟩]
          rfl
      · refine RS.c (RS.no hT he) (fun σ x1 x2 x3 => ?_) (fun σ x1 x2 x3 => ⟨x3, ?_⟩)
        · rw [c_st hT he x1 x3, w0, w1]
          show (b2 (f_X3_readDeep σ 3 75) fun v s => some (v, s)) = some (0, σ)
          unfold f_X3_readDeep
          rw [c_emp x2 I, if_neg q, bind_s, if_pos rfl, b2_s]
        · rw [m_st hT he x1 x2 I x3]
          simp [mR0, mR1, mR2, mR3, mR5, mR8, w0, w1, w2, w3, w5, w8]
          exact fun a b => absurd ⟨a, b⟩ q
  · have w1 := wd_u (by decide) (by decide) w0 (show 0 ≠ 1 by decide)
    have w2 := wd_u (by decide) (by decide) w0 (show 0 ≠ 2 by decide)
    have w3 := wd_u (by decide) (by decide) w0 (show 0 ≠ 3 by decide)
    have w5 := wd_u (by decide) (by decide) w0 (show 0 ≠ 5 by decide)
    have w8 := wd_u (by decide) (by decide) w0 (show 0 ≠ 8 by decide)
    by_cases q : nk U = 0 ∧ nl U = 0
    · refine RS.c (RS.i (rs_places hT he (wd_q he w0) I q)) (fun σ x1 x2 x3 => ?_) (fun σ x1 x2 x3 => ⟨x3, ?_⟩)
      · rw [c_st hT he x1 x3, w0]
        rfl
      · rw [m_st hT he x1 x2 I x3]
        unfold mR0
        rw [w0, if_pos ⟨q, rfl⟩]
        rfl
    · refine RS.c (RS.no hT he) (fun σ x1 x2 x3 => ?_) (fun σ x1 x2 x3 => ⟨x3, ?_⟩)
      · rw [c_st hT he x1 x3, w0]
        show (b2 (f_X3_readPlaces σ 3 75) fun v s => some (v, s)) = some (0, σ)
        unfold f_X3_readPlaces
        rw [c_emp x2 I, if_neg q, bind_s, if_pos rfl, b2_s]
      · rw [m_st hT he x1 x2 I x3]
        simp [mR0, mR1, mR2, mR3, mR5, mR8, w0, w1, w2, w3, w5, w8]
        exact fun a b => absurd ⟨a, b⟩ q
end STATE
