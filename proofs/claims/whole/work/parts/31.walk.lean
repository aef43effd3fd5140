-- X3_readWord
set_option maxHeartbeats 4000000 in
set_option maxRecDepth 100000 in
theorem w_X3_readWord_b0 {X : CX} (C : Cok X RX3 cX3_readWord 2 5 107) {σ' : St} {r : Int32} (hr : RtZ X cX3_readWord r σ') (σ : St) (x0 : Nat) (x1 : Nat) (hx0 : kd x0 = 4) (hx1 : x1 < 9) (h : f_X3_readWord σ x0 x1 = some (r, σ')) : V X σ 0 [(0, .ref ((xG X).1 x0)), (1, .ref ((xG X).2.2.2.1 x1))] [] := by
  unfold f_X3_readWord at h
  refine r_aload_n C 0 (q := 1) dX3_readWord_0 rfl rfl ?_
  refine r_aload_n C 1 (q := 2) dX3_readWord_1 rfl rfl ?_
  obtain ⟨v_2, e_2, h⟩ := bs h
  refine r_callV C (ci := 3) (st := []) (st2 := [.int v_2]) (q := 5) (m_X3_isWord (xG X) (xl X) hx0 hx1 e_2) ok_X3_isWord hx0 rfl ⟨_, rfl⟩ q_527 rfl ⟨Nat.le_of_ble_eq_true rfl, Nat.le_of_ble_eq_true rfl⟩ rfl rfl (Nat.le_of_ble_eq_true rfl) dX3_readWord_2 rfl (fun hp_2 => ?_)
  refine r_if_ne C (tgt := 10) (q := 8) dX3_readWord_5 (by decide) rfl (fun c_5 => ?_) (fun c_5 => ?_)
  · replace h := (if_neg c_5).symm.trans h
    refine r_aload_n C 0 (q := 11) dX3_readWord_10 rfl rfl ?_
    obtain ⟨s_11, e_11, h⟩ := bs h
    refine r_callV C (ci := 3) (st := []) (st2 := []) (q := 14) (m_X3_toNextToken (xG X) (xl X) hx0 e_11) ok_X3_toNextToken hx0 rfl ⟨_, rfl⟩ q_513 rfl ⟨Nat.le_of_ble_eq_true rfl, Nat.le_of_ble_eq_true rfl⟩ rfl rfl (Nat.le_of_ble_eq_true rfl) dX3_readWord_11 rfl (fun hp_11 => ?_)
    refine r_iconst C (v := 1) (q := 15) dX3_readWord_14 (by decide) rfl ?_
    obtain ⟨rfl, rfl⟩ := Prod.mk.inj (Option.some.inj h)
    exact hr _ _ dX3_readWord_15 (Or.inr rfl)
  · replace h := (if_pos c_5).symm.trans h
    refine r_iconst C (v := 0) (q := 9) dX3_readWord_8 (by decide) rfl ?_
    obtain ⟨rfl, rfl⟩ := Prod.mk.inj (Option.some.inj h)
    exact hr _ _ dX3_readWord_9 (Or.inl rfl)

theorem m_X3_readWord (G : Gm) (l : Launch) {σ σ' : St} {x0 : Nat} {x1 : Nat} (hx0 : kd x0 = 4) (hx1 : x1 < 9) {r : Int32} (h : f_X3_readWord σ x0 x1 = some (r, σ')) : Ctr G l yX3_readWord cX3_readWord 2 (some .boolean) 5 107 [.ref (G.1 x0), .ref (G.2.2.2.1 x1)] σ (some (.int r)) (r = 0 ∨ r = 1) σ' := by
  refine Ctr.z (by decide) (Nat.le_of_ble_eq_true rfl) ?_
  intro X hG C hr
  subst hG
  exact w_X3_readWord_b0 C hr _ _ _ hx0 hx1 h
-- X3_readStrength
set_option maxHeartbeats 4000000 in
set_option maxRecDepth 100000 in
theorem w_X3_readStrength_b22 {X : CX} (C : Cok X RX3 cX3_readStrength 3 3 65) {σ' : St} {r : Int32} (hr : RtZ X cX3_readStrength r σ') (σ : St) (x2 : Int32) (t0 : Nat) (t1 : Int32) (ht0 : kd t0 = 1) (h : f_X3_readStrength_b22 σ x2 t0 t1 = some (r, σ')) : V X σ 22 [(2, .int x2)] [.int t1, .ref ((xG X).1 t0)] := by
  unfold f_X3_readStrength_b22 at h
  obtain ⟨s_22, e_22, h⟩ := bs h
  refine p_X0_2 C (q := 25) dX3_readStrength_22 q_71 ht0 e_22 rfl ?_
  refine r_iload_n C 0 (q := 26) dX3_readStrength_25 rfl rfl ?_
  refine r_iconst C (v := (-1)) (q := 27) dX3_readStrength_26 (by decide) rfl ?_
  refine r_icmp_eq C (tgt := 34) (q := 30) dX3_readStrength_27 (by decide) rfl (fun c_27 => ?_) (fun c_27 => ?_)
  · replace h := (if_pos c_27).symm.trans h
    refine r_iconst C (v := 0) (q := 35) dX3_readStrength_34 (by decide) rfl ?_
    obtain ⟨rfl, rfl⟩ := Prod.mk.inj (Option.some.inj h)
    exact hr _ _ dX3_readStrength_35 (Or.inl rfl)
  · replace h := (if_neg c_27).symm.trans h
    refine r_iconst C (v := 1) (q := 31) dX3_readStrength_30 (by decide) rfl ?_
    refine r_goto C (tgt := 35) dX3_readStrength_31 (by decide) ?_
    obtain ⟨rfl, rfl⟩ := Prod.mk.inj (Option.some.inj h)
    exact hr _ _ dX3_readStrength_35 (Or.inr rfl)

set_option maxHeartbeats 4000000 in
set_option maxRecDepth 100000 in
theorem w_X3_readStrength_b0 {X : CX} (C : Cok X RX3 cX3_readStrength 3 3 65) {σ' : St} {r : Int32} (hr : RtZ X cX3_readStrength r σ') (σ : St) (x0 : Nat) (x1 : Nat) (hx0 : kd x0 = 4) (hx1 : kd x1 = 1) (h : f_X3_readStrength σ x0 x1 = some (r, σ')) : V X σ 0 [(0, .ref ((xG X).1 x0)), (1, .ref ((xG X).1 x1))] [] := by
  unfold f_X3_readStrength at h
  refine r_aload_n C 0 (q := 1) dX3_readStrength_0 rfl rfl ?_
  refine r_iconst C (v := 1) (q := 2) dX3_readStrength_1 (by decide) rfl ?_
  refine r_bipush C (v := 20) (q := 4) dX3_readStrength_2 (by decide) rfl ?_
  obtain ⟨v_4, s_4, e_4, h⟩ := bs2 h
  refine r_callV C (ci := 3) (st := []) (st2 := [.int v_4]) (q := 7) (m_X3_readNumber (xG X) (xl X) hx0 e_4) ok_X3_readNumber hx0 rfl ⟨_, rfl⟩ q_584 rfl ⟨Nat.le_of_ble_eq_true rfl, Nat.le_of_ble_eq_true rfl⟩ rfl rfl (Nat.le_of_ble_eq_true rfl) dX3_readStrength_4 rfl (fun hp_4 => ?_)
  refine r_istore_n C (lv' := [(2, .int v_4), (0, .ref ((xG X).1 x0)), (1, .ref ((xG X).1 x1))]) (q := 8) dX3_readStrength_7 rfl (by decide) rfl rfl ?_
  refine r_aload_n C 2 (q := 9) dX3_readStrength_8 rfl rfl ?_
  refine r_iload_n C 0 (q := 10) dX3_readStrength_9 rfl rfl ?_
  refine r_iconst C (v := (-1)) (q := 11) dX3_readStrength_10 (by decide) rfl ?_
  refine r_icmp_ne C (tgt := 21) (q := 14) dX3_readStrength_11 (by decide) rfl (fun c_11 => ?_) (fun c_11 => ?_)
  · replace h := (if_neg c_11).symm.trans h
    refine r_iload_n C 0 (q := 22) dX3_readStrength_21 rfl rfl ?_
    refine r_sub (lv' := [(2, .int v_4)]) [0] rfl ?_
    exact w_X3_readStrength_b22 C hr  _ _ _ _ hx1 h
  · replace h := (if_pos c_11).symm.trans h
    refine r_aload_n C 2 (q := 15) dX3_readStrength_14 rfl rfl ?_
    refine g_X0_2 C (q := 18) dX3_readStrength_15 q_71 hx1 rfl ?_
    refine r_goto C (tgt := 22) dX3_readStrength_18 (by decide) ?_
    refine r_sub (lv' := [(2, .int v_4)]) [0] rfl ?_
    exact w_X3_readStrength_b22 C hr  _ _ _ _ hx1 h

theorem m_X3_readStrength (G : Gm) (l : Launch) {σ σ' : St} {x0 : Nat} {x1 : Nat} (hx0 : kd x0 = 4) (hx1 : kd x1 = 1) {r : Int32} (h : f_X3_readStrength σ x0 x1 = some (r, σ')) : Ctr G l yX3_readStrength cX3_readStrength 3 (some .boolean) 3 65 [.ref (G.1 x0), .ref (G.1 x1)] σ (some (.int r)) (r = 0 ∨ r = 1) σ' := by
  refine Ctr.z (by decide) (Nat.le_of_ble_eq_true rfl) ?_
  intro X hG C hr
  subst hG
  exact w_X3_readStrength_b0 C hr _ _ _ hx0 hx1 h
-- X3_readCuts
set_option maxHeartbeats 4000000 in
set_option maxRecDepth 100000 in
theorem w_X3_readCuts_b2 {X : CX} (C : Cok X RX3 cX3_readCuts 5 3 65) {σ' : St} {r : Int32} (hr : RtZ X cX3_readCuts r σ') (k_2 : St → Nat → Nat → Int32 → Int32 → Option (Int32 × St)) (hk_2 : ∀ (σ : St) (x0 : Nat) (x1 : Nat) (x2 : Int32) (x3 : Int32), kd x0 = 4 → kd x1 = 1 → k_2 σ x0 x1 x2 x3 = some (r, σ') → V X σ 2 [(0, .ref ((xG X).1 x0)), (1, .ref ((xG X).1 x1)), (2, .int x2), (3, .int x3)] []) (σ : St) (x0 : Nat) (x1 : Nat) (x2 : Int32) (x3 : Int32) (hx0 : kd x0 = 4) (hx1 : kd x1 = 1) (h : f_X3_readCuts_b2 k_2 σ x0 x1 x2 x3 = some (r, σ')) : V X σ 2 [(0, .ref ((xG X).1 x0)), (1, .ref ((xG X).1 x1)), (2, .int x2), (3, .int x3)] [] := by
  unfold f_X3_readCuts_b2 at h
  refine r_iload_n C 3 (q := 3) dX3_readCuts_2 rfl rfl ?_
  refine r_aload_n C 1 (q := 4) dX3_readCuts_3 rfl rfl ?_
  refine g_X0_0 C (q := 7) dX3_readCuts_4 q_64 hx1 rfl ?_
  refine r_icmp_ge C (tgt := 49) (q := 10) dX3_readCuts_7 (by decide) rfl (fun c_7 => ?_) (fun c_7 => ?_)
  · replace h := (if_pos c_7).symm.trans h
    refine r_iconst C (v := 1) (q := 50) dX3_readCuts_49 (by decide) rfl ?_
    obtain ⟨rfl, rfl⟩ := Prod.mk.inj (Option.some.inj h)
    exact hr _ _ dX3_readCuts_50 (Or.inr rfl)
  · replace h := (if_neg c_7).symm.trans h
    refine r_aload_n C 0 (q := 11) dX3_readCuts_10 rfl rfl ?_
    refine r_iconst C (v := 0) (q := 12) dX3_readCuts_11 (by decide) rfl ?_
    refine r_aload_n C 1 (q := 13) dX3_readCuts_12 rfl rfl ?_
    refine g_X0_1 C (q := 16) dX3_readCuts_13 q_67 hx1 rfl ?_
    obtain ⟨v_16, s_16, e_16, h⟩ := bs2 h
    refine r_callV C (ci := 3) (st := []) (st2 := [.int v_16]) (q := 19) (m_X3_readNumber (xG X) (xl X) hx0 e_16) ok_X3_readNumber hx0 rfl ⟨_, rfl⟩ q_584 rfl ⟨Nat.le_of_ble_eq_true rfl, Nat.le_of_ble_eq_true rfl⟩ rfl rfl (Nat.le_of_ble_eq_true rfl) dX3_readCuts_16 rfl (fun hp_16 => ?_)
    refine r_istore C (lv' := [(4, .int v_16), (0, .ref ((xG X).1 x0)), (1, .ref ((xG X).1 x1)), (2, .int x2), (3, .int x3)]) (q := 21) dX3_readCuts_19 (by decide) rfl rfl ?_
    refine r_iload C 0 (q := 23) dX3_readCuts_21 rfl rfl ?_
    refine r_iconst C (v := (-1)) (q := 24) dX3_readCuts_23 (by decide) rfl ?_
    refine r_icmp_ne C (tgt := 29) (q := 27) dX3_readCuts_24 (by decide) rfl (fun c_24 => ?_) (fun c_24 => ?_)
    · replace h := (if_neg c_24).symm.trans h
      refine r_aload_n C 2 (q := 30) dX3_readCuts_29 rfl rfl ?_
      refine r_iload_n C 3 (q := 31) dX3_readCuts_30 rfl rfl ?_
      obtain ⟨v_31, e_31, h⟩ := bs h
      refine r_callV C (ci := 0) (st := []) (st2 := [.ref ((xG X).1 v_31)]) (q := 34) (m_X0_keyAt (xG X) (xl X) hx1 e_31) ok_X0_keyAt hx1 rfl ⟨_, rfl⟩ q_614 rfl ⟨Nat.le_of_ble_eq_true rfl, Nat.le_of_ble_eq_true rfl⟩ rfl rfl (Nat.le_of_ble_eq_true rfl) dX3_readCuts_31 rfl (fun hp_31 => ?_)
      refine g_X1_3 C (q := 37) dX3_readCuts_34 q_49 hp_31 rfl ?_
      refine r_iload_n C 4 (q := 38) dX3_readCuts_37 rfl rfl ?_
      refine r_iload C 0 (q := 40) dX3_readCuts_38 rfl rfl ?_
      obtain ⟨s_40, e_40, h⟩ := bs h
      refine r_callN C (st := []) (st2 := []) (q := 43) (m_X5_put (xG X) (xl X) (kf_X1_3 hp_31) e_40) ok_X5_put nst_7 rfl ⟨Nat.le_of_ble_eq_true rfl, Nat.le_of_ble_eq_true rfl⟩ rfl rfl (Nat.le_of_ble_eq_true rfl) dX3_readCuts_40 rfl (fun hp_40 => ?_)
      obtain ⟨y_43, e_43, h⟩ := bs h
      refine r_iinc C (v := y_43) (lv' := [(3, .int y_43), (4, .int v_16), (0, .ref ((xG X).1 x0)), (1, .ref ((xG X).1 x1)), (2, .int x2)]) (q := 46) 4 dX3_readCuts_43 rfl (Option.some.inj e_43) (by decide) rfl rfl ?_
      refine r_goto C (tgt := 2) dX3_readCuts_46 (by decide) ?_
      refine r_sub (lv' := [(0, .ref ((xG X).1 x0)), (1, .ref ((xG X).1 x1)), (2, .int x2), (3, .int y_43)]) [2, 3, 4, 0] rfl ?_
      exact hk_2 _ _ _ _ _ hx0 hx1 h
    · replace h := (if_pos c_24).symm.trans h
      refine r_iconst C (v := 0) (q := 28) dX3_readCuts_27 (by decide) rfl ?_
      obtain ⟨rfl, rfl⟩ := Prod.mk.inj (Option.some.inj h)
      exact hr _ _ dX3_readCuts_28 (Or.inl rfl)

theorem w_X3_readCuts_l2 {X : CX} (C : Cok X RX3 cX3_readCuts 5 3 65) {σ' : St} {r : Int32} (hr : RtZ X cX3_readCuts r σ') (n : Nat) : ∀ (σ : St) (x0 : Nat) (x1 : Nat) (x2 : Int32) (x3 : Int32), kd x0 = 4 → kd x1 = 1 → f_X3_readCuts_l2 n σ x0 x1 x2 x3 = some (r, σ') → V X σ 2 [(0, .ref ((xG X).1 x0)), (1, .ref ((xG X).1 x1)), (2, .int x2), (3, .int x3)] [] := by
  induction n with
  | zero =>
    intro σ x0 x1 x2 x3 hx0 hx1 h
    exact nomatch (show (none : Option (Int32 × St)) = some (r, σ') from h)
  | succ n ih =>
    intro σ x0 x1 x2 x3 hx0 hx1 h
    exact w_X3_readCuts_b2 C hr _ ih σ x0 x1 x2 x3 hx0 hx1 h
set_option maxHeartbeats 4000000 in
set_option maxRecDepth 100000 in
theorem w_X3_readCuts_b0 {X : CX} (C : Cok X RX3 cX3_readCuts 5 3 65) {σ' : St} {r : Int32} (hr : RtZ X cX3_readCuts r σ') (σ : St) (x0 : Nat) (x1 : Nat) (x2 : Int32) (hx0 : kd x0 = 4) (hx1 : kd x1 = 1) (h : f_X3_readCuts σ x0 x1 x2 = some (r, σ')) : V X σ 0 [(0, .ref ((xG X).1 x0)), (1, .ref ((xG X).1 x1)), (2, .int x2)] [] := by
  unfold f_X3_readCuts at h
  refine r_iconst C (v := 0) (q := 1) dX3_readCuts_0 (by decide) rfl ?_
  refine r_istore_n C (lv' := [(3, .int 0), (0, .ref ((xG X).1 x0)), (1, .ref ((xG X).1 x1)), (2, .int x2)]) (q := 2) dX3_readCuts_1 rfl (by decide) rfl rfl ?_
  refine r_sub (lv' := [(0, .ref ((xG X).1 x0)), (1, .ref ((xG X).1 x1)), (2, .int x2), (3, .int 0)]) [1, 2, 3, 0] rfl ?_
  exact w_X3_readCuts_l2 C hr  FU _ _ _ _ _ hx0 hx1 h

theorem m_X3_readCuts (G : Gm) (l : Launch) {σ σ' : St} {x0 : Nat} {x1 : Nat} {x2 : Int32} (hx0 : kd x0 = 4) (hx1 : kd x1 = 1) {r : Int32} (h : f_X3_readCuts σ x0 x1 x2 = some (r, σ')) : Ctr G l yX3_readCuts cX3_readCuts 5 (some .boolean) 3 65 [.ref (G.1 x0), .ref (G.1 x1), .int x2] σ (some (.int r)) (r = 0 ∨ r = 1) σ' := by
  refine Ctr.z (by decide) (Nat.le_of_ble_eq_true rfl) ?_
  intro X hG C hr
  subst hG
  exact w_X3_readCuts_b0 C hr _ _ _ _ hx0 hx1 h
-- X3_readKey
set_option maxHeartbeats 4000000 in
set_option maxRecDepth 100000 in
theorem w_X3_readKey_b71 {X : CX} (C : Cok X RX3 cX3_readKey 5 6 128) {σ' : St} {r : Int32} (hr : RtZ X cX3_readKey r σ') (σ : St) (h : f_X3_readKey_b71 σ = some (r, σ')) : V X σ 71 [] [] := by
  unfold f_X3_readKey_b71 at h
  refine r_iconst C (v := 1) (q := 72) dX3_readKey_71 (by decide) rfl ?_
  refine r_goto C (tgt := 76) dX3_readKey_72 (by decide) ?_
  obtain ⟨rfl, rfl⟩ := Prod.mk.inj (Option.some.inj h)
  exact hr _ _ dX3_readKey_76 (Or.inr rfl)

set_option maxHeartbeats 4000000 in
set_option maxRecDepth 100000 in
theorem w_X3_readKey_b0 {X : CX} (C : Cok X RX3 cX3_readKey 5 6 128) {σ' : St} {r : Int32} (hr : RtZ X cX3_readKey r σ') (σ : St) (x0 : Nat) (x1 : Nat) (hx0 : kd x0 = 4) (hx1 : kd x1 = 1) (h : f_X3_readKey σ x0 x1 = some (r, σ')) : V X σ 0 [(0, .ref ((xG X).1 x0)), (1, .ref ((xG X).1 x1))] [] := by
  unfold f_X3_readKey at h
  refine r_aload_n C 1 (q := 1) dX3_readKey_0 rfl rfl ?_
  refine g_X0_5 C (q := 4) dX3_readKey_1 q_79 hx1 rfl ?_
  refine r_bipush C (v := 6) (q := 6) dX3_readKey_4 (by decide) rfl ?_
  refine r_icmp_lt C (tgt := 11) (q := 9) dX3_readKey_6 (by decide) rfl (fun c_6 => ?_) (fun c_6 => ?_)
  · replace h := (if_pos c_6).symm.trans h
    refine r_aload_n C 0 (q := 12) dX3_readKey_11 rfl rfl ?_
    obtain ⟨s_12, e_12, h⟩ := bs h
    refine r_callV C (ci := 3) (st := []) (st2 := []) (q := 15) (m_X3_toNextToken (xG X) (xl X) hx0 e_12) ok_X3_toNextToken hx0 rfl ⟨_, rfl⟩ q_513 rfl ⟨Nat.le_of_ble_eq_true rfl, Nat.le_of_ble_eq_true rfl⟩ rfl rfl (Nat.le_of_ble_eq_true rfl) dX3_readKey_12 rfl (fun hp_12 => ?_)
    refine r_aload_n C 0 (q := 16) dX3_readKey_15 rfl rfl ?_
    refine r_iconst C (v := 0) (q := 17) dX3_readKey_16 (by decide) rfl ?_
    refine r_iconst C (v := 5) (q := 18) dX3_readKey_17 (by decide) rfl ?_
    obtain ⟨v_18, s_18, e_18, h⟩ := bs2 h
    refine r_callV C (ci := 3) (st := []) (st2 := [.int v_18]) (q := 21) (m_X3_readNumber (xG X) (xl X) hx0 e_18) ok_X3_readNumber hx0 rfl ⟨_, rfl⟩ q_584 rfl ⟨Nat.le_of_ble_eq_true rfl, Nat.le_of_ble_eq_true rfl⟩ rfl rfl (Nat.le_of_ble_eq_true rfl) dX3_readKey_18 rfl (fun hp_18 => ?_)
    refine r_istore_n C (lv' := [(2, .int v_18), (0, .ref ((xG X).1 x0)), (1, .ref ((xG X).1 x1))]) (q := 22) dX3_readKey_21 rfl (by decide) rfl rfl ?_
    refine r_iload_n C 0 (q := 23) dX3_readKey_22 rfl rfl ?_
    refine r_iconst C (v := (-1)) (q := 24) dX3_readKey_23 (by decide) rfl ?_
    refine r_icmp_ne C (tgt := 29) (q := 27) dX3_readKey_24 (by decide) rfl (fun c_24 => ?_) (fun c_24 => ?_)
    · replace h := (if_neg c_24).symm.trans h
      refine r_aload_n C 1 (q := 30) dX3_readKey_29 rfl rfl ?_
      refine r_iconst C (v := 0) (q := 31) dX3_readKey_30 (by decide) rfl ?_
      refine r_bipush C (v := 9) (q := 33) dX3_readKey_31 (by decide) rfl ?_
      obtain ⟨v_33, s_33, e_33, h⟩ := bs2 h
      refine r_callV C (ci := 3) (st := []) (st2 := [.int v_33]) (q := 36) (m_X3_readNumber (xG X) (xl X) hx0 e_33) ok_X3_readNumber hx0 rfl ⟨_, rfl⟩ q_584 rfl ⟨Nat.le_of_ble_eq_true rfl, Nat.le_of_ble_eq_true rfl⟩ rfl rfl (Nat.le_of_ble_eq_true rfl) dX3_readKey_33 rfl (fun hp_33 => ?_)
      refine r_istore_n C (lv' := [(3, .int v_33), (2, .int v_18), (0, .ref ((xG X).1 x0)), (1, .ref ((xG X).1 x1))]) (q := 37) dX3_readKey_36 rfl (by decide) rfl rfl ?_
      refine r_iload_n C 0 (q := 38) dX3_readKey_37 rfl rfl ?_
      refine r_iconst C (v := (-1)) (q := 39) dX3_readKey_38 (by decide) rfl ?_
      refine r_icmp_ne C (tgt := 44) (q := 42) dX3_readKey_39 (by decide) rfl (fun c_39 => ?_) (fun c_39 => ?_)
      · replace h := (if_neg c_39).symm.trans h
        refine r_aload_n C 3 (q := 45) dX3_readKey_44 rfl rfl ?_
        refine r_iload_n C 1 (q := 46) dX3_readKey_45 rfl rfl ?_
        refine r_iload_n C 0 (q := 47) dX3_readKey_46 rfl rfl ?_
        obtain ⟨v_47, s_47, e_47, h⟩ := bs2 h
        refine r_callV C (ci := 0) (st := []) (st2 := [.int v_47]) (q := 50) (m_X0_addKey (xG X) (xl X) hx1 e_47) ok_X0_addKey hx1 rfl ⟨_, rfl⟩ q_608 rfl ⟨Nat.le_of_ble_eq_true rfl, Nat.le_of_ble_eq_true rfl⟩ rfl rfl (Nat.le_of_ble_eq_true rfl) dX3_readKey_47 rfl (fun hp_47 => ?_)
        refine r_istore C (lv' := [(4, .int v_47), (3, .int v_33), (2, .int v_18), (0, .ref ((xG X).1 x0)), (1, .ref ((xG X).1 x1))]) (q := 52) dX3_readKey_50 (by decide) rfl rfl ?_
        refine r_aload_n C 3 (q := 53) dX3_readKey_52 rfl rfl ?_
        refine r_ldcS C (q := 55) dX3_readKey_53 sr_4 rfl ?_
        obtain ⟨v_55, s_55, e_55, h⟩ := bs2 h
        refine r_callV C (ci := 3) (st := []) (st2 := [.int v_55]) (q := 58) (m_X3_readWord (xG X) (xl X) hx0 (by decide) e_55) ok_X3_readWord hx0 rfl ⟨_, rfl⟩ q_595 rfl ⟨Nat.le_of_ble_eq_true rfl, Nat.le_of_ble_eq_true rfl⟩ rfl rfl (Nat.le_of_ble_eq_true rfl) dX3_readKey_55 rfl (fun hp_55 => ?_)
        refine r_if_eq C (tgt := 71) (q := 61) dX3_readKey_58 (by decide) rfl (fun c_58 => ?_) (fun c_58 => ?_)
        · replace h := (if_pos c_58).symm.trans h
          refine r_sub (lv' := []) [] rfl ?_
          exact w_X3_readKey_b71 C hr  _   h
        · replace h := (if_neg c_58).symm.trans h
          refine r_aload_n C 3 (q := 62) dX3_readKey_61 rfl rfl ?_
          refine r_aload_n C 4 (q := 63) dX3_readKey_62 rfl rfl ?_
          refine r_iload C 0 (q := 65) dX3_readKey_63 rfl rfl ?_
          obtain ⟨v_65, s_65, e_65, h⟩ := bs2 h
          refine r_callV C (ci := 3) (st := []) (st2 := [.int v_65]) (q := 68) (m_X3_readCuts (xG X) (xl X) hx0 hx1 e_65) ok_X3_readCuts hx0 rfl ⟨_, rfl⟩ q_610 rfl ⟨Nat.le_of_ble_eq_true rfl, Nat.le_of_ble_eq_true rfl⟩ rfl rfl (Nat.le_of_ble_eq_true rfl) dX3_readKey_65 rfl (fun hp_65 => ?_)
          refine r_if_eq C (tgt := 75) (q := 71) dX3_readKey_68 (by decide) rfl (fun c_68 => ?_) (fun c_68 => ?_)
          · replace h := (if_pos c_68).symm.trans h
            refine r_iconst C (v := 0) (q := 76) dX3_readKey_75 (by decide) rfl ?_
            obtain ⟨rfl, rfl⟩ := Prod.mk.inj (Option.some.inj h)
            exact hr _ _ dX3_readKey_76 (Or.inl rfl)
          · replace h := (if_neg c_68).symm.trans h
            refine r_sub (lv' := []) [] rfl ?_
            exact w_X3_readKey_b71 C hr  _   h
      · replace h := (if_pos c_39).symm.trans h
        refine r_iconst C (v := 0) (q := 43) dX3_readKey_42 (by decide) rfl ?_
        obtain ⟨rfl, rfl⟩ := Prod.mk.inj (Option.some.inj h)
        exact hr _ _ dX3_readKey_43 (Or.inl rfl)
    · replace h := (if_pos c_24).symm.trans h
      refine r_iconst C (v := 0) (q := 28) dX3_readKey_27 (by decide) rfl ?_
      obtain ⟨rfl, rfl⟩ := Prod.mk.inj (Option.some.inj h)
      exact hr _ _ dX3_readKey_28 (Or.inl rfl)
  · replace h := (if_neg c_6).symm.trans h
    refine r_iconst C (v := 0) (q := 10) dX3_readKey_9 (by decide) rfl ?_
    obtain ⟨rfl, rfl⟩ := Prod.mk.inj (Option.some.inj h)
    exact hr _ _ dX3_readKey_10 (Or.inl rfl)

theorem m_X3_readKey (G : Gm) (l : Launch) {σ σ' : St} {x0 : Nat} {x1 : Nat} (hx0 : kd x0 = 4) (hx1 : kd x1 = 1) {r : Int32} (h : f_X3_readKey σ x0 x1 = some (r, σ')) : Ctr G l yX3_readKey cX3_readKey 5 (some .boolean) 6 128 [.ref (G.1 x0), .ref (G.1 x1)] σ (some (.int r)) (r = 0 ∨ r = 1) σ' := by
  refine Ctr.z (by decide) (Nat.le_of_ble_eq_true rfl) ?_
  intro X hG C hr
  subst hG
  exact w_X3_readKey_b0 C hr _ _ _ hx0 hx1 h
-- X3_readAsks
set_option maxHeartbeats 4000000 in
set_option maxRecDepth 100000 in
theorem w_X3_readAsks_b2 {X : CX} (C : Cok X RX3 cX3_readAsks 5 3 69) {σ' : St} {r : Int32} (hr : RtZ X cX3_readAsks r σ') (k_2 : St → Nat → Nat → Int32 → Int32 → Option (Int32 × St)) (hk_2 : ∀ (σ : St) (x0 : Nat) (x1 : Nat) (x2 : Int32) (x3 : Int32), kd x0 = 4 → kd x1 = 1 → k_2 σ x0 x1 x2 x3 = some (r, σ') → V X σ 2 [(0, .ref ((xG X).1 x0)), (1, .ref ((xG X).1 x1)), (2, .int x2), (3, .int x3)] []) (σ : St) (x0 : Nat) (x1 : Nat) (x2 : Int32) (x3 : Int32) (hx0 : kd x0 = 4) (hx1 : kd x1 = 1) (h : f_X3_readAsks_b2 k_2 σ x0 x1 x2 x3 = some (r, σ')) : V X σ 2 [(0, .ref ((xG X).1 x0)), (1, .ref ((xG X).1 x1)), (2, .int x2), (3, .int x3)] [] := by
  unfold f_X3_readAsks_b2 at h
  refine r_iload_n C 3 (q := 3) dX3_readAsks_2 rfl rfl ?_
  refine r_aload_n C 1 (q := 4) dX3_readAsks_3 rfl rfl ?_
  refine g_X0_0 C (q := 7) dX3_readAsks_4 q_64 hx1 rfl ?_
  refine r_icmp_ge C (tgt := 43) (q := 10) dX3_readAsks_7 (by decide) rfl (fun c_7 => ?_) (fun c_7 => ?_)
  · replace h := (if_pos c_7).symm.trans h
    refine r_iconst C (v := 1) (q := 44) dX3_readAsks_43 (by decide) rfl ?_
    obtain ⟨rfl, rfl⟩ := Prod.mk.inj (Option.some.inj h)
    exact hr _ _ dX3_readAsks_44 (Or.inr rfl)
  · replace h := (if_neg c_7).symm.trans h
    refine r_aload_n C 0 (q := 11) dX3_readAsks_10 rfl rfl ?_
    refine r_iconst C (v := 0) (q := 12) dX3_readAsks_11 (by decide) rfl ?_
    refine r_aload_n C 1 (q := 13) dX3_readAsks_12 rfl rfl ?_
    refine g_X0_1 C (q := 16) dX3_readAsks_13 q_67 hx1 rfl ?_
    obtain ⟨v_16, s_16, e_16, h⟩ := bs2 h
    refine r_callV C (ci := 3) (st := []) (st2 := [.int v_16]) (q := 19) (m_X3_readNumber (xG X) (xl X) hx0 e_16) ok_X3_readNumber hx0 rfl ⟨_, rfl⟩ q_584 rfl ⟨Nat.le_of_ble_eq_true rfl, Nat.le_of_ble_eq_true rfl⟩ rfl rfl (Nat.le_of_ble_eq_true rfl) dX3_readAsks_16 rfl (fun hp_16 => ?_)
    refine r_istore C (lv' := [(4, .int v_16), (0, .ref ((xG X).1 x0)), (1, .ref ((xG X).1 x1)), (2, .int x2), (3, .int x3)]) (q := 21) dX3_readAsks_19 (by decide) rfl rfl ?_
    refine r_iload C 0 (q := 23) dX3_readAsks_21 rfl rfl ?_
    refine r_iconst C (v := (-1)) (q := 24) dX3_readAsks_23 (by decide) rfl ?_
    refine r_icmp_ne C (tgt := 29) (q := 27) dX3_readAsks_24 (by decide) rfl (fun c_24 => ?_) (fun c_24 => ?_)
    · replace h := (if_neg c_24).symm.trans h
      refine r_aload_n C 2 (q := 30) dX3_readAsks_29 rfl rfl ?_
      refine r_iload_n C 3 (q := 31) dX3_readAsks_30 rfl rfl ?_
      refine r_iload_n C 4 (q := 32) dX3_readAsks_31 rfl rfl ?_
      refine r_iload C 0 (q := 34) dX3_readAsks_32 rfl rfl ?_
      obtain ⟨s_34, e_34, h⟩ := bs h
      refine r_callV C (ci := 0) (st := []) (st2 := []) (q := 37) (m_X0_putAsks (xG X) (xl X) hx1 e_34) ok_X0_putAsks hx1 rfl ⟨_, rfl⟩ q_626 rfl ⟨Nat.le_of_ble_eq_true rfl, Nat.le_of_ble_eq_true rfl⟩ rfl rfl (Nat.le_of_ble_eq_true rfl) dX3_readAsks_34 rfl (fun hp_34 => ?_)
      obtain ⟨y_37, e_37, h⟩ := bs h
      refine r_iinc C (v := y_37) (lv' := [(3, .int y_37), (4, .int v_16), (0, .ref ((xG X).1 x0)), (1, .ref ((xG X).1 x1)), (2, .int x2)]) (q := 40) 4 dX3_readAsks_37 rfl (Option.some.inj e_37) (by decide) rfl rfl ?_
      refine r_goto C (tgt := 2) dX3_readAsks_40 (by decide) ?_
      refine r_sub (lv' := [(0, .ref ((xG X).1 x0)), (1, .ref ((xG X).1 x1)), (2, .int x2), (3, .int y_37)]) [2, 3, 4, 0] rfl ?_
      exact hk_2 _ _ _ _ _ hx0 hx1 h
    · replace h := (if_pos c_24).symm.trans h
      refine r_iconst C (v := 0) (q := 28) dX3_readAsks_27 (by decide) rfl ?_
      obtain ⟨rfl, rfl⟩ := Prod.mk.inj (Option.some.inj h)
      exact hr _ _ dX3_readAsks_28 (Or.inl rfl)

theorem w_X3_readAsks_l2 {X : CX} (C : Cok X RX3 cX3_readAsks 5 3 69) {σ' : St} {r : Int32} (hr : RtZ X cX3_readAsks r σ') (n : Nat) : ∀ (σ : St) (x0 : Nat) (x1 : Nat) (x2 : Int32) (x3 : Int32), kd x0 = 4 → kd x1 = 1 → f_X3_readAsks_l2 n σ x0 x1 x2 x3 = some (r, σ') → V X σ 2 [(0, .ref ((xG X).1 x0)), (1, .ref ((xG X).1 x1)), (2, .int x2), (3, .int x3)] [] := by
  induction n with
  | zero =>
    intro σ x0 x1 x2 x3 hx0 hx1 h
    exact nomatch (show (none : Option (Int32 × St)) = some (r, σ') from h)
  | succ n ih =>
    intro σ x0 x1 x2 x3 hx0 hx1 h
    exact w_X3_readAsks_b2 C hr _ ih σ x0 x1 x2 x3 hx0 hx1 h
set_option maxHeartbeats 4000000 in
set_option maxRecDepth 100000 in
theorem w_X3_readAsks_b0 {X : CX} (C : Cok X RX3 cX3_readAsks 5 3 69) {σ' : St} {r : Int32} (hr : RtZ X cX3_readAsks r σ') (σ : St) (x0 : Nat) (x1 : Nat) (x2 : Int32) (hx0 : kd x0 = 4) (hx1 : kd x1 = 1) (h : f_X3_readAsks σ x0 x1 x2 = some (r, σ')) : V X σ 0 [(0, .ref ((xG X).1 x0)), (1, .ref ((xG X).1 x1)), (2, .int x2)] [] := by
  unfold f_X3_readAsks at h
  refine r_iconst C (v := 0) (q := 1) dX3_readAsks_0 (by decide) rfl ?_
  refine r_istore_n C (lv' := [(3, .int 0), (0, .ref ((xG X).1 x0)), (1, .ref ((xG X).1 x1)), (2, .int x2)]) (q := 2) dX3_readAsks_1 rfl (by decide) rfl rfl ?_
  refine r_sub (lv' := [(0, .ref ((xG X).1 x0)), (1, .ref ((xG X).1 x1)), (2, .int x2), (3, .int 0)]) [1, 2, 3, 0] rfl ?_
  exact w_X3_readAsks_l2 C hr  FU _ _ _ _ _ hx0 hx1 h

theorem m_X3_readAsks (G : Gm) (l : Launch) {σ σ' : St} {x0 : Nat} {x1 : Nat} {x2 : Int32} (hx0 : kd x0 = 4) (hx1 : kd x1 = 1) {r : Int32} (h : f_X3_readAsks σ x0 x1 x2 = some (r, σ')) : Ctr G l yX3_readAsks cX3_readAsks 5 (some .boolean) 3 69 [.ref (G.1 x0), .ref (G.1 x1), .int x2] σ (some (.int r)) (r = 0 ∨ r = 1) σ' := by
  refine Ctr.z (by decide) (Nat.le_of_ble_eq_true rfl) ?_
  intro X hG C hr
  subst hG
  exact w_X3_readAsks_b0 C hr _ _ _ _ hx0 hx1 h
-- X3_readLock
set_option maxHeartbeats 4000000 in
set_option maxRecDepth 100000 in
theorem w_X3_readLock_b41 {X : CX} (C : Cok X RX3 cX3_readLock 3 6 128) {σ' : St} {r : Int32} (hr : RtZ X cX3_readLock r σ') (σ : St) (x0 : Nat) (x1 : Nat) (x2 : Int32) (hx0 : kd x0 = 4) (hx1 : kd x1 = 1) (h : f_X3_readLock_b41 σ x0 x1 x2 = some (r, σ')) : V X σ 41 [(0, .ref ((xG X).1 x0)), (1, .ref ((xG X).1 x1)), (2, .int x2)] [] := by
  unfold f_X3_readLock_b41 at h
  refine r_aload_n C 0 (q := 42) dX3_readLock_41 rfl rfl ?_
  refine r_ldcS C (q := 44) dX3_readLock_42 sr_7 rfl ?_
  obtain ⟨v_44, s_44, e_44, h⟩ := bs2 h
  refine r_callV C (ci := 3) (st := []) (st2 := [.int v_44]) (q := 47) (m_X3_readWord (xG X) (xl X) hx0 (by decide) e_44) ok_X3_readWord hx0 rfl ⟨_, rfl⟩ q_595 rfl ⟨Nat.le_of_ble_eq_true rfl, Nat.le_of_ble_eq_true rfl⟩ rfl rfl (Nat.le_of_ble_eq_true rfl) dX3_readLock_44 rfl (fun hp_44 => ?_)
  refine r_if_eq C (tgt := 62) (q := 50) dX3_readLock_47 (by decide) rfl (fun c_47 => ?_) (fun c_47 => ?_)
  · replace h := (if_pos c_47).symm.trans h
    refine r_iconst C (v := 1) (q := 63) dX3_readLock_62 (by decide) rfl ?_
    obtain ⟨rfl, rfl⟩ := Prod.mk.inj (Option.some.inj h)
    exact hr _ _ dX3_readLock_63 (Or.inr rfl)
  · replace h := (if_neg c_47).symm.trans h
    refine r_aload_n C 1 (q := 51) dX3_readLock_50 rfl rfl ?_
    refine r_dup C (q := 52) dX3_readLock_51 rfl rfl ?_
    refine g_X0_7 C (q := 55) dX3_readLock_52 q_86 hx1 rfl ?_
    refine r_iconst C (v := 1) (q := 56) dX3_readLock_55 (by decide) rfl ?_
    refine r_iload_n C 2 (q := 57) dX3_readLock_56 rfl rfl ?_
    refine r_ishl C (q := 58) dX3_readLock_57 rfl ?_
    refine r_ior C (q := 59) dX3_readLock_58 rfl ?_
    obtain ⟨s_59, e_59, h⟩ := bs h
    refine p_X0_7 C (q := 62) dX3_readLock_59 q_86 hx1 e_59 rfl ?_
    refine r_iconst C (v := 1) (q := 63) dX3_readLock_62 (by decide) rfl ?_
    obtain ⟨rfl, rfl⟩ := Prod.mk.inj (Option.some.inj h)
    exact hr _ _ dX3_readLock_63 (Or.inr rfl)

set_option maxHeartbeats 4000000 in
set_option maxRecDepth 100000 in
theorem w_X3_readLock_b0 {X : CX} (C : Cok X RX3 cX3_readLock 3 6 128) {σ' : St} {r : Int32} (hr : RtZ X cX3_readLock r σ') (σ : St) (x0 : Nat) (x1 : Nat) (hx0 : kd x0 = 4) (hx1 : kd x1 = 1) (h : f_X3_readLock σ x0 x1 = some (r, σ')) : V X σ 0 [(0, .ref ((xG X).1 x0)), (1, .ref ((xG X).1 x1))] [] := by
  unfold f_X3_readLock at h
  refine r_aload_n C 1 (q := 1) dX3_readLock_0 rfl rfl ?_
  refine g_X0_6 C (q := 4) dX3_readLock_1 q_83 hx1 rfl ?_
  refine r_bipush C (v := 8) (q := 6) dX3_readLock_4 (by decide) rfl ?_
  refine r_icmp_lt C (tgt := 11) (q := 9) dX3_readLock_6 (by decide) rfl (fun c_6 => ?_) (fun c_6 => ?_)
  · replace h := (if_pos c_6).symm.trans h
    refine r_aload_n C 0 (q := 12) dX3_readLock_11 rfl rfl ?_
    obtain ⟨s_12, e_12, h⟩ := bs h
    refine r_callV C (ci := 3) (st := []) (st2 := []) (q := 15) (m_X3_toNextToken (xG X) (xl X) hx0 e_12) ok_X3_toNextToken hx0 rfl ⟨_, rfl⟩ q_513 rfl ⟨Nat.le_of_ble_eq_true rfl, Nat.le_of_ble_eq_true rfl⟩ rfl rfl (Nat.le_of_ble_eq_true rfl) dX3_readLock_12 rfl (fun hp_12 => ?_)
    refine r_aload_n C 1 (q := 16) dX3_readLock_15 rfl rfl ?_
    refine r_iconst C (v := 0) (q := 17) dX3_readLock_16 (by decide) rfl ?_
    obtain ⟨v_17, s_17, e_17, h⟩ := bs2 h
    refine r_callV C (ci := 0) (st := []) (st2 := [.int v_17]) (q := 20) (m_X0_addLock (xG X) (xl X) hx1 e_17) ok_X0_addLock hx1 rfl ⟨_, rfl⟩ q_620 rfl ⟨Nat.le_of_ble_eq_true rfl, Nat.le_of_ble_eq_true rfl⟩ rfl rfl (Nat.le_of_ble_eq_true rfl) dX3_readLock_17 rfl (fun hp_17 => ?_)
    refine r_istore_n C (lv' := [(2, .int v_17), (0, .ref ((xG X).1 x0)), (1, .ref ((xG X).1 x1))]) (q := 21) dX3_readLock_20 rfl (by decide) rfl rfl ?_
    refine r_aload_n C 1 (q := 22) dX3_readLock_21 rfl rfl ?_
    refine r_ldcS C (q := 24) dX3_readLock_22 sr_6 rfl ?_
    obtain ⟨v_24, s_24, e_24, h⟩ := bs2 h
    refine r_callV C (ci := 3) (st := []) (st2 := [.int v_24]) (q := 27) (m_X3_readWord (xG X) (xl X) hx0 (by decide) e_24) ok_X3_readWord hx0 rfl ⟨_, rfl⟩ q_595 rfl ⟨Nat.le_of_ble_eq_true rfl, Nat.le_of_ble_eq_true rfl⟩ rfl rfl (Nat.le_of_ble_eq_true rfl) dX3_readLock_24 rfl (fun hp_24 => ?_)
    refine r_if_eq C (tgt := 41) (q := 30) dX3_readLock_27 (by decide) rfl (fun c_27 => ?_) (fun c_27 => ?_)
    · replace h := (if_pos c_27).symm.trans h
      refine r_sub (lv' := [(0, .ref ((xG X).1 x0)), (1, .ref ((xG X).1 x1)), (2, .int v_17)]) [1, 2, 0] rfl ?_
      exact w_X3_readLock_b41 C hr  _ _ _ _ hx0 hx1 h
    · replace h := (if_neg c_27).symm.trans h
      refine r_aload_n C 1 (q := 31) dX3_readLock_30 rfl rfl ?_
      refine r_aload_n C 2 (q := 32) dX3_readLock_31 rfl rfl ?_
      refine r_iload_n C 0 (q := 33) dX3_readLock_32 rfl rfl ?_
      obtain ⟨v_33, s_33, e_33, h⟩ := bs2 h
      refine r_callV C (ci := 3) (st := []) (st2 := [.int v_33]) (q := 36) (m_X3_readAsks (xG X) (xl X) hx0 hx1 e_33) ok_X3_readAsks hx0 rfl ⟨_, rfl⟩ q_622 rfl ⟨Nat.le_of_ble_eq_true rfl, Nat.le_of_ble_eq_true rfl⟩ rfl rfl (Nat.le_of_ble_eq_true rfl) dX3_readLock_33 rfl (fun hp_33 => ?_)
      refine r_if_ne C (tgt := 41) (q := 39) dX3_readLock_36 (by decide) rfl (fun c_36 => ?_) (fun c_36 => ?_)
      · replace h := (if_neg c_36).symm.trans h
        refine r_sub (lv' := [(0, .ref ((xG X).1 x0)), (1, .ref ((xG X).1 x1)), (2, .int v_17)]) [1, 2, 0] rfl ?_
        exact w_X3_readLock_b41 C hr  _ _ _ _ hx0 hx1 h
      · replace h := (if_pos c_36).symm.trans h
        refine r_iconst C (v := 0) (q := 40) dX3_readLock_39 (by decide) rfl ?_
        obtain ⟨rfl, rfl⟩ := Prod.mk.inj (Option.some.inj h)
        exact hr _ _ dX3_readLock_40 (Or.inl rfl)
  · replace h := (if_neg c_6).symm.trans h
    refine r_iconst C (v := 0) (q := 10) dX3_readLock_9 (by decide) rfl ?_
    obtain ⟨rfl, rfl⟩ := Prod.mk.inj (Option.some.inj h)
    exact hr _ _ dX3_readLock_10 (Or.inl rfl)

theorem m_X3_readLock (G : Gm) (l : Launch) {σ σ' : St} {x0 : Nat} {x1 : Nat} (hx0 : kd x0 = 4) (hx1 : kd x1 = 1) {r : Int32} (h : f_X3_readLock σ x0 x1 = some (r, σ')) : Ctr G l yX3_readLock cX3_readLock 3 (some .boolean) 6 128 [.ref (G.1 x0), .ref (G.1 x1)] σ (some (.int r)) (r = 0 ∨ r = 1) σ' := by
  refine Ctr.z (by decide) (Nat.le_of_ble_eq_true rfl) ?_
  intro X hG C hr
  subst hG
  exact w_X3_readLock_b0 C hr _ _ _ hx0 hx1 h
-- X3_readMay
set_option maxHeartbeats 4000000 in
set_option maxRecDepth 100000 in
theorem w_X3_readMay_b0 {X : CX} (C : Cok X RX3 cX3_readMay 4 3 65) {σ' : St} {r : Int32} (hr : RtZ X cX3_readMay r σ') (σ : St) (x0 : Nat) (x1 : Nat) (hx0 : kd x0 = 4) (hx1 : kd x1 = 1) (h : f_X3_readMay σ x0 x1 = some (r, σ')) : V X σ 0 [(0, .ref ((xG X).1 x0)), (1, .ref ((xG X).1 x1))] [] := by
  unfold f_X3_readMay at h
  refine r_aload_n C 0 (q := 1) dX3_readMay_0 rfl rfl ?_
  refine r_iconst C (v := 0) (q := 2) dX3_readMay_1 (by decide) rfl ?_
  refine r_aload_n C 1 (q := 3) dX3_readMay_2 rfl rfl ?_
  refine g_X0_5 C (q := 6) dX3_readMay_3 q_79 hx1 rfl ?_
  refine r_iconst C (v := 1) (q := 7) dX3_readMay_6 (by decide) rfl ?_
  refine r_isub C (q := 8) dX3_readMay_7 rfl ?_
  obtain ⟨v_8, s_8, e_8, h⟩ := bs2 h
  refine r_callV C (ci := 3) (st := []) (st2 := [.int v_8]) (q := 11) (m_X3_readNumber (xG X) (xl X) hx0 e_8) ok_X3_readNumber hx0 rfl ⟨_, rfl⟩ q_584 rfl ⟨Nat.le_of_ble_eq_true rfl, Nat.le_of_ble_eq_true rfl⟩ rfl rfl (Nat.le_of_ble_eq_true rfl) dX3_readMay_8 rfl (fun hp_8 => ?_)
  refine r_istore_n C (lv' := [(2, .int v_8), (0, .ref ((xG X).1 x0)), (1, .ref ((xG X).1 x1))]) (q := 12) dX3_readMay_11 rfl (by decide) rfl rfl ?_
  refine r_iload_n C 0 (q := 13) dX3_readMay_12 rfl rfl ?_
  refine r_iconst C (v := (-1)) (q := 14) dX3_readMay_13 (by decide) rfl ?_
  refine r_icmp_ne C (tgt := 19) (q := 17) dX3_readMay_14 (by decide) rfl (fun c_14 => ?_) (fun c_14 => ?_)
  · replace h := (if_neg c_14).symm.trans h
    refine r_aload_n C 1 (q := 20) dX3_readMay_19 rfl rfl ?_
    refine r_iconst C (v := 0) (q := 21) dX3_readMay_20 (by decide) rfl ?_
    refine r_aload_n C 2 (q := 22) dX3_readMay_21 rfl rfl ?_
    refine g_X0_6 C (q := 25) dX3_readMay_22 q_83 hx1 rfl ?_
    refine r_iconst C (v := 1) (q := 26) dX3_readMay_25 (by decide) rfl ?_
    refine r_isub C (q := 27) dX3_readMay_26 rfl ?_
    obtain ⟨v_27, s_27, e_27, h⟩ := bs2 h
    refine r_callV C (ci := 3) (st := []) (st2 := [.int v_27]) (q := 30) (m_X3_readNumber (xG X) (xl X) hx0 e_27) ok_X3_readNumber hx0 rfl ⟨_, rfl⟩ q_584 rfl ⟨Nat.le_of_ble_eq_true rfl, Nat.le_of_ble_eq_true rfl⟩ rfl rfl (Nat.le_of_ble_eq_true rfl) dX3_readMay_27 rfl (fun hp_27 => ?_)
    refine r_istore_n C (lv' := [(3, .int v_27), (2, .int v_8), (0, .ref ((xG X).1 x0)), (1, .ref ((xG X).1 x1))]) (q := 31) dX3_readMay_30 rfl (by decide) rfl rfl ?_
    refine r_iload_n C 0 (q := 32) dX3_readMay_31 rfl rfl ?_
    refine r_iconst C (v := (-1)) (q := 33) dX3_readMay_32 (by decide) rfl ?_
    refine r_icmp_ne C (tgt := 38) (q := 36) dX3_readMay_33 (by decide) rfl (fun c_33 => ?_) (fun c_33 => ?_)
    · replace h := (if_neg c_33).symm.trans h
      refine r_aload_n C 3 (q := 39) dX3_readMay_38 rfl rfl ?_
      refine r_iload_n C 1 (q := 40) dX3_readMay_39 rfl rfl ?_
      obtain ⟨v_40, e_40, h⟩ := bs h
      refine r_callV C (ci := 0) (st := []) (st2 := [.ref ((xG X).1 v_40)]) (q := 43) (m_X0_keyAt (xG X) (xl X) hx1 e_40) ok_X0_keyAt hx1 rfl ⟨_, rfl⟩ q_614 rfl ⟨Nat.le_of_ble_eq_true rfl, Nat.le_of_ble_eq_true rfl⟩ rfl rfl (Nat.le_of_ble_eq_true rfl) dX3_readMay_40 rfl (fun hp_40 => ?_)
      refine r_iload_n C 0 (q := 44) dX3_readMay_43 rfl rfl ?_
      refine r_iconst C (v := 1) (q := 45) dX3_readMay_44 (by decide) rfl ?_
      obtain ⟨v_45, s_45, e_45, h⟩ := bs2 h
      refine r_callV C (ci := 1) (st := []) (st2 := [.int v_45]) (q := 48) (m_X1_allow (xG X) (xl X) hp_40 e_45) ok_X1_allow hp_40 rfl ⟨_, rfl⟩ q_633 rfl ⟨Nat.le_of_ble_eq_true rfl, Nat.le_of_ble_eq_true rfl⟩ rfl rfl (Nat.le_of_ble_eq_true rfl) dX3_readMay_45 rfl (fun hp_45 => ?_)
      refine r_pop C (q := 49) dX3_readMay_48 rfl rfl ?_
      refine r_iconst C (v := 1) (q := 50) dX3_readMay_49 (by decide) rfl ?_
      obtain ⟨rfl, rfl⟩ := Prod.mk.inj (Option.some.inj h)
      exact hr _ _ dX3_readMay_50 (Or.inr rfl)
    · replace h := (if_pos c_33).symm.trans h
      refine r_iconst C (v := 0) (q := 37) dX3_readMay_36 (by decide) rfl ?_
      obtain ⟨rfl, rfl⟩ := Prod.mk.inj (Option.some.inj h)
      exact hr _ _ dX3_readMay_37 (Or.inl rfl)
  · replace h := (if_pos c_14).symm.trans h
    refine r_iconst C (v := 0) (q := 18) dX3_readMay_17 (by decide) rfl ?_
    obtain ⟨rfl, rfl⟩ := Prod.mk.inj (Option.some.inj h)
    exact hr _ _ dX3_readMay_18 (Or.inl rfl)

theorem m_X3_readMay (G : Gm) (l : Launch) {σ σ' : St} {x0 : Nat} {x1 : Nat} (hx0 : kd x0 = 4) (hx1 : kd x1 = 1) {r : Int32} (h : f_X3_readMay σ x0 x1 = some (r, σ')) : Ctr G l yX3_readMay cX3_readMay 4 (some .boolean) 3 65 [.ref (G.1 x0), .ref (G.1 x1)] σ (some (.int r)) (r = 0 ∨ r = 1) σ' := by
  refine Ctr.z (by decide) (Nat.le_of_ble_eq_true rfl) ?_
  intro X hG C hr
  subst hG
  exact w_X3_readMay_b0 C hr _ _ _ hx0 hx1 h
-- X3_readStatement
set_option maxHeartbeats 4000000 in
set_option maxRecDepth 100000 in
theorem w_X3_readStatement_b0 {X : CX} (C : Cok X RX3 cX3_readStatement 2 7 152) {σ' : St} {r : Int32} (hr : RtZ X cX3_readStatement r σ') (σ : St) (x0 : Nat) (x1 : Nat) (hx0 : kd x0 = 4) (hx1 : kd x1 = 1) (h : f_X3_readStatement σ x0 x1 = some (r, σ')) : V X σ 0 [(0, .ref ((xG X).1 x0)), (1, .ref ((xG X).1 x1))] [] := by
  unfold f_X3_readStatement at h
  refine r_aload_n C 0 (q := 1) dX3_readStatement_0 rfl rfl ?_
  refine r_ldcS C (q := 3) dX3_readStatement_1 sr_0 rfl ?_
  obtain ⟨v_3, e_3, h⟩ := bs h
  refine r_callV C (ci := 3) (st := []) (st2 := [.int v_3]) (q := 6) (m_X3_isWord (xG X) (xl X) hx0 (by decide) e_3) ok_X3_isWord hx0 rfl ⟨_, rfl⟩ q_527 rfl ⟨Nat.le_of_ble_eq_true rfl, Nat.le_of_ble_eq_true rfl⟩ rfl rfl (Nat.le_of_ble_eq_true rfl) dX3_readStatement_3 rfl (fun hp_3 => ?_)
  refine r_if_eq C (tgt := 15) (q := 9) dX3_readStatement_6 (by decide) rfl (fun c_6 => ?_) (fun c_6 => ?_)
  · replace h := (if_pos c_6).symm.trans h
    refine r_aload_n C 0 (q := 16) dX3_readStatement_15 rfl rfl ?_
    refine r_ldcS C (q := 18) dX3_readStatement_16 sr_1 rfl ?_
    obtain ⟨v_18, e_18, h⟩ := bs h
    refine r_callV C (ci := 3) (st := []) (st2 := [.int v_18]) (q := 21) (m_X3_isWord (xG X) (xl X) hx0 (by decide) e_18) ok_X3_isWord hx0 rfl ⟨_, rfl⟩ q_527 rfl ⟨Nat.le_of_ble_eq_true rfl, Nat.le_of_ble_eq_true rfl⟩ rfl rfl (Nat.le_of_ble_eq_true rfl) dX3_readStatement_18 rfl (fun hp_18 => ?_)
    refine r_if_eq C (tgt := 30) (q := 24) dX3_readStatement_21 (by decide) rfl (fun c_21 => ?_) (fun c_21 => ?_)
    · replace h := (if_pos c_21).symm.trans h
      refine r_aload_n C 0 (q := 31) dX3_readStatement_30 rfl rfl ?_
      refine r_ldcS C (q := 33) dX3_readStatement_31 sr_2 rfl ?_
      obtain ⟨v_33, s_33, e_33, h⟩ := bs2 h
      refine r_callV C (ci := 3) (st := []) (st2 := [.int v_33]) (q := 36) (m_X3_readWord (xG X) (xl X) hx0 (by decide) e_33) ok_X3_readWord hx0 rfl ⟨_, rfl⟩ q_595 rfl ⟨Nat.le_of_ble_eq_true rfl, Nat.le_of_ble_eq_true rfl⟩ rfl rfl (Nat.le_of_ble_eq_true rfl) dX3_readStatement_33 rfl (fun hp_33 => ?_)
      refine r_if_eq C (tgt := 45) (q := 39) dX3_readStatement_36 (by decide) rfl (fun c_36 => ?_) (fun c_36 => ?_)
      · replace h := (if_pos c_36).symm.trans h
        refine r_aload_n C 0 (q := 46) dX3_readStatement_45 rfl rfl ?_
        refine r_ldcS C (q := 48) dX3_readStatement_46 sr_3 rfl ?_
        obtain ⟨v_48, e_48, h⟩ := bs h
        refine r_callV C (ci := 3) (st := []) (st2 := [.int v_48]) (q := 51) (m_X3_isWord (xG X) (xl X) hx0 (by decide) e_48) ok_X3_isWord hx0 rfl ⟨_, rfl⟩ q_527 rfl ⟨Nat.le_of_ble_eq_true rfl, Nat.le_of_ble_eq_true rfl⟩ rfl rfl (Nat.le_of_ble_eq_true rfl) dX3_readStatement_48 rfl (fun hp_48 => ?_)
        refine r_if_eq C (tgt := 60) (q := 54) dX3_readStatement_51 (by decide) rfl (fun c_51 => ?_) (fun c_51 => ?_)
        · replace h := (if_pos c_51).symm.trans h
          refine r_aload_n C 0 (q := 61) dX3_readStatement_60 rfl rfl ?_
          refine r_ldcS C (q := 63) dX3_readStatement_61 sr_5 rfl ?_
          obtain ⟨v_63, e_63, h⟩ := bs h
          refine r_callV C (ci := 3) (st := []) (st2 := [.int v_63]) (q := 66) (m_X3_isWord (xG X) (xl X) hx0 (by decide) e_63) ok_X3_isWord hx0 rfl ⟨_, rfl⟩ q_527 rfl ⟨Nat.le_of_ble_eq_true rfl, Nat.le_of_ble_eq_true rfl⟩ rfl rfl (Nat.le_of_ble_eq_true rfl) dX3_readStatement_63 rfl (fun hp_63 => ?_)
          refine r_if_eq C (tgt := 75) (q := 69) dX3_readStatement_66 (by decide) rfl (fun c_66 => ?_) (fun c_66 => ?_)
          · replace h := (if_pos c_66).symm.trans h
            refine r_aload_n C 0 (q := 76) dX3_readStatement_75 rfl rfl ?_
            refine r_ldcS C (q := 78) dX3_readStatement_76 sr_8 rfl ?_
            obtain ⟨v_78, s_78, e_78, h⟩ := bs2 h
            refine r_callV C (ci := 3) (st := []) (st2 := [.int v_78]) (q := 81) (m_X3_readWord (xG X) (xl X) hx0 (by decide) e_78) ok_X3_readWord hx0 rfl ⟨_, rfl⟩ q_595 rfl ⟨Nat.le_of_ble_eq_true rfl, Nat.le_of_ble_eq_true rfl⟩ rfl rfl (Nat.le_of_ble_eq_true rfl) dX3_readStatement_78 rfl (fun hp_78 => ?_)
            refine r_if_eq C (tgt := 96) (q := 84) dX3_readStatement_81 (by decide) rfl (fun c_81 => ?_) (fun c_81 => ?_)
            · replace h := (if_pos c_81).symm.trans h
              refine r_iconst C (v := 0) (q := 97) dX3_readStatement_96 (by decide) rfl ?_
              obtain ⟨rfl, rfl⟩ := Prod.mk.inj (Option.some.inj h)
              exact hr _ _ dX3_readStatement_97 (Or.inl rfl)
            · replace h := (if_neg c_81).symm.trans h
              refine r_aload_n C 0 (q := 85) dX3_readStatement_84 rfl rfl ?_
              refine r_aload_n C 1 (q := 86) dX3_readStatement_85 rfl rfl ?_
              obtain ⟨v_86, s_86, e_86, h⟩ := bs2 h
              refine r_callV C (ci := 3) (st := []) (st2 := [.int v_86]) (q := 89) (m_X3_readMay (xG X) (xl X) hx0 hx1 e_86) ok_X3_readMay hx0 rfl ⟨_, rfl⟩ q_629 rfl ⟨Nat.le_of_ble_eq_true rfl, Nat.le_of_ble_eq_true rfl⟩ rfl rfl (Nat.le_of_ble_eq_true rfl) dX3_readStatement_86 rfl (fun hp_86 => ?_)
              refine r_if_eq C (tgt := 96) (q := 92) dX3_readStatement_89 (by decide) rfl (fun c_89 => ?_) (fun c_89 => ?_)
              · replace h := (if_pos c_89).symm.trans h
                refine r_iconst C (v := 0) (q := 97) dX3_readStatement_96 (by decide) rfl ?_
                obtain ⟨rfl, rfl⟩ := Prod.mk.inj (Option.some.inj h)
                exact hr _ _ dX3_readStatement_97 (Or.inl rfl)
              · replace h := (if_neg c_89).symm.trans h
                refine r_iconst C (v := 1) (q := 93) dX3_readStatement_92 (by decide) rfl ?_
                refine r_goto C (tgt := 97) dX3_readStatement_93 (by decide) ?_
                obtain ⟨rfl, rfl⟩ := Prod.mk.inj (Option.some.inj h)
                exact hr _ _ dX3_readStatement_97 (Or.inr rfl)
          · replace h := (if_neg c_66).symm.trans h
            refine r_aload_n C 0 (q := 70) dX3_readStatement_69 rfl rfl ?_
            refine r_aload_n C 1 (q := 71) dX3_readStatement_70 rfl rfl ?_
            obtain ⟨v_71, s_71, e_71, h⟩ := bs2 h
            refine r_callV C (ci := 3) (st := []) (st2 := [.int v_71]) (q := 74) (m_X3_readLock (xG X) (xl X) hx0 hx1 e_71) ok_X3_readLock hx0 rfl ⟨_, rfl⟩ q_616 rfl ⟨Nat.le_of_ble_eq_true rfl, Nat.le_of_ble_eq_true rfl⟩ rfl rfl (Nat.le_of_ble_eq_true rfl) dX3_readStatement_71 rfl (fun hp_71 => ?_)
            obtain ⟨rfl, rfl⟩ := Prod.mk.inj (Option.some.inj h)
            exact hr _ _ dX3_readStatement_74 hp_71
        · replace h := (if_neg c_51).symm.trans h
          refine r_aload_n C 0 (q := 55) dX3_readStatement_54 rfl rfl ?_
          refine r_aload_n C 1 (q := 56) dX3_readStatement_55 rfl rfl ?_
          obtain ⟨v_56, s_56, e_56, h⟩ := bs2 h
          refine r_callV C (ci := 3) (st := []) (st2 := [.int v_56]) (q := 59) (m_X3_readKey (xG X) (xl X) hx0 hx1 e_56) ok_X3_readKey hx0 rfl ⟨_, rfl⟩ q_604 rfl ⟨Nat.le_of_ble_eq_true rfl, Nat.le_of_ble_eq_true rfl⟩ rfl rfl (Nat.le_of_ble_eq_true rfl) dX3_readStatement_56 rfl (fun hp_56 => ?_)
          obtain ⟨rfl, rfl⟩ := Prod.mk.inj (Option.some.inj h)
          exact hr _ _ dX3_readStatement_59 hp_56
      · replace h := (if_neg c_36).symm.trans h
        refine r_aload_n C 0 (q := 40) dX3_readStatement_39 rfl rfl ?_
        refine r_aload_n C 1 (q := 41) dX3_readStatement_40 rfl rfl ?_
        obtain ⟨v_41, s_41, e_41, h⟩ := bs2 h
        refine r_callV C (ci := 3) (st := []) (st2 := [.int v_41]) (q := 44) (m_X3_readStrength (xG X) (xl X) hx0 hx1 e_41) ok_X3_readStrength hx0 rfl ⟨_, rfl⟩ q_599 rfl ⟨Nat.le_of_ble_eq_true rfl, Nat.le_of_ble_eq_true rfl⟩ rfl rfl (Nat.le_of_ble_eq_true rfl) dX3_readStatement_41 rfl (fun hp_41 => ?_)
        obtain ⟨rfl, rfl⟩ := Prod.mk.inj (Option.some.inj h)
        exact hr _ _ dX3_readStatement_44 hp_41
    · replace h := (if_neg c_21).symm.trans h
      refine r_aload_n C 0 (q := 25) dX3_readStatement_24 rfl rfl ?_
      refine r_aload_n C 1 (q := 26) dX3_readStatement_25 rfl rfl ?_
      obtain ⟨v_26, s_26, e_26, h⟩ := bs2 h
      refine r_callV C (ci := 3) (st := []) (st2 := [.int v_26]) (q := 29) (m_X3_readDeep (xG X) (xl X) hx0 hx1 e_26) ok_X3_readDeep hx0 rfl ⟨_, rfl⟩ q_590 rfl ⟨Nat.le_of_ble_eq_true rfl, Nat.le_of_ble_eq_true rfl⟩ rfl rfl (Nat.le_of_ble_eq_true rfl) dX3_readStatement_26 rfl (fun hp_26 => ?_)
      obtain ⟨rfl, rfl⟩ := Prod.mk.inj (Option.some.inj h)
      exact hr _ _ dX3_readStatement_29 hp_26
  · replace h := (if_neg c_6).symm.trans h
    refine r_aload_n C 0 (q := 10) dX3_readStatement_9 rfl rfl ?_
    refine r_aload_n C 1 (q := 11) dX3_readStatement_10 rfl rfl ?_
    obtain ⟨v_11, s_11, e_11, h⟩ := bs2 h
    refine r_callV C (ci := 3) (st := []) (st2 := [.int v_11]) (q := 14) (m_X3_readPlaces (xG X) (xl X) hx0 hx1 e_11) ok_X3_readPlaces hx0 rfl ⟨_, rfl⟩ q_579 rfl ⟨Nat.le_of_ble_eq_true rfl, Nat.le_of_ble_eq_true rfl⟩ rfl rfl (Nat.le_of_ble_eq_true rfl) dX3_readStatement_11 rfl (fun hp_11 => ?_)
    obtain ⟨rfl, rfl⟩ := Prod.mk.inj (Option.some.inj h)
    exact hr _ _ dX3_readStatement_14 hp_11

theorem m_X3_readStatement (G : Gm) (l : Launch) {σ σ' : St} {x0 : Nat} {x1 : Nat} (hx0 : kd x0 = 4) (hx1 : kd x1 = 1) {r : Int32} (h : f_X3_readStatement σ x0 x1 = some (r, σ')) : Ctr G l yX3_readStatement cX3_readStatement 2 (some .boolean) 7 152 [.ref (G.1 x0), .ref (G.1 x1)] σ (some (.int r)) (r = 0 ∨ r = 1) σ' := by
  refine Ctr.z (by decide) (Nat.le_of_ble_eq_true rfl) ?_
  intro X hG C hr
  subst hG
  exact w_X3_readStatement_b0 C hr _ _ _ hx0 hx1 h
-- X3_readInto
set_option maxHeartbeats 4000000 in
set_option maxRecDepth 100000 in
theorem w_X3_readInto_b11 {X : CX} (C : Cok X RX3 cX3_readInto 3 8 173) {σ' : St} {r : Int32} (hr : RtI X cX3_readInto r σ') (k_11 : St → Nat → Nat → Int32 → Option (Int32 × St)) (hk_11 : ∀ (σ : St) (x0 : Nat) (x1 : Nat) (x2 : Int32), kd x0 = 4 → kd x1 = 1 → k_11 σ x0 x1 x2 = some (r, σ') → V X σ 11 [(0, .ref ((xG X).1 x0)), (1, .ref ((xG X).1 x1)), (2, .int x2)] []) (σ : St) (x0 : Nat) (x1 : Nat) (x2 : Int32) (hx0 : kd x0 = 4) (hx1 : kd x1 = 1) (h : f_X3_readInto_b11 k_11 σ x0 x1 x2 = some (r, σ')) : V X σ 11 [(0, .ref ((xG X).1 x0)), (1, .ref ((xG X).1 x1)), (2, .int x2)] [] := by
  unfold f_X3_readInto_b11 at h
  refine r_iload_n C 2 (q := 12) dX3_readInto_11 rfl rfl ?_
  refine r_sipush C (v := 250) (q := 15) dX3_readInto_12 (by decide) rfl ?_
  refine r_icmp_gt C (tgt := 57) (q := 18) dX3_readInto_15 (by decide) rfl (fun c_15 => ?_) (fun c_15 => ?_)
  · replace h := (if_pos c_15).symm.trans h
    refine r_iconst C (v := (-1)) (q := 58) dX3_readInto_57 (by decide) rfl ?_
    obtain ⟨rfl, rfl⟩ := Prod.mk.inj (Option.some.inj h)
    exact hr _ _ dX3_readInto_58
  · replace h := (if_neg c_15).symm.trans h
    refine r_aload_n C 0 (q := 19) dX3_readInto_18 rfl rfl ?_
    refine r_aload_n C 1 (q := 20) dX3_readInto_19 rfl rfl ?_
    obtain ⟨v_20, s_20, e_20, h⟩ := bs2 h
    refine r_callV C (ci := 3) (st := []) (st2 := [.int v_20]) (q := 23) (m_X3_readStatement (xG X) (xl X) hx0 hx1 e_20) ok_X3_readStatement hx0 rfl ⟨_, rfl⟩ q_522 rfl ⟨Nat.le_of_ble_eq_true rfl, Nat.le_of_ble_eq_true rfl⟩ rfl rfl (Nat.le_of_ble_eq_true rfl) dX3_readInto_20 rfl (fun hp_20 => ?_)
    refine r_if_ne C (tgt := 28) (q := 26) dX3_readInto_23 (by decide) rfl (fun c_23 => ?_) (fun c_23 => ?_)
    · replace h := (if_neg c_23).symm.trans h
      refine r_aload_n C 0 (q := 29) dX3_readInto_28 rfl rfl ?_
      refine g_X3_2 C (q := 32) dX3_readInto_29 q_167 hx0 rfl ?_
      refine r_if_ne C (tgt := 37) (q := 35) dX3_readInto_32 (by decide) rfl (fun c_32 => ?_) (fun c_32 => ?_)
      · replace h := (if_neg c_32).symm.trans h
        refine r_aload_n C 0 (q := 38) dX3_readInto_37 rfl rfl ?_
        refine g_X3_2 C (q := 41) dX3_readInto_38 q_167 hx0 rfl ?_
        refine r_iconst C (v := 3) (q := 42) dX3_readInto_41 (by decide) rfl ?_
        refine r_icmp_eq C (tgt := 47) (q := 45) dX3_readInto_42 (by decide) rfl (fun c_42 => ?_) (fun c_42 => ?_)
        · replace h := (if_pos c_42).symm.trans h
          refine r_aload_n C 0 (q := 48) dX3_readInto_47 rfl rfl ?_
          obtain ⟨s_48, e_48, h⟩ := bs h
          refine r_callV C (ci := 3) (st := []) (st2 := []) (q := 51) (m_X3_toNextToken (xG X) (xl X) hx0 e_48) ok_X3_toNextToken hx0 rfl ⟨_, rfl⟩ q_513 rfl ⟨Nat.le_of_ble_eq_true rfl, Nat.le_of_ble_eq_true rfl⟩ rfl rfl (Nat.le_of_ble_eq_true rfl) dX3_readInto_48 rfl (fun hp_48 => ?_)
          obtain ⟨y_51, e_51, h⟩ := bs h
          refine r_iinc C (v := y_51) (lv' := [(2, .int y_51), (0, .ref ((xG X).1 x0)), (1, .ref ((xG X).1 x1))]) (q := 54) 2 dX3_readInto_51 rfl (Option.some.inj e_51) (by decide) rfl rfl ?_
          refine r_goto C (tgt := 11) dX3_readInto_54 (by decide) ?_
          refine r_sub (lv' := [(0, .ref ((xG X).1 x0)), (1, .ref ((xG X).1 x1)), (2, .int y_51)]) [1, 2, 0] rfl ?_
          exact hk_11 _ _ _ _ hx0 hx1 h
        · replace h := (if_neg c_42).symm.trans h
          refine r_iconst C (v := (-1)) (q := 46) dX3_readInto_45 (by decide) rfl ?_
          obtain ⟨rfl, rfl⟩ := Prod.mk.inj (Option.some.inj h)
          exact hr _ _ dX3_readInto_46
      · replace h := (if_pos c_32).symm.trans h
        refine r_iload_n C 2 (q := 36) dX3_readInto_35 rfl rfl ?_
        obtain ⟨rfl, rfl⟩ := Prod.mk.inj (Option.some.inj h)
        exact hr _ _ dX3_readInto_36
    · replace h := (if_pos c_23).symm.trans h
      refine r_iconst C (v := (-1)) (q := 27) dX3_readInto_26 (by decide) rfl ?_
      obtain ⟨rfl, rfl⟩ := Prod.mk.inj (Option.some.inj h)
      exact hr _ _ dX3_readInto_27

theorem w_X3_readInto_l11 {X : CX} (C : Cok X RX3 cX3_readInto 3 8 173) {σ' : St} {r : Int32} (hr : RtI X cX3_readInto r σ') (n : Nat) : ∀ (σ : St) (x0 : Nat) (x1 : Nat) (x2 : Int32), kd x0 = 4 → kd x1 = 1 → f_X3_readInto_l11 n σ x0 x1 x2 = some (r, σ') → V X σ 11 [(0, .ref ((xG X).1 x0)), (1, .ref ((xG X).1 x1)), (2, .int x2)] [] := by
  induction n with
  | zero =>
    intro σ x0 x1 x2 hx0 hx1 h
    exact nomatch (show (none : Option (Int32 × St)) = some (r, σ') from h)
  | succ n ih =>
    intro σ x0 x1 x2 hx0 hx1 h
    exact w_X3_readInto_b11 C hr _ ih σ x0 x1 x2 hx0 hx1 h
set_option maxHeartbeats 4000000 in
set_option maxRecDepth 100000 in
theorem w_X3_readInto_b0 {X : CX} (C : Cok X RX3 cX3_readInto 3 8 173) {σ' : St} {r : Int32} (hr : RtI X cX3_readInto r σ') (σ : St) (x0 : Nat) (x1 : Nat) (hx0 : kd x0 = 4) (hx1 : kd x1 = 1) (h : f_X3_readInto σ x0 x1 = some (r, σ')) : V X σ 0 [(0, .ref ((xG X).1 x0)), (1, .ref ((xG X).1 x1))] [] := by
  unfold f_X3_readInto at h
  refine r_aload_n C 0 (q := 1) dX3_readInto_0 rfl rfl ?_
  refine r_iconst C (v := 0) (q := 2) dX3_readInto_1 (by decide) rfl ?_
  obtain ⟨s_2, e_2, h⟩ := bs h
  refine p_X3_4 C (q := 5) dX3_readInto_2 q_170 hx0 e_2 rfl ?_
  refine r_aload_n C 0 (q := 6) dX3_readInto_5 rfl rfl ?_
  obtain ⟨s_6, e_6, h⟩ := bs h
  refine r_callV C (ci := 3) (st := []) (st2 := []) (q := 9) (m_X3_toNextToken (xG X) (xl X) hx0 e_6) ok_X3_toNextToken hx0 rfl ⟨_, rfl⟩ q_513 rfl ⟨Nat.le_of_ble_eq_true rfl, Nat.le_of_ble_eq_true rfl⟩ rfl rfl (Nat.le_of_ble_eq_true rfl) dX3_readInto_6 rfl (fun hp_6 => ?_)
  refine r_iconst C (v := 1) (q := 10) dX3_readInto_9 (by decide) rfl ?_
  refine r_istore_n C (lv' := [(2, .int 1), (0, .ref ((xG X).1 x0)), (1, .ref ((xG X).1 x1))]) (q := 11) dX3_readInto_10 rfl (by decide) rfl rfl ?_
  refine r_sub (lv' := [(0, .ref ((xG X).1 x0)), (1, .ref ((xG X).1 x1)), (2, .int 1)]) [1, 2, 0] rfl ?_
  exact w_X3_readInto_l11 C hr  FU _ _ _ _ hx0 hx1 h

theorem m_X3_readInto (G : Gm) (l : Launch) {σ σ' : St} {x0 : Nat} {x1 : Nat} (hx0 : kd x0 = 4) (hx1 : kd x1 = 1) {r : Int32} (h : f_X3_readInto σ x0 x1 = some (r, σ')) : Ctr G l yX3_readInto cX3_readInto 3 (some .int) 8 173 [.ref (G.1 x0), .ref (G.1 x1)] σ (some (.int r)) True σ' := by
  refine Ctr.i (by decide) (Nat.le_of_ble_eq_true rfl) ?_
  intro X hG C hr
  subst hG
  exact w_X3_readInto_b0 C hr _ _ _ hx0 hx1 h
-- X4_foundAt
set_option maxHeartbeats 4000000 in
set_option maxRecDepth 100000 in
theorem w_X4_foundAt_b0 {X : CX} (C : Cok X RX4 cX4_foundAt 2 1 21) {σ : St} {r : Int32} (hr : RtI X cX4_foundAt r σ) (x0 : Nat) (x1 : Int32) (hx0 : kd x0 = 5) (h : f_X4_foundAt σ x0 x1 = some r) : V X σ 0 [(0, .ref ((xG X).1 x0)), (1, .int x1)] [] := by
  unfold f_X4_foundAt at h
  refine r_aload_n C 0 (q := 1) dX4_foundAt_0 rfl rfl ?_
  refine g_X4_3 C (q := 4) dX4_foundAt_1 q_130 hx0 rfl ?_
  refine r_iload_n C 1 (q := 5) dX4_foundAt_4 rfl rfl ?_
  obtain ⟨v_5, e_5, h⟩ := bs h
  refine r_callN C (st := []) (st2 := [.int v_5]) (q := 8) (m_X5_at (xG X) (xl X) (kf_X4_3 hx0) e_5) ok_X5_at nst_12 rfl ⟨Nat.le_of_ble_eq_true rfl, Nat.le_of_ble_eq_true rfl⟩ rfl rfl (Nat.le_of_ble_eq_true rfl) dX4_foundAt_5 rfl (fun hp_5 => ?_)
  obtain rfl := Option.some.inj h
  exact hr _ _ dX4_foundAt_8

theorem m_X4_foundAt (G : Gm) (l : Launch) {σ : St} {x0 : Nat} {x1 : Int32} (hx0 : kd x0 = 5) {r : Int32} (h : f_X4_foundAt σ x0 x1 = some r) : Ctr G l yX4_foundAt cX4_foundAt 2 (some .int) 1 21 [.ref (G.1 x0), .int x1] σ (some (.int r)) True σ := by
  refine Ctr.i (by decide) (Nat.le_of_ble_eq_true rfl) ?_
  intro X hG C hr
  subst hG
  exact w_X4_foundAt_b0 C hr _ _ hx0 h
-- X4_fittingRow
set_option maxHeartbeats 4000000 in
set_option maxRecDepth 100000 in
theorem w_X4_fittingRow_b5 {X : CX} (C : Cok X RX4 cX4_fittingRow 5 1 21) {σ : St} {r : Int32} (hr : RtI X cX4_fittingRow r σ) (k_5 : Nat → Nat → Int32 → Int32 → Option Int32) (hk_5 : ∀ (x0 : Nat) (x1 : Nat) (x3 : Int32) (x4 : Int32), kd x0 = 5 → kd x1 = 8 → k_5 x0 x1 x3 x4 = some r → V X σ 5 [(0, .ref ((xG X).1 x0)), (1, .ref ((xG X).1 x1)), (3, .int x3), (4, .int x4)] []) (x0 : Nat) (x1 : Nat) (x3 : Int32) (x4 : Int32) (hx0 : kd x0 = 5) (hx1 : kd x1 = 8) (h : f_X4_fittingRow_b5 σ k_5 x0 x1 x3 x4 = some r) : V X σ 5 [(0, .ref ((xG X).1 x0)), (1, .ref ((xG X).1 x1)), (3, .int x3), (4, .int x4)] [] := by
  unfold f_X4_fittingRow_b5 at h
  refine r_iload C 3 (q := 7) dX4_fittingRow_5 rfl rfl ?_
  refine r_aload_n C 0 (q := 8) dX4_fittingRow_7 rfl rfl ?_
  refine g_X4_0 C (q := 11) dX4_fittingRow_8 q_127 hx0 rfl ?_
  refine g_X0_0 C (q := 14) dX4_fittingRow_11 q_63 (kf_X4_0 hx0) rfl ?_
  refine r_icmp_ge C (tgt := 44) (q := 17) dX4_fittingRow_14 (by decide) rfl (fun c_14 => ?_) (fun c_14 => ?_)
  · replace h := (if_pos c_14).symm.trans h
    refine r_iload_n C 2 (q := 45) dX4_fittingRow_44 rfl rfl ?_
    obtain rfl := Option.some.inj h
    exact hr _ _ dX4_fittingRow_45
  · replace h := (if_neg c_14).symm.trans h
    refine r_iload_n C 2 (q := 18) dX4_fittingRow_17 rfl rfl ?_
    refine r_aload_n C 1 (q := 19) dX4_fittingRow_18 rfl rfl ?_
    refine r_iload C 3 (q := 21) dX4_fittingRow_19 rfl rfl ?_
    refine r_iconst C (v := 5) (q := 22) dX4_fittingRow_21 (by decide) rfl ?_
    refine r_imul C (q := 23) dX4_fittingRow_22 rfl ?_
    refine r_aload_n C 0 (q := 24) dX4_fittingRow_23 rfl rfl ?_
    refine g_X4_2 C (q := 27) dX4_fittingRow_24 q_129 hx0 rfl ?_
    refine r_iload C 3 (q := 29) dX4_fittingRow_27 rfl rfl ?_
    obtain ⟨v_29, e_29, h⟩ := bs h
    refine r_callN C (st := [.int (x4 * 5), .ref ((xG X).1 x1), .int x3]) (st2 := [.int v_29, .int (x4 * 5), .ref ((xG X).1 x1), .int x3]) (q := 32) (m_X5_at (xG X) (xl X) (kf_X4_2 hx0) e_29) ok_X5_at nst_12 rfl ⟨Nat.le_of_ble_eq_true rfl, Nat.le_of_ble_eq_true rfl⟩ rfl rfl (Nat.le_of_ble_eq_true rfl) dX4_fittingRow_29 rfl (fun hp_29 => ?_)
    refine r_iadd C (q := 33) dX4_fittingRow_32 rfl ?_
    obtain ⟨v_33, e_33, h⟩ := bs h
    refine r_callN C (st := [.int x3]) (st2 := [.int v_33, .int x3]) (q := 36) (m_X5_at (xG X) (xl X) hx1 e_33) ok_X5_at nst_12 rfl ⟨Nat.le_of_ble_eq_true rfl, Nat.le_of_ble_eq_true rfl⟩ rfl rfl (Nat.le_of_ble_eq_true rfl) dX4_fittingRow_33 rfl (fun hp_33 => ?_)
    refine r_iand C (q := 37) dX4_fittingRow_36 rfl ?_
    obtain ⟨y_37, e_37, h⟩ := bs h
    refine r_topI (Option.some.inj e_37) ?_
    refine r_istore_n C (lv' := [(3, .int y_37), (0, .ref ((xG X).1 x0)), (1, .ref ((xG X).1 x1)), (4, .int x4)]) (q := 38) dX4_fittingRow_37 rfl (by decide) rfl rfl ?_
    obtain ⟨y_38, e_38, h⟩ := bs h
    refine r_iinc C (v := y_38) (lv' := [(4, .int y_38), (3, .int y_37), (0, .ref ((xG X).1 x0)), (1, .ref ((xG X).1 x1))]) (q := 41) 3 dX4_fittingRow_38 rfl (Option.some.inj e_38) (by decide) rfl rfl ?_
    refine r_goto C (tgt := 5) dX4_fittingRow_41 (by decide) ?_
    refine r_sub (lv' := [(0, .ref ((xG X).1 x0)), (1, .ref ((xG X).1 x1)), (3, .int y_37), (4, .int y_38)]) [2, 3, 1, 0] rfl ?_
    exact hk_5 _ _ _ _ hx0 hx1 h

theorem w_X4_fittingRow_l5 {X : CX} (C : Cok X RX4 cX4_fittingRow 5 1 21) {σ : St} {r : Int32} (hr : RtI X cX4_fittingRow r σ) (n : Nat) : ∀ (x0 : Nat) (x1 : Nat) (x3 : Int32) (x4 : Int32), kd x0 = 5 → kd x1 = 8 → f_X4_fittingRow_l5 σ n x0 x1 x3 x4 = some r → V X σ 5 [(0, .ref ((xG X).1 x0)), (1, .ref ((xG X).1 x1)), (3, .int x3), (4, .int x4)] [] := by
  induction n with
  | zero =>
    intro x0 x1 x3 x4 hx0 hx1 h
    exact nomatch (show (none : Option Int32) = some r from h)
  | succ n ih =>
    intro x0 x1 x3 x4 hx0 hx1 h
    exact w_X4_fittingRow_b5 C hr _ ih x0 x1 x3 x4 hx0 hx1 h
set_option maxHeartbeats 4000000 in
set_option maxRecDepth 100000 in
theorem w_X4_fittingRow_b0 {X : CX} (C : Cok X RX4 cX4_fittingRow 5 1 21) {σ : St} {r : Int32} (hr : RtI X cX4_fittingRow r σ) (x0 : Nat) (x1 : Nat) (x2 : Int32) (hx0 : kd x0 = 5) (hx1 : kd x1 = 8) (h : f_X4_fittingRow σ x0 x1 x2 = some r) : V X σ 0 [(0, .ref ((xG X).1 x0)), (1, .ref ((xG X).1 x1)), (2, .int x2)] [] := by
  unfold f_X4_fittingRow at h
  refine r_iload_n C 2 (q := 1) dX4_fittingRow_0 rfl rfl ?_
  refine r_istore_n C (lv' := [(3, .int x2), (0, .ref ((xG X).1 x0)), (1, .ref ((xG X).1 x1)), (2, .int x2)]) (q := 2) dX4_fittingRow_1 rfl (by decide) rfl rfl ?_
  refine r_iconst C (v := 0) (q := 3) dX4_fittingRow_2 (by decide) rfl ?_
  refine r_istore C (lv' := [(4, .int 0), (3, .int x2), (0, .ref ((xG X).1 x0)), (1, .ref ((xG X).1 x1)), (2, .int x2)]) (q := 5) dX4_fittingRow_3 (by decide) rfl rfl ?_
  refine r_sub (lv' := [(0, .ref ((xG X).1 x0)), (1, .ref ((xG X).1 x1)), (3, .int x2), (4, .int 0)]) [2, 3, 1, 0] rfl ?_
  exact w_X4_fittingRow_l5 C hr  FU _ _ _ _ hx0 hx1 h

theorem m_X4_fittingRow (G : Gm) (l : Launch) {σ : St} {x0 : Nat} {x1 : Nat} {x2 : Int32} (hx0 : kd x0 = 5) (hx1 : kd x1 = 8) {r : Int32} (h : f_X4_fittingRow σ x0 x1 x2 = some r) : Ctr G l yX4_fittingRow cX4_fittingRow 5 (some .int) 1 21 [.ref (G.1 x0), .ref (G.1 x1), .int x2] σ (some (.int r)) True σ := by
  refine Ctr.i (by decide) (Nat.le_of_ble_eq_true rfl) ?_
  intro X hG C hr
  subst hG
  exact w_X4_fittingRow_b0 C hr _ _ _ hx0 hx1 h
-- X4_leastRow
set_option maxHeartbeats 4000000 in
set_option maxRecDepth 100000 in
theorem w_X4_leastRow_b76 {X : CX} (C : Cok X RX4 cX4_leastRow 7 2 45) {σ' : St} {r : Int32} (hr : RtI X cX4_leastRow r σ') (k_14 : St → Nat → Nat → Int32 → Int32 → Int32 → Int32 → Option (Int32 × St)) (hk_14 : ∀ (σ : St) (x0 : Nat) (x1 : Nat) (x2 : Int32) (x3 : Int32) (x4 : Int32) (x5 : Int32), kd x0 = 5 → kd x1 = 8 → k_14 σ x0 x1 x2 x3 x4 x5 = some (r, σ') → V X σ 14 [(0, .ref ((xG X).1 x0)), (1, .ref ((xG X).1 x1)), (2, .int x2), (3, .int x3), (4, .int x4), (5, .int x5)] []) (σ : St) (x0 : Nat) (x1 : Nat) (x2 : Int32) (x3 : Int32) (x4 : Int32) (x5 : Int32) (hx0 : kd x0 = 5) (hx1 : kd x1 = 8) (h : f_X4_leastRow_b76 k_14 σ x0 x1 x2 x3 x4 x5 = some (r, σ')) : V X σ 76 [(0, .ref ((xG X).1 x0)), (1, .ref ((xG X).1 x1)), (2, .int x2), (3, .int x3), (4, .int x4), (5, .int x5)] [] := by
  unfold f_X4_leastRow_b76 at h
  refine r_aload_n C 0 (q := 77) dX4_leastRow_76 rfl rfl ?_
  refine g_X4_0 C (q := 80) dX4_leastRow_77 q_127 hx0 rfl ?_
  refine r_aload_n C 0 (q := 81) dX4_leastRow_80 rfl rfl ?_
  refine g_X4_2 C (q := 84) dX4_leastRow_81 q_129 hx0 rfl ?_
  refine r_aload_n C 0 (q := 85) dX4_leastRow_84 rfl rfl ?_
  refine g_X4_1 C (q := 88) dX4_leastRow_85 q_128 hx0 rfl ?_
  obtain ⟨v_88, s_88, e_88, h⟩ := bs2 h
  refine r_callV C (ci := 0) (st := []) (st2 := [.int v_88]) (q := 91) (m_X0_advance (xG X) (xl X) (kf_X4_0 hx0) (kf_X4_2 hx0) (kf_X4_1 hx0) e_88) ok_X0_advance (kf_X4_0 hx0) rfl ⟨_, rfl⟩ q_729 rfl ⟨Nat.le_of_ble_eq_true rfl, Nat.le_of_ble_eq_true rfl⟩ rfl rfl (Nat.le_of_ble_eq_true rfl) dX4_leastRow_88 rfl (fun hp_88 => ?_)
  refine r_if_ne C (tgt := 97) (q := 94) dX4_leastRow_91 (by decide) rfl (fun c_91 => ?_) (fun c_91 => ?_)
  · replace h := (if_neg c_91).symm.trans h
    obtain ⟨y_97, e_97, h⟩ := bs h
    refine r_iinc C (v := y_97) (lv' := [(5, .int y_97), (0, .ref ((xG X).1 x0)), (1, .ref ((xG X).1 x1)), (2, .int x2), (3, .int x3), (4, .int x4)]) (q := 100) 5 dX4_leastRow_97 rfl (Option.some.inj e_97) (by decide) rfl rfl ?_
    refine r_goto C (tgt := 14) dX4_leastRow_100 (by decide) ?_
    refine r_sub (lv' := [(0, .ref ((xG X).1 x0)), (1, .ref ((xG X).1 x1)), (2, .int x2), (3, .int x3), (4, .int x4), (5, .int y_97)]) [1, 2, 3, 4, 5, 0] rfl ?_
    exact hk_14 _ _ _ _ _ _ _ hx0 hx1 h
  · replace h := (if_pos c_91).symm.trans h
    refine r_goto C (tgt := 103) dX4_leastRow_94 (by decide) ?_
    refine r_iload C 4 (q := 105) dX4_leastRow_103 rfl rfl ?_
    obtain ⟨rfl, rfl⟩ := Prod.mk.inj (Option.some.inj h)
    exact hr _ _ dX4_leastRow_105

set_option maxHeartbeats 4000000 in
set_option maxRecDepth 100000 in
theorem w_X4_leastRow_b48 {X : CX} (C : Cok X RX4 cX4_leastRow 7 2 45) {σ' : St} {r : Int32} (hr : RtI X cX4_leastRow r σ') (k_14 : St → Nat → Nat → Int32 → Int32 → Int32 → Int32 → Option (Int32 × St)) (hk_14 : ∀ (σ : St) (x0 : Nat) (x1 : Nat) (x2 : Int32) (x3 : Int32) (x4 : Int32) (x5 : Int32), kd x0 = 5 → kd x1 = 8 → k_14 σ x0 x1 x2 x3 x4 x5 = some (r, σ') → V X σ 14 [(0, .ref ((xG X).1 x0)), (1, .ref ((xG X).1 x1)), (2, .int x2), (3, .int x3), (4, .int x4), (5, .int x5)] []) (σ : St) (x0 : Nat) (x1 : Nat) (x2 : Int32) (x3 : Int32) (x4 : Int32) (x5 : Int32) (x6 : Int32) (hx0 : kd x0 = 5) (hx1 : kd x1 = 8) (h : f_X4_leastRow_b48 k_14 σ x0 x1 x2 x3 x4 x5 x6 = some (r, σ')) : V X σ 48 [(0, .ref ((xG X).1 x0)), (1, .ref ((xG X).1 x1)), (2, .int x2), (3, .int x3), (4, .int x4), (5, .int x5), (6, .int x6)] [] := by
  unfold f_X4_leastRow_b48 at h
  refine r_aload_n C 0 (q := 49) dX4_leastRow_48 rfl rfl ?_
  refine r_aload_n C 1 (q := 50) dX4_leastRow_49 rfl rfl ?_
  refine r_iload_n C 2 (q := 51) dX4_leastRow_50 rfl rfl ?_
  obtain ⟨v_51, e_51, h⟩ := bs h
  refine r_callV C (ci := 4) (st := []) (st2 := [.int v_51]) (q := 54) (m_X4_fittingRow (xG X) (xl X) hx0 hx1 e_51) ok_X4_fittingRow hx0 rfl ⟨_, rfl⟩ q_723 rfl ⟨Nat.le_of_ble_eq_true rfl, Nat.le_of_ble_eq_true rfl⟩ rfl rfl (Nat.le_of_ble_eq_true rfl) dX4_leastRow_51 rfl (fun hp_51 => ?_)
  refine r_iload_n C 3 (q := 55) dX4_leastRow_54 rfl rfl ?_
  refine r_icmp_ne C (tgt := 76) (q := 58) dX4_leastRow_55 (by decide) rfl (fun c_55 => ?_) (fun c_55 => ?_)
  · replace h := (if_neg c_55).symm.trans h
    refine r_sub (lv' := [(0, .ref ((xG X).1 x0)), (1, .ref ((xG X).1 x1)), (2, .int x2), (3, .int x3), (4, .int x4), (5, .int x5)]) [0, 1, 2, 3, 4, 5] rfl ?_
    exact w_X4_leastRow_b76 C hr _ hk_14 _ _ _ _ _ _ _ hx0 hx1 h
  · replace h := (if_pos c_55).symm.trans h
    refine r_iload C 6 (q := 60) dX4_leastRow_58 rfl rfl ?_
    refine r_istore C (lv' := [(4, .int x6), (0, .ref ((xG X).1 x0)), (1, .ref ((xG X).1 x1)), (2, .int x2), (3, .int x3), (5, .int x5), (6, .int x6)]) (q := 62) dX4_leastRow_60 (by decide) rfl rfl ?_
    refine r_aload_n C 1 (q := 63) dX4_leastRow_62 rfl rfl ?_
    refine g_X4_2 C (q := 66) dX4_leastRow_63 q_129 hx0 rfl ?_
    refine r_iconst C (v := 0) (q := 67) dX4_leastRow_66 (by decide) rfl ?_
    refine r_aload_n C 1 (q := 68) dX4_leastRow_67 rfl rfl ?_
    refine g_X4_3 C (q := 71) dX4_leastRow_68 q_130 hx0 rfl ?_
    refine r_iconst C (v := 0) (q := 72) dX4_leastRow_71 (by decide) rfl ?_
    refine r_iconst C (v := 5) (q := 73) dX4_leastRow_72 (by decide) rfl ?_
    obtain ⟨s_73, e_73, h⟩ := bs h
    refine r_copyI C (st := []) (q := 76) dX4_leastRow_73 q_728 ok_copy (kf_X4_2 hx0) (kf_X4_3 hx0) e_73 ⟨Nat.le_of_ble_eq_true rfl, Nat.le_of_ble_eq_true rfl⟩ rfl ?_
    refine r_sub (lv' := [(0, .ref ((xG X).1 x0)), (1, .ref ((xG X).1 x1)), (2, .int x2), (3, .int x3), (4, .int x6), (5, .int x5)]) [1, 2, 3, 4, 0, 5] rfl ?_
    exact w_X4_leastRow_b76 C hr _ hk_14 _ _ _ _ _ _ _ hx0 hx1 h

set_option maxHeartbeats 4000000 in
set_option maxRecDepth 100000 in
theorem w_X4_leastRow_b14 {X : CX} (C : Cok X RX4 cX4_leastRow 7 2 45) {σ' : St} {r : Int32} (hr : RtI X cX4_leastRow r σ') (k_14 : St → Nat → Nat → Int32 → Int32 → Int32 → Int32 → Option (Int32 × St)) (hk_14 : ∀ (σ : St) (x0 : Nat) (x1 : Nat) (x2 : Int32) (x3 : Int32) (x4 : Int32) (x5 : Int32), kd x0 = 5 → kd x1 = 8 → k_14 σ x0 x1 x2 x3 x4 x5 = some (r, σ') → V X σ 14 [(0, .ref ((xG X).1 x0)), (1, .ref ((xG X).1 x1)), (2, .int x2), (3, .int x3), (4, .int x4), (5, .int x5)] []) (σ : St) (x0 : Nat) (x1 : Nat) (x2 : Int32) (x3 : Int32) (x4 : Int32) (x5 : Int32) (hx0 : kd x0 = 5) (hx1 : kd x1 = 8) (h : f_X4_leastRow_b14 k_14 σ x0 x1 x2 x3 x4 x5 = some (r, σ')) : V X σ 14 [(0, .ref ((xG X).1 x0)), (1, .ref ((xG X).1 x1)), (2, .int x2), (3, .int x3), (4, .int x4), (5, .int x5)] [] := by
  unfold f_X4_leastRow_b14 at h
  refine r_iload C 5 (q := 16) dX4_leastRow_14 rfl rfl ?_
  refine r_sipush C (v := 3125) (q := 19) dX4_leastRow_16 (by decide) rfl ?_
  refine r_icmp_ge C (tgt := 103) (q := 22) dX4_leastRow_19 (by decide) rfl (fun c_19 => ?_) (fun c_19 => ?_)
  · replace h := (if_pos c_19).symm.trans h
    refine r_iload C 4 (q := 105) dX4_leastRow_103 rfl rfl ?_
    obtain ⟨rfl, rfl⟩ := Prod.mk.inj (Option.some.inj h)
    exact hr _ _ dX4_leastRow_105
  · replace h := (if_neg c_19).symm.trans h
    refine r_aload_n C 0 (q := 23) dX4_leastRow_22 rfl rfl ?_
    refine g_X4_0 C (q := 26) dX4_leastRow_23 q_127 hx0 rfl ?_
    refine r_aload_n C 0 (q := 27) dX4_leastRow_26 rfl rfl ?_
    refine g_X4_2 C (q := 30) dX4_leastRow_27 q_129 hx0 rfl ?_
    obtain ⟨v_30, e_30, h⟩ := bs h
    refine r_callV C (ci := 0) (st := []) (st2 := [.int v_30]) (q := 33) (m_X0_sum (xG X) (xl X) (kf_X4_0 hx0) (kf_X4_2 hx0) e_30) ok_X0_sum (kf_X4_0 hx0) rfl ⟨_, rfl⟩ q_722 rfl ⟨Nat.le_of_ble_eq_true rfl, Nat.le_of_ble_eq_true rfl⟩ rfl rfl (Nat.le_of_ble_eq_true rfl) dX4_leastRow_30 rfl (fun hp_30 => ?_)
    refine r_istore C (lv' := [(6, .int v_30), (0, .ref ((xG X).1 x0)), (1, .ref ((xG X).1 x1)), (2, .int x2), (3, .int x3), (4, .int x4), (5, .int x5)]) (q := 35) dX4_leastRow_33 (by decide) rfl rfl ?_
    refine r_iload C 5 (q := 37) dX4_leastRow_35 rfl rfl ?_
    refine r_iconst C (v := (-1)) (q := 38) dX4_leastRow_37 (by decide) rfl ?_
    refine r_icmp_eq C (tgt := 48) (q := 41) dX4_leastRow_38 (by decide) rfl (fun c_38 => ?_) (fun c_38 => ?_)
    · replace h := (if_pos c_38).symm.trans h
      refine r_sub (lv' := [(0, .ref ((xG X).1 x0)), (1, .ref ((xG X).1 x1)), (2, .int x2), (3, .int x3), (4, .int x4), (5, .int x5), (6, .int v_30)]) [1, 2, 3, 4, 5, 6, 0] rfl ?_
      exact w_X4_leastRow_b48 C hr _ hk_14 _ _ _ _ _ _ _ _ hx0 hx1 h
    · replace h := (if_neg c_38).symm.trans h
      refine r_iload C 0 (q := 43) dX4_leastRow_41 rfl rfl ?_
      refine r_iload C 5 (q := 45) dX4_leastRow_43 rfl rfl ?_
      refine r_icmp_ge C (tgt := 76) (q := 48) dX4_leastRow_45 (by decide) rfl (fun c_45 => ?_) (fun c_45 => ?_)
      · replace h := (if_pos c_45).symm.trans h
        refine r_sub (lv' := [(0, .ref ((xG X).1 x0)), (1, .ref ((xG X).1 x1)), (2, .int x2), (3, .int x3), (4, .int x4), (5, .int x5)]) [1, 2, 3, 4, 5, 6] rfl ?_
        exact w_X4_leastRow_b76 C hr _ hk_14 _ _ _ _ _ _ _ hx0 hx1 h
      · replace h := (if_neg c_45).symm.trans h
        refine r_sub (lv' := [(0, .ref ((xG X).1 x0)), (1, .ref ((xG X).1 x1)), (2, .int x2), (3, .int x3), (4, .int x4), (5, .int x5), (6, .int v_30)]) [1, 2, 3, 4, 5, 6, 0] rfl ?_
        exact w_X4_leastRow_b48 C hr _ hk_14 _ _ _ _ _ _ _ _ hx0 hx1 h

theorem w_X4_leastRow_l14 {X : CX} (C : Cok X RX4 cX4_leastRow 7 2 45) {σ' : St} {r : Int32} (hr : RtI X cX4_leastRow r σ') (n : Nat) : ∀ (σ : St) (x0 : Nat) (x1 : Nat) (x2 : Int32) (x3 : Int32) (x4 : Int32) (x5 : Int32), kd x0 = 5 → kd x1 = 8 → f_X4_leastRow_l14 n σ x0 x1 x2 x3 x4 x5 = some (r, σ') → V X σ 14 [(0, .ref ((xG X).1 x0)), (1, .ref ((xG X).1 x1)), (2, .int x2), (3, .int x3), (4, .int x4), (5, .int x5)] [] := by
  induction n with
  | zero =>
    intro σ x0 x1 x2 x3 x4 x5 hx0 hx1 h
    exact nomatch (show (none : Option (Int32 × St)) = some (r, σ') from h)
  | succ n ih =>
    intro σ x0 x1 x2 x3 x4 x5 hx0 hx1 h
    exact w_X4_leastRow_b14 C hr _ ih σ x0 x1 x2 x3 x4 x5 hx0 hx1 h
set_option maxHeartbeats 4000000 in
set_option maxRecDepth 100000 in
theorem w_X4_leastRow_b0 {X : CX} (C : Cok X RX4 cX4_leastRow 7 2 45) {σ' : St} {r : Int32} (hr : RtI X cX4_leastRow r σ') (σ : St) (x0 : Nat) (x1 : Nat) (x2 : Int32) (x3 : Int32) (hx0 : kd x0 = 5) (hx1 : kd x1 = 8) (h : f_X4_leastRow σ x0 x1 x2 x3 = some (r, σ')) : V X σ 0 [(0, .ref ((xG X).1 x0)), (1, .ref ((xG X).1 x1)), (2, .int x2), (3, .int x3)] [] := by
  unfold f_X4_leastRow at h
  refine r_iconst C (v := (-1)) (q := 1) dX4_leastRow_0 (by decide) rfl ?_
  refine r_istore C (lv' := [(4, .int (-1)), (0, .ref ((xG X).1 x0)), (1, .ref ((xG X).1 x1)), (2, .int x2), (3, .int x3)]) (q := 3) dX4_leastRow_1 (by decide) rfl rfl ?_
  refine r_aload_n C 1 (q := 4) dX4_leastRow_3 rfl rfl ?_
  refine g_X4_2 C (q := 7) dX4_leastRow_4 q_129 hx0 rfl ?_
  refine r_iconst C (v := 0) (q := 8) dX4_leastRow_7 (by decide) rfl ?_
  obtain ⟨s_8, e_8, h⟩ := bs h
  refine r_callS C (st := []) (st2 := []) (q := 11) (m_J7_fill_53178 (xG X) (xl X) (kf_X4_2 hx0) e_8) ok_J7_fill_53178 q_721 rfl ⟨Nat.le_of_ble_eq_true rfl, Nat.le_of_ble_eq_true rfl⟩ rfl rfl (Nat.le_of_ble_eq_true rfl) dX4_leastRow_8 rfl (fun hp_8 => ?_)
  refine r_iconst C (v := 0) (q := 12) dX4_leastRow_11 (by decide) rfl ?_
  refine r_istore C (lv' := [(5, .int 0), (4, .int (-1)), (0, .ref ((xG X).1 x0)), (1, .ref ((xG X).1 x1)), (2, .int x2), (3, .int x3)]) (q := 14) dX4_leastRow_12 (by decide) rfl rfl ?_
  refine r_sub (lv' := [(0, .ref ((xG X).1 x0)), (1, .ref ((xG X).1 x1)), (2, .int x2), (3, .int x3), (4, .int (-1)), (5, .int 0)]) [2, 3, 4, 5, 1, 0] rfl ?_
  exact w_X4_leastRow_l14 C hr  FU _ _ _ _ _ _ _ hx0 hx1 h

theorem m_X4_leastRow (G : Gm) (l : Launch) {σ σ' : St} {x0 : Nat} {x1 : Nat} {x2 : Int32} {x3 : Int32} (hx0 : kd x0 = 5) (hx1 : kd x1 = 8) {r : Int32} (h : f_X4_leastRow σ x0 x1 x2 x3 = some (r, σ')) : Ctr G l yX4_leastRow cX4_leastRow 7 (some .int) 2 45 [.ref (G.1 x0), .ref (G.1 x1), .int x2, .int x3] σ (some (.int r)) True σ' := by
  refine Ctr.i (by decide) (Nat.le_of_ble_eq_true rfl) ?_
  intro X hG C hr
  subst hG
  exact w_X4_leastRow_b0 C hr _ _ _ _ _ hx0 hx1 h
-- X4_leastCuts
set_option maxHeartbeats 4000000 in
set_option maxRecDepth 100000 in
theorem w_X4_leastCuts_b0 {X : CX} (C : Cok X RX4 cX4_leastCuts 2 3 71) {σ' : St} {r : Int32} (hr : RtI X cX4_leastCuts r σ') (σ : St) (x0 : Nat) (x1 : Int32) (hx0 : kd x0 = 5) (h : f_X4_leastCuts σ x0 x1 = some (r, σ')) : V X σ 0 [(0, .ref ((xG X).1 x0)), (1, .int x1)] [] := by
  unfold f_X4_leastCuts at h
  refine r_aload_n C 0 (q := 1) dX4_leastCuts_0 rfl rfl ?_
  refine r_aload_n C 0 (q := 2) dX4_leastCuts_1 rfl rfl ?_
  refine g_X4_0 C (q := 5) dX4_leastCuts_2 q_127 hx0 rfl ?_
  refine g_X0_11 C (q := 8) dX4_leastCuts_5 q_93 (kf_X4_0 hx0) rfl ?_
  refine r_aload_n C 0 (q := 9) dX4_leastCuts_8 rfl rfl ?_
  refine g_X4_0 C (q := 12) dX4_leastCuts_9 q_127 hx0 rfl ?_
  refine g_X0_6 C (q := 15) dX4_leastCuts_12 q_82 (kf_X4_0 hx0) rfl ?_
  obtain ⟨v_15, e_15, h⟩ := bs h
  refine r_callN C (st := [.ref ((xG X).1 (39 + 3)), .ref ((xG X).1 x0)]) (st2 := [.int v_15, .ref ((xG X).1 (39 + 3)), .ref ((xG X).1 x0)]) (q := 18) (m_X5_firstBits (xG X) (xl X) e_15) ok_X5_firstBits nst_11 rfl ⟨Nat.le_of_ble_eq_true rfl, Nat.le_of_ble_eq_true rfl⟩ rfl rfl (Nat.le_of_ble_eq_true rfl) dX4_leastCuts_15 rfl (fun hp_15 => ?_)
  refine r_iload_n C 1 (q := 19) dX4_leastCuts_18 rfl rfl ?_
  obtain ⟨v_19, s_19, e_19, h⟩ := bs2 h
  refine r_callV C (ci := 4) (st := []) (st2 := [.int v_19]) (q := 22) (m_X4_leastRow (xG X) (xl X) hx0 (kf_X0_11 (kf_X4_0 hx0)) e_19) ok_X4_leastRow hx0 rfl ⟨_, rfl⟩ q_717 rfl ⟨Nat.le_of_ble_eq_true rfl, Nat.le_of_ble_eq_true rfl⟩ rfl rfl (Nat.le_of_ble_eq_true rfl) dX4_leastCuts_19 rfl (fun hp_19 => ?_)
  obtain ⟨rfl, rfl⟩ := Prod.mk.inj (Option.some.inj h)
  exact hr _ _ dX4_leastCuts_22

theorem m_X4_leastCuts (G : Gm) (l : Launch) {σ σ' : St} {x0 : Nat} {x1 : Int32} (hx0 : kd x0 = 5) {r : Int32} (h : f_X4_leastCuts σ x0 x1 = some (r, σ')) : Ctr G l yX4_leastCuts cX4_leastCuts 2 (some .int) 3 71 [.ref (G.1 x0), .int x1] σ (some (.int r)) True σ' := by
  refine Ctr.i (by decide) (Nat.le_of_ble_eq_true rfl) ?_
  intro X hG C hr
  subst hG
  exact w_X4_leastCuts_b0 C hr _ _ _ hx0 h
-- X4_keysOfDepth
set_option maxHeartbeats 4000000 in
set_option maxRecDepth 100000 in
theorem w_X4_keysOfDepth_b54 {X : CX} (C : Cok X RX4 cX4_keysOfDepth 6 2 45) {σ : St} {r : Int32} (hr : RtI X cX4_keysOfDepth r σ) (k_5 : Nat → Int32 → Int32 → Int32 → Int32 → Option Int32) (hk_5 : ∀ (x0 : Nat) (x1 : Int32) (x2 : Int32) (x3 : Int32) (x4 : Int32), kd x0 = 5 → k_5 x0 x1 x2 x3 x4 = some r → V X σ 5 [(0, .ref ((xG X).1 x0)), (1, .int x1), (2, .int x2), (3, .int x3), (4, .int x4)] []) (x0 : Nat) (x1 : Int32) (x2 : Int32) (x3 : Int32) (x4 : Int32) (hx0 : kd x0 = 5) (h : f_X4_keysOfDepth_b54 σ k_5 x0 x1 x2 x3 x4 = some r) : V X σ 54 [(0, .ref ((xG X).1 x0)), (1, .int x1), (2, .int x2), (3, .int x3), (4, .int x4)] [] := by
  unfold f_X4_keysOfDepth_b54 at h
  obtain ⟨y_54, e_54, h⟩ := bs h
  refine r_iinc C (v := y_54) (lv' := [(4, .int y_54), (0, .ref ((xG X).1 x0)), (1, .int x1), (2, .int x2), (3, .int x3)]) (q := 57) 4 dX4_keysOfDepth_54 rfl (Option.some.inj e_54) (by decide) rfl rfl ?_
  refine r_goto C (tgt := 5) dX4_keysOfDepth_57 (by decide) ?_
  refine r_sub (lv' := [(0, .ref ((xG X).1 x0)), (1, .int x1), (2, .int x2), (3, .int x3), (4, .int y_54)]) [1, 2, 3, 4, 0] rfl ?_
  exact hk_5 _ _ _ _ _ hx0 h

set_option maxHeartbeats 4000000 in
set_option maxRecDepth 100000 in
theorem w_X4_keysOfDepth_b5 {X : CX} (C : Cok X RX4 cX4_keysOfDepth 6 2 45) {σ : St} {r : Int32} (hr : RtI X cX4_keysOfDepth r σ) (k_5 : Nat → Int32 → Int32 → Int32 → Int32 → Option Int32) (hk_5 : ∀ (x0 : Nat) (x1 : Int32) (x2 : Int32) (x3 : Int32) (x4 : Int32), kd x0 = 5 → k_5 x0 x1 x2 x3 x4 = some r → V X σ 5 [(0, .ref ((xG X).1 x0)), (1, .int x1), (2, .int x2), (3, .int x3), (4, .int x4)] []) (x0 : Nat) (x1 : Int32) (x2 : Int32) (x3 : Int32) (x4 : Int32) (hx0 : kd x0 = 5) (h : f_X4_keysOfDepth_b5 σ k_5 x0 x1 x2 x3 x4 = some r) : V X σ 5 [(0, .ref ((xG X).1 x0)), (1, .int x1), (2, .int x2), (3, .int x3), (4, .int x4)] [] := by
  unfold f_X4_keysOfDepth_b5 at h
  refine r_iload C 4 (q := 7) dX4_keysOfDepth_5 rfl rfl ?_
  refine r_aload_n C 0 (q := 8) dX4_keysOfDepth_7 rfl rfl ?_
  refine g_X4_0 C (q := 11) dX4_keysOfDepth_8 q_127 hx0 rfl ?_
  refine g_X0_5 C (q := 14) dX4_keysOfDepth_11 q_78 (kf_X4_0 hx0) rfl ?_
  refine r_icmp_ge C (tgt := 60) (q := 17) dX4_keysOfDepth_14 (by decide) rfl (fun c_14 => ?_) (fun c_14 => ?_)
  · replace h := (if_pos c_14).symm.trans h
    refine r_iload_n C 3 (q := 61) dX4_keysOfDepth_60 rfl rfl ?_
    obtain rfl := Option.some.inj h
    exact hr _ _ dX4_keysOfDepth_61
  · replace h := (if_neg c_14).symm.trans h
    refine r_aload_n C 0 (q := 18) dX4_keysOfDepth_17 rfl rfl ?_
    refine g_X4_0 C (q := 21) dX4_keysOfDepth_18 q_127 hx0 rfl ?_
    refine r_iload C 4 (q := 23) dX4_keysOfDepth_21 rfl rfl ?_
    obtain ⟨v_23, e_23, h⟩ := bs h
    refine r_callV C (ci := 0) (st := []) (st2 := [.ref ((xG X).1 v_23)]) (q := 26) (m_X0_keyAt (xG X) (xl X) (kf_X4_0 hx0) e_23) ok_X0_keyAt (kf_X4_0 hx0) rfl ⟨_, rfl⟩ q_753 rfl ⟨Nat.le_of_ble_eq_true rfl, Nat.le_of_ble_eq_true rfl⟩ rfl rfl (Nat.le_of_ble_eq_true rfl) dX4_keysOfDepth_23 rfl (fun hp_23 => ?_)
    refine r_astore C (lv' := [(5, .ref ((xG X).1 v_23)), (0, .ref ((xG X).1 x0)), (1, .int x1), (2, .int x2), (3, .int x3), (4, .int x4)]) (q := 28) dX4_keysOfDepth_26 (by decide) rfl rfl ?_
    refine r_aload_n C 1 (q := 29) dX4_keysOfDepth_28 rfl rfl ?_
    refine g_X4_0 C (q := 32) dX4_keysOfDepth_29 q_127 hx0 rfl ?_
    refine r_aload C 0 (q := 34) dX4_keysOfDepth_32 rfl rfl ?_
    refine r_aload C 0 (q := 36) dX4_keysOfDepth_34 rfl rfl ?_
    refine g_X1_3 C (q := 39) dX4_keysOfDepth_36 q_48 hp_23 rfl ?_
    refine r_iload_n C 2 (q := 40) dX4_keysOfDepth_39 rfl rfl ?_
    obtain ⟨v_40, e_40, h⟩ := bs h
    refine r_callV C (ci := 0) (st := []) (st2 := [.int v_40]) (q := 43) (m_X0_depth (xG X) (xl X) (kf_X4_0 hx0) hp_23 (kf_X1_3 hp_23) e_40) ok_X0_depth (kf_X4_0 hx0) rfl ⟨_, rfl⟩ q_754 rfl ⟨Nat.le_of_ble_eq_true rfl, Nat.le_of_ble_eq_true rfl⟩ rfl rfl (Nat.le_of_ble_eq_true rfl) dX4_keysOfDepth_40 rfl (fun hp_40 => ?_)
    refine r_iload_n C 3 (q := 44) dX4_keysOfDepth_43 rfl rfl ?_
    refine r_icmp_lt C (tgt := 54) (q := 47) dX4_keysOfDepth_44 (by decide) rfl (fun c_44 => ?_) (fun c_44 => ?_)
    · replace h := (if_pos c_44).symm.trans h
      refine r_sub (lv' := [(0, .ref ((xG X).1 x0)), (1, .int x1), (2, .int x2), (3, .int x3), (4, .int x4)]) [1, 2, 3, 4, 5] rfl ?_
      exact w_X4_keysOfDepth_b54 C hr _ hk_5 _ _ _ _ _ hx0 h
    · replace h := (if_neg c_44).symm.trans h
      refine r_iload_n C 4 (q := 48) dX4_keysOfDepth_47 rfl rfl ?_
      refine r_iconst C (v := 1) (q := 49) dX4_keysOfDepth_48 (by decide) rfl ?_
      refine r_iload C 5 (q := 51) dX4_keysOfDepth_49 rfl rfl ?_
      refine r_ishl C (q := 52) dX4_keysOfDepth_51 rfl ?_
      refine r_ior C (q := 53) dX4_keysOfDepth_52 rfl ?_
      obtain ⟨y_53, e_53, h⟩ := bs h
      refine r_topI (Option.some.inj e_53) ?_
      refine r_istore_n C (lv' := [(3, .int y_53), (5, .ref ((xG X).1 v_23)), (0, .ref ((xG X).1 x0)), (1, .int x1), (2, .int x2), (4, .int x4)]) (q := 54) dX4_keysOfDepth_53 rfl (by decide) rfl rfl ?_
      refine r_sub (lv' := [(0, .ref ((xG X).1 x0)), (1, .int x1), (2, .int x2), (3, .int y_53), (4, .int x4)]) [2, 3, 4, 0, 5] rfl ?_
      exact w_X4_keysOfDepth_b54 C hr _ hk_5 _ _ _ _ _ hx0 h

theorem w_X4_keysOfDepth_l5 {X : CX} (C : Cok X RX4 cX4_keysOfDepth 6 2 45) {σ : St} {r : Int32} (hr : RtI X cX4_keysOfDepth r σ) (n : Nat) : ∀ (x0 : Nat) (x1 : Int32) (x2 : Int32) (x3 : Int32) (x4 : Int32), kd x0 = 5 → f_X4_keysOfDepth_l5 σ n x0 x1 x2 x3 x4 = some r → V X σ 5 [(0, .ref ((xG X).1 x0)), (1, .int x1), (2, .int x2), (3, .int x3), (4, .int x4)] [] := by
  induction n with
  | zero =>
    intro x0 x1 x2 x3 x4 hx0 h
    exact nomatch (show (none : Option Int32) = some r from h)
  | succ n ih =>
    intro x0 x1 x2 x3 x4 hx0 h
    exact w_X4_keysOfDepth_b5 C hr _ ih x0 x1 x2 x3 x4 hx0 h
set_option maxHeartbeats 4000000 in
set_option maxRecDepth 100000 in
theorem w_X4_keysOfDepth_b0 {X : CX} (C : Cok X RX4 cX4_keysOfDepth 6 2 45) {σ : St} {r : Int32} (hr : RtI X cX4_keysOfDepth r σ) (x0 : Nat) (x1 : Int32) (x2 : Int32) (hx0 : kd x0 = 5) (h : f_X4_keysOfDepth σ x0 x1 x2 = some r) : V X σ 0 [(0, .ref ((xG X).1 x0)), (1, .int x1), (2, .int x2)] [] := by
  unfold f_X4_keysOfDepth at h
  refine r_iconst C (v := 0) (q := 1) dX4_keysOfDepth_0 (by decide) rfl ?_
  refine r_istore_n C (lv' := [(3, .int 0), (0, .ref ((xG X).1 x0)), (1, .int x1), (2, .int x2)]) (q := 2) dX4_keysOfDepth_1 rfl (by decide) rfl rfl ?_
  refine r_iconst C (v := 0) (q := 3) dX4_keysOfDepth_2 (by decide) rfl ?_
  refine r_istore C (lv' := [(4, .int 0), (3, .int 0), (0, .ref ((xG X).1 x0)), (1, .int x1), (2, .int x2)]) (q := 5) dX4_keysOfDepth_3 (by decide) rfl rfl ?_
  refine r_sub (lv' := [(0, .ref ((xG X).1 x0)), (1, .int x1), (2, .int x2), (3, .int 0), (4, .int 0)]) [2, 3, 4, 1, 0] rfl ?_
  exact w_X4_keysOfDepth_l5 C hr  FU _ _ _ _ _ hx0 h

theorem m_X4_keysOfDepth (G : Gm) (l : Launch) {σ : St} {x0 : Nat} {x1 : Int32} {x2 : Int32} (hx0 : kd x0 = 5) {r : Int32} (h : f_X4_keysOfDepth σ x0 x1 x2 = some r) : Ctr G l yX4_keysOfDepth cX4_keysOfDepth 6 (some .int) 2 45 [.ref (G.1 x0), .int x1, .int x2] σ (some (.int r)) True σ := by
  refine Ctr.i (by decide) (Nat.le_of_ble_eq_true rfl) ?_
  intro X hG C hr
  subst hG
  exact w_X4_keysOfDepth_b0 C hr _ _ _ hx0 h
-- X4_leastAsks
set_option maxHeartbeats 4000000 in
set_option maxRecDepth 100000 in
theorem w_X4_leastAsks_b15 {X : CX} (C : Cok X RX4 cX4_leastAsks 4 3 71) {σ' : St} {r : Int32} (hr : RtI X cX4_leastAsks r σ') (k_2 : St → Nat → Int32 → Int32 → Option (Int32 × St)) (hk_2 : ∀ (σ : St) (x0 : Nat) (x1 : Int32) (x2 : Int32), kd x0 = 5 → k_2 σ x0 x1 x2 = some (r, σ') → V X σ 2 [(0, .ref ((xG X).1 x0)), (1, .int x1), (2, .int x2)] []) (k_15 : St → Nat → Int32 → Int32 → Int32 → Option (Int32 × St)) (hk_15 : ∀ (σ : St) (x0 : Nat) (x1 : Int32) (x2 : Int32) (x3 : Int32), kd x0 = 5 → k_15 σ x0 x1 x2 x3 = some (r, σ') → V X σ 15 [(0, .ref ((xG X).1 x0)), (1, .int x1), (2, .int x2), (3, .int x3)] []) (σ : St) (x0 : Nat) (x1 : Int32) (x2 : Int32) (x3 : Int32) (hx0 : kd x0 = 5) (h : f_X4_leastAsks_b15 k_2 k_15 σ x0 x1 x2 x3 = some (r, σ')) : V X σ 15 [(0, .ref ((xG X).1 x0)), (1, .int x1), (2, .int x2), (3, .int x3)] [] := by
  unfold f_X4_leastAsks_b15 at h
  refine r_iload_n C 3 (q := 16) dX4_leastAsks_15 rfl rfl ?_
  refine r_iconst C (v := 5) (q := 17) dX4_leastAsks_16 (by decide) rfl ?_
  refine r_icmp_ge C (tgt := 44) (q := 20) dX4_leastAsks_17 (by decide) rfl (fun c_17 => ?_) (fun c_17 => ?_)
  · replace h := (if_pos c_17).symm.trans h
    obtain ⟨y_44, e_44, h⟩ := bs h
    refine r_iinc C (v := y_44) (lv' := [(2, .int y_44), (0, .ref ((xG X).1 x0)), (1, .int x1), (3, .int x3)]) (q := 47) 2 dX4_leastAsks_44 rfl (Option.some.inj e_44) (by decide) rfl rfl ?_
    refine r_goto C (tgt := 2) dX4_leastAsks_47 (by decide) ?_
    refine r_sub (lv' := [(0, .ref ((xG X).1 x0)), (1, .int x1), (2, .int y_44)]) [1, 2, 0] rfl ?_
    exact hk_2 _ _ _ _ hx0 h
  · replace h := (if_neg c_17).symm.trans h
    refine r_aload_n C 0 (q := 21) dX4_leastAsks_20 rfl rfl ?_
    refine g_X4_4 C (q := 24) dX4_leastAsks_21 q_131 hx0 rfl ?_
    refine r_iload_n C 2 (q := 25) dX4_leastAsks_24 rfl rfl ?_
    refine r_iconst C (v := 5) (q := 26) dX4_leastAsks_25 (by decide) rfl ?_
    refine r_imul C (q := 27) dX4_leastAsks_26 rfl ?_
    refine r_iload_n C 3 (q := 28) dX4_leastAsks_27 rfl rfl ?_
    refine r_iadd C (q := 29) dX4_leastAsks_28 rfl ?_
    refine r_aload_n C 0 (q := 30) dX4_leastAsks_29 rfl rfl ?_
    refine r_iload_n C 2 (q := 31) dX4_leastAsks_30 rfl rfl ?_
    refine r_iload_n C 3 (q := 32) dX4_leastAsks_31 rfl rfl ?_
    obtain ⟨v_32, e_32, h⟩ := bs h
    refine r_callV C (ci := 4) (st := [.int ((x2 * 5) + x3), .ref ((xG X).1 9)]) (st2 := [.int v_32, .int ((x2 * 5) + x3), .ref ((xG X).1 9)]) (q := 35) (m_X4_keysOfDepth (xG X) (xl X) hx0 e_32) ok_X4_keysOfDepth hx0 rfl ⟨_, rfl⟩ q_749 rfl ⟨Nat.le_of_ble_eq_true rfl, Nat.le_of_ble_eq_true rfl⟩ rfl rfl (Nat.le_of_ble_eq_true rfl) dX4_leastAsks_32 rfl (fun hp_32 => ?_)
    obtain ⟨s_35, e_35, h⟩ := bs h
    refine r_callN C (st := []) (st2 := []) (q := 38) (m_X5_put (xG X) (xl X) (kf_X4_4 hx0) e_35) ok_X5_put nst_13 rfl ⟨Nat.le_of_ble_eq_true rfl, Nat.le_of_ble_eq_true rfl⟩ rfl rfl (Nat.le_of_ble_eq_true rfl) dX4_leastAsks_35 rfl (fun hp_35 => ?_)
    obtain ⟨y_38, e_38, h⟩ := bs h
    refine r_iinc C (v := y_38) (lv' := [(3, .int y_38), (0, .ref ((xG X).1 x0)), (1, .int x1), (2, .int x2)]) (q := 41) 3 dX4_leastAsks_38 rfl (Option.some.inj e_38) (by decide) rfl rfl ?_
    refine r_goto C (tgt := 15) dX4_leastAsks_41 (by decide) ?_
    refine r_sub (lv' := [(0, .ref ((xG X).1 x0)), (1, .int x1), (2, .int x2), (3, .int y_38)]) [1, 2, 3, 0] rfl ?_
    exact hk_15 _ _ _ _ _ hx0 h

theorem w_X4_leastAsks_l15 {X : CX} (C : Cok X RX4 cX4_leastAsks 4 3 71) {σ' : St} {r : Int32} (hr : RtI X cX4_leastAsks r σ') (k_2 : St → Nat → Int32 → Int32 → Option (Int32 × St)) (hk_2 : ∀ (σ : St) (x0 : Nat) (x1 : Int32) (x2 : Int32), kd x0 = 5 → k_2 σ x0 x1 x2 = some (r, σ') → V X σ 2 [(0, .ref ((xG X).1 x0)), (1, .int x1), (2, .int x2)] []) (n : Nat) : ∀ (σ : St) (x0 : Nat) (x1 : Int32) (x2 : Int32) (x3 : Int32), kd x0 = 5 → f_X4_leastAsks_l15 k_2 n σ x0 x1 x2 x3 = some (r, σ') → V X σ 15 [(0, .ref ((xG X).1 x0)), (1, .int x1), (2, .int x2), (3, .int x3)] [] := by
  induction n with
  | zero =>
    intro σ x0 x1 x2 x3 hx0 h
    exact nomatch (show (none : Option (Int32 × St)) = some (r, σ') from h)
  | succ n ih =>
    intro σ x0 x1 x2 x3 hx0 h
    exact w_X4_leastAsks_b15 C hr k_2 hk_2 _ ih σ x0 x1 x2 x3 hx0 h
set_option maxHeartbeats 4000000 in
set_option maxRecDepth 100000 in
theorem w_X4_leastAsks_b2 {X : CX} (C : Cok X RX4 cX4_leastAsks 4 3 71) {σ' : St} {r : Int32} (hr : RtI X cX4_leastAsks r σ') (k_2 : St → Nat → Int32 → Int32 → Option (Int32 × St)) (hk_2 : ∀ (σ : St) (x0 : Nat) (x1 : Int32) (x2 : Int32), kd x0 = 5 → k_2 σ x0 x1 x2 = some (r, σ') → V X σ 2 [(0, .ref ((xG X).1 x0)), (1, .int x1), (2, .int x2)] []) (σ : St) (x0 : Nat) (x1 : Int32) (x2 : Int32) (hx0 : kd x0 = 5) (h : f_X4_leastAsks_b2 k_2 σ x0 x1 x2 = some (r, σ')) : V X σ 2 [(0, .ref ((xG X).1 x0)), (1, .int x1), (2, .int x2)] [] := by
  unfold f_X4_leastAsks_b2 at h
  refine r_iload_n C 2 (q := 3) dX4_leastAsks_2 rfl rfl ?_
  refine r_aload_n C 0 (q := 4) dX4_leastAsks_3 rfl rfl ?_
  refine g_X4_0 C (q := 7) dX4_leastAsks_4 q_127 hx0 rfl ?_
  refine g_X0_0 C (q := 10) dX4_leastAsks_7 q_63 (kf_X4_0 hx0) rfl ?_
  refine r_icmp_ge C (tgt := 50) (q := 13) dX4_leastAsks_10 (by decide) rfl (fun c_10 => ?_) (fun c_10 => ?_)
  · replace h := (if_pos c_10).symm.trans h
    refine r_aload_n C 0 (q := 51) dX4_leastAsks_50 rfl rfl ?_
    refine r_aload_n C 0 (q := 52) dX4_leastAsks_51 rfl rfl ?_
    refine g_X4_4 C (q := 55) dX4_leastAsks_52 q_131 hx0 rfl ?_
    refine r_aload_n C 0 (q := 56) dX4_leastAsks_55 rfl rfl ?_
    refine g_X4_0 C (q := 59) dX4_leastAsks_56 q_127 hx0 rfl ?_
    refine g_X0_5 C (q := 62) dX4_leastAsks_59 q_78 (kf_X4_0 hx0) rfl ?_
    obtain ⟨v_62, e_62, h⟩ := bs h
    refine r_callN C (st := [.ref ((xG X).1 9), .ref ((xG X).1 x0)]) (st2 := [.int v_62, .ref ((xG X).1 9), .ref ((xG X).1 x0)]) (q := 65) (m_X5_firstBits (xG X) (xl X) e_62) ok_X5_firstBits nst_11 rfl ⟨Nat.le_of_ble_eq_true rfl, Nat.le_of_ble_eq_true rfl⟩ rfl rfl (Nat.le_of_ble_eq_true rfl) dX4_leastAsks_62 rfl (fun hp_62 => ?_)
    refine r_iload_n C 1 (q := 66) dX4_leastAsks_65 rfl rfl ?_
    obtain ⟨v_66, s_66, e_66, h⟩ := bs2 h
    refine r_callV C (ci := 4) (st := []) (st2 := [.int v_66]) (q := 69) (m_X4_leastRow (xG X) (xl X) hx0 (kf_X4_4 hx0) e_66) ok_X4_leastRow hx0 rfl ⟨_, rfl⟩ q_717 rfl ⟨Nat.le_of_ble_eq_true rfl, Nat.le_of_ble_eq_true rfl⟩ rfl rfl (Nat.le_of_ble_eq_true rfl) dX4_leastAsks_66 rfl (fun hp_66 => ?_)
    obtain ⟨rfl, rfl⟩ := Prod.mk.inj (Option.some.inj h)
    exact hr _ _ dX4_leastAsks_69
  · replace h := (if_neg c_10).symm.trans h
    refine r_iconst C (v := 0) (q := 14) dX4_leastAsks_13 (by decide) rfl ?_
    refine r_istore_n C (lv' := [(3, .int 0), (0, .ref ((xG X).1 x0)), (1, .int x1), (2, .int x2)]) (q := 15) dX4_leastAsks_14 rfl (by decide) rfl rfl ?_
    refine r_sub (lv' := [(0, .ref ((xG X).1 x0)), (1, .int x1), (2, .int x2), (3, .int 0)]) [1, 2, 3, 0] rfl ?_
    exact w_X4_leastAsks_l15 C hr _ hk_2 FU _ _ _ _ _ hx0 h

theorem w_X4_leastAsks_l2 {X : CX} (C : Cok X RX4 cX4_leastAsks 4 3 71) {σ' : St} {r : Int32} (hr : RtI X cX4_leastAsks r σ') (n : Nat) : ∀ (σ : St) (x0 : Nat) (x1 : Int32) (x2 : Int32), kd x0 = 5 → f_X4_leastAsks_l2 n σ x0 x1 x2 = some (r, σ') → V X σ 2 [(0, .ref ((xG X).1 x0)), (1, .int x1), (2, .int x2)] [] := by
  induction n with
  | zero =>
    intro σ x0 x1 x2 hx0 h
    exact nomatch (show (none : Option (Int32 × St)) = some (r, σ') from h)
  | succ n ih =>
    intro σ x0 x1 x2 hx0 h
    exact w_X4_leastAsks_b2 C hr _ ih σ x0 x1 x2 hx0 h
set_option maxHeartbeats 4000000 in
set_option maxRecDepth 100000 in
theorem w_X4_leastAsks_b0 {X : CX} (C : Cok X RX4 cX4_leastAsks 4 3 71) {σ' : St} {r : Int32} (hr : RtI X cX4_leastAsks r σ') (σ : St) (x0 : Nat) (x1 : Int32) (hx0 : kd x0 = 5) (h : f_X4_leastAsks σ x0 x1 = some (r, σ')) : V X σ 0 [(0, .ref ((xG X).1 x0)), (1, .int x1)] [] := by
  unfold f_X4_leastAsks at h
  refine r_iconst C (v := 0) (q := 1) dX4_leastAsks_0 (by decide) rfl ?_
  refine r_istore_n C (lv' := [(2, .int 0), (0, .ref ((xG X).1 x0)), (1, .int x1)]) (q := 2) dX4_leastAsks_1 rfl (by decide) rfl rfl ?_
  refine r_sub (lv' := [(0, .ref ((xG X).1 x0)), (1, .int x1), (2, .int 0)]) [1, 2, 0] rfl ?_
  exact w_X4_leastAsks_l2 C hr  FU _ _ _ _ hx0 h

theorem m_X4_leastAsks (G : Gm) (l : Launch) {σ σ' : St} {x0 : Nat} {x1 : Int32} (hx0 : kd x0 = 5) {r : Int32} (h : f_X4_leastAsks σ x0 x1 = some (r, σ')) : Ctr G l yX4_leastAsks cX4_leastAsks 4 (some .int) 3 71 [.ref (G.1 x0), .int x1] σ (some (.int r)) True σ' := by
  refine Ctr.i (by decide) (Nat.le_of_ble_eq_true rfl) ?_
  intro X hG C hr
  subst hG
  exact w_X4_leastAsks_b0 C hr _ _ _ hx0 h
-- X4_rowsFor
set_option maxHeartbeats 4000000 in
set_option maxRecDepth 100000 in
theorem w_X4_rowsFor_b51 {X : CX} (C : Cok X RX4 cX4_rowsFor 5 2 45) {σ' : St} {r : Int32} (hr : RtI X cX4_rowsFor r σ') (k_24 : St → Nat → Int32 → Int32 → Int32 → Int32 → Option (Int32 × St)) (hk_24 : ∀ (σ : St) (x0 : Nat) (x1 : Int32) (x2 : Int32) (x3 : Int32) (x4 : Int32), kd x0 = 5 → k_24 σ x0 x1 x2 x3 x4 = some (r, σ') → V X σ 24 [(0, .ref ((xG X).1 x0)), (1, .int x1), (2, .int x2), (3, .int x3), (4, .int x4)] []) (σ : St) (x0 : Nat) (x1 : Int32) (x2 : Int32) (x3 : Int32) (x4 : Int32) (hx0 : kd x0 = 5) (h : f_X4_rowsFor_b51 k_24 σ x0 x1 x2 x3 x4 = some (r, σ')) : V X σ 51 [(0, .ref ((xG X).1 x0)), (1, .int x1), (2, .int x2), (3, .int x3), (4, .int x4)] [] := by
  unfold f_X4_rowsFor_b51 at h
  refine r_aload_n C 0 (q := 52) dX4_rowsFor_51 rfl rfl ?_
  refine g_X4_0 C (q := 55) dX4_rowsFor_52 q_127 hx0 rfl ?_
  refine r_aload_n C 0 (q := 56) dX4_rowsFor_55 rfl rfl ?_
  refine g_X4_2 C (q := 59) dX4_rowsFor_56 q_129 hx0 rfl ?_
  refine r_aload_n C 0 (q := 60) dX4_rowsFor_59 rfl rfl ?_
  refine g_X4_1 C (q := 63) dX4_rowsFor_60 q_128 hx0 rfl ?_
  obtain ⟨v_63, s_63, e_63, h⟩ := bs2 h
  refine r_callV C (ci := 0) (st := []) (st2 := [.int v_63]) (q := 66) (m_X0_advance (xG X) (xl X) (kf_X4_0 hx0) (kf_X4_2 hx0) (kf_X4_1 hx0) e_63) ok_X0_advance (kf_X4_0 hx0) rfl ⟨_, rfl⟩ q_729 rfl ⟨Nat.le_of_ble_eq_true rfl, Nat.le_of_ble_eq_true rfl⟩ rfl rfl (Nat.le_of_ble_eq_true rfl) dX4_rowsFor_63 rfl (fun hp_63 => ?_)
  refine r_if_ne C (tgt := 72) (q := 69) dX4_rowsFor_66 (by decide) rfl (fun c_66 => ?_) (fun c_66 => ?_)
  · replace h := (if_neg c_66).symm.trans h
    obtain ⟨y_72, e_72, h⟩ := bs h
    refine r_iinc C (v := y_72) (lv' := [(4, .int y_72), (0, .ref ((xG X).1 x0)), (1, .int x1), (2, .int x2), (3, .int x3)]) (q := 75) 4 dX4_rowsFor_72 rfl (Option.some.inj e_72) (by decide) rfl rfl ?_
    refine r_goto C (tgt := 24) dX4_rowsFor_75 (by decide) ?_
    refine r_sub (lv' := [(0, .ref ((xG X).1 x0)), (1, .int x1), (2, .int x2), (3, .int x3), (4, .int y_72)]) [1, 2, 3, 4, 0] rfl ?_
    exact hk_24 _ _ _ _ _ _ hx0 h
  · replace h := (if_pos c_66).symm.trans h
    refine r_goto C (tgt := 78) dX4_rowsFor_69 (by decide) ?_
    refine r_iload_n C 2 (q := 79) dX4_rowsFor_78 rfl rfl ?_
    obtain ⟨rfl, rfl⟩ := Prod.mk.inj (Option.some.inj h)
    exact hr _ _ dX4_rowsFor_79

set_option maxHeartbeats 4000000 in
set_option maxRecDepth 100000 in
theorem w_X4_rowsFor_b24 {X : CX} (C : Cok X RX4 cX4_rowsFor 5 2 45) {σ' : St} {r : Int32} (hr : RtI X cX4_rowsFor r σ') (k_24 : St → Nat → Int32 → Int32 → Int32 → Int32 → Option (Int32 × St)) (hk_24 : ∀ (σ : St) (x0 : Nat) (x1 : Int32) (x2 : Int32) (x3 : Int32) (x4 : Int32), kd x0 = 5 → k_24 σ x0 x1 x2 x3 x4 = some (r, σ') → V X σ 24 [(0, .ref ((xG X).1 x0)), (1, .int x1), (2, .int x2), (3, .int x3), (4, .int x4)] []) (σ : St) (x0 : Nat) (x1 : Int32) (x2 : Int32) (x3 : Int32) (x4 : Int32) (hx0 : kd x0 = 5) (h : f_X4_rowsFor_b24 k_24 σ x0 x1 x2 x3 x4 = some (r, σ')) : V X σ 24 [(0, .ref ((xG X).1 x0)), (1, .int x1), (2, .int x2), (3, .int x3), (4, .int x4)] [] := by
  unfold f_X4_rowsFor_b24 at h
  refine r_iload C 4 (q := 26) dX4_rowsFor_24 rfl rfl ?_
  refine r_sipush C (v := 3125) (q := 29) dX4_rowsFor_26 (by decide) rfl ?_
  refine r_icmp_ge C (tgt := 78) (q := 32) dX4_rowsFor_29 (by decide) rfl (fun c_29 => ?_) (fun c_29 => ?_)
  · replace h := (if_pos c_29).symm.trans h
    refine r_iload_n C 2 (q := 79) dX4_rowsFor_78 rfl rfl ?_
    obtain ⟨rfl, rfl⟩ := Prod.mk.inj (Option.some.inj h)
    exact hr _ _ dX4_rowsFor_79
  · replace h := (if_neg c_29).symm.trans h
    refine r_aload_n C 0 (q := 33) dX4_rowsFor_32 rfl rfl ?_
    refine r_aload_n C 0 (q := 34) dX4_rowsFor_33 rfl rfl ?_
    refine g_X4_0 C (q := 37) dX4_rowsFor_34 q_127 hx0 rfl ?_
    refine g_X0_11 C (q := 40) dX4_rowsFor_37 q_93 (kf_X4_0 hx0) rfl ?_
    refine r_iload_n C 3 (q := 41) dX4_rowsFor_40 rfl rfl ?_
    obtain ⟨v_41, e_41, h⟩ := bs h
    refine r_callV C (ci := 4) (st := []) (st2 := [.int v_41]) (q := 44) (m_X4_fittingRow (xG X) (xl X) hx0 (kf_X0_11 (kf_X4_0 hx0)) e_41) ok_X4_fittingRow hx0 rfl ⟨_, rfl⟩ q_723 rfl ⟨Nat.le_of_ble_eq_true rfl, Nat.le_of_ble_eq_true rfl⟩ rfl rfl (Nat.le_of_ble_eq_true rfl) dX4_rowsFor_41 rfl (fun hp_41 => ?_)
    refine r_iload_n C 1 (q := 45) dX4_rowsFor_44 rfl rfl ?_
    refine r_icmp_ne C (tgt := 51) (q := 48) dX4_rowsFor_45 (by decide) rfl (fun c_45 => ?_) (fun c_45 => ?_)
    · replace h := (if_neg c_45).symm.trans h
      exact w_X4_rowsFor_b51 C hr _ hk_24 _ _ _ _ _ _ hx0 h
    · replace h := (if_pos c_45).symm.trans h
      obtain ⟨y_48, e_48, h⟩ := bs h
      refine r_iinc C (v := y_48) (lv' := [(2, .int y_48), (0, .ref ((xG X).1 x0)), (1, .int x1), (3, .int x3), (4, .int x4)]) (q := 51) 2 dX4_rowsFor_48 rfl (Option.some.inj e_48) (by decide) rfl rfl ?_
      refine r_sub (lv' := [(0, .ref ((xG X).1 x0)), (1, .int x1), (2, .int y_48), (3, .int x3), (4, .int x4)]) [1, 2, 0, 3, 4] rfl ?_
      exact w_X4_rowsFor_b51 C hr _ hk_24 _ _ _ _ _ _ hx0 h

theorem w_X4_rowsFor_l24 {X : CX} (C : Cok X RX4 cX4_rowsFor 5 2 45) {σ' : St} {r : Int32} (hr : RtI X cX4_rowsFor r σ') (n : Nat) : ∀ (σ : St) (x0 : Nat) (x1 : Int32) (x2 : Int32) (x3 : Int32) (x4 : Int32), kd x0 = 5 → f_X4_rowsFor_l24 n σ x0 x1 x2 x3 x4 = some (r, σ') → V X σ 24 [(0, .ref ((xG X).1 x0)), (1, .int x1), (2, .int x2), (3, .int x3), (4, .int x4)] [] := by
  induction n with
  | zero =>
    intro σ x0 x1 x2 x3 x4 hx0 h
    exact nomatch (show (none : Option (Int32 × St)) = some (r, σ') from h)
  | succ n ih =>
    intro σ x0 x1 x2 x3 x4 hx0 h
    exact w_X4_rowsFor_b24 C hr _ ih σ x0 x1 x2 x3 x4 hx0 h
set_option maxHeartbeats 4000000 in
set_option maxRecDepth 100000 in
theorem w_X4_rowsFor_b0 {X : CX} (C : Cok X RX4 cX4_rowsFor 5 2 45) {σ' : St} {r : Int32} (hr : RtI X cX4_rowsFor r σ') (σ : St) (x0 : Nat) (x1 : Int32) (hx0 : kd x0 = 5) (h : f_X4_rowsFor σ x0 x1 = some (r, σ')) : V X σ 0 [(0, .ref ((xG X).1 x0)), (1, .int x1)] [] := by
  unfold f_X4_rowsFor at h
  refine r_iconst C (v := 0) (q := 1) dX4_rowsFor_0 (by decide) rfl ?_
  refine r_istore_n C (lv' := [(2, .int 0), (0, .ref ((xG X).1 x0)), (1, .int x1)]) (q := 2) dX4_rowsFor_1 rfl (by decide) rfl rfl ?_
  refine r_aload_n C 1 (q := 3) dX4_rowsFor_2 rfl rfl ?_
  refine g_X4_0 C (q := 6) dX4_rowsFor_3 q_127 hx0 rfl ?_
  refine g_X0_6 C (q := 9) dX4_rowsFor_6 q_82 (kf_X4_0 hx0) rfl ?_
  obtain ⟨v_9, e_9, h⟩ := bs h
  refine r_callN C (st := []) (st2 := [.int v_9]) (q := 12) (m_X5_firstBits (xG X) (xl X) e_9) ok_X5_firstBits nst_11 rfl ⟨Nat.le_of_ble_eq_true rfl, Nat.le_of_ble_eq_true rfl⟩ rfl rfl (Nat.le_of_ble_eq_true rfl) dX4_rowsFor_9 rfl (fun hp_9 => ?_)
  refine r_istore_n C (lv' := [(3, .int v_9), (2, .int 0), (0, .ref ((xG X).1 x0)), (1, .int x1)]) (q := 13) dX4_rowsFor_12 rfl (by decide) rfl rfl ?_
  refine r_aload_n C 2 (q := 14) dX4_rowsFor_13 rfl rfl ?_
  refine g_X4_2 C (q := 17) dX4_rowsFor_14 q_129 hx0 rfl ?_
  refine r_iconst C (v := 0) (q := 18) dX4_rowsFor_17 (by decide) rfl ?_
  obtain ⟨s_18, e_18, h⟩ := bs h
  refine r_callS C (st := []) (st2 := []) (q := 21) (m_J7_fill_53178 (xG X) (xl X) (kf_X4_2 hx0) e_18) ok_J7_fill_53178 q_721 rfl ⟨Nat.le_of_ble_eq_true rfl, Nat.le_of_ble_eq_true rfl⟩ rfl rfl (Nat.le_of_ble_eq_true rfl) dX4_rowsFor_18 rfl (fun hp_18 => ?_)
  refine r_iconst C (v := 0) (q := 22) dX4_rowsFor_21 (by decide) rfl ?_
  refine r_istore C (lv' := [(4, .int 0), (3, .int v_9), (2, .int 0), (0, .ref ((xG X).1 x0)), (1, .int x1)]) (q := 24) dX4_rowsFor_22 (by decide) rfl rfl ?_
  refine r_sub (lv' := [(0, .ref ((xG X).1 x0)), (1, .int x1), (2, .int 0), (3, .int v_9), (4, .int 0)]) [3, 4, 2, 1, 0] rfl ?_
  exact w_X4_rowsFor_l24 C hr  FU _ _ _ _ _ _ hx0 h

theorem m_X4_rowsFor (G : Gm) (l : Launch) {σ σ' : St} {x0 : Nat} {x1 : Int32} (hx0 : kd x0 = 5) {r : Int32} (h : f_X4_rowsFor σ x0 x1 = some (r, σ')) : Ctr G l yX4_rowsFor cX4_rowsFor 5 (some .int) 2 45 [.ref (G.1 x0), .int x1] σ (some (.int r)) True σ' := by
  refine Ctr.i (by decide) (Nat.le_of_ble_eq_true rfl) ?_
  intro X hG C hr
  subst hG
  exact w_X4_rowsFor_b0 C hr _ _ _ hx0 h
-- X4_coinsToOpen
set_option maxHeartbeats 4000000 in
set_option maxRecDepth 100000 in
theorem w_X4_coinsToOpen_b104 {X : CX} (C : Cok X RX4 cX4_coinsToOpen 7 5 117) {σ' : St} {r : Int32} (hr : RtI X cX4_coinsToOpen r σ') (k_49 : St → Nat → Int32 → Nat → Int32 → Int32 → Option (Int32 × St)) (hk_49 : ∀ (σ : St) (x0 : Nat) (x2 : Int32) (x3 : Nat) (x4 : Int32) (x5 : Int32), kd x0 = 5 → kd x3 = 2 → k_49 σ x0 x2 x3 x4 x5 = some (r, σ') → V X σ 49 [(0, .ref ((xG X).1 x0)), (2, .int x2), (3, .ref ((xG X).1 x3)), (4, .int x4), (5, .int x5)] []) (σ : St) (x0 : Nat) (x2 : Int32) (x3 : Nat) (x4 : Int32) (x5 : Int32) (t0 : Nat) (t1 : Int32) (t2 : Int32) (t3 : Int32) (hx0 : kd x0 = 5) (hx3 : kd x3 = 2) (ht0 : kd t0 = 8) (h : f_X4_coinsToOpen_b104 k_49 σ x0 x2 x3 x4 x5 t0 t1 t2 t3 = some (r, σ')) : V X σ 104 [(0, .ref ((xG X).1 x0)), (2, .int x2), (3, .ref ((xG X).1 x3)), (4, .int x4), (5, .int x5)] [.int t3, .int t2, .int t1, .ref ((xG X).1 t0)] := by
  unfold f_X4_coinsToOpen_b104 at h
  refine r_max C (st := [.int t1, .ref ((xG X).1 t0)]) (q := 107) dX4_coinsToOpen_104 q_767 ok_max ⟨Nat.le_of_ble_eq_true rfl, Nat.le_of_ble_eq_true rfl⟩ rfl ?_
  obtain ⟨s_107, e_107, h⟩ := bs h
  refine r_callN C (st := []) (st2 := []) (q := 110) (m_X5_put (xG X) (xl X) ht0 e_107) ok_X5_put nst_13 rfl ⟨Nat.le_of_ble_eq_true rfl, Nat.le_of_ble_eq_true rfl⟩ rfl rfl (Nat.le_of_ble_eq_true rfl) dX4_coinsToOpen_107 rfl (fun hp_107 => ?_)
  obtain ⟨y_110, e_110, h⟩ := bs h
  refine r_iinc C (v := y_110) (lv' := [(5, .int y_110), (0, .ref ((xG X).1 x0)), (2, .int x2), (3, .ref ((xG X).1 x3)), (4, .int x4)]) (q := 113) 4 dX4_coinsToOpen_110 rfl (Option.some.inj e_110) (by decide) rfl rfl ?_
  refine r_goto C (tgt := 49) dX4_coinsToOpen_113 (by decide) ?_
  refine r_sub (lv' := [(0, .ref ((xG X).1 x0)), (2, .int x2), (3, .ref ((xG X).1 x3)), (4, .int x4), (5, .int y_110)]) [1, 2, 3, 4, 0] rfl ?_
  exact hk_49 _ _ _ _ _ _ hx0 hx3 h

set_option maxHeartbeats 4000000 in
set_option maxRecDepth 100000 in
theorem w_X4_coinsToOpen_b49 {X : CX} (C : Cok X RX4 cX4_coinsToOpen 7 5 117) {σ' : St} {r : Int32} (hr : RtI X cX4_coinsToOpen r σ') (k_49 : St → Nat → Int32 → Nat → Int32 → Int32 → Option (Int32 × St)) (hk_49 : ∀ (σ : St) (x0 : Nat) (x2 : Int32) (x3 : Nat) (x4 : Int32) (x5 : Int32), kd x0 = 5 → kd x3 = 2 → k_49 σ x0 x2 x3 x4 x5 = some (r, σ') → V X σ 49 [(0, .ref ((xG X).1 x0)), (2, .int x2), (3, .ref ((xG X).1 x3)), (4, .int x4), (5, .int x5)] []) (σ : St) (x0 : Nat) (x2 : Int32) (x3 : Nat) (x4 : Int32) (x5 : Int32) (hx0 : kd x0 = 5) (hx3 : kd x3 = 2) (h : f_X4_coinsToOpen_b49 k_49 σ x0 x2 x3 x4 x5 = some (r, σ')) : V X σ 49 [(0, .ref ((xG X).1 x0)), (2, .int x2), (3, .ref ((xG X).1 x3)), (4, .int x4), (5, .int x5)] [] := by
  unfold f_X4_coinsToOpen_b49 at h
  refine r_iload C 4 (q := 51) dX4_coinsToOpen_49 rfl rfl ?_
  refine r_aload_n C 0 (q := 52) dX4_coinsToOpen_51 rfl rfl ?_
  refine g_X4_0 C (q := 55) dX4_coinsToOpen_52 q_127 hx0 rfl ?_
  refine g_X0_0 C (q := 58) dX4_coinsToOpen_55 q_63 (kf_X4_0 hx0) rfl ?_
  refine r_icmp_ge C (tgt := 116) (q := 61) dX4_coinsToOpen_58 (by decide) rfl (fun c_58 => ?_) (fun c_58 => ?_)
  · replace h := (if_pos c_58).symm.trans h
    refine r_aload_n C 0 (q := 117) dX4_coinsToOpen_116 rfl rfl ?_
    refine g_X4_0 C (q := 120) dX4_coinsToOpen_117 q_127 hx0 rfl ?_
    refine r_aload_n C 2 (q := 121) dX4_coinsToOpen_120 rfl rfl ?_
    refine r_aload_n C 0 (q := 122) dX4_coinsToOpen_121 rfl rfl ?_
    refine g_X4_2 C (q := 125) dX4_coinsToOpen_122 q_129 hx0 rfl ?_
    obtain ⟨v_125, e_125, h⟩ := bs h
    refine r_callV C (ci := 0) (st := []) (st2 := [.int v_125]) (q := 128) (m_X0_openedByCuts (xG X) (xl X) (kf_X4_0 hx0) hx3 (kf_X4_2 hx0) e_125) ok_X0_openedByCuts (kf_X4_0 hx0) rfl ⟨_, rfl⟩ q_770 rfl ⟨Nat.le_of_ble_eq_true rfl, Nat.le_of_ble_eq_true rfl⟩ rfl rfl (Nat.le_of_ble_eq_true rfl) dX4_coinsToOpen_125 rfl (fun hp_125 => ?_)
    refine r_iload_n C 1 (q := 129) dX4_coinsToOpen_128 rfl rfl ?_
    obtain ⟨v_129, e_129, h⟩ := bs h
    refine r_callN C (st := []) (st2 := [.int v_129]) (q := 132) (m_X5_hasBit (xG X) (xl X) e_129) ok_X5_hasBit nst_14 rfl ⟨Nat.le_of_ble_eq_true rfl, Nat.le_of_ble_eq_true rfl⟩ rfl rfl (Nat.le_of_ble_eq_true rfl) dX4_coinsToOpen_129 rfl (fun hp_129 => ?_)
    refine r_if_eq C (tgt := 150) (q := 135) dX4_coinsToOpen_132 (by decide) rfl (fun c_132 => ?_) (fun c_132 => ?_)
    · replace h := (if_pos c_132).symm.trans h
      refine r_iconst C (v := (-1)) (q := 151) dX4_coinsToOpen_150 (by decide) rfl ?_
      obtain ⟨rfl, rfl⟩ := Prod.mk.inj (Option.some.inj h)
      exact hr _ _ dX4_coinsToOpen_151
    · replace h := (if_neg c_132).symm.trans h
      refine r_aload_n C 0 (q := 136) dX4_coinsToOpen_135 rfl rfl ?_
      refine g_X4_0 C (q := 139) dX4_coinsToOpen_136 q_127 hx0 rfl ?_
      refine r_aload_n C 2 (q := 140) dX4_coinsToOpen_139 rfl rfl ?_
      refine r_aload_n C 0 (q := 141) dX4_coinsToOpen_140 rfl rfl ?_
      refine g_X4_2 C (q := 144) dX4_coinsToOpen_141 q_129 hx0 rfl ?_
      obtain ⟨v_144, e_144, h⟩ := bs h
      refine r_callV C (ci := 0) (st := []) (st2 := [.int v_144]) (q := 147) (m_X0_cost (xG X) (xl X) (kf_X4_0 hx0) hx3 (kf_X4_2 hx0) e_144) ok_X0_cost (kf_X4_0 hx0) rfl ⟨_, rfl⟩ q_771 rfl ⟨Nat.le_of_ble_eq_true rfl, Nat.le_of_ble_eq_true rfl⟩ rfl rfl (Nat.le_of_ble_eq_true rfl) dX4_coinsToOpen_144 rfl (fun hp_144 => ?_)
      refine r_goto C (tgt := 151) dX4_coinsToOpen_147 (by decide) ?_
      obtain ⟨rfl, rfl⟩ := Prod.mk.inj (Option.some.inj h)
      exact hr _ _ dX4_coinsToOpen_151
  · replace h := (if_neg c_58).symm.trans h
    refine r_aload_n C 0 (q := 62) dX4_coinsToOpen_61 rfl rfl ?_
    refine g_X4_0 C (q := 65) dX4_coinsToOpen_62 q_127 hx0 rfl ?_
    refine r_iload_n C 1 (q := 66) dX4_coinsToOpen_65 rfl rfl ?_
    refine r_iload C 4 (q := 68) dX4_coinsToOpen_66 rfl rfl ?_
    obtain ⟨v_68, e_68, h⟩ := bs h
    refine r_callV C (ci := 0) (st := []) (st2 := [.int v_68]) (q := 71) (m_X0_asksAt (xG X) (xl X) (kf_X4_0 hx0) e_68) ok_X0_asksAt (kf_X4_0 hx0) rfl ⟨_, rfl⟩ q_766 rfl ⟨Nat.le_of_ble_eq_true rfl, Nat.le_of_ble_eq_true rfl⟩ rfl rfl (Nat.le_of_ble_eq_true rfl) dX4_coinsToOpen_68 rfl (fun hp_68 => ?_)
    refine r_istore C (lv' := [(6, .int v_68), (0, .ref ((xG X).1 x0)), (2, .int x2), (3, .ref ((xG X).1 x3)), (4, .int x4), (5, .int x5)]) (q := 73) dX4_coinsToOpen_71 (by decide) rfl rfl ?_
    refine r_aload_n C 1 (q := 74) dX4_coinsToOpen_73 rfl rfl ?_
    refine g_X4_2 C (q := 77) dX4_coinsToOpen_74 q_129 hx0 rfl ?_
    refine r_iload C 5 (q := 79) dX4_coinsToOpen_77 rfl rfl ?_
    refine r_aload_n C 3 (q := 80) dX4_coinsToOpen_79 rfl rfl ?_
    refine g_X1_3 C (q := 83) dX4_coinsToOpen_80 q_48 hx3 rfl ?_
    refine r_iload C 5 (q := 85) dX4_coinsToOpen_83 rfl rfl ?_
    obtain ⟨v_85, e_85, h⟩ := bs h
    refine r_callN C (st := [.int x5, .ref ((xG X).1 7)]) (st2 := [.int v_85, .int x5, .ref ((xG X).1 7)]) (q := 88) (m_X5_at (xG X) (xl X) (kf_X1_3 hx3) e_85) ok_X5_at nst_12 rfl ⟨Nat.le_of_ble_eq_true rfl, Nat.le_of_ble_eq_true rfl⟩ rfl rfl (Nat.le_of_ble_eq_true rfl) dX4_coinsToOpen_85 rfl (fun hp_85 => ?_)
    refine r_iload C 5 (q := 90) dX4_coinsToOpen_88 rfl rfl ?_
    refine r_iload C 4 (q := 92) dX4_coinsToOpen_90 rfl rfl ?_
    refine r_icmp_ne C (tgt := 102) (q := 95) dX4_coinsToOpen_92 (by decide) rfl (fun c_92 => ?_) (fun c_92 => ?_)
    · replace h := (if_neg c_92).symm.trans h
      refine r_iload C 0 (q := 104) dX4_coinsToOpen_102 rfl rfl ?_
      refine r_sub (lv' := [(0, .ref ((xG X).1 x0)), (2, .int x2), (3, .ref ((xG X).1 x3)), (4, .int x4), (5, .int x5)]) [1, 2, 3, 4, 5] rfl ?_
      exact w_X4_coinsToOpen_b104 C hr _ hk_49 _ _ _ _ _ _ _ _ _ _ hx0 hx3 (kf_X4_2 hx0) h
    · replace h := (if_pos c_92).symm.trans h
      refine r_iload C 0 (q := 97) dX4_coinsToOpen_95 rfl rfl ?_
      refine r_iconst C (v := 1) (q := 98) dX4_coinsToOpen_97 (by decide) rfl ?_
      refine r_isub C (q := 99) dX4_coinsToOpen_98 rfl ?_
      refine r_goto C (tgt := 104) dX4_coinsToOpen_99 (by decide) ?_
      refine r_sub (lv' := [(0, .ref ((xG X).1 x0)), (2, .int x2), (3, .ref ((xG X).1 x3)), (4, .int x4), (5, .int x5)]) [1, 2, 3, 4, 5] rfl ?_
      exact w_X4_coinsToOpen_b104 C hr _ hk_49 _ _ _ _ _ _ _ _ _ _ hx0 hx3 (kf_X4_2 hx0) h

theorem w_X4_coinsToOpen_l49 {X : CX} (C : Cok X RX4 cX4_coinsToOpen 7 5 117) {σ' : St} {r : Int32} (hr : RtI X cX4_coinsToOpen r σ') (n : Nat) : ∀ (σ : St) (x0 : Nat) (x2 : Int32) (x3 : Nat) (x4 : Int32) (x5 : Int32), kd x0 = 5 → kd x3 = 2 → f_X4_coinsToOpen_l49 n σ x0 x2 x3 x4 x5 = some (r, σ') → V X σ 49 [(0, .ref ((xG X).1 x0)), (2, .int x2), (3, .ref ((xG X).1 x3)), (4, .int x4), (5, .int x5)] [] := by
  induction n with
  | zero =>
    intro σ x0 x2 x3 x4 x5 hx0 hx3 h
    exact nomatch (show (none : Option (Int32 × St)) = some (r, σ') from h)
  | succ n ih =>
    intro σ x0 x2 x3 x4 x5 hx0 hx3 h
    exact w_X4_coinsToOpen_b49 C hr _ ih σ x0 x2 x3 x4 x5 hx0 hx3 h
set_option maxHeartbeats 4000000 in
set_option maxRecDepth 100000 in
theorem w_X4_coinsToOpen_b0 {X : CX} (C : Cok X RX4 cX4_coinsToOpen 7 5 117) {σ' : St} {r : Int32} (hr : RtI X cX4_coinsToOpen r σ') (σ : St) (x0 : Nat) (x1 : Int32) (x2 : Int32) (hx0 : kd x0 = 5) (h : f_X4_coinsToOpen σ x0 x1 x2 = some (r, σ')) : V X σ 0 [(0, .ref ((xG X).1 x0)), (1, .int x1), (2, .int x2)] [] := by
  unfold f_X4_coinsToOpen at h
  refine r_aload_n C 0 (q := 1) dX4_coinsToOpen_0 rfl rfl ?_
  refine g_X4_0 C (q := 4) dX4_coinsToOpen_1 q_127 hx0 rfl ?_
  refine r_iload_n C 1 (q := 5) dX4_coinsToOpen_4 rfl rfl ?_
  obtain ⟨v_5, e_5, h⟩ := bs h
  refine r_callV C (ci := 0) (st := []) (st2 := [.ref ((xG X).1 v_5)]) (q := 8) (m_X0_keyAt (xG X) (xl X) (kf_X4_0 hx0) e_5) ok_X0_keyAt (kf_X4_0 hx0) rfl ⟨_, rfl⟩ q_753 rfl ⟨Nat.le_of_ble_eq_true rfl, Nat.le_of_ble_eq_true rfl⟩ rfl rfl (Nat.le_of_ble_eq_true rfl) dX4_coinsToOpen_5 rfl (fun hp_5 => ?_)
  refine r_astore_n C (lv' := [(3, .ref ((xG X).1 v_5)), (0, .ref ((xG X).1 x0)), (1, .int x1), (2, .int x2)]) (q := 9) dX4_coinsToOpen_8 rfl (by decide) rfl rfl ?_
  refine r_aload_n C 1 (q := 10) dX4_coinsToOpen_9 rfl rfl ?_
  refine g_X4_0 C (q := 13) dX4_coinsToOpen_10 q_127 hx0 rfl ?_
  refine r_iload_n C 2 (q := 14) dX4_coinsToOpen_13 rfl rfl ?_
  obtain ⟨v_14, e_14, h⟩ := bs h
  refine r_callV C (ci := 0) (st := []) (st2 := [.int v_14]) (q := 17) (m_X0_openedBy (xG X) (xl X) (kf_X4_0 hx0) e_14) ok_X0_openedBy (kf_X4_0 hx0) rfl ⟨_, rfl⟩ q_395 rfl ⟨Nat.le_of_ble_eq_true rfl, Nat.le_of_ble_eq_true rfl⟩ rfl rfl (Nat.le_of_ble_eq_true rfl) dX4_coinsToOpen_14 rfl (fun hp_14 => ?_)
  refine r_iload_n C 3 (q := 18) dX4_coinsToOpen_17 rfl rfl ?_
  obtain ⟨v_18, e_18, h⟩ := bs h
  refine r_callN C (st := []) (st2 := [.int v_18]) (q := 21) (m_X5_hasBit (xG X) (xl X) e_18) ok_X5_hasBit nst_14 rfl ⟨Nat.le_of_ble_eq_true rfl, Nat.le_of_ble_eq_true rfl⟩ rfl rfl (Nat.le_of_ble_eq_true rfl) dX4_coinsToOpen_18 rfl (fun hp_18 => ?_)
  refine r_if_eq C (tgt := 26) (q := 24) dX4_coinsToOpen_21 (by decide) rfl (fun c_21 => ?_) (fun c_21 => ?_)
  · replace h := (if_pos c_21).symm.trans h
    refine r_aload_n C 0 (q := 27) dX4_coinsToOpen_26 rfl rfl ?_
    refine g_X1_0 C (q := 30) dX4_coinsToOpen_27 q_38 hp_5 rfl ?_
    refine r_iconst C (v := 4) (q := 31) dX4_coinsToOpen_30 (by decide) rfl ?_
    refine r_icmp_ne C (tgt := 36) (q := 34) dX4_coinsToOpen_31 (by decide) rfl (fun c_31 => ?_) (fun c_31 => ?_)
    · replace h := (if_neg c_31).symm.trans h
      refine r_aload_n C 1 (q := 37) dX4_coinsToOpen_36 rfl rfl ?_
      refine g_X4_0 C (q := 40) dX4_coinsToOpen_37 q_127 hx0 rfl ?_
      refine r_aload_n C 0 (q := 41) dX4_coinsToOpen_40 rfl rfl ?_
      obtain ⟨v_41, e_41, h⟩ := bs h
      refine r_callV C (ci := 0) (st := []) (st2 := [.int v_41]) (q := 44) (m_X0_wornPlace (xG X) (xl X) (kf_X4_0 hx0) hp_5 e_41) ok_X0_wornPlace (kf_X4_0 hx0) rfl ⟨_, rfl⟩ q_765 rfl ⟨Nat.le_of_ble_eq_true rfl, Nat.le_of_ble_eq_true rfl⟩ rfl rfl (Nat.le_of_ble_eq_true rfl) dX4_coinsToOpen_41 rfl (fun hp_41 => ?_)
      refine r_istore C (lv' := [(4, .int v_41), (3, .ref ((xG X).1 v_5)), (0, .ref ((xG X).1 x0)), (1, .int x1), (2, .int x2)]) (q := 46) dX4_coinsToOpen_44 (by decide) rfl rfl ?_
      refine r_iconst C (v := 0) (q := 47) dX4_coinsToOpen_46 (by decide) rfl ?_
      refine r_istore C (lv' := [(5, .int 0), (4, .int v_41), (3, .ref ((xG X).1 v_5)), (0, .ref ((xG X).1 x0)), (1, .int x1), (2, .int x2)]) (q := 49) dX4_coinsToOpen_47 (by decide) rfl rfl ?_
      refine r_sub (lv' := [(0, .ref ((xG X).1 x0)), (2, .int x2), (3, .ref ((xG X).1 v_5)), (4, .int v_41), (5, .int 0)]) [3, 5, 2, 1, 0] rfl ?_
      exact w_X4_coinsToOpen_l49 C hr  FU _ _ _ _ _ _ hx0 hp_5 h
    · replace h := (if_pos c_31).symm.trans h
      refine r_iconst C (v := (-1)) (q := 35) dX4_coinsToOpen_34 (by decide) rfl ?_
      obtain ⟨rfl, rfl⟩ := Prod.mk.inj (Option.some.inj h)
      exact hr _ _ dX4_coinsToOpen_35
  · replace h := (if_neg c_21).symm.trans h
    refine r_iconst C (v := 0) (q := 25) dX4_coinsToOpen_24 (by decide) rfl ?_
    obtain ⟨rfl, rfl⟩ := Prod.mk.inj (Option.some.inj h)
    exact hr _ _ dX4_coinsToOpen_25

theorem m_X4_coinsToOpen (G : Gm) (l : Launch) {σ σ' : St} {x0 : Nat} {x1 : Int32} {x2 : Int32} (hx0 : kd x0 = 5) {r : Int32} (h : f_X4_coinsToOpen σ x0 x1 x2 = some (r, σ')) : Ctr G l yX4_coinsToOpen cX4_coinsToOpen 7 (some .int) 5 117 [.ref (G.1 x0), .int x1, .int x2] σ (some (.int r)) True σ' := by
  refine Ctr.i (by decide) (Nat.le_of_ble_eq_true rfl) ?_
  intro X hG C hr
  subst hG
  exact w_X4_coinsToOpen_b0 C hr _ _ _ _ hx0 h
-- X4_safeFrom
set_option maxHeartbeats 4000000 in
set_option maxRecDepth 100000 in
theorem w_X4_safeFrom_b31 {X : CX} (C : Cok X RX4 cX4_safeFrom 4 6 143) {σ' : St} {r : Int32} (hr : RtI X cX4_safeFrom r σ') (k_4 : St → Nat → Int32 → Int32 → Int32 → Option (Int32 × St)) (hk_4 : ∀ (σ : St) (x0 : Nat) (x1 : Int32) (x2 : Int32) (x3 : Int32), kd x0 = 5 → k_4 σ x0 x1 x2 x3 = some (r, σ') → V X σ 4 [(0, .ref ((xG X).1 x0)), (1, .int x1), (2, .int x2), (3, .int x3)] []) (σ : St) (x0 : Nat) (x1 : Int32) (x2 : Int32) (x3 : Int32) (hx0 : kd x0 = 5) (h : f_X4_safeFrom_b31 k_4 σ x0 x1 x2 x3 = some (r, σ')) : V X σ 31 [(0, .ref ((xG X).1 x0)), (1, .int x1), (2, .int x2), (3, .int x3)] [] := by
  unfold f_X4_safeFrom_b31 at h
  obtain ⟨y_31, e_31, h⟩ := bs h
  refine r_iinc C (v := y_31) (lv' := [(3, .int y_31), (0, .ref ((xG X).1 x0)), (1, .int x1), (2, .int x2)]) (q := 34) 3 dX4_safeFrom_31 rfl (Option.some.inj e_31) (by decide) rfl rfl ?_
  refine r_goto C (tgt := 4) dX4_safeFrom_34 (by decide) ?_
  refine r_sub (lv' := [(0, .ref ((xG X).1 x0)), (1, .int x1), (2, .int x2), (3, .int y_31)]) [1, 2, 3, 0] rfl ?_
  exact hk_4 _ _ _ _ _ hx0 h

set_option maxHeartbeats 4000000 in
set_option maxRecDepth 100000 in
theorem w_X4_safeFrom_b4 {X : CX} (C : Cok X RX4 cX4_safeFrom 4 6 143) {σ' : St} {r : Int32} (hr : RtI X cX4_safeFrom r σ') (k_4 : St → Nat → Int32 → Int32 → Int32 → Option (Int32 × St)) (hk_4 : ∀ (σ : St) (x0 : Nat) (x1 : Int32) (x2 : Int32) (x3 : Int32), kd x0 = 5 → k_4 σ x0 x1 x2 x3 = some (r, σ') → V X σ 4 [(0, .ref ((xG X).1 x0)), (1, .int x1), (2, .int x2), (3, .int x3)] []) (σ : St) (x0 : Nat) (x1 : Int32) (x2 : Int32) (x3 : Int32) (hx0 : kd x0 = 5) (h : f_X4_safeFrom_b4 k_4 σ x0 x1 x2 x3 = some (r, σ')) : V X σ 4 [(0, .ref ((xG X).1 x0)), (1, .int x1), (2, .int x2), (3, .int x3)] [] := by
  unfold f_X4_safeFrom_b4 at h
  refine r_iload_n C 3 (q := 5) dX4_safeFrom_4 rfl rfl ?_
  refine r_aload_n C 0 (q := 6) dX4_safeFrom_5 rfl rfl ?_
  refine g_X4_0 C (q := 9) dX4_safeFrom_6 q_127 hx0 rfl ?_
  refine g_X0_5 C (q := 12) dX4_safeFrom_9 q_78 (kf_X4_0 hx0) rfl ?_
  refine r_icmp_ge C (tgt := 37) (q := 15) dX4_safeFrom_12 (by decide) rfl (fun c_12 => ?_) (fun c_12 => ?_)
  · replace h := (if_pos c_12).symm.trans h
    refine r_iload_n C 2 (q := 38) dX4_safeFrom_37 rfl rfl ?_
    obtain ⟨rfl, rfl⟩ := Prod.mk.inj (Option.some.inj h)
    exact hr _ _ dX4_safeFrom_38
  · replace h := (if_neg c_12).symm.trans h
    refine r_aload_n C 0 (q := 16) dX4_safeFrom_15 rfl rfl ?_
    refine r_iload_n C 3 (q := 17) dX4_safeFrom_16 rfl rfl ?_
    refine r_iload_n C 1 (q := 18) dX4_safeFrom_17 rfl rfl ?_
    obtain ⟨v_18, s_18, e_18, h⟩ := bs2 h
    refine r_callV C (ci := 4) (st := []) (st2 := [.int v_18]) (q := 21) (m_X4_coinsToOpen (xG X) (xl X) hx0 e_18) ok_X4_coinsToOpen hx0 rfl ⟨_, rfl⟩ q_783 rfl ⟨Nat.le_of_ble_eq_true rfl, Nat.le_of_ble_eq_true rfl⟩ rfl rfl (Nat.le_of_ble_eq_true rfl) dX4_safeFrom_18 rfl (fun hp_18 => ?_)
    refine r_iconst C (v := (-1)) (q := 22) dX4_safeFrom_21 (by decide) rfl ?_
    refine r_icmp_ne C (tgt := 31) (q := 25) dX4_safeFrom_22 (by decide) rfl (fun c_22 => ?_) (fun c_22 => ?_)
    · replace h := (if_neg c_22).symm.trans h
      exact w_X4_safeFrom_b31 C hr _ hk_4 _ _ _ _ _ hx0 h
    · replace h := (if_pos c_22).symm.trans h
      refine r_iload_n C 2 (q := 26) dX4_safeFrom_25 rfl rfl ?_
      refine r_iconst C (v := 1) (q := 27) dX4_safeFrom_26 (by decide) rfl ?_
      refine r_iload_n C 3 (q := 28) dX4_safeFrom_27 rfl rfl ?_
      refine r_ishl C (q := 29) dX4_safeFrom_28 rfl ?_
      refine r_ior C (q := 30) dX4_safeFrom_29 rfl ?_
      obtain ⟨y_30, e_30, h⟩ := bs h
      refine r_topI (Option.some.inj e_30) ?_
      refine r_istore_n C (lv' := [(2, .int y_30), (0, .ref ((xG X).1 x0)), (1, .int x1), (3, .int x3)]) (q := 31) dX4_safeFrom_30 rfl (by decide) rfl rfl ?_
      refine r_sub (lv' := [(0, .ref ((xG X).1 x0)), (1, .int x1), (2, .int y_30), (3, .int x3)]) [1, 2, 0, 3] rfl ?_
      exact w_X4_safeFrom_b31 C hr _ hk_4 _ _ _ _ _ hx0 h

theorem w_X4_safeFrom_l4 {X : CX} (C : Cok X RX4 cX4_safeFrom 4 6 143) {σ' : St} {r : Int32} (hr : RtI X cX4_safeFrom r σ') (n : Nat) : ∀ (σ : St) (x0 : Nat) (x1 : Int32) (x2 : Int32) (x3 : Int32), kd x0 = 5 → f_X4_safeFrom_l4 n σ x0 x1 x2 x3 = some (r, σ') → V X σ 4 [(0, .ref ((xG X).1 x0)), (1, .int x1), (2, .int x2), (3, .int x3)] [] := by
  induction n with
  | zero =>
    intro σ x0 x1 x2 x3 hx0 h
    exact nomatch (show (none : Option (Int32 × St)) = some (r, σ') from h)
  | succ n ih =>
    intro σ x0 x1 x2 x3 hx0 h
    exact w_X4_safeFrom_b4 C hr _ ih σ x0 x1 x2 x3 hx0 h
set_option maxHeartbeats 4000000 in
set_option maxRecDepth 100000 in
theorem w_X4_safeFrom_b0 {X : CX} (C : Cok X RX4 cX4_safeFrom 4 6 143) {σ' : St} {r : Int32} (hr : RtI X cX4_safeFrom r σ') (σ : St) (x0 : Nat) (x1 : Int32) (hx0 : kd x0 = 5) (h : f_X4_safeFrom σ x0 x1 = some (r, σ')) : V X σ 0 [(0, .ref ((xG X).1 x0)), (1, .int x1)] [] := by
  unfold f_X4_safeFrom at h
  refine r_iconst C (v := 0) (q := 1) dX4_safeFrom_0 (by decide) rfl ?_
  refine r_istore_n C (lv' := [(2, .int 0), (0, .ref ((xG X).1 x0)), (1, .int x1)]) (q := 2) dX4_safeFrom_1 rfl (by decide) rfl rfl ?_
  refine r_iconst C (v := 0) (q := 3) dX4_safeFrom_2 (by decide) rfl ?_
  refine r_istore_n C (lv' := [(3, .int 0), (2, .int 0), (0, .ref ((xG X).1 x0)), (1, .int x1)]) (q := 4) dX4_safeFrom_3 rfl (by decide) rfl rfl ?_
  refine r_sub (lv' := [(0, .ref ((xG X).1 x0)), (1, .int x1), (2, .int 0), (3, .int 0)]) [2, 3, 1, 0] rfl ?_
  exact w_X4_safeFrom_l4 C hr  FU _ _ _ _ _ hx0 h

theorem m_X4_safeFrom (G : Gm) (l : Launch) {σ σ' : St} {x0 : Nat} {x1 : Int32} (hx0 : kd x0 = 5) {r : Int32} (h : f_X4_safeFrom σ x0 x1 = some (r, σ')) : Ctr G l yX4_safeFrom cX4_safeFrom 4 (some .int) 6 143 [.ref (G.1 x0), .int x1] σ (some (.int r)) True σ' := by
  refine Ctr.i (by decide) (Nat.le_of_ble_eq_true rfl) ?_
  intro X hG C hr
  subst hG
  exact w_X4_safeFrom_b0 C hr _ _ _ hx0 h
-- X4_mendedAt
set_option maxHeartbeats 4000000 in
set_option maxRecDepth 100000 in
theorem w_X4_mendedAt_b22 {X : CX} (C : Cok X RX4 cX4_mendedAt 2 0 0) {σ : St} {r : Nat} (hr : RtA X cX4_mendedAt 8 r σ) (x0 : Nat) (hx0 : kd x0 = 5) (h : f_X4_mendedAt_b22 σ x0 = some r) : V X σ 22 [(0, .ref ((xG X).1 x0))] [] := by
  unfold f_X4_mendedAt_b22 at h
  refine r_aload_n C 0 (q := 23) dX4_mendedAt_22 rfl rfl ?_
  refine g_X4_3 C (q := 26) dX4_mendedAt_23 q_130 hx0 rfl ?_
  obtain rfl := Option.some.inj h
  exact hr _ _ dX4_mendedAt_26 (kf_X4_3 hx0)

set_option maxHeartbeats 4000000 in
set_option maxRecDepth 100000 in
theorem w_X4_mendedAt_b0 {X : CX} (C : Cok X RX4 cX4_mendedAt 2 0 0) {σ : St} {r : Nat} (hr : RtA X cX4_mendedAt 8 r σ) (x0 : Nat) (x1 : Int32) (hx0 : kd x0 = 5) (h : f_X4_mendedAt σ x0 x1 = some r) : V X σ 0 [(0, .ref ((xG X).1 x0)), (1, .int x1)] [] := by
  unfold f_X4_mendedAt at h
  refine r_iload_n C 1 (q := 1) dX4_mendedAt_0 rfl rfl ?_
  refine r_if_lt C (tgt := 22) (q := 4) dX4_mendedAt_1 (by decide) rfl (fun c_1 => ?_) (fun c_1 => ?_)
  · replace h := (if_pos c_1).symm.trans h
    refine r_sub (lv' := [(0, .ref ((xG X).1 x0))]) [0] rfl ?_
    exact w_X4_mendedAt_b22 C hr  _ hx0 h
  · replace h := (if_neg c_1).symm.trans h
    refine r_iload_n C 1 (q := 5) dX4_mendedAt_4 rfl rfl ?_
    refine r_aload_n C 0 (q := 6) dX4_mendedAt_5 rfl rfl ?_
    refine g_X4_6 C (q := 9) dX4_mendedAt_6 q_133 hx0 rfl ?_
    refine r_alen12 C (q := 10) dX4_mendedAt_9 (kf_X4_6 hx0) rfl ?_
    refine r_icmp_ge C (tgt := 22) (q := 13) dX4_mendedAt_10 (by decide) rfl (fun c_10 => ?_) (fun c_10 => ?_)
    · replace h := (if_pos c_10).symm.trans h
      refine r_sub (lv' := [(0, .ref ((xG X).1 x0))]) [0] rfl ?_
      exact w_X4_mendedAt_b22 C hr  _ hx0 h
    · replace h := (if_neg c_10).symm.trans h
      refine r_aload_n C 0 (q := 14) dX4_mendedAt_13 rfl rfl ?_
      refine g_X4_6 C (q := 17) dX4_mendedAt_14 q_133 hx0 rfl ?_
      refine r_iload_n C 1 (q := 18) dX4_mendedAt_17 rfl rfl ?_
      obtain ⟨v_18, e_18, h⟩ := bs h
      refine r_aaldR C (q := 19) dX4_mendedAt_18 (kf_X4_6 hx0) e_18 rfl ?_
      refine r_goto C (tgt := 26) dX4_mendedAt_19 (by decide) ?_
      obtain rfl := Option.some.inj h
      exact hr _ _ dX4_mendedAt_26 (kR (kf_X4_6 hx0) e_18)

theorem m_X4_mendedAt (G : Gm) (l : Launch) {σ : St} {x0 : Nat} {x1 : Int32} (hx0 : kd x0 = 5) {r : Nat} (h : f_X4_mendedAt σ x0 x1 = some r) : Ctr G l yX4_mendedAt cX4_mendedAt 2 (some (.array .int)) 0 0 [.ref (G.1 x0), .int x1] σ (some (.ref (G.1 r))) (kd r = 8) σ := by
  refine Ctr.a (by first | exact Or.inl ⟨_, rfl⟩ | exact Or.inr ⟨_, rfl⟩) (by decide) (Nat.le_of_ble_eq_true rfl) ?_
  intro X hG C hr
  subst hG
  exact w_X4_mendedAt_b0 C hr _ _ hx0 h
-- X4_planMendingOf
set_option maxHeartbeats 4000000 in
set_option maxRecDepth 100000 in
theorem w_X4_planMendingOf_b112 {X : CX} (C : Cok X RX4 cX4_planMendingOf 7 4 95) {σ' : St} {r : Int32} (hr : RtI X cX4_planMendingOf r σ') (k_38 : St → Nat → Int32 → Nat → Int32 → Int32 → Int32 → Option (Int32 × St)) (hk_38 : ∀ (σ : St) (x0 : Nat) (x1 : Int32) (x2 : Nat) (x3 : Int32) (x4 : Int32) (x5 : Int32), kd x0 = 5 → kd x2 = 2 → k_38 σ x0 x1 x2 x3 x4 x5 = some (r, σ') → V X σ 38 [(0, .ref ((xG X).1 x0)), (1, .int x1), (2, .ref ((xG X).1 x2)), (3, .int x3), (4, .int x4), (5, .int x5)] []) (σ : St) (x0 : Nat) (x1 : Int32) (x2 : Nat) (x3 : Int32) (x4 : Int32) (x5 : Int32) (hx0 : kd x0 = 5) (hx2 : kd x2 = 2) (h : f_X4_planMendingOf_b112 k_38 σ x0 x1 x2 x3 x4 x5 = some (r, σ')) : V X σ 112 [(0, .ref ((xG X).1 x0)), (1, .int x1), (2, .ref ((xG X).1 x2)), (3, .int x3), (4, .int x4), (5, .int x5)] [] := by
  unfold f_X4_planMendingOf_b112 at h
  refine r_aload_n C 2 (q := 113) dX4_planMendingOf_112 rfl rfl ?_
  refine g_X1_0 C (q := 116) dX4_planMendingOf_113 q_38 hx2 rfl ?_
  refine r_iconst C (v := 4) (q := 117) dX4_planMendingOf_116 (by decide) rfl ?_
  refine r_icmp_eq C (tgt := 147) (q := 120) dX4_planMendingOf_117 (by decide) rfl (fun c_117 => ?_) (fun c_117 => ?_)
  · replace h := (if_pos c_117).symm.trans h
    refine r_iload C 4 (q := 149) dX4_planMendingOf_147 rfl rfl ?_
    obtain ⟨rfl, rfl⟩ := Prod.mk.inj (Option.some.inj h)
    exact hr _ _ dX4_planMendingOf_149
  · replace h := (if_neg c_117).symm.trans h
    refine r_aload_n C 0 (q := 121) dX4_planMendingOf_120 rfl rfl ?_
    refine g_X4_0 C (q := 124) dX4_planMendingOf_121 q_127 hx0 rfl ?_
    refine r_aload_n C 0 (q := 125) dX4_planMendingOf_124 rfl rfl ?_
    refine g_X4_2 C (q := 128) dX4_planMendingOf_125 q_129 hx0 rfl ?_
    refine r_aload_n C 2 (q := 129) dX4_planMendingOf_128 rfl rfl ?_
    refine g_X1_3 C (q := 132) dX4_planMendingOf_129 q_48 hx2 rfl ?_
    obtain ⟨v_132, s_132, e_132, h⟩ := bs2 h
    refine r_callV C (ci := 0) (st := []) (st2 := [.int v_132]) (q := 135) (m_X0_advance (xG X) (xl X) (kf_X4_0 hx0) (kf_X4_2 hx0) (kf_X1_3 hx2) e_132) ok_X0_advance (kf_X4_0 hx0) rfl ⟨_, rfl⟩ q_729 rfl ⟨Nat.le_of_ble_eq_true rfl, Nat.le_of_ble_eq_true rfl⟩ rfl rfl (Nat.le_of_ble_eq_true rfl) dX4_planMendingOf_132 rfl (fun hp_132 => ?_)
    refine r_if_ne C (tgt := 141) (q := 138) dX4_planMendingOf_135 (by decide) rfl (fun c_135 => ?_) (fun c_135 => ?_)
    · replace h := (if_neg c_135).symm.trans h
      obtain ⟨y_141, e_141, h⟩ := bs h
      refine r_iinc C (v := y_141) (lv' := [(5, .int y_141), (0, .ref ((xG X).1 x0)), (1, .int x1), (2, .ref ((xG X).1 x2)), (3, .int x3), (4, .int x4)]) (q := 144) 5 dX4_planMendingOf_141 rfl (Option.some.inj e_141) (by decide) rfl rfl ?_
      refine r_goto C (tgt := 38) dX4_planMendingOf_144 (by decide) ?_
      refine r_sub (lv' := [(0, .ref ((xG X).1 x0)), (1, .int x1), (2, .ref ((xG X).1 x2)), (3, .int x3), (4, .int x4), (5, .int y_141)]) [1, 2, 3, 4, 5, 0] rfl ?_
      exact hk_38 _ _ _ _ _ _ _ hx0 hx2 h
    · replace h := (if_pos c_135).symm.trans h
      refine r_goto C (tgt := 147) dX4_planMendingOf_138 (by decide) ?_
      refine r_iload C 4 (q := 149) dX4_planMendingOf_147 rfl rfl ?_
      obtain ⟨rfl, rfl⟩ := Prod.mk.inj (Option.some.inj h)
      exact hr _ _ dX4_planMendingOf_149

set_option maxHeartbeats 4000000 in
set_option maxRecDepth 100000 in
theorem w_X4_planMendingOf_b93 {X : CX} (C : Cok X RX4 cX4_planMendingOf 7 4 95) {σ' : St} {r : Int32} (hr : RtI X cX4_planMendingOf r σ') (k_38 : St → Nat → Int32 → Nat → Int32 → Int32 → Int32 → Option (Int32 × St)) (hk_38 : ∀ (σ : St) (x0 : Nat) (x1 : Int32) (x2 : Nat) (x3 : Int32) (x4 : Int32) (x5 : Int32), kd x0 = 5 → kd x2 = 2 → k_38 σ x0 x1 x2 x3 x4 x5 = some (r, σ') → V X σ 38 [(0, .ref ((xG X).1 x0)), (1, .int x1), (2, .ref ((xG X).1 x2)), (3, .int x3), (4, .int x4), (5, .int x5)] []) (σ : St) (x0 : Nat) (x1 : Int32) (x2 : Nat) (x3 : Int32) (x5 : Int32) (x6 : Int32) (hx0 : kd x0 = 5) (hx2 : kd x2 = 2) (h : f_X4_planMendingOf_b93 k_38 σ x0 x1 x2 x3 x5 x6 = some (r, σ')) : V X σ 93 [(0, .ref ((xG X).1 x0)), (1, .int x1), (2, .ref ((xG X).1 x2)), (3, .int x3), (5, .int x5), (6, .int x6)] [] := by
  unfold f_X4_planMendingOf_b93 at h
  refine r_iload C 5 (q := 95) dX4_planMendingOf_93 rfl rfl ?_
  refine r_istore C (lv' := [(4, .int x6), (0, .ref ((xG X).1 x0)), (1, .int x1), (2, .ref ((xG X).1 x2)), (3, .int x3), (5, .int x5), (6, .int x6)]) (q := 97) dX4_planMendingOf_95 (by decide) rfl rfl ?_
  refine r_aload_n C 1 (q := 98) dX4_planMendingOf_97 rfl rfl ?_
  refine g_X4_2 C (q := 101) dX4_planMendingOf_98 q_129 hx0 rfl ?_
  refine r_iconst C (v := 0) (q := 102) dX4_planMendingOf_101 (by decide) rfl ?_
  refine r_aload_n C 1 (q := 103) dX4_planMendingOf_102 rfl rfl ?_
  refine r_iload_n C 2 (q := 104) dX4_planMendingOf_103 rfl rfl ?_
  obtain ⟨v_104, e_104, h⟩ := bs h
  refine r_callV C (ci := 4) (st := [.int 0, .ref ((xG X).1 7)]) (st2 := [.ref ((xG X).1 v_104), .int 0, .ref ((xG X).1 7)]) (q := 107) (m_X4_mendedAt (xG X) (xl X) hx0 e_104) ok_X4_mendedAt hx0 rfl ⟨_, rfl⟩ q_802 rfl ⟨Nat.le_of_ble_eq_true rfl, Nat.le_of_ble_eq_true rfl⟩ rfl rfl (Nat.le_of_ble_eq_true rfl) dX4_planMendingOf_104 rfl (fun hp_104 => ?_)
  refine r_iconst C (v := 0) (q := 108) dX4_planMendingOf_107 (by decide) rfl ?_
  refine r_iconst C (v := 5) (q := 109) dX4_planMendingOf_108 (by decide) rfl ?_
  obtain ⟨s_109, e_109, h⟩ := bs h
  refine r_copyI C (st := []) (q := 112) dX4_planMendingOf_109 q_728 ok_copy (kf_X4_2 hx0) hp_104 e_109 ⟨Nat.le_of_ble_eq_true rfl, Nat.le_of_ble_eq_true rfl⟩ rfl ?_
  refine r_sub (lv' := [(0, .ref ((xG X).1 x0)), (1, .int x1), (2, .ref ((xG X).1 x2)), (3, .int x3), (4, .int x6), (5, .int x5)]) [1, 2, 3, 4, 0, 5] rfl ?_
  exact w_X4_planMendingOf_b112 C hr _ hk_38 _ _ _ _ _ _ _ hx0 hx2 h

set_option maxHeartbeats 4000000 in
set_option maxRecDepth 100000 in
theorem w_X4_planMendingOf_b38 {X : CX} (C : Cok X RX4 cX4_planMendingOf 7 4 95) {σ' : St} {r : Int32} (hr : RtI X cX4_planMendingOf r σ') (k_38 : St → Nat → Int32 → Nat → Int32 → Int32 → Int32 → Option (Int32 × St)) (hk_38 : ∀ (σ : St) (x0 : Nat) (x1 : Int32) (x2 : Nat) (x3 : Int32) (x4 : Int32) (x5 : Int32), kd x0 = 5 → kd x2 = 2 → k_38 σ x0 x1 x2 x3 x4 x5 = some (r, σ') → V X σ 38 [(0, .ref ((xG X).1 x0)), (1, .int x1), (2, .ref ((xG X).1 x2)), (3, .int x3), (4, .int x4), (5, .int x5)] []) (σ : St) (x0 : Nat) (x1 : Int32) (x2 : Nat) (x3 : Int32) (x4 : Int32) (x5 : Int32) (hx0 : kd x0 = 5) (hx2 : kd x2 = 2) (h : f_X4_planMendingOf_b38 k_38 σ x0 x1 x2 x3 x4 x5 = some (r, σ')) : V X σ 38 [(0, .ref ((xG X).1 x0)), (1, .int x1), (2, .ref ((xG X).1 x2)), (3, .int x3), (4, .int x4), (5, .int x5)] [] := by
  unfold f_X4_planMendingOf_b38 at h
  refine r_iload C 5 (q := 40) dX4_planMendingOf_38 rfl rfl ?_
  refine r_sipush C (v := 3125) (q := 43) dX4_planMendingOf_40 (by decide) rfl ?_
  refine r_icmp_ge C (tgt := 147) (q := 46) dX4_planMendingOf_43 (by decide) rfl (fun c_43 => ?_) (fun c_43 => ?_)
  · replace h := (if_pos c_43).symm.trans h
    refine r_iload C 4 (q := 149) dX4_planMendingOf_147 rfl rfl ?_
    obtain ⟨rfl, rfl⟩ := Prod.mk.inj (Option.some.inj h)
    exact hr _ _ dX4_planMendingOf_149
  · replace h := (if_neg c_43).symm.trans h
    refine r_aload_n C 0 (q := 47) dX4_planMendingOf_46 rfl rfl ?_
    refine g_X4_0 C (q := 50) dX4_planMendingOf_47 q_127 hx0 rfl ?_
    refine r_aload_n C 2 (q := 51) dX4_planMendingOf_50 rfl rfl ?_
    refine r_aload_n C 0 (q := 52) dX4_planMendingOf_51 rfl rfl ?_
    refine g_X4_2 C (q := 55) dX4_planMendingOf_52 q_129 hx0 rfl ?_
    refine r_iload_n C 3 (q := 56) dX4_planMendingOf_55 rfl rfl ?_
    obtain ⟨v_56, e_56, h⟩ := bs h
    refine r_callV C (ci := 0) (st := []) (st2 := [.int v_56]) (q := 59) (m_X0_openedAs (xG X) (xl X) (kf_X4_0 hx0) hx2 (kf_X4_2 hx0) e_56) ok_X0_openedAs (kf_X4_0 hx0) rfl ⟨_, rfl⟩ q_801 rfl ⟨Nat.le_of_ble_eq_true rfl, Nat.le_of_ble_eq_true rfl⟩ rfl rfl (Nat.le_of_ble_eq_true rfl) dX4_planMendingOf_56 rfl (fun hp_56 => ?_)
    refine r_aload_n C 2 (q := 60) dX4_planMendingOf_59 rfl rfl ?_
    refine g_X1_2 C (q := 63) dX4_planMendingOf_60 q_45 hx2 rfl ?_
    refine r_icmp_ne C (tgt := 112) (q := 66) dX4_planMendingOf_63 (by decide) rfl (fun c_63 => ?_) (fun c_63 => ?_)
    · replace h := (if_neg c_63).symm.trans h
      exact w_X4_planMendingOf_b112 C hr _ hk_38 _ _ _ _ _ _ _ hx0 hx2 h
    · replace h := (if_pos c_63).symm.trans h
      refine r_aload_n C 0 (q := 67) dX4_planMendingOf_66 rfl rfl ?_
      refine g_X4_0 C (q := 70) dX4_planMendingOf_67 q_127 hx0 rfl ?_
      refine r_aload_n C 2 (q := 71) dX4_planMendingOf_70 rfl rfl ?_
      refine r_aload_n C 0 (q := 72) dX4_planMendingOf_71 rfl rfl ?_
      refine g_X4_2 C (q := 75) dX4_planMendingOf_72 q_129 hx0 rfl ?_
      obtain ⟨v_75, e_75, h⟩ := bs h
      refine r_callV C (ci := 0) (st := []) (st2 := [.int v_75]) (q := 78) (m_X0_cost (xG X) (xl X) (kf_X4_0 hx0) hx2 (kf_X4_2 hx0) e_75) ok_X0_cost (kf_X4_0 hx0) rfl ⟨_, rfl⟩ q_771 rfl ⟨Nat.le_of_ble_eq_true rfl, Nat.le_of_ble_eq_true rfl⟩ rfl rfl (Nat.le_of_ble_eq_true rfl) dX4_planMendingOf_75 rfl (fun hp_75 => ?_)
      refine r_istore C (lv' := [(6, .int v_75), (0, .ref ((xG X).1 x0)), (1, .int x1), (2, .ref ((xG X).1 x2)), (3, .int x3), (4, .int x4), (5, .int x5)]) (q := 80) dX4_planMendingOf_78 (by decide) rfl rfl ?_
      refine r_iload C 5 (q := 82) dX4_planMendingOf_80 rfl rfl ?_
      refine r_iconst C (v := (-1)) (q := 83) dX4_planMendingOf_82 (by decide) rfl ?_
      refine r_icmp_eq C (tgt := 93) (q := 86) dX4_planMendingOf_83 (by decide) rfl (fun c_83 => ?_) (fun c_83 => ?_)
      · replace h := (if_pos c_83).symm.trans h
        refine r_sub (lv' := [(0, .ref ((xG X).1 x0)), (1, .int x1), (2, .ref ((xG X).1 x2)), (3, .int x3), (5, .int x5), (6, .int v_75)]) [1, 2, 3, 4, 6, 0] rfl ?_
        exact w_X4_planMendingOf_b93 C hr _ hk_38 _ _ _ _ _ _ _ hx0 hx2 h
      · replace h := (if_neg c_83).symm.trans h
        refine r_iload C 0 (q := 88) dX4_planMendingOf_86 rfl rfl ?_
        refine r_iload C 5 (q := 90) dX4_planMendingOf_88 rfl rfl ?_
        refine r_icmp_ge C (tgt := 112) (q := 93) dX4_planMendingOf_90 (by decide) rfl (fun c_90 => ?_) (fun c_90 => ?_)
        · replace h := (if_pos c_90).symm.trans h
          refine r_sub (lv' := [(0, .ref ((xG X).1 x0)), (1, .int x1), (2, .ref ((xG X).1 x2)), (3, .int x3), (4, .int x4), (5, .int x5)]) [1, 2, 3, 4, 5, 6] rfl ?_
          exact w_X4_planMendingOf_b112 C hr _ hk_38 _ _ _ _ _ _ _ hx0 hx2 h
        · replace h := (if_neg c_90).symm.trans h
          refine r_sub (lv' := [(0, .ref ((xG X).1 x0)), (1, .int x1), (2, .ref ((xG X).1 x2)), (3, .int x3), (5, .int x5), (6, .int v_75)]) [1, 2, 3, 4, 6, 0] rfl ?_
          exact w_X4_planMendingOf_b93 C hr _ hk_38 _ _ _ _ _ _ _ hx0 hx2 h

theorem w_X4_planMendingOf_l38 {X : CX} (C : Cok X RX4 cX4_planMendingOf 7 4 95) {σ' : St} {r : Int32} (hr : RtI X cX4_planMendingOf r σ') (n : Nat) : ∀ (σ : St) (x0 : Nat) (x1 : Int32) (x2 : Nat) (x3 : Int32) (x4 : Int32) (x5 : Int32), kd x0 = 5 → kd x2 = 2 → f_X4_planMendingOf_l38 n σ x0 x1 x2 x3 x4 x5 = some (r, σ') → V X σ 38 [(0, .ref ((xG X).1 x0)), (1, .int x1), (2, .ref ((xG X).1 x2)), (3, .int x3), (4, .int x4), (5, .int x5)] [] := by
  induction n with
  | zero =>
    intro σ x0 x1 x2 x3 x4 x5 hx0 hx2 h
    exact nomatch (show (none : Option (Int32 × St)) = some (r, σ') from h)
  | succ n ih =>
    intro σ x0 x1 x2 x3 x4 x5 hx0 hx2 h
    exact w_X4_planMendingOf_b38 C hr _ ih σ x0 x1 x2 x3 x4 x5 hx0 hx2 h
set_option maxHeartbeats 4000000 in
set_option maxRecDepth 100000 in
theorem w_X4_planMendingOf_b0 {X : CX} (C : Cok X RX4 cX4_planMendingOf 7 4 95) {σ' : St} {r : Int32} (hr : RtI X cX4_planMendingOf r σ') (σ : St) (x0 : Nat) (x1 : Int32) (hx0 : kd x0 = 5) (h : f_X4_planMendingOf σ x0 x1 = some (r, σ')) : V X σ 0 [(0, .ref ((xG X).1 x0)), (1, .int x1)] [] := by
  unfold f_X4_planMendingOf at h
  refine r_aload_n C 0 (q := 1) dX4_planMendingOf_0 rfl rfl ?_
  refine g_X4_0 C (q := 4) dX4_planMendingOf_1 q_127 hx0 rfl ?_
  refine r_iload_n C 1 (q := 5) dX4_planMendingOf_4 rfl rfl ?_
  obtain ⟨v_5, e_5, h⟩ := bs h
  refine r_callV C (ci := 0) (st := []) (st2 := [.ref ((xG X).1 v_5)]) (q := 8) (m_X0_keyAt (xG X) (xl X) (kf_X4_0 hx0) e_5) ok_X0_keyAt (kf_X4_0 hx0) rfl ⟨_, rfl⟩ q_753 rfl ⟨Nat.le_of_ble_eq_true rfl, Nat.le_of_ble_eq_true rfl⟩ rfl rfl (Nat.le_of_ble_eq_true rfl) dX4_planMendingOf_5 rfl (fun hp_5 => ?_)
  refine r_astore_n C (lv' := [(2, .ref ((xG X).1 v_5)), (0, .ref ((xG X).1 x0)), (1, .int x1)]) (q := 9) dX4_planMendingOf_8 rfl (by decide) rfl rfl ?_
  refine r_aload_n C 1 (q := 10) dX4_planMendingOf_9 rfl rfl ?_
  refine g_X4_0 C (q := 13) dX4_planMendingOf_10 q_127 hx0 rfl ?_
  refine r_aload_n C 0 (q := 14) dX4_planMendingOf_13 rfl rfl ?_
  obtain ⟨v_14, e_14, h⟩ := bs h
  refine r_callV C (ci := 0) (st := []) (st2 := [.int v_14]) (q := 17) (m_X0_openedBesides (xG X) (xl X) (kf_X4_0 hx0) hp_5 e_14) ok_X0_openedBesides (kf_X4_0 hx0) rfl ⟨_, rfl⟩ q_800 rfl ⟨Nat.le_of_ble_eq_true rfl, Nat.le_of_ble_eq_true rfl⟩ rfl rfl (Nat.le_of_ble_eq_true rfl) dX4_planMendingOf_14 rfl (fun hp_14 => ?_)
  refine r_istore_n C (lv' := [(3, .int v_14), (2, .ref ((xG X).1 v_5)), (0, .ref ((xG X).1 x0)), (1, .int x1)]) (q := 18) dX4_planMendingOf_17 rfl (by decide) rfl rfl ?_
  refine r_iconst C (v := (-1)) (q := 19) dX4_planMendingOf_18 (by decide) rfl ?_
  refine r_istore C (lv' := [(4, .int (-1)), (3, .int v_14), (2, .ref ((xG X).1 v_5)), (0, .ref ((xG X).1 x0)), (1, .int x1)]) (q := 21) dX4_planMendingOf_19 (by decide) rfl rfl ?_
  refine r_aload_n C 2 (q := 22) dX4_planMendingOf_21 rfl rfl ?_
  refine g_X1_3 C (q := 25) dX4_planMendingOf_22 q_48 hp_5 rfl ?_
  refine r_iconst C (v := 0) (q := 26) dX4_planMendingOf_25 (by decide) rfl ?_
  refine r_aload_n C 3 (q := 27) dX4_planMendingOf_26 rfl rfl ?_
  refine g_X4_2 C (q := 30) dX4_planMendingOf_27 q_129 hx0 rfl ?_
  refine r_iconst C (v := 0) (q := 31) dX4_planMendingOf_30 (by decide) rfl ?_
  refine r_iconst C (v := 5) (q := 32) dX4_planMendingOf_31 (by decide) rfl ?_
  obtain ⟨s_32, e_32, h⟩ := bs h
  refine r_copyI C (st := []) (q := 35) dX4_planMendingOf_32 q_728 ok_copy (kf_X1_3 hp_5) (kf_X4_2 hx0) e_32 ⟨Nat.le_of_ble_eq_true rfl, Nat.le_of_ble_eq_true rfl⟩ rfl ?_
  refine r_iconst C (v := 0) (q := 36) dX4_planMendingOf_35 (by decide) rfl ?_
  refine r_istore C (lv' := [(5, .int 0), (4, .int (-1)), (3, .int v_14), (2, .ref ((xG X).1 v_5)), (0, .ref ((xG X).1 x0)), (1, .int x1)]) (q := 38) dX4_planMendingOf_36 (by decide) rfl rfl ?_
  refine r_sub (lv' := [(0, .ref ((xG X).1 x0)), (1, .int x1), (2, .ref ((xG X).1 v_5)), (3, .int v_14), (4, .int (-1)), (5, .int 0)]) [4, 5, 3, 2, 1, 0] rfl ?_
  exact w_X4_planMendingOf_l38 C hr  FU _ _ _ _ _ _ _ hx0 hp_5 h

theorem m_X4_planMendingOf (G : Gm) (l : Launch) {σ σ' : St} {x0 : Nat} {x1 : Int32} (hx0 : kd x0 = 5) {r : Int32} (h : f_X4_planMendingOf σ x0 x1 = some (r, σ')) : Ctr G l yX4_planMendingOf cX4_planMendingOf 7 (some .int) 4 95 [.ref (G.1 x0), .int x1] σ (some (.int r)) True σ' := by
  refine Ctr.i (by decide) (Nat.le_of_ble_eq_true rfl) ?_
  intro X hG C hr
  subst hG
  exact w_X4_planMendingOf_b0 C hr _ _ _ hx0 h
-- X4_planMending
set_option maxHeartbeats 4000000 in
set_option maxRecDepth 100000 in
theorem w_X4_planMending_b2 {X : CX} (C : Cok X RX4 cX4_planMending 2 5 121) {σ' : St} (hr : RtV X cX4_planMending σ') (k_2 : St → Nat → Int32 → Option St) (hk_2 : ∀ (σ : St) (x0 : Nat) (x1 : Int32), kd x0 = 5 → k_2 σ x0 x1 = some σ' → V X σ 2 [(0, .ref ((xG X).1 x0)), (1, .int x1)] []) (σ : St) (x0 : Nat) (x1 : Int32) (hx0 : kd x0 = 5) (h : f_X4_planMending_b2 k_2 σ x0 x1 = some σ') : V X σ 2 [(0, .ref ((xG X).1 x0)), (1, .int x1)] [] := by
  unfold f_X4_planMending_b2 at h
  refine r_iload_n C 1 (q := 3) dX4_planMending_2 rfl rfl ?_
  refine r_aload_n C 0 (q := 4) dX4_planMending_3 rfl rfl ?_
  refine g_X4_0 C (q := 7) dX4_planMending_4 q_127 hx0 rfl ?_
  refine g_X0_5 C (q := 10) dX4_planMending_7 q_78 (kf_X4_0 hx0) rfl ?_
  refine r_icmp_ge C (tgt := 32) (q := 13) dX4_planMending_10 (by decide) rfl (fun c_10 => ?_) (fun c_10 => ?_)
  · replace h := (if_pos c_10).symm.trans h
    obtain rfl := Option.some.inj h
    exact hr _ _ dX4_planMending_32
  · replace h := (if_neg c_10).symm.trans h
    refine r_aload_n C 0 (q := 14) dX4_planMending_13 rfl rfl ?_
    refine g_X4_5 C (q := 17) dX4_planMending_14 q_132 hx0 rfl ?_
    refine r_iload_n C 1 (q := 18) dX4_planMending_17 rfl rfl ?_
    refine r_aload_n C 0 (q := 19) dX4_planMending_18 rfl rfl ?_
    refine r_iload_n C 1 (q := 20) dX4_planMending_19 rfl rfl ?_
    obtain ⟨v_20, s_20, e_20, h⟩ := bs2 h
    refine r_callV C (ci := 4) (st := [.int x1, .ref ((xG X).1 10)]) (st2 := [.int v_20, .int x1, .ref ((xG X).1 10)]) (q := 23) (m_X4_planMendingOf (xG X) (xl X) hx0 e_20) ok_X4_planMendingOf hx0 rfl ⟨_, rfl⟩ q_796 rfl ⟨Nat.le_of_ble_eq_true rfl, Nat.le_of_ble_eq_true rfl⟩ rfl rfl (Nat.le_of_ble_eq_true rfl) dX4_planMending_20 rfl (fun hp_20 => ?_)
    obtain ⟨s_23, e_23, h⟩ := bs h
    refine r_callN C (st := []) (st2 := []) (q := 26) (m_X5_put (xG X) (xl X) (kf_X4_5 hx0) e_23) ok_X5_put nst_13 rfl ⟨Nat.le_of_ble_eq_true rfl, Nat.le_of_ble_eq_true rfl⟩ rfl rfl (Nat.le_of_ble_eq_true rfl) dX4_planMending_23 rfl (fun hp_23 => ?_)
    obtain ⟨y_26, e_26, h⟩ := bs h
    refine r_iinc C (v := y_26) (lv' := [(1, .int y_26), (0, .ref ((xG X).1 x0))]) (q := 29) 1 dX4_planMending_26 rfl (Option.some.inj e_26) (by decide) rfl rfl ?_
    refine r_goto C (tgt := 2) dX4_planMending_29 (by decide) ?_
    refine r_sub (lv' := [(0, .ref ((xG X).1 x0)), (1, .int y_26)]) [1, 0] rfl ?_
    exact hk_2 _ _ _ hx0 h

theorem w_X4_planMending_l2 {X : CX} (C : Cok X RX4 cX4_planMending 2 5 121) {σ' : St} (hr : RtV X cX4_planMending σ') (n : Nat) : ∀ (σ : St) (x0 : Nat) (x1 : Int32), kd x0 = 5 → f_X4_planMending_l2 n σ x0 x1 = some σ' → V X σ 2 [(0, .ref ((xG X).1 x0)), (1, .int x1)] [] := by
  induction n with
  | zero =>
    intro σ x0 x1 hx0 h
    exact nomatch (show (none : Option St) = some σ' from h)
  | succ n ih =>
    intro σ x0 x1 hx0 h
    exact w_X4_planMending_b2 C hr _ ih σ x0 x1 hx0 h
set_option maxHeartbeats 4000000 in
set_option maxRecDepth 100000 in
theorem w_X4_planMending_b0 {X : CX} (C : Cok X RX4 cX4_planMending 2 5 121) {σ' : St} (hr : RtV X cX4_planMending σ') (σ : St) (x0 : Nat) (hx0 : kd x0 = 5) (h : f_X4_planMending σ x0 = some σ') : V X σ 0 [(0, .ref ((xG X).1 x0))] [] := by
  unfold f_X4_planMending at h
  refine r_iconst C (v := 0) (q := 1) dX4_planMending_0 (by decide) rfl ?_
  refine r_istore_n C (lv' := [(1, .int 0), (0, .ref ((xG X).1 x0))]) (q := 2) dX4_planMending_1 rfl (by decide) rfl rfl ?_
  refine r_sub (lv' := [(0, .ref ((xG X).1 x0)), (1, .int 0)]) [1, 0] rfl ?_
  exact w_X4_planMending_l2 C hr  FU _ _ _ hx0 h

theorem m_X4_planMending (G : Gm) (l : Launch) {σ σ' : St} {x0 : Nat} (hx0 : kd x0 = 5) (h : f_X4_planMending σ x0 = some σ') : Ctr G l yX4_planMending cX4_planMending 2 none 5 121 [.ref (G.1 x0)] σ none True σ' := by
  refine Ctr.v (by decide) (Nat.le_of_ble_eq_true rfl) ?_
  intro X hG C hr
  subst hG
  exact w_X4_planMending_b0 C hr _ _ hx0 h
-- X4_mendingCoins
set_option maxHeartbeats 4000000 in
set_option maxRecDepth 100000 in
theorem w_X4_mendingCoins_b4 {X : CX} (C : Cok X RX4 cX4_mendingCoins 3 1 21) {σ : St} {r : Int32} (hr : RtI X cX4_mendingCoins r σ) (k_4 : Nat → Int32 → Int32 → Option Int32) (hk_4 : ∀ (x0 : Nat) (x1 : Int32) (x2 : Int32), kd x0 = 5 → k_4 x0 x1 x2 = some r → V X σ 4 [(0, .ref ((xG X).1 x0)), (1, .int x1), (2, .int x2)] []) (x0 : Nat) (x1 : Int32) (x2 : Int32) (hx0 : kd x0 = 5) (h : f_X4_mendingCoins_b4 σ k_4 x0 x1 x2 = some r) : V X σ 4 [(0, .ref ((xG X).1 x0)), (1, .int x1), (2, .int x2)] [] := by
  unfold f_X4_mendingCoins_b4 at h
  refine r_iload_n C 2 (q := 5) dX4_mendingCoins_4 rfl rfl ?_
  refine r_aload_n C 0 (q := 6) dX4_mendingCoins_5 rfl rfl ?_
  refine g_X4_0 C (q := 9) dX4_mendingCoins_6 q_127 hx0 rfl ?_
  refine g_X0_5 C (q := 12) dX4_mendingCoins_9 q_78 (kf_X4_0 hx0) rfl ?_
  refine r_icmp_ge C (tgt := 36) (q := 15) dX4_mendingCoins_12 (by decide) rfl (fun c_12 => ?_) (fun c_12 => ?_)
  · replace h := (if_pos c_12).symm.trans h
    refine r_iload_n C 1 (q := 37) dX4_mendingCoins_36 rfl rfl ?_
    obtain rfl := Option.some.inj h
    exact hr _ _ dX4_mendingCoins_37
  · replace h := (if_neg c_12).symm.trans h
    refine r_iload_n C 1 (q := 16) dX4_mendingCoins_15 rfl rfl ?_
    refine r_iconst C (v := 0) (q := 17) dX4_mendingCoins_16 (by decide) rfl ?_
    refine r_aload_n C 0 (q := 18) dX4_mendingCoins_17 rfl rfl ?_
    refine g_X4_5 C (q := 21) dX4_mendingCoins_18 q_132 hx0 rfl ?_
    refine r_iload_n C 2 (q := 22) dX4_mendingCoins_21 rfl rfl ?_
    obtain ⟨v_22, e_22, h⟩ := bs h
    refine r_callN C (st := [.int 0, .int x1]) (st2 := [.int v_22, .int 0, .int x1]) (q := 25) (m_X5_at (xG X) (xl X) (kf_X4_5 hx0) e_22) ok_X5_at nst_12 rfl ⟨Nat.le_of_ble_eq_true rfl, Nat.le_of_ble_eq_true rfl⟩ rfl rfl (Nat.le_of_ble_eq_true rfl) dX4_mendingCoins_22 rfl (fun hp_22 => ?_)
    refine r_max C (st := [.int x1]) (q := 28) dX4_mendingCoins_25 q_767 ok_max ⟨Nat.le_of_ble_eq_true rfl, Nat.le_of_ble_eq_true rfl⟩ rfl ?_
    refine r_iadd C (q := 29) dX4_mendingCoins_28 rfl ?_
    obtain ⟨y_29, e_29, h⟩ := bs h
    refine r_topI (Option.some.inj e_29) ?_
    refine r_istore_n C (lv' := [(1, .int y_29), (0, .ref ((xG X).1 x0)), (2, .int x2)]) (q := 30) dX4_mendingCoins_29 rfl (by decide) rfl rfl ?_
    obtain ⟨y_30, e_30, h⟩ := bs h
    refine r_iinc C (v := y_30) (lv' := [(2, .int y_30), (1, .int y_29), (0, .ref ((xG X).1 x0))]) (q := 33) 2 dX4_mendingCoins_30 rfl (Option.some.inj e_30) (by decide) rfl rfl ?_
    refine r_goto C (tgt := 4) dX4_mendingCoins_33 (by decide) ?_
    refine r_sub (lv' := [(0, .ref ((xG X).1 x0)), (1, .int y_29), (2, .int y_30)]) [2, 1, 0] rfl ?_
    exact hk_4 _ _ _ hx0 h

theorem w_X4_mendingCoins_l4 {X : CX} (C : Cok X RX4 cX4_mendingCoins 3 1 21) {σ : St} {r : Int32} (hr : RtI X cX4_mendingCoins r σ) (n : Nat) : ∀ (x0 : Nat) (x1 : Int32) (x2 : Int32), kd x0 = 5 → f_X4_mendingCoins_l4 σ n x0 x1 x2 = some r → V X σ 4 [(0, .ref ((xG X).1 x0)), (1, .int x1), (2, .int x2)] [] := by
  induction n with
  | zero =>
    intro x0 x1 x2 hx0 h
    exact nomatch (show (none : Option Int32) = some r from h)
  | succ n ih =>
    intro x0 x1 x2 hx0 h
    exact w_X4_mendingCoins_b4 C hr _ ih x0 x1 x2 hx0 h
set_option maxHeartbeats 4000000 in
set_option maxRecDepth 100000 in
theorem w_X4_mendingCoins_b0 {X : CX} (C : Cok X RX4 cX4_mendingCoins 3 1 21) {σ : St} {r : Int32} (hr : RtI X cX4_mendingCoins r σ) (x0 : Nat) (hx0 : kd x0 = 5) (h : f_X4_mendingCoins σ x0 = some r) : V X σ 0 [(0, .ref ((xG X).1 x0))] [] := by
  unfold f_X4_mendingCoins at h
  refine r_iconst C (v := 0) (q := 1) dX4_mendingCoins_0 (by decide) rfl ?_
  refine r_istore_n C (lv' := [(1, .int 0), (0, .ref ((xG X).1 x0))]) (q := 2) dX4_mendingCoins_1 rfl (by decide) rfl rfl ?_
  refine r_iconst C (v := 0) (q := 3) dX4_mendingCoins_2 (by decide) rfl ?_
  refine r_istore_n C (lv' := [(2, .int 0), (1, .int 0), (0, .ref ((xG X).1 x0))]) (q := 4) dX4_mendingCoins_3 rfl (by decide) rfl rfl ?_
  refine r_sub (lv' := [(0, .ref ((xG X).1 x0)), (1, .int 0), (2, .int 0)]) [2, 1, 0] rfl ?_
  exact w_X4_mendingCoins_l4 C hr  FU _ _ _ hx0 h

theorem m_X4_mendingCoins (G : Gm) (l : Launch) {σ : St} {x0 : Nat} (hx0 : kd x0 = 5) {r : Int32} (h : f_X4_mendingCoins σ x0 = some r) : Ctr G l yX4_mendingCoins cX4_mendingCoins 3 (some .int) 1 21 [.ref (G.1 x0)] σ (some (.int r)) True σ := by
  refine Ctr.i (by decide) (Nat.le_of_ble_eq_true rfl) ?_
  intro X hG C hr
  subst hG
  exact w_X4_mendingCoins_b0 C hr _ hx0 h
-- X4_pastMending
set_option maxHeartbeats 4000000 in
set_option maxRecDepth 100000 in
theorem w_X4_pastMending_b33 {X : CX} (C : Cok X RX4 cX4_pastMending 3 1 21) {σ : St} {r : Int32} (hr : RtI X cX4_pastMending r σ) (k_4 : Nat → Int32 → Int32 → Option Int32) (hk_4 : ∀ (x0 : Nat) (x1 : Int32) (x2 : Int32), kd x0 = 5 → k_4 x0 x1 x2 = some r → V X σ 4 [(0, .ref ((xG X).1 x0)), (1, .int x1), (2, .int x2)] []) (x0 : Nat) (x1 : Int32) (x2 : Int32) (hx0 : kd x0 = 5) (h : f_X4_pastMending_b33 σ k_4 x0 x1 x2 = some r) : V X σ 33 [(0, .ref ((xG X).1 x0)), (1, .int x1), (2, .int x2)] [] := by
  unfold f_X4_pastMending_b33 at h
  obtain ⟨y_33, e_33, h⟩ := bs h
  refine r_iinc C (v := y_33) (lv' := [(2, .int y_33), (0, .ref ((xG X).1 x0)), (1, .int x1)]) (q := 36) 2 dX4_pastMending_33 rfl (Option.some.inj e_33) (by decide) rfl rfl ?_
  refine r_goto C (tgt := 4) dX4_pastMending_36 (by decide) ?_
  refine r_sub (lv' := [(0, .ref ((xG X).1 x0)), (1, .int x1), (2, .int y_33)]) [1, 2, 0] rfl ?_
  exact hk_4 _ _ _ hx0 h

set_option maxHeartbeats 4000000 in
set_option maxRecDepth 100000 in
theorem w_X4_pastMending_b4 {X : CX} (C : Cok X RX4 cX4_pastMending 3 1 21) {σ : St} {r : Int32} (hr : RtI X cX4_pastMending r σ) (k_4 : Nat → Int32 → Int32 → Option Int32) (hk_4 : ∀ (x0 : Nat) (x1 : Int32) (x2 : Int32), kd x0 = 5 → k_4 x0 x1 x2 = some r → V X σ 4 [(0, .ref ((xG X).1 x0)), (1, .int x1), (2, .int x2)] []) (x0 : Nat) (x1 : Int32) (x2 : Int32) (hx0 : kd x0 = 5) (h : f_X4_pastMending_b4 σ k_4 x0 x1 x2 = some r) : V X σ 4 [(0, .ref ((xG X).1 x0)), (1, .int x1), (2, .int x2)] [] := by
  unfold f_X4_pastMending_b4 at h
  refine r_iload_n C 2 (q := 5) dX4_pastMending_4 rfl rfl ?_
  refine r_aload_n C 0 (q := 6) dX4_pastMending_5 rfl rfl ?_
  refine g_X4_0 C (q := 9) dX4_pastMending_6 q_127 hx0 rfl ?_
  refine g_X0_5 C (q := 12) dX4_pastMending_9 q_78 (kf_X4_0 hx0) rfl ?_
  refine r_icmp_ge C (tgt := 39) (q := 15) dX4_pastMending_12 (by decide) rfl (fun c_12 => ?_) (fun c_12 => ?_)
  · replace h := (if_pos c_12).symm.trans h
    refine r_iload_n C 1 (q := 40) dX4_pastMending_39 rfl rfl ?_
    obtain rfl := Option.some.inj h
    exact hr _ _ dX4_pastMending_40
  · replace h := (if_neg c_12).symm.trans h
    refine r_aload_n C 0 (q := 16) dX4_pastMending_15 rfl rfl ?_
    refine g_X4_5 C (q := 19) dX4_pastMending_16 q_132 hx0 rfl ?_
    refine r_iload_n C 2 (q := 20) dX4_pastMending_19 rfl rfl ?_
    obtain ⟨v_20, e_20, h⟩ := bs h
    refine r_callN C (st := []) (st2 := [.int v_20]) (q := 23) (m_X5_at (xG X) (xl X) (kf_X4_5 hx0) e_20) ok_X5_at nst_12 rfl ⟨Nat.le_of_ble_eq_true rfl, Nat.le_of_ble_eq_true rfl⟩ rfl rfl (Nat.le_of_ble_eq_true rfl) dX4_pastMending_20 rfl (fun hp_20 => ?_)
    refine r_iconst C (v := (-1)) (q := 24) dX4_pastMending_23 (by decide) rfl ?_
    refine r_icmp_ne C (tgt := 33) (q := 27) dX4_pastMending_24 (by decide) rfl (fun c_24 => ?_) (fun c_24 => ?_)
    · replace h := (if_neg c_24).symm.trans h
      exact w_X4_pastMending_b33 C hr _ hk_4 _ _ _ hx0 h
    · replace h := (if_pos c_24).symm.trans h
      refine r_iload_n C 1 (q := 28) dX4_pastMending_27 rfl rfl ?_
      refine r_iconst C (v := 1) (q := 29) dX4_pastMending_28 (by decide) rfl ?_
      refine r_iload_n C 2 (q := 30) dX4_pastMending_29 rfl rfl ?_
      refine r_ishl C (q := 31) dX4_pastMending_30 rfl ?_
      refine r_ior C (q := 32) dX4_pastMending_31 rfl ?_
      obtain ⟨y_32, e_32, h⟩ := bs h
      refine r_topI (Option.some.inj e_32) ?_
      refine r_istore_n C (lv' := [(1, .int y_32), (0, .ref ((xG X).1 x0)), (2, .int x2)]) (q := 33) dX4_pastMending_32 rfl (by decide) rfl rfl ?_
      refine r_sub (lv' := [(0, .ref ((xG X).1 x0)), (1, .int y_32), (2, .int x2)]) [1, 0, 2] rfl ?_
      exact w_X4_pastMending_b33 C hr _ hk_4 _ _ _ hx0 h

theorem w_X4_pastMending_l4 {X : CX} (C : Cok X RX4 cX4_pastMending 3 1 21) {σ : St} {r : Int32} (hr : RtI X cX4_pastMending r σ) (n : Nat) : ∀ (x0 : Nat) (x1 : Int32) (x2 : Int32), kd x0 = 5 → f_X4_pastMending_l4 σ n x0 x1 x2 = some r → V X σ 4 [(0, .ref ((xG X).1 x0)), (1, .int x1), (2, .int x2)] [] := by
  induction n with
  | zero =>
    intro x0 x1 x2 hx0 h
    exact nomatch (show (none : Option Int32) = some r from h)
  | succ n ih =>
    intro x0 x1 x2 hx0 h
    exact w_X4_pastMending_b4 C hr _ ih x0 x1 x2 hx0 h
set_option maxHeartbeats 4000000 in
set_option maxRecDepth 100000 in
theorem w_X4_pastMending_b0 {X : CX} (C : Cok X RX4 cX4_pastMending 3 1 21) {σ : St} {r : Int32} (hr : RtI X cX4_pastMending r σ) (x0 : Nat) (hx0 : kd x0 = 5) (h : f_X4_pastMending σ x0 = some r) : V X σ 0 [(0, .ref ((xG X).1 x0))] [] := by
  unfold f_X4_pastMending at h
  refine r_iconst C (v := 0) (q := 1) dX4_pastMending_0 (by decide) rfl ?_
  refine r_istore_n C (lv' := [(1, .int 0), (0, .ref ((xG X).1 x0))]) (q := 2) dX4_pastMending_1 rfl (by decide) rfl rfl ?_
  refine r_iconst C (v := 0) (q := 3) dX4_pastMending_2 (by decide) rfl ?_
  refine r_istore_n C (lv' := [(2, .int 0), (1, .int 0), (0, .ref ((xG X).1 x0))]) (q := 4) dX4_pastMending_3 rfl (by decide) rfl rfl ?_
  refine r_sub (lv' := [(0, .ref ((xG X).1 x0)), (1, .int 0), (2, .int 0)]) [2, 1, 0] rfl ?_
  exact w_X4_pastMending_l4 C hr  FU _ _ _ hx0 h

theorem m_X4_pastMending (G : Gm) (l : Launch) {σ : St} {x0 : Nat} (hx0 : kd x0 = 5) {r : Int32} (h : f_X4_pastMending σ x0 = some r) : Ctr G l yX4_pastMending cX4_pastMending 3 (some .int) 1 21 [.ref (G.1 x0)] σ (some (.int r)) True σ := by
  refine Ctr.i (by decide) (Nat.le_of_ble_eq_true rfl) ?_
  intro X hG C hr
  subst hG
  exact w_X4_pastMending_b0 C hr _ hx0 h
-- X4_doMending
set_option maxHeartbeats 4000000 in
set_option maxRecDepth 100000 in
theorem w_X4_doMending_b47 {X : CX} (C : Cok X RX4 cX4_doMending 2 1 26) {σ' : St} (hr : RtV X cX4_doMending σ') (k_2 : St → Nat → Int32 → Option St) (hk_2 : ∀ (σ : St) (x0 : Nat) (x1 : Int32), kd x0 = 5 → k_2 σ x0 x1 = some σ' → V X σ 2 [(0, .ref ((xG X).1 x0)), (1, .int x1)] []) (σ : St) (x0 : Nat) (x1 : Int32) (hx0 : kd x0 = 5) (h : f_X4_doMending_b47 k_2 σ x0 x1 = some σ') : V X σ 47 [(0, .ref ((xG X).1 x0)), (1, .int x1)] [] := by
  unfold f_X4_doMending_b47 at h
  obtain ⟨y_47, e_47, h⟩ := bs h
  refine r_iinc C (v := y_47) (lv' := [(1, .int y_47), (0, .ref ((xG X).1 x0))]) (q := 50) 1 dX4_doMending_47 rfl (Option.some.inj e_47) (by decide) rfl rfl ?_
  refine r_goto C (tgt := 2) dX4_doMending_50 (by decide) ?_
  refine r_sub (lv' := [(0, .ref ((xG X).1 x0)), (1, .int y_47)]) [1, 0] rfl ?_
  exact hk_2 _ _ _ hx0 h

set_option maxHeartbeats 4000000 in
set_option maxRecDepth 100000 in
theorem w_X4_doMending_b2 {X : CX} (C : Cok X RX4 cX4_doMending 2 1 26) {σ' : St} (hr : RtV X cX4_doMending σ') (k_2 : St → Nat → Int32 → Option St) (hk_2 : ∀ (σ : St) (x0 : Nat) (x1 : Int32), kd x0 = 5 → k_2 σ x0 x1 = some σ' → V X σ 2 [(0, .ref ((xG X).1 x0)), (1, .int x1)] []) (σ : St) (x0 : Nat) (x1 : Int32) (hx0 : kd x0 = 5) (h : f_X4_doMending_b2 k_2 σ x0 x1 = some σ') : V X σ 2 [(0, .ref ((xG X).1 x0)), (1, .int x1)] [] := by
  unfold f_X4_doMending_b2 at h
  refine r_iload_n C 1 (q := 3) dX4_doMending_2 rfl rfl ?_
  refine r_aload_n C 0 (q := 4) dX4_doMending_3 rfl rfl ?_
  refine g_X4_0 C (q := 7) dX4_doMending_4 q_127 hx0 rfl ?_
  refine g_X0_5 C (q := 10) dX4_doMending_7 q_78 (kf_X4_0 hx0) rfl ?_
  refine r_icmp_ge C (tgt := 53) (q := 13) dX4_doMending_10 (by decide) rfl (fun c_10 => ?_) (fun c_10 => ?_)
  · replace h := (if_pos c_10).symm.trans h
    obtain rfl := Option.some.inj h
    exact hr _ _ dX4_doMending_53
  · replace h := (if_neg c_10).symm.trans h
    refine r_aload_n C 0 (q := 14) dX4_doMending_13 rfl rfl ?_
    refine g_X4_5 C (q := 17) dX4_doMending_14 q_132 hx0 rfl ?_
    refine r_iload_n C 1 (q := 18) dX4_doMending_17 rfl rfl ?_
    obtain ⟨v_18, e_18, h⟩ := bs h
    refine r_callN C (st := []) (st2 := [.int v_18]) (q := 21) (m_X5_at (xG X) (xl X) (kf_X4_5 hx0) e_18) ok_X5_at nst_12 rfl ⟨Nat.le_of_ble_eq_true rfl, Nat.le_of_ble_eq_true rfl⟩ rfl rfl (Nat.le_of_ble_eq_true rfl) dX4_doMending_18 rfl (fun hp_18 => ?_)
    refine r_iconst C (v := (-1)) (q := 22) dX4_doMending_21 (by decide) rfl ?_
    refine r_icmp_eq C (tgt := 47) (q := 25) dX4_doMending_22 (by decide) rfl (fun c_22 => ?_) (fun c_22 => ?_)
    · replace h := (if_pos c_22).symm.trans h
      exact w_X4_doMending_b47 C hr _ hk_2 _ _ _ hx0 h
    · replace h := (if_neg c_22).symm.trans h
      refine r_aload_n C 0 (q := 26) dX4_doMending_25 rfl rfl ?_
      refine r_iload_n C 1 (q := 27) dX4_doMending_26 rfl rfl ?_
      obtain ⟨v_27, e_27, h⟩ := bs h
      refine r_callV C (ci := 4) (st := []) (st2 := [.ref ((xG X).1 v_27)]) (q := 30) (m_X4_mendedAt (xG X) (xl X) hx0 e_27) ok_X4_mendedAt hx0 rfl ⟨_, rfl⟩ q_802 rfl ⟨Nat.le_of_ble_eq_true rfl, Nat.le_of_ble_eq_true rfl⟩ rfl rfl (Nat.le_of_ble_eq_true rfl) dX4_doMending_27 rfl (fun hp_27 => ?_)
      refine r_iconst C (v := 0) (q := 31) dX4_doMending_30 (by decide) rfl ?_
      refine r_aload_n C 0 (q := 32) dX4_doMending_31 rfl rfl ?_
      refine g_X4_0 C (q := 35) dX4_doMending_32 q_127 hx0 rfl ?_
      refine r_iload_n C 1 (q := 36) dX4_doMending_35 rfl rfl ?_
      obtain ⟨v_36, e_36, h⟩ := bs h
      refine r_callV C (ci := 0) (st := [.int 0, .ref ((xG X).1 v_27)]) (st2 := [.ref ((xG X).1 v_36), .int 0, .ref ((xG X).1 v_27)]) (q := 39) (m_X0_keyAt (xG X) (xl X) (kf_X4_0 hx0) e_36) ok_X0_keyAt (kf_X4_0 hx0) rfl ⟨_, rfl⟩ q_753 rfl ⟨Nat.le_of_ble_eq_true rfl, Nat.le_of_ble_eq_true rfl⟩ rfl rfl (Nat.le_of_ble_eq_true rfl) dX4_doMending_36 rfl (fun hp_36 => ?_)
      refine g_X1_3 C (q := 42) dX4_doMending_39 q_48 hp_36 rfl ?_
      refine r_iconst C (v := 0) (q := 43) dX4_doMending_42 (by decide) rfl ?_
      refine r_iconst C (v := 5) (q := 44) dX4_doMending_43 (by decide) rfl ?_
      obtain ⟨s_44, e_44, h⟩ := bs h
      refine r_copyI C (st := []) (q := 47) dX4_doMending_44 q_728 ok_copy hp_27 (kf_X1_3 hp_36) e_44 ⟨Nat.le_of_ble_eq_true rfl, Nat.le_of_ble_eq_true rfl⟩ rfl ?_
      exact w_X4_doMending_b47 C hr _ hk_2 _ _ _ hx0 h

theorem w_X4_doMending_l2 {X : CX} (C : Cok X RX4 cX4_doMending 2 1 26) {σ' : St} (hr : RtV X cX4_doMending σ') (n : Nat) : ∀ (σ : St) (x0 : Nat) (x1 : Int32), kd x0 = 5 → f_X4_doMending_l2 n σ x0 x1 = some σ' → V X σ 2 [(0, .ref ((xG X).1 x0)), (1, .int x1)] [] := by
  induction n with
  | zero =>
    intro σ x0 x1 hx0 h
    exact nomatch (show (none : Option St) = some σ' from h)
  | succ n ih =>
    intro σ x0 x1 hx0 h
    exact w_X4_doMending_b2 C hr _ ih σ x0 x1 hx0 h
set_option maxHeartbeats 4000000 in
set_option maxRecDepth 100000 in
theorem w_X4_doMending_b0 {X : CX} (C : Cok X RX4 cX4_doMending 2 1 26) {σ' : St} (hr : RtV X cX4_doMending σ') (σ : St) (x0 : Nat) (hx0 : kd x0 = 5) (h : f_X4_doMending σ x0 = some σ') : V X σ 0 [(0, .ref ((xG X).1 x0))] [] := by
  unfold f_X4_doMending at h
  refine r_iconst C (v := 0) (q := 1) dX4_doMending_0 (by decide) rfl ?_
  refine r_istore_n C (lv' := [(1, .int 0), (0, .ref ((xG X).1 x0))]) (q := 2) dX4_doMending_1 rfl (by decide) rfl rfl ?_
  refine r_sub (lv' := [(0, .ref ((xG X).1 x0)), (1, .int 0)]) [1, 0] rfl ?_
  exact w_X4_doMending_l2 C hr  FU _ _ _ hx0 h

theorem m_X4_doMending (G : Gm) (l : Launch) {σ σ' : St} {x0 : Nat} (hx0 : kd x0 = 5) (h : f_X4_doMending σ x0 = some σ') : Ctr G l yX4_doMending cX4_doMending 2 none 1 26 [.ref (G.1 x0)] σ none True σ' := by
  refine Ctr.v (by decide) (Nat.le_of_ble_eq_true rfl) ?_
  intro X hG C hr
  subst hG
  exact w_X4_doMending_b0 C hr _ _ hx0 h
-- X4_openedTogether
set_option maxHeartbeats 4000000 in
set_option maxRecDepth 100000 in
theorem w_X4_openedTogether_b2 {X : CX} (C : Cok X RX4 cX4_openedTogether 5 3 71) {σ' : St} {r : Int32} (hr : RtI X cX4_openedTogether r σ') (k_2 : St → Nat → Int32 → Int32 → Int32 → Option (Int32 × St)) (hk_2 : ∀ (σ : St) (x0 : Nat) (x1 : Int32) (x2 : Int32) (x3 : Int32), kd x0 = 5 → k_2 σ x0 x1 x2 x3 = some (r, σ') → V X σ 2 [(0, .ref ((xG X).1 x0)), (1, .int x1), (2, .int x2), (3, .int x3)] []) (σ : St) (x0 : Nat) (x1 : Int32) (x2 : Int32) (x3 : Int32) (hx0 : kd x0 = 5) (h : f_X4_openedTogether_b2 k_2 σ x0 x1 x2 x3 = some (r, σ')) : V X σ 2 [(0, .ref ((xG X).1 x0)), (1, .int x1), (2, .int x2), (3, .int x3)] [] := by
  unfold f_X4_openedTogether_b2 at h
  refine r_iload_n C 3 (q := 3) dX4_openedTogether_2 rfl rfl ?_
  refine r_aload_n C 0 (q := 4) dX4_openedTogether_3 rfl rfl ?_
  refine g_X4_0 C (q := 7) dX4_openedTogether_4 q_127 hx0 rfl ?_
  refine g_X0_0 C (q := 10) dX4_openedTogether_7 q_63 (kf_X4_0 hx0) rfl ?_
  refine r_icmp_ge C (tgt := 64) (q := 13) dX4_openedTogether_10 (by decide) rfl (fun c_10 => ?_) (fun c_10 => ?_)
  · replace h := (if_pos c_10).symm.trans h
    refine r_aload_n C 0 (q := 65) dX4_openedTogether_64 rfl rfl ?_
    refine g_X4_0 C (q := 68) dX4_openedTogether_65 q_127 hx0 rfl ?_
    refine r_aload_n C 0 (q := 69) dX4_openedTogether_68 rfl rfl ?_
    refine g_X4_0 C (q := 72) dX4_openedTogether_69 q_127 hx0 rfl ?_
    refine g_X0_9 C (q := 75) dX4_openedTogether_72 q_90 (kf_X4_0 hx0) rfl ?_
    refine r_aload_n C 0 (q := 76) dX4_openedTogether_75 rfl rfl ?_
    refine g_X4_2 C (q := 79) dX4_openedTogether_76 q_129 hx0 rfl ?_
    obtain ⟨v_79, e_79, h⟩ := bs h
    refine r_callV C (ci := 0) (st := []) (st2 := [.int v_79]) (q := 82) (m_X0_openedByCuts (xG X) (xl X) (kf_X4_0 hx0) (kf_X0_9 (kf_X4_0 hx0)) (kf_X4_2 hx0) e_79) ok_X0_openedByCuts (kf_X4_0 hx0) rfl ⟨_, rfl⟩ q_770 rfl ⟨Nat.le_of_ble_eq_true rfl, Nat.le_of_ble_eq_true rfl⟩ rfl rfl (Nat.le_of_ble_eq_true rfl) dX4_openedTogether_79 rfl (fun hp_79 => ?_)
    obtain ⟨rfl, rfl⟩ := Prod.mk.inj (Option.some.inj h)
    exact hr _ _ dX4_openedTogether_82
  · replace h := (if_neg c_10).symm.trans h
    refine r_aload_n C 0 (q := 14) dX4_openedTogether_13 rfl rfl ?_
    refine g_X4_0 C (q := 17) dX4_openedTogether_14 q_127 hx0 rfl ?_
    refine r_iload_n C 1 (q := 18) dX4_openedTogether_17 rfl rfl ?_
    obtain ⟨v_18, e_18, h⟩ := bs h
    refine r_callV C (ci := 0) (st := []) (st2 := [.ref ((xG X).1 v_18)]) (q := 21) (m_X0_keyAt (xG X) (xl X) (kf_X4_0 hx0) e_18) ok_X0_keyAt (kf_X4_0 hx0) rfl ⟨_, rfl⟩ q_753 rfl ⟨Nat.le_of_ble_eq_true rfl, Nat.le_of_ble_eq_true rfl⟩ rfl rfl (Nat.le_of_ble_eq_true rfl) dX4_openedTogether_18 rfl (fun hp_18 => ?_)
    refine g_X1_3 C (q := 24) dX4_openedTogether_21 q_48 hp_18 rfl ?_
    refine r_iload_n C 3 (q := 25) dX4_openedTogether_24 rfl rfl ?_
    obtain ⟨v_25, e_25, h⟩ := bs h
    refine r_callN C (st := []) (st2 := [.int v_25]) (q := 28) (m_X5_at (xG X) (xl X) (kf_X1_3 hp_18) e_25) ok_X5_at nst_12 rfl ⟨Nat.le_of_ble_eq_true rfl, Nat.le_of_ble_eq_true rfl⟩ rfl rfl (Nat.le_of_ble_eq_true rfl) dX4_openedTogether_25 rfl (fun hp_25 => ?_)
    refine r_istore C (lv' := [(4, .int v_25), (0, .ref ((xG X).1 x0)), (1, .int x1), (2, .int x2), (3, .int x3)]) (q := 30) dX4_openedTogether_28 (by decide) rfl rfl ?_
    refine r_aload_n C 1 (q := 31) dX4_openedTogether_30 rfl rfl ?_
    refine g_X4_2 C (q := 34) dX4_openedTogether_31 q_129 hx0 rfl ?_
    refine r_iload_n C 4 (q := 35) dX4_openedTogether_34 rfl rfl ?_
    refine r_iload C 0 (q := 37) dX4_openedTogether_35 rfl rfl ?_
    refine r_aload_n C 1 (q := 38) dX4_openedTogether_37 rfl rfl ?_
    refine g_X4_0 C (q := 41) dX4_openedTogether_38 q_127 hx0 rfl ?_
    refine r_iload_n C 3 (q := 42) dX4_openedTogether_41 rfl rfl ?_
    obtain ⟨v_42, e_42, h⟩ := bs h
    refine r_callV C (ci := 0) (st := [.int v_25, .int x3, .ref ((xG X).1 7)]) (st2 := [.ref ((xG X).1 v_42), .int v_25, .int x3, .ref ((xG X).1 7)]) (q := 45) (m_X0_keyAt (xG X) (xl X) (kf_X4_0 hx0) e_42) ok_X0_keyAt (kf_X4_0 hx0) rfl ⟨_, rfl⟩ q_753 rfl ⟨Nat.le_of_ble_eq_true rfl, Nat.le_of_ble_eq_true rfl⟩ rfl rfl (Nat.le_of_ble_eq_true rfl) dX4_openedTogether_42 rfl (fun hp_42 => ?_)
    refine g_X1_3 C (q := 48) dX4_openedTogether_45 q_48 hp_42 rfl ?_
    refine r_iload_n C 4 (q := 49) dX4_openedTogether_48 rfl rfl ?_
    obtain ⟨v_49, e_49, h⟩ := bs h
    refine r_callN C (st := [.int v_25, .int x3, .ref ((xG X).1 7)]) (st2 := [.int v_49, .int v_25, .int x3, .ref ((xG X).1 7)]) (q := 52) (m_X5_at (xG X) (xl X) (kf_X1_3 hp_42) e_49) ok_X5_at nst_12 rfl ⟨Nat.le_of_ble_eq_true rfl, Nat.le_of_ble_eq_true rfl⟩ rfl rfl (Nat.le_of_ble_eq_true rfl) dX4_openedTogether_49 rfl (fun hp_49 => ?_)
    refine r_max C (st := [.int x3, .ref ((xG X).1 7)]) (q := 55) dX4_openedTogether_52 q_767 ok_max ⟨Nat.le_of_ble_eq_true rfl, Nat.le_of_ble_eq_true rfl⟩ rfl ?_
    obtain ⟨s_55, e_55, h⟩ := bs h
    refine r_callN C (st := []) (st2 := []) (q := 58) (m_X5_put (xG X) (xl X) (kf_X4_2 hx0) e_55) ok_X5_put nst_13 rfl ⟨Nat.le_of_ble_eq_true rfl, Nat.le_of_ble_eq_true rfl⟩ rfl rfl (Nat.le_of_ble_eq_true rfl) dX4_openedTogether_55 rfl (fun hp_55 => ?_)
    obtain ⟨y_58, e_58, h⟩ := bs h
    refine r_iinc C (v := y_58) (lv' := [(3, .int y_58), (4, .int v_25), (0, .ref ((xG X).1 x0)), (1, .int x1), (2, .int x2)]) (q := 61) 4 dX4_openedTogether_58 rfl (Option.some.inj e_58) (by decide) rfl rfl ?_
    refine r_goto C (tgt := 2) dX4_openedTogether_61 (by decide) ?_
    refine r_sub (lv' := [(0, .ref ((xG X).1 x0)), (1, .int x1), (2, .int x2), (3, .int y_58)]) [2, 3, 4, 0] rfl ?_
    exact hk_2 _ _ _ _ _ hx0 h

theorem w_X4_openedTogether_l2 {X : CX} (C : Cok X RX4 cX4_openedTogether 5 3 71) {σ' : St} {r : Int32} (hr : RtI X cX4_openedTogether r σ') (n : Nat) : ∀ (σ : St) (x0 : Nat) (x1 : Int32) (x2 : Int32) (x3 : Int32), kd x0 = 5 → f_X4_openedTogether_l2 n σ x0 x1 x2 x3 = some (r, σ') → V X σ 2 [(0, .ref ((xG X).1 x0)), (1, .int x1), (2, .int x2), (3, .int x3)] [] := by
  induction n with
  | zero =>
    intro σ x0 x1 x2 x3 hx0 h
    exact nomatch (show (none : Option (Int32 × St)) = some (r, σ') from h)
  | succ n ih =>
    intro σ x0 x1 x2 x3 hx0 h
    exact w_X4_openedTogether_b2 C hr _ ih σ x0 x1 x2 x3 hx0 h
set_option maxHeartbeats 4000000 in
set_option maxRecDepth 100000 in
theorem w_X4_openedTogether_b0 {X : CX} (C : Cok X RX4 cX4_openedTogether 5 3 71) {σ' : St} {r : Int32} (hr : RtI X cX4_openedTogether r σ') (σ : St) (x0 : Nat) (x1 : Int32) (x2 : Int32) (hx0 : kd x0 = 5) (h : f_X4_openedTogether σ x0 x1 x2 = some (r, σ')) : V X σ 0 [(0, .ref ((xG X).1 x0)), (1, .int x1), (2, .int x2)] [] := by
  unfold f_X4_openedTogether at h
  refine r_iconst C (v := 0) (q := 1) dX4_openedTogether_0 (by decide) rfl ?_
  refine r_istore_n C (lv' := [(3, .int 0), (0, .ref ((xG X).1 x0)), (1, .int x1), (2, .int x2)]) (q := 2) dX4_openedTogether_1 rfl (by decide) rfl rfl ?_
  refine r_sub (lv' := [(0, .ref ((xG X).1 x0)), (1, .int x1), (2, .int x2), (3, .int 0)]) [1, 2, 3, 0] rfl ?_
  exact w_X4_openedTogether_l2 C hr  FU _ _ _ _ _ hx0 h

theorem m_X4_openedTogether (G : Gm) (l : Launch) {σ σ' : St} {x0 : Nat} {x1 : Int32} {x2 : Int32} (hx0 : kd x0 = 5) {r : Int32} (h : f_X4_openedTogether σ x0 x1 x2 = some (r, σ')) : Ctr G l yX4_openedTogether cX4_openedTogether 5 (some .int) 3 71 [.ref (G.1 x0), .int x1, .int x2] σ (some (.int r)) True σ' := by
  refine Ctr.i (by decide) (Nat.le_of_ble_eq_true rfl) ?_
  intro X hG C hr
  subst hG
  exact w_X4_openedTogether_b0 C hr _ _ _ _ hx0 h
-- J6_bitCount_0f7a4
set_option maxHeartbeats 4000000 in
set_option maxRecDepth 100000 in
theorem w_J6_bitCount_0f7a4_b0 {X : CX} (C : Cok X RJ6 cJ6_bitCount_0f7a4 1 0 0) {σ : St} {r : Int32} (hr : RtI X cJ6_bitCount_0f7a4 r σ) (x0 : Int32) (h : f_J6_bitCount_0f7a4 x0 = some r) : V X σ 0 [(0, .int x0)] [] := by
  unfold f_J6_bitCount_0f7a4 at h
  refine r_iload_n C 0 (q := 1) dJ6_bitCount_0f7a4_0 rfl rfl ?_
  refine r_iload_n C 0 (q := 2) dJ6_bitCount_0f7a4_1 rfl rfl ?_
  refine r_iconst C (v := 1) (q := 3) dJ6_bitCount_0f7a4_2 (by decide) rfl ?_
  refine r_iushr C (q := 4) dJ6_bitCount_0f7a4_3 rfl ?_
  refine r_ldcw C (v := 1431655765) (q := 7) dJ6_bitCount_0f7a4_4 q_388 rfl ?_
  refine r_iand C (q := 8) dJ6_bitCount_0f7a4_7 rfl ?_
  refine r_isub C (q := 9) dJ6_bitCount_0f7a4_8 rfl ?_
  obtain ⟨y_9, e_9, h⟩ := bs h
  refine r_topI (Option.some.inj e_9) ?_
  refine r_istore_n C (lv' := [(0, .int y_9)]) (q := 10) dJ6_bitCount_0f7a4_9 rfl (by decide) rfl rfl ?_
  refine r_iload_n C 0 (q := 11) dJ6_bitCount_0f7a4_10 rfl rfl ?_
  refine r_ldcw C (v := 858993459) (q := 14) dJ6_bitCount_0f7a4_11 q_389 rfl ?_
  refine r_iand C (q := 15) dJ6_bitCount_0f7a4_14 rfl ?_
  refine r_iload_n C 0 (q := 16) dJ6_bitCount_0f7a4_15 rfl rfl ?_
  refine r_iconst C (v := 2) (q := 17) dJ6_bitCount_0f7a4_16 (by decide) rfl ?_
  refine r_iushr C (q := 18) dJ6_bitCount_0f7a4_17 rfl ?_
  refine r_ldcw C (v := 858993459) (q := 21) dJ6_bitCount_0f7a4_18 q_389 rfl ?_
  refine r_iand C (q := 22) dJ6_bitCount_0f7a4_21 rfl ?_
  refine r_iadd C (q := 23) dJ6_bitCount_0f7a4_22 rfl ?_
  obtain ⟨y_23, e_23, h⟩ := bs h
  refine r_topI (Option.some.inj e_23) ?_
  refine r_istore_n C (lv' := [(0, .int y_23)]) (q := 24) dJ6_bitCount_0f7a4_23 rfl (by decide) rfl rfl ?_
  refine r_iload_n C 0 (q := 25) dJ6_bitCount_0f7a4_24 rfl rfl ?_
  refine r_iload_n C 0 (q := 26) dJ6_bitCount_0f7a4_25 rfl rfl ?_
  refine r_iconst C (v := 4) (q := 27) dJ6_bitCount_0f7a4_26 (by decide) rfl ?_
  refine r_iushr C (q := 28) dJ6_bitCount_0f7a4_27 rfl ?_
  refine r_iadd C (q := 29) dJ6_bitCount_0f7a4_28 rfl ?_
  refine r_ldcw C (v := 252645135) (q := 32) dJ6_bitCount_0f7a4_29 q_390 rfl ?_
  refine r_iand C (q := 33) dJ6_bitCount_0f7a4_32 rfl ?_
  obtain ⟨y_33, e_33, h⟩ := bs h
  refine r_topI (Option.some.inj e_33) ?_
  refine r_istore_n C (lv' := [(0, .int y_33)]) (q := 34) dJ6_bitCount_0f7a4_33 rfl (by decide) rfl rfl ?_
  refine r_iload_n C 0 (q := 35) dJ6_bitCount_0f7a4_34 rfl rfl ?_
  refine r_iload_n C 0 (q := 36) dJ6_bitCount_0f7a4_35 rfl rfl ?_
  refine r_bipush C (v := 8) (q := 38) dJ6_bitCount_0f7a4_36 (by decide) rfl ?_
  refine r_iushr C (q := 39) dJ6_bitCount_0f7a4_38 rfl ?_
  refine r_iadd C (q := 40) dJ6_bitCount_0f7a4_39 rfl ?_
  obtain ⟨y_40, e_40, h⟩ := bs h
  refine r_topI (Option.some.inj e_40) ?_
  refine r_istore_n C (lv' := [(0, .int y_40)]) (q := 41) dJ6_bitCount_0f7a4_40 rfl (by decide) rfl rfl ?_
  refine r_iload_n C 0 (q := 42) dJ6_bitCount_0f7a4_41 rfl rfl ?_
  refine r_iload_n C 0 (q := 43) dJ6_bitCount_0f7a4_42 rfl rfl ?_
  refine r_bipush C (v := 16) (q := 45) dJ6_bitCount_0f7a4_43 (by decide) rfl ?_
  refine r_iushr C (q := 46) dJ6_bitCount_0f7a4_45 rfl ?_
  refine r_iadd C (q := 47) dJ6_bitCount_0f7a4_46 rfl ?_
  obtain ⟨y_47, e_47, h⟩ := bs h
  refine r_topI (Option.some.inj e_47) ?_
  refine r_istore_n C (lv' := [(0, .int y_47)]) (q := 48) dJ6_bitCount_0f7a4_47 rfl (by decide) rfl rfl ?_
  refine r_iload_n C 0 (q := 49) dJ6_bitCount_0f7a4_48 rfl rfl ?_
  refine r_bipush C (v := 63) (q := 51) dJ6_bitCount_0f7a4_49 (by decide) rfl ?_
  refine r_iand C (q := 52) dJ6_bitCount_0f7a4_51 rfl ?_
  obtain rfl := Option.some.inj h
  exact hr _ _ dJ6_bitCount_0f7a4_52

theorem m_J6_bitCount_0f7a4 (G : Gm) (l : Launch) {σ : St} {x0 : Int32} {r : Int32} (h : f_J6_bitCount_0f7a4 x0 = some r) : Ctr G l yJ6_bitCount_0f7a4 cJ6_bitCount_0f7a4 1 (some .int) 0 0 [.int x0] σ (some (.int r)) True σ := by
  refine Ctr.i (by decide) (Nat.le_of_ble_eq_true rfl) ?_
  intro X hG C hr
  subst hG
  exact w_J6_bitCount_0f7a4_b0 C hr _ h
-- X4_bestPair
set_option maxHeartbeats 4000000 in
set_option maxRecDepth 100000 in
theorem w_X4_bestPair_b63 {X : CX} (C : Cok X RX4 cX4_bestPair 6 4 95) {σ' : St} {r : Int32} (hr : RtI X cX4_bestPair r σ') (k_22 : St → Nat → Int32 → Int32 → Int32 → Int32 → Option (Int32 × St)) (hk_22 : ∀ (σ : St) (x0 : Nat) (x1 : Int32) (x2 : Int32) (x3 : Int32) (x4 : Int32), kd x0 = 5 → k_22 σ x0 x1 x2 x3 x4 = some (r, σ') → V X σ 22 [(0, .ref ((xG X).1 x0)), (1, .int x1), (2, .int x2), (3, .int x3), (4, .int x4)] []) (σ : St) (x0 : Nat) (x1 : Int32) (x2 : Int32) (x3 : Int32) (x4 : Int32) (hx0 : kd x0 = 5) (h : f_X4_bestPair_b63 k_22 σ x0 x1 x2 x3 x4 = some (r, σ')) : V X σ 63 [(0, .ref ((xG X).1 x0)), (1, .int x1), (2, .int x2), (3, .int x3), (4, .int x4)] [] := by
  unfold f_X4_bestPair_b63 at h
  obtain ⟨y_63, e_63, h⟩ := bs h
  refine r_iinc C (v := y_63) (lv' := [(4, .int y_63), (0, .ref ((xG X).1 x0)), (1, .int x1), (2, .int x2), (3, .int x3)]) (q := 66) 4 dX4_bestPair_63 rfl (Option.some.inj e_63) (by decide) rfl rfl ?_
  refine r_goto C (tgt := 22) dX4_bestPair_66 (by decide) ?_
  refine r_sub (lv' := [(0, .ref ((xG X).1 x0)), (1, .int x1), (2, .int x2), (3, .int x3), (4, .int y_63)]) [1, 2, 3, 4, 0] rfl ?_
  exact hk_22 _ _ _ _ _ _ hx0 h

set_option maxHeartbeats 4000000 in
set_option maxRecDepth 100000 in
theorem w_X4_bestPair_b22 {X : CX} (C : Cok X RX4 cX4_bestPair 6 4 95) {σ' : St} {r : Int32} (hr : RtI X cX4_bestPair r σ') (k_6 : St → Nat → Int32 → Int32 → Int32 → Option (Int32 × St)) (hk_6 : ∀ (σ : St) (x0 : Nat) (x1 : Int32) (x2 : Int32) (x3 : Int32), kd x0 = 5 → k_6 σ x0 x1 x2 x3 = some (r, σ') → V X σ 6 [(0, .ref ((xG X).1 x0)), (1, .int x1), (2, .int x2), (3, .int x3)] []) (k_22 : St → Nat → Int32 → Int32 → Int32 → Int32 → Option (Int32 × St)) (hk_22 : ∀ (σ : St) (x0 : Nat) (x1 : Int32) (x2 : Int32) (x3 : Int32) (x4 : Int32), kd x0 = 5 → k_22 σ x0 x1 x2 x3 x4 = some (r, σ') → V X σ 22 [(0, .ref ((xG X).1 x0)), (1, .int x1), (2, .int x2), (3, .int x3), (4, .int x4)] []) (σ : St) (x0 : Nat) (x1 : Int32) (x2 : Int32) (x3 : Int32) (x4 : Int32) (hx0 : kd x0 = 5) (h : f_X4_bestPair_b22 k_6 k_22 σ x0 x1 x2 x3 x4 = some (r, σ')) : V X σ 22 [(0, .ref ((xG X).1 x0)), (1, .int x1), (2, .int x2), (3, .int x3), (4, .int x4)] [] := by
  unfold f_X4_bestPair_b22 at h
  refine r_iload C 4 (q := 24) dX4_bestPair_22 rfl rfl ?_
  refine r_aload_n C 0 (q := 25) dX4_bestPair_24 rfl rfl ?_
  refine g_X4_0 C (q := 28) dX4_bestPair_25 q_127 hx0 rfl ?_
  refine g_X0_5 C (q := 31) dX4_bestPair_28 q_78 (kf_X4_0 hx0) rfl ?_
  refine r_icmp_ge C (tgt := 69) (q := 34) dX4_bestPair_31 (by decide) rfl (fun c_31 => ?_) (fun c_31 => ?_)
  · replace h := (if_pos c_31).symm.trans h
    obtain ⟨y_69, e_69, h⟩ := bs h
    refine r_iinc C (v := y_69) (lv' := [(3, .int y_69), (0, .ref ((xG X).1 x0)), (1, .int x1), (2, .int x2), (4, .int x4)]) (q := 72) 3 dX4_bestPair_69 rfl (Option.some.inj e_69) (by decide) rfl rfl ?_
    refine r_goto C (tgt := 6) dX4_bestPair_72 (by decide) ?_
    refine r_sub (lv' := [(0, .ref ((xG X).1 x0)), (1, .int x1), (2, .int x2), (3, .int y_69)]) [1, 2, 3, 0] rfl ?_
    exact hk_6 _ _ _ _ _ hx0 h
  · replace h := (if_neg c_31).symm.trans h
    refine r_aload_n C 0 (q := 35) dX4_bestPair_34 rfl rfl ?_
    refine r_iload_n C 3 (q := 36) dX4_bestPair_35 rfl rfl ?_
    refine r_iload C 4 (q := 38) dX4_bestPair_36 rfl rfl ?_
    obtain ⟨v_38, s_38, e_38, h⟩ := bs2 h
    refine r_callV C (ci := 4) (st := []) (st2 := [.int v_38]) (q := 41) (m_X4_openedTogether (xG X) (xl X) hx0 e_38) ok_X4_openedTogether hx0 rfl ⟨_, rfl⟩ q_840 rfl ⟨Nat.le_of_ble_eq_true rfl, Nat.le_of_ble_eq_true rfl⟩ rfl rfl (Nat.le_of_ble_eq_true rfl) dX4_bestPair_38 rfl (fun hp_38 => ?_)
    obtain ⟨v_41, e_41, h⟩ := bs h
    refine r_callS C (st := []) (st2 := [.int v_41]) (q := 44) (m_J6_bitCount_0f7a4 (xG X) (xl X) e_41) ok_J6_bitCount_0f7a4 q_841 rfl ⟨Nat.le_of_ble_eq_true rfl, Nat.le_of_ble_eq_true rfl⟩ rfl rfl (Nat.le_of_ble_eq_true rfl) dX4_bestPair_41 rfl (fun hp_41 => ?_)
    refine r_istore C (lv' := [(5, .int v_41), (0, .ref ((xG X).1 x0)), (1, .int x1), (2, .int x2), (3, .int x3), (4, .int x4)]) (q := 46) dX4_bestPair_44 (by decide) rfl rfl ?_
    refine r_iload C 0 (q := 48) dX4_bestPair_46 rfl rfl ?_
    refine r_iload_n C 3 (q := 49) dX4_bestPair_48 rfl rfl ?_
    refine r_icmp_le C (tgt := 63) (q := 52) dX4_bestPair_49 (by decide) rfl (fun c_49 => ?_) (fun c_49 => ?_)
    · replace h := (if_pos c_49).symm.trans h
      refine r_sub (lv' := [(0, .ref ((xG X).1 x0)), (1, .int x1), (2, .int x2), (3, .int x3), (4, .int x4)]) [1, 2, 3, 4, 5] rfl ?_
      exact w_X4_bestPair_b63 C hr _ hk_22 _ _ _ _ _ _ hx0 h
    · replace h := (if_neg c_49).symm.trans h
      refine r_iload C 0 (q := 54) dX4_bestPair_52 rfl rfl ?_
      refine r_istore_n C (lv' := [(2, .int v_41), (5, .int v_41), (0, .ref ((xG X).1 x0)), (1, .int x1), (3, .int x3), (4, .int x4)]) (q := 55) dX4_bestPair_54 rfl (by decide) rfl rfl ?_
      refine r_bipush C (v := 10) (q := 57) dX4_bestPair_55 (by decide) rfl ?_
      refine r_iload_n C 4 (q := 58) dX4_bestPair_57 rfl rfl ?_
      refine r_imul C (q := 59) dX4_bestPair_58 rfl ?_
      refine r_iload C 5 (q := 61) dX4_bestPair_59 rfl rfl ?_
      refine r_iadd C (q := 62) dX4_bestPair_61 rfl ?_
      obtain ⟨y_62, e_62, h⟩ := bs h
      refine r_topI (Option.some.inj e_62) ?_
      refine r_istore_n C (lv' := [(1, .int y_62), (2, .int v_41), (5, .int v_41), (0, .ref ((xG X).1 x0)), (3, .int x3), (4, .int x4)]) (q := 63) dX4_bestPair_62 rfl (by decide) rfl rfl ?_
      refine r_sub (lv' := [(0, .ref ((xG X).1 x0)), (1, .int y_62), (2, .int v_41), (3, .int x3), (4, .int x4)]) [3, 0, 1, 4, 5] rfl ?_
      exact w_X4_bestPair_b63 C hr _ hk_22 _ _ _ _ _ _ hx0 h

theorem w_X4_bestPair_l22 {X : CX} (C : Cok X RX4 cX4_bestPair 6 4 95) {σ' : St} {r : Int32} (hr : RtI X cX4_bestPair r σ') (k_6 : St → Nat → Int32 → Int32 → Int32 → Option (Int32 × St)) (hk_6 : ∀ (σ : St) (x0 : Nat) (x1 : Int32) (x2 : Int32) (x3 : Int32), kd x0 = 5 → k_6 σ x0 x1 x2 x3 = some (r, σ') → V X σ 6 [(0, .ref ((xG X).1 x0)), (1, .int x1), (2, .int x2), (3, .int x3)] []) (n : Nat) : ∀ (σ : St) (x0 : Nat) (x1 : Int32) (x2 : Int32) (x3 : Int32) (x4 : Int32), kd x0 = 5 → f_X4_bestPair_l22 k_6 n σ x0 x1 x2 x3 x4 = some (r, σ') → V X σ 22 [(0, .ref ((xG X).1 x0)), (1, .int x1), (2, .int x2), (3, .int x3), (4, .int x4)] [] := by
  induction n with
  | zero =>
    intro σ x0 x1 x2 x3 x4 hx0 h
    exact nomatch (show (none : Option (Int32 × St)) = some (r, σ') from h)
  | succ n ih =>
    intro σ x0 x1 x2 x3 x4 hx0 h
    exact w_X4_bestPair_b22 C hr k_6 hk_6 _ ih σ x0 x1 x2 x3 x4 hx0 h
set_option maxHeartbeats 4000000 in
set_option maxRecDepth 100000 in
theorem w_X4_bestPair_b6 {X : CX} (C : Cok X RX4 cX4_bestPair 6 4 95) {σ' : St} {r : Int32} (hr : RtI X cX4_bestPair r σ') (k_6 : St → Nat → Int32 → Int32 → Int32 → Option (Int32 × St)) (hk_6 : ∀ (σ : St) (x0 : Nat) (x1 : Int32) (x2 : Int32) (x3 : Int32), kd x0 = 5 → k_6 σ x0 x1 x2 x3 = some (r, σ') → V X σ 6 [(0, .ref ((xG X).1 x0)), (1, .int x1), (2, .int x2), (3, .int x3)] []) (σ : St) (x0 : Nat) (x1 : Int32) (x2 : Int32) (x3 : Int32) (hx0 : kd x0 = 5) (h : f_X4_bestPair_b6 k_6 σ x0 x1 x2 x3 = some (r, σ')) : V X σ 6 [(0, .ref ((xG X).1 x0)), (1, .int x1), (2, .int x2), (3, .int x3)] [] := by
  unfold f_X4_bestPair_b6 at h
  refine r_iload_n C 3 (q := 7) dX4_bestPair_6 rfl rfl ?_
  refine r_aload_n C 0 (q := 8) dX4_bestPair_7 rfl rfl ?_
  refine g_X4_0 C (q := 11) dX4_bestPair_8 q_127 hx0 rfl ?_
  refine g_X0_5 C (q := 14) dX4_bestPair_11 q_78 (kf_X4_0 hx0) rfl ?_
  refine r_icmp_ge C (tgt := 75) (q := 17) dX4_bestPair_14 (by decide) rfl (fun c_14 => ?_) (fun c_14 => ?_)
  · replace h := (if_pos c_14).symm.trans h
    refine r_iload_n C 1 (q := 76) dX4_bestPair_75 rfl rfl ?_
    obtain ⟨rfl, rfl⟩ := Prod.mk.inj (Option.some.inj h)
    exact hr _ _ dX4_bestPair_76
  · replace h := (if_neg c_14).symm.trans h
    refine r_iload_n C 3 (q := 18) dX4_bestPair_17 rfl rfl ?_
    refine r_iconst C (v := 1) (q := 19) dX4_bestPair_18 (by decide) rfl ?_
    refine r_iadd C (q := 20) dX4_bestPair_19 rfl ?_
    obtain ⟨y_20, e_20, h⟩ := bs h
    refine r_topI (Option.some.inj e_20) ?_
    refine r_istore C (lv' := [(4, .int y_20), (0, .ref ((xG X).1 x0)), (1, .int x1), (2, .int x2), (3, .int x3)]) (q := 22) dX4_bestPair_20 (by decide) rfl rfl ?_
    refine r_sub (lv' := [(0, .ref ((xG X).1 x0)), (1, .int x1), (2, .int x2), (3, .int x3), (4, .int y_20)]) [1, 2, 3, 4, 0] rfl ?_
    exact w_X4_bestPair_l22 C hr _ hk_6 FU _ _ _ _ _ _ hx0 h

theorem w_X4_bestPair_l6 {X : CX} (C : Cok X RX4 cX4_bestPair 6 4 95) {σ' : St} {r : Int32} (hr : RtI X cX4_bestPair r σ') (n : Nat) : ∀ (σ : St) (x0 : Nat) (x1 : Int32) (x2 : Int32) (x3 : Int32), kd x0 = 5 → f_X4_bestPair_l6 n σ x0 x1 x2 x3 = some (r, σ') → V X σ 6 [(0, .ref ((xG X).1 x0)), (1, .int x1), (2, .int x2), (3, .int x3)] [] := by
  induction n with
  | zero =>
    intro σ x0 x1 x2 x3 hx0 h
    exact nomatch (show (none : Option (Int32 × St)) = some (r, σ') from h)
  | succ n ih =>
    intro σ x0 x1 x2 x3 hx0 h
    exact w_X4_bestPair_b6 C hr _ ih σ x0 x1 x2 x3 hx0 h
set_option maxHeartbeats 4000000 in
set_option maxRecDepth 100000 in
theorem w_X4_bestPair_b0 {X : CX} (C : Cok X RX4 cX4_bestPair 6 4 95) {σ' : St} {r : Int32} (hr : RtI X cX4_bestPair r σ') (σ : St) (x0 : Nat) (hx0 : kd x0 = 5) (h : f_X4_bestPair σ x0 = some (r, σ')) : V X σ 0 [(0, .ref ((xG X).1 x0))] [] := by
  unfold f_X4_bestPair at h
  refine r_iconst C (v := (-1)) (q := 1) dX4_bestPair_0 (by decide) rfl ?_
  refine r_istore_n C (lv' := [(1, .int (-1)), (0, .ref ((xG X).1 x0))]) (q := 2) dX4_bestPair_1 rfl (by decide) rfl rfl ?_
  refine r_iconst C (v := (-1)) (q := 3) dX4_bestPair_2 (by decide) rfl ?_
  refine r_istore_n C (lv' := [(2, .int (-1)), (1, .int (-1)), (0, .ref ((xG X).1 x0))]) (q := 4) dX4_bestPair_3 rfl (by decide) rfl rfl ?_
  refine r_iconst C (v := 0) (q := 5) dX4_bestPair_4 (by decide) rfl ?_
  refine r_istore_n C (lv' := [(3, .int 0), (2, .int (-1)), (1, .int (-1)), (0, .ref ((xG X).1 x0))]) (q := 6) dX4_bestPair_5 rfl (by decide) rfl rfl ?_
  refine r_sub (lv' := [(0, .ref ((xG X).1 x0)), (1, .int (-1)), (2, .int (-1)), (3, .int 0)]) [3, 2, 1, 0] rfl ?_
  exact w_X4_bestPair_l6 C hr  FU _ _ _ _ _ hx0 h

theorem m_X4_bestPair (G : Gm) (l : Launch) {σ σ' : St} {x0 : Nat} (hx0 : kd x0 = 5) {r : Int32} (h : f_X4_bestPair σ x0 = some (r, σ')) : Ctr G l yX4_bestPair cX4_bestPair 6 (some .int) 4 95 [.ref (G.1 x0)] σ (some (.int r)) True σ' := by
  refine Ctr.i (by decide) (Nat.le_of_ble_eq_true rfl) ?_
  intro X hG C hr
  subst hG
  exact w_X4_bestPair_b0 C hr _ _ hx0 h
-- X4_waysWithOneMore
set_option maxHeartbeats 4000000 in
set_option maxRecDepth 100000 in
theorem w_X4_waysWithOneMore_b4 {X : CX} (C : Cok X RX4 cX4_waysWithOneMore 4 1 21) {σ : St} {r : Int32} (hr : RtI X cX4_waysWithOneMore r σ) (k_4 : Nat → Int32 → Int32 → Int32 → Option Int32) (hk_4 : ∀ (x0 : Nat) (x1 : Int32) (x2 : Int32) (x3 : Int32), kd x0 = 5 → k_4 x0 x1 x2 x3 = some r → V X σ 4 [(0, .ref ((xG X).1 x0)), (1, .int x1), (2, .int x2), (3, .int x3)] []) (x0 : Nat) (x1 : Int32) (x2 : Int32) (x3 : Int32) (hx0 : kd x0 = 5) (h : f_X4_waysWithOneMore_b4 σ k_4 x0 x1 x2 x3 = some r) : V X σ 4 [(0, .ref ((xG X).1 x0)), (1, .int x1), (2, .int x2), (3, .int x3)] [] := by
  unfold f_X4_waysWithOneMore_b4 at h
  refine r_iload_n C 3 (q := 5) dX4_waysWithOneMore_4 rfl rfl ?_
  refine r_aload_n C 0 (q := 6) dX4_waysWithOneMore_5 rfl rfl ?_
  refine g_X4_0 C (q := 9) dX4_waysWithOneMore_6 q_127 hx0 rfl ?_
  refine g_X0_1 C (q := 12) dX4_waysWithOneMore_9 q_69 (kf_X4_0 hx0) rfl ?_
  refine r_icmp_gt C (tgt := 34) (q := 15) dX4_waysWithOneMore_12 (by decide) rfl (fun c_12 => ?_) (fun c_12 => ?_)
  · replace h := (if_pos c_12).symm.trans h
    refine r_iload_n C 2 (q := 35) dX4_waysWithOneMore_34 rfl rfl ?_
    obtain rfl := Option.some.inj h
    exact hr _ _ dX4_waysWithOneMore_35
  · replace h := (if_neg c_12).symm.trans h
    refine r_iload_n C 2 (q := 16) dX4_waysWithOneMore_15 rfl rfl ?_
    refine r_aload_n C 0 (q := 17) dX4_waysWithOneMore_16 rfl rfl ?_
    refine g_X4_9 C (q := 20) dX4_waysWithOneMore_17 q_136 hx0 rfl ?_
    refine r_iload_n C 1 (q := 21) dX4_waysWithOneMore_20 rfl rfl ?_
    refine r_iload_n C 3 (q := 22) dX4_waysWithOneMore_21 rfl rfl ?_
    refine r_isub C (q := 23) dX4_waysWithOneMore_22 rfl ?_
    obtain ⟨v_23, e_23, h⟩ := bs h
    refine r_callN C (st := [.int x2]) (st2 := [.int v_23, .int x2]) (q := 26) (m_X5_at (xG X) (xl X) (kf_X4_9 hx0) e_23) ok_X5_at nst_12 rfl ⟨Nat.le_of_ble_eq_true rfl, Nat.le_of_ble_eq_true rfl⟩ rfl rfl (Nat.le_of_ble_eq_true rfl) dX4_waysWithOneMore_23 rfl (fun hp_23 => ?_)
    refine r_iadd C (q := 27) dX4_waysWithOneMore_26 rfl ?_
    obtain ⟨y_27, e_27, h⟩ := bs h
    refine r_topI (Option.some.inj e_27) ?_
    refine r_istore_n C (lv' := [(2, .int y_27), (0, .ref ((xG X).1 x0)), (1, .int x1), (3, .int x3)]) (q := 28) dX4_waysWithOneMore_27 rfl (by decide) rfl rfl ?_
    obtain ⟨y_28, e_28, h⟩ := bs h
    refine r_iinc C (v := y_28) (lv' := [(3, .int y_28), (2, .int y_27), (0, .ref ((xG X).1 x0)), (1, .int x1)]) (q := 31) 3 dX4_waysWithOneMore_28 rfl (Option.some.inj e_28) (by decide) rfl rfl ?_
    refine r_goto C (tgt := 4) dX4_waysWithOneMore_31 (by decide) ?_
    refine r_sub (lv' := [(0, .ref ((xG X).1 x0)), (1, .int x1), (2, .int y_27), (3, .int y_28)]) [2, 3, 1, 0] rfl ?_
    exact hk_4 _ _ _ _ hx0 h

theorem w_X4_waysWithOneMore_l4 {X : CX} (C : Cok X RX4 cX4_waysWithOneMore 4 1 21) {σ : St} {r : Int32} (hr : RtI X cX4_waysWithOneMore r σ) (n : Nat) : ∀ (x0 : Nat) (x1 : Int32) (x2 : Int32) (x3 : Int32), kd x0 = 5 → f_X4_waysWithOneMore_l4 σ n x0 x1 x2 x3 = some r → V X σ 4 [(0, .ref ((xG X).1 x0)), (1, .int x1), (2, .int x2), (3, .int x3)] [] := by
  induction n with
  | zero =>
    intro x0 x1 x2 x3 hx0 h
    exact nomatch (show (none : Option Int32) = some r from h)
  | succ n ih =>
    intro x0 x1 x2 x3 hx0 h
    exact w_X4_waysWithOneMore_b4 C hr _ ih x0 x1 x2 x3 hx0 h
set_option maxHeartbeats 4000000 in
set_option maxRecDepth 100000 in
theorem w_X4_waysWithOneMore_b0 {X : CX} (C : Cok X RX4 cX4_waysWithOneMore 4 1 21) {σ : St} {r : Int32} (hr : RtI X cX4_waysWithOneMore r σ) (x0 : Nat) (x1 : Int32) (hx0 : kd x0 = 5) (h : f_X4_waysWithOneMore σ x0 x1 = some r) : V X σ 0 [(0, .ref ((xG X).1 x0)), (1, .int x1)] [] := by
  unfold f_X4_waysWithOneMore at h
  refine r_iconst C (v := 0) (q := 1) dX4_waysWithOneMore_0 (by decide) rfl ?_
  refine r_istore_n C (lv' := [(2, .int 0), (0, .ref ((xG X).1 x0)), (1, .int x1)]) (q := 2) dX4_waysWithOneMore_1 rfl (by decide) rfl rfl ?_
  refine r_iconst C (v := 0) (q := 3) dX4_waysWithOneMore_2 (by decide) rfl ?_
  refine r_istore_n C (lv' := [(3, .int 0), (2, .int 0), (0, .ref ((xG X).1 x0)), (1, .int x1)]) (q := 4) dX4_waysWithOneMore_3 rfl (by decide) rfl rfl ?_
  refine r_sub (lv' := [(0, .ref ((xG X).1 x0)), (1, .int x1), (2, .int 0), (3, .int 0)]) [2, 3, 1, 0] rfl ?_
  exact w_X4_waysWithOneMore_l4 C hr  FU _ _ _ _ hx0 h

theorem m_X4_waysWithOneMore (G : Gm) (l : Launch) {σ : St} {x0 : Nat} {x1 : Int32} (hx0 : kd x0 = 5) {r : Int32} (h : f_X4_waysWithOneMore σ x0 x1 = some r) : Ctr G l yX4_waysWithOneMore cX4_waysWithOneMore 4 (some .int) 1 21 [.ref (G.1 x0), .int x1] σ (some (.int r)) True σ := by
  refine Ctr.i (by decide) (Nat.le_of_ble_eq_true rfl) ?_
  intro X hG C hr
  subst hG
  exact w_X4_waysWithOneMore_b0 C hr _ _ hx0 h
-- X4_rowsOfHalf
set_option maxHeartbeats 4000000 in
set_option maxRecDepth 100000 in
theorem w_X4_rowsOfHalf_b50 {X : CX} (C : Cok X RX4 cX4_rowsOfHalf 4 2 44) {σ' : St} {r : Int32} (hr : RtI X cX4_rowsOfHalf r σ') (k_37 : St → Nat → Int32 → Int32 → Option (Int32 × St)) (hk_37 : ∀ (σ : St) (x0 : Nat) (x1 : Int32) (x2 : Int32), kd x0 = 5 → k_37 σ x0 x1 x2 = some (r, σ') → V X σ 37 [(0, .ref ((xG X).1 x0)), (1, .int x1), (2, .int x2)] []) (k_50 : St → Nat → Int32 → Int32 → Int32 → Option (Int32 × St)) (hk_50 : ∀ (σ : St) (x0 : Nat) (x1 : Int32) (x2 : Int32) (x3 : Int32), kd x0 = 5 → k_50 σ x0 x1 x2 x3 = some (r, σ') → V X σ 50 [(0, .ref ((xG X).1 x0)), (1, .int x1), (2, .int x2), (3, .int x3)] []) (σ : St) (x0 : Nat) (x1 : Int32) (x2 : Int32) (x3 : Int32) (hx0 : kd x0 = 5) (h : f_X4_rowsOfHalf_b50 k_37 k_50 σ x0 x1 x2 x3 = some (r, σ')) : V X σ 50 [(0, .ref ((xG X).1 x0)), (1, .int x1), (2, .int x2), (3, .int x3)] [] := by
  unfold f_X4_rowsOfHalf_b50 at h
  refine r_iload_n C 3 (q := 51) dX4_rowsOfHalf_50 rfl rfl ?_
  refine r_if_lt C (tgt := 73) (q := 54) dX4_rowsOfHalf_51 (by decide) rfl (fun c_51 => ?_) (fun c_51 => ?_)
  · replace h := (if_pos c_51).symm.trans h
    obtain ⟨y_73, e_73, h⟩ := bs h
    refine r_iinc C (v := y_73) (lv' := [(2, .int y_73), (0, .ref ((xG X).1 x0)), (1, .int x1), (3, .int x3)]) (q := 76) 2 dX4_rowsOfHalf_73 rfl (Option.some.inj e_73) (by decide) rfl rfl ?_
    refine r_goto C (tgt := 37) dX4_rowsOfHalf_76 (by decide) ?_
    refine r_sub (lv' := [(0, .ref ((xG X).1 x0)), (1, .int x1), (2, .int y_73)]) [1, 2, 0] rfl ?_
    exact hk_37 _ _ _ _ hx0 h
  · replace h := (if_neg c_51).symm.trans h
    refine r_aload_n C 0 (q := 55) dX4_rowsOfHalf_54 rfl rfl ?_
    refine g_X4_9 C (q := 58) dX4_rowsOfHalf_55 q_136 hx0 rfl ?_
    refine r_iload_n C 3 (q := 59) dX4_rowsOfHalf_58 rfl rfl ?_
    refine r_aload_n C 0 (q := 60) dX4_rowsOfHalf_59 rfl rfl ?_
    refine r_iload_n C 3 (q := 61) dX4_rowsOfHalf_60 rfl rfl ?_
    obtain ⟨v_61, e_61, h⟩ := bs h
    refine r_callV C (ci := 4) (st := [.int x3, .ref ((xG X).1 20)]) (st2 := [.int v_61, .int x3, .ref ((xG X).1 20)]) (q := 64) (m_X4_waysWithOneMore (xG X) (xl X) hx0 e_61) ok_X4_waysWithOneMore hx0 rfl ⟨_, rfl⟩ q_850 rfl ⟨Nat.le_of_ble_eq_true rfl, Nat.le_of_ble_eq_true rfl⟩ rfl rfl (Nat.le_of_ble_eq_true rfl) dX4_rowsOfHalf_61 rfl (fun hp_61 => ?_)
    obtain ⟨s_64, e_64, h⟩ := bs h
    refine r_callN C (st := []) (st2 := []) (q := 67) (m_X5_put (xG X) (xl X) (kf_X4_9 hx0) e_64) ok_X5_put nst_13 rfl ⟨Nat.le_of_ble_eq_true rfl, Nat.le_of_ble_eq_true rfl⟩ rfl rfl (Nat.le_of_ble_eq_true rfl) dX4_rowsOfHalf_64 rfl (fun hp_64 => ?_)
    obtain ⟨y_67, e_67, h⟩ := bs h
    refine r_iinc C (v := y_67) (lv' := [(3, .int y_67), (0, .ref ((xG X).1 x0)), (1, .int x1), (2, .int x2)]) (q := 70) 3 dX4_rowsOfHalf_67 rfl (Option.some.inj e_67) (by decide) rfl rfl ?_
    refine r_goto C (tgt := 50) dX4_rowsOfHalf_70 (by decide) ?_
    refine r_sub (lv' := [(0, .ref ((xG X).1 x0)), (1, .int x1), (2, .int x2), (3, .int y_67)]) [1, 2, 3, 0] rfl ?_
    exact hk_50 _ _ _ _ _ hx0 h

theorem w_X4_rowsOfHalf_l50 {X : CX} (C : Cok X RX4 cX4_rowsOfHalf 4 2 44) {σ' : St} {r : Int32} (hr : RtI X cX4_rowsOfHalf r σ') (k_37 : St → Nat → Int32 → Int32 → Option (Int32 × St)) (hk_37 : ∀ (σ : St) (x0 : Nat) (x1 : Int32) (x2 : Int32), kd x0 = 5 → k_37 σ x0 x1 x2 = some (r, σ') → V X σ 37 [(0, .ref ((xG X).1 x0)), (1, .int x1), (2, .int x2)] []) (n : Nat) : ∀ (σ : St) (x0 : Nat) (x1 : Int32) (x2 : Int32) (x3 : Int32), kd x0 = 5 → f_X4_rowsOfHalf_l50 k_37 n σ x0 x1 x2 x3 = some (r, σ') → V X σ 50 [(0, .ref ((xG X).1 x0)), (1, .int x1), (2, .int x2), (3, .int x3)] [] := by
  induction n with
  | zero =>
    intro σ x0 x1 x2 x3 hx0 h
    exact nomatch (show (none : Option (Int32 × St)) = some (r, σ') from h)
  | succ n ih =>
    intro σ x0 x1 x2 x3 hx0 h
    exact w_X4_rowsOfHalf_b50 C hr k_37 hk_37 _ ih σ x0 x1 x2 x3 hx0 h
set_option maxHeartbeats 4000000 in
set_option maxRecDepth 100000 in
theorem w_X4_rowsOfHalf_b37 {X : CX} (C : Cok X RX4 cX4_rowsOfHalf 4 2 44) {σ' : St} {r : Int32} (hr : RtI X cX4_rowsOfHalf r σ') (k_37 : St → Nat → Int32 → Int32 → Option (Int32 × St)) (hk_37 : ∀ (σ : St) (x0 : Nat) (x1 : Int32) (x2 : Int32), kd x0 = 5 → k_37 σ x0 x1 x2 = some (r, σ') → V X σ 37 [(0, .ref ((xG X).1 x0)), (1, .int x1), (2, .int x2)] []) (σ : St) (x0 : Nat) (x1 : Int32) (x2 : Int32) (hx0 : kd x0 = 5) (h : f_X4_rowsOfHalf_b37 k_37 σ x0 x1 x2 = some (r, σ')) : V X σ 37 [(0, .ref ((xG X).1 x0)), (1, .int x1), (2, .int x2)] [] := by
  unfold f_X4_rowsOfHalf_b37 at h
  refine r_iload_n C 2 (q := 38) dX4_rowsOfHalf_37 rfl rfl ?_
  refine r_aload_n C 0 (q := 39) dX4_rowsOfHalf_38 rfl rfl ?_
  refine g_X4_0 C (q := 42) dX4_rowsOfHalf_39 q_127 hx0 rfl ?_
  refine g_X0_0 C (q := 45) dX4_rowsOfHalf_42 q_63 (kf_X4_0 hx0) rfl ?_
  refine r_icmp_ge C (tgt := 79) (q := 48) dX4_rowsOfHalf_45 (by decide) rfl (fun c_45 => ?_) (fun c_45 => ?_)
  · replace h := (if_pos c_45).symm.trans h
    refine r_aload_n C 0 (q := 80) dX4_rowsOfHalf_79 rfl rfl ?_
    refine g_X4_9 C (q := 83) dX4_rowsOfHalf_80 q_136 hx0 rfl ?_
    refine r_iload_n C 1 (q := 84) dX4_rowsOfHalf_83 rfl rfl ?_
    obtain ⟨v_84, e_84, h⟩ := bs h
    refine r_callN C (st := []) (st2 := [.int v_84]) (q := 87) (m_X5_at (xG X) (xl X) (kf_X4_9 hx0) e_84) ok_X5_at nst_12 rfl ⟨Nat.le_of_ble_eq_true rfl, Nat.le_of_ble_eq_true rfl⟩ rfl rfl (Nat.le_of_ble_eq_true rfl) dX4_rowsOfHalf_84 rfl (fun hp_84 => ?_)
    obtain ⟨rfl, rfl⟩ := Prod.mk.inj (Option.some.inj h)
    exact hr _ _ dX4_rowsOfHalf_87
  · replace h := (if_neg c_45).symm.trans h
    refine r_iload_n C 1 (q := 49) dX4_rowsOfHalf_48 rfl rfl ?_
    refine r_istore_n C (lv' := [(3, .int x1), (0, .ref ((xG X).1 x0)), (1, .int x1), (2, .int x2)]) (q := 50) dX4_rowsOfHalf_49 rfl (by decide) rfl rfl ?_
    refine r_sub (lv' := [(0, .ref ((xG X).1 x0)), (1, .int x1), (2, .int x2), (3, .int x1)]) [1, 2, 3, 0] rfl ?_
    exact w_X4_rowsOfHalf_l50 C hr _ hk_37 FU _ _ _ _ _ hx0 h

theorem w_X4_rowsOfHalf_l37 {X : CX} (C : Cok X RX4 cX4_rowsOfHalf 4 2 44) {σ' : St} {r : Int32} (hr : RtI X cX4_rowsOfHalf r σ') (n : Nat) : ∀ (σ : St) (x0 : Nat) (x1 : Int32) (x2 : Int32), kd x0 = 5 → f_X4_rowsOfHalf_l37 n σ x0 x1 x2 = some (r, σ') → V X σ 37 [(0, .ref ((xG X).1 x0)), (1, .int x1), (2, .int x2)] [] := by
  induction n with
  | zero =>
    intro σ x0 x1 x2 hx0 h
    exact nomatch (show (none : Option (Int32 × St)) = some (r, σ') from h)
  | succ n ih =>
    intro σ x0 x1 x2 hx0 h
    exact w_X4_rowsOfHalf_b37 C hr _ ih σ x0 x1 x2 hx0 h
set_option maxHeartbeats 4000000 in
set_option maxRecDepth 100000 in
theorem w_X4_rowsOfHalf_b0 {X : CX} (C : Cok X RX4 cX4_rowsOfHalf 4 2 44) {σ' : St} {r : Int32} (hr : RtI X cX4_rowsOfHalf r σ') (σ : St) (x0 : Nat) (hx0 : kd x0 = 5) (h : f_X4_rowsOfHalf σ x0 = some (r, σ')) : V X σ 0 [(0, .ref ((xG X).1 x0))] [] := by
  unfold f_X4_rowsOfHalf at h
  refine r_aload_n C 0 (q := 1) dX4_rowsOfHalf_0 rfl rfl ?_
  refine g_X4_0 C (q := 4) dX4_rowsOfHalf_1 q_127 hx0 rfl ?_
  refine g_X0_0 C (q := 7) dX4_rowsOfHalf_4 q_63 (kf_X4_0 hx0) rfl ?_
  refine r_aload_n C 0 (q := 8) dX4_rowsOfHalf_7 rfl rfl ?_
  refine g_X4_0 C (q := 11) dX4_rowsOfHalf_8 q_127 hx0 rfl ?_
  refine g_X0_1 C (q := 14) dX4_rowsOfHalf_11 q_69 (kf_X4_0 hx0) rfl ?_
  refine r_imul C (q := 15) dX4_rowsOfHalf_14 rfl ?_
  refine r_iconst C (v := 2) (q := 16) dX4_rowsOfHalf_15 (by decide) rfl ?_
  obtain ⟨v_16, e_16, h⟩ := bs h
  refine r_idiv C (q := 17) dX4_rowsOfHalf_16 e_16 rfl ?_
  refine r_istore_n C (lv' := [(1, .int v_16), (0, .ref ((xG X).1 x0))]) (q := 18) dX4_rowsOfHalf_17 rfl (by decide) rfl rfl ?_
  refine r_aload_n C 1 (q := 19) dX4_rowsOfHalf_18 rfl rfl ?_
  refine g_X4_9 C (q := 22) dX4_rowsOfHalf_19 q_136 hx0 rfl ?_
  refine r_iconst C (v := 0) (q := 23) dX4_rowsOfHalf_22 (by decide) rfl ?_
  obtain ⟨s_23, e_23, h⟩ := bs h
  refine r_callS C (st := []) (st2 := []) (q := 26) (m_J7_fill_53178 (xG X) (xl X) (kf_X4_9 hx0) e_23) ok_J7_fill_53178 q_721 rfl ⟨Nat.le_of_ble_eq_true rfl, Nat.le_of_ble_eq_true rfl⟩ rfl rfl (Nat.le_of_ble_eq_true rfl) dX4_rowsOfHalf_23 rfl (fun hp_23 => ?_)
  refine r_aload_n C 1 (q := 27) dX4_rowsOfHalf_26 rfl rfl ?_
  refine g_X4_9 C (q := 30) dX4_rowsOfHalf_27 q_136 hx0 rfl ?_
  refine r_iconst C (v := 0) (q := 31) dX4_rowsOfHalf_30 (by decide) rfl ?_
  refine r_iconst C (v := 1) (q := 32) dX4_rowsOfHalf_31 (by decide) rfl ?_
  obtain ⟨s_32, e_32, h⟩ := bs h
  refine r_callN C (st := []) (st2 := []) (q := 35) (m_X5_put (xG X) (xl X) (kf_X4_9 hx0) e_32) ok_X5_put nst_13 rfl ⟨Nat.le_of_ble_eq_true rfl, Nat.le_of_ble_eq_true rfl⟩ rfl rfl (Nat.le_of_ble_eq_true rfl) dX4_rowsOfHalf_32 rfl (fun hp_32 => ?_)
  refine r_iconst C (v := 0) (q := 36) dX4_rowsOfHalf_35 (by decide) rfl ?_
  refine r_istore_n C (lv' := [(2, .int 0), (1, .int v_16), (0, .ref ((xG X).1 x0))]) (q := 37) dX4_rowsOfHalf_36 rfl (by decide) rfl rfl ?_
  refine r_sub (lv' := [(0, .ref ((xG X).1 x0)), (1, .int v_16), (2, .int 0)]) [2, 1, 0] rfl ?_
  exact w_X4_rowsOfHalf_l37 C hr  FU _ _ _ _ hx0 h

theorem m_X4_rowsOfHalf (G : Gm) (l : Launch) {σ σ' : St} {x0 : Nat} (hx0 : kd x0 = 5) {r : Int32} (h : f_X4_rowsOfHalf σ x0 = some (r, σ')) : Ctr G l yX4_rowsOfHalf cX4_rowsOfHalf 4 (some .int) 2 44 [.ref (G.1 x0)] σ (some (.int r)) True σ' := by
  refine Ctr.i (by decide) (Nat.le_of_ble_eq_true rfl) ?_
  intro X hG C hr
  subst hG
  exact w_X4_rowsOfHalf_b0 C hr _ _ hx0 h
-- X4_keysOver
set_option maxHeartbeats 4000000 in
set_option maxRecDepth 100000 in
theorem w_X4_keysOver_b55 {X : CX} (C : Cok X RX4 cX4_keysOver 5 5 117) {σ : St} {r : Int32} (hr : RtI X cX4_keysOver r σ) (k_14 : Nat → Int32 → Int32 → Int32 → Int32 → Option Int32) (hk_14 : ∀ (x0 : Nat) (x1 : Int32) (x2 : Int32) (x3 : Int32) (x4 : Int32), kd x0 = 5 → k_14 x0 x1 x2 x3 x4 = some r → V X σ 14 [(0, .ref ((xG X).1 x0)), (1, .int x1), (2, .int x2), (3, .int x3), (4, .int x4)] []) (x0 : Nat) (x1 : Int32) (x2 : Int32) (x3 : Int32) (x4 : Int32) (hx0 : kd x0 = 5) (h : f_X4_keysOver_b55 σ k_14 x0 x1 x2 x3 x4 = some r) : V X σ 55 [(0, .ref ((xG X).1 x0)), (1, .int x1), (2, .int x2), (3, .int x3), (4, .int x4)] [] := by
  unfold f_X4_keysOver_b55 at h
  obtain ⟨y_55, e_55, h⟩ := bs h
  refine r_iinc C (v := y_55) (lv' := [(4, .int y_55), (0, .ref ((xG X).1 x0)), (1, .int x1), (2, .int x2), (3, .int x3)]) (q := 58) 4 dX4_keysOver_55 rfl (Option.some.inj e_55) (by decide) rfl rfl ?_
  refine r_goto C (tgt := 14) dX4_keysOver_58 (by decide) ?_
  refine r_sub (lv' := [(0, .ref ((xG X).1 x0)), (1, .int x1), (2, .int x2), (3, .int x3), (4, .int y_55)]) [1, 2, 3, 4, 0] rfl ?_
  exact hk_14 _ _ _ _ _ hx0 h

set_option maxHeartbeats 4000000 in
set_option maxRecDepth 100000 in
theorem w_X4_keysOver_b14 {X : CX} (C : Cok X RX4 cX4_keysOver 5 5 117) {σ : St} {r : Int32} (hr : RtI X cX4_keysOver r σ) (k_14 : Nat → Int32 → Int32 → Int32 → Int32 → Option Int32) (hk_14 : ∀ (x0 : Nat) (x1 : Int32) (x2 : Int32) (x3 : Int32) (x4 : Int32), kd x0 = 5 → k_14 x0 x1 x2 x3 x4 = some r → V X σ 14 [(0, .ref ((xG X).1 x0)), (1, .int x1), (2, .int x2), (3, .int x3), (4, .int x4)] []) (x0 : Nat) (x1 : Int32) (x2 : Int32) (x3 : Int32) (x4 : Int32) (hx0 : kd x0 = 5) (h : f_X4_keysOver_b14 σ k_14 x0 x1 x2 x3 x4 = some r) : V X σ 14 [(0, .ref ((xG X).1 x0)), (1, .int x1), (2, .int x2), (3, .int x3), (4, .int x4)] [] := by
  unfold f_X4_keysOver_b14 at h
  refine r_iload C 4 (q := 16) dX4_keysOver_14 rfl rfl ?_
  refine r_aload_n C 0 (q := 17) dX4_keysOver_16 rfl rfl ?_
  refine g_X4_0 C (q := 20) dX4_keysOver_17 q_127 hx0 rfl ?_
  refine g_X0_5 C (q := 23) dX4_keysOver_20 q_78 (kf_X4_0 hx0) rfl ?_
  refine r_icmp_ge C (tgt := 61) (q := 26) dX4_keysOver_23 (by decide) rfl (fun c_23 => ?_) (fun c_23 => ?_)
  · replace h := (if_pos c_23).symm.trans h
    refine r_iload_n C 3 (q := 62) dX4_keysOver_61 rfl rfl ?_
    obtain rfl := Option.some.inj h
    exact hr _ _ dX4_keysOver_62
  · replace h := (if_neg c_23).symm.trans h
    refine r_iload C 4 (q := 28) dX4_keysOver_26 rfl rfl ?_
    refine r_iload_n C 1 (q := 29) dX4_keysOver_28 rfl rfl ?_
    refine r_icmp_eq C (tgt := 55) (q := 32) dX4_keysOver_29 (by decide) rfl (fun c_29 => ?_) (fun c_29 => ?_)
    · replace h := (if_pos c_29).symm.trans h
      exact w_X4_keysOver_b55 C hr _ hk_14 _ _ _ _ _ hx0 h
    · replace h := (if_neg c_29).symm.trans h
      refine r_iload_n C 2 (q := 33) dX4_keysOver_32 rfl rfl ?_
      refine r_aload_n C 0 (q := 34) dX4_keysOver_33 rfl rfl ?_
      refine g_X4_0 C (q := 37) dX4_keysOver_34 q_127 hx0 rfl ?_
      refine r_iload C 4 (q := 39) dX4_keysOver_37 rfl rfl ?_
      obtain ⟨v_39, e_39, h⟩ := bs h
      refine r_callV C (ci := 0) (st := [.int x2]) (st2 := [.int v_39, .int x2]) (q := 42) (m_X0_openedBy (xG X) (xl X) (kf_X4_0 hx0) e_39) ok_X0_openedBy (kf_X4_0 hx0) rfl ⟨_, rfl⟩ q_395 rfl ⟨Nat.le_of_ble_eq_true rfl, Nat.le_of_ble_eq_true rfl⟩ rfl rfl (Nat.le_of_ble_eq_true rfl) dX4_keysOver_39 rfl (fun hp_39 => ?_)
      refine r_iconst C (v := (-1)) (q := 43) dX4_keysOver_42 (by decide) rfl ?_
      refine r_ixor C (q := 44) dX4_keysOver_43 rfl ?_
      refine r_iand C (q := 45) dX4_keysOver_44 rfl ?_
      refine r_if_ne C (tgt := 55) (q := 48) dX4_keysOver_45 (by decide) rfl (fun c_45 => ?_) (fun c_45 => ?_)
      · replace h := (if_neg c_45).symm.trans h
        exact w_X4_keysOver_b55 C hr _ hk_14 _ _ _ _ _ hx0 h
      · replace h := (if_pos c_45).symm.trans h
        refine r_iload_n C 3 (q := 49) dX4_keysOver_48 rfl rfl ?_
        refine r_iconst C (v := 1) (q := 50) dX4_keysOver_49 (by decide) rfl ?_
        refine r_iload C 4 (q := 52) dX4_keysOver_50 rfl rfl ?_
        refine r_ishl C (q := 53) dX4_keysOver_52 rfl ?_
        refine r_ior C (q := 54) dX4_keysOver_53 rfl ?_
        obtain ⟨y_54, e_54, h⟩ := bs h
        refine r_topI (Option.some.inj e_54) ?_
        refine r_istore_n C (lv' := [(3, .int y_54), (0, .ref ((xG X).1 x0)), (1, .int x1), (2, .int x2), (4, .int x4)]) (q := 55) dX4_keysOver_54 rfl (by decide) rfl rfl ?_
        refine r_sub (lv' := [(0, .ref ((xG X).1 x0)), (1, .int x1), (2, .int x2), (3, .int y_54), (4, .int x4)]) [1, 2, 3, 0, 4] rfl ?_
        exact w_X4_keysOver_b55 C hr _ hk_14 _ _ _ _ _ hx0 h

theorem w_X4_keysOver_l14 {X : CX} (C : Cok X RX4 cX4_keysOver 5 5 117) {σ : St} {r : Int32} (hr : RtI X cX4_keysOver r σ) (n : Nat) : ∀ (x0 : Nat) (x1 : Int32) (x2 : Int32) (x3 : Int32) (x4 : Int32), kd x0 = 5 → f_X4_keysOver_l14 σ n x0 x1 x2 x3 x4 = some r → V X σ 14 [(0, .ref ((xG X).1 x0)), (1, .int x1), (2, .int x2), (3, .int x3), (4, .int x4)] [] := by
  induction n with
  | zero =>
    intro x0 x1 x2 x3 x4 hx0 h
    exact nomatch (show (none : Option Int32) = some r from h)
  | succ n ih =>
    intro x0 x1 x2 x3 x4 hx0 h
    exact w_X4_keysOver_b14 C hr _ ih x0 x1 x2 x3 x4 hx0 h
set_option maxHeartbeats 4000000 in
set_option maxRecDepth 100000 in
theorem w_X4_keysOver_b0 {X : CX} (C : Cok X RX4 cX4_keysOver 5 5 117) {σ : St} {r : Int32} (hr : RtI X cX4_keysOver r σ) (x0 : Nat) (x1 : Int32) (hx0 : kd x0 = 5) (h : f_X4_keysOver σ x0 x1 = some r) : V X σ 0 [(0, .ref ((xG X).1 x0)), (1, .int x1)] [] := by
  unfold f_X4_keysOver at h
  refine r_aload_n C 0 (q := 1) dX4_keysOver_0 rfl rfl ?_
  refine g_X4_0 C (q := 4) dX4_keysOver_1 q_127 hx0 rfl ?_
  refine r_iload_n C 1 (q := 5) dX4_keysOver_4 rfl rfl ?_
  obtain ⟨v_5, e_5, h⟩ := bs h
  refine r_callV C (ci := 0) (st := []) (st2 := [.int v_5]) (q := 8) (m_X0_openedBy (xG X) (xl X) (kf_X4_0 hx0) e_5) ok_X0_openedBy (kf_X4_0 hx0) rfl ⟨_, rfl⟩ q_395 rfl ⟨Nat.le_of_ble_eq_true rfl, Nat.le_of_ble_eq_true rfl⟩ rfl rfl (Nat.le_of_ble_eq_true rfl) dX4_keysOver_5 rfl (fun hp_5 => ?_)
  refine r_istore_n C (lv' := [(2, .int v_5), (0, .ref ((xG X).1 x0)), (1, .int x1)]) (q := 9) dX4_keysOver_8 rfl (by decide) rfl rfl ?_
  refine r_iconst C (v := 0) (q := 10) dX4_keysOver_9 (by decide) rfl ?_
  refine r_istore_n C (lv' := [(3, .int 0), (2, .int v_5), (0, .ref ((xG X).1 x0)), (1, .int x1)]) (q := 11) dX4_keysOver_10 rfl (by decide) rfl rfl ?_
  refine r_iconst C (v := 0) (q := 12) dX4_keysOver_11 (by decide) rfl ?_
  refine r_istore C (lv' := [(4, .int 0), (3, .int 0), (2, .int v_5), (0, .ref ((xG X).1 x0)), (1, .int x1)]) (q := 14) dX4_keysOver_12 (by decide) rfl rfl ?_
  refine r_sub (lv' := [(0, .ref ((xG X).1 x0)), (1, .int x1), (2, .int v_5), (3, .int 0), (4, .int 0)]) [3, 4, 2, 1, 0] rfl ?_
  exact w_X4_keysOver_l14 C hr  FU _ _ _ _ _ hx0 h

theorem m_X4_keysOver (G : Gm) (l : Launch) {σ : St} {x0 : Nat} {x1 : Int32} (hx0 : kd x0 = 5) {r : Int32} (h : f_X4_keysOver σ x0 x1 = some r) : Ctr G l yX4_keysOver cX4_keysOver 5 (some .int) 5 117 [.ref (G.1 x0), .int x1] σ (some (.int r)) True σ := by
  refine Ctr.i (by decide) (Nat.le_of_ble_eq_true rfl) ?_
  intro X hG C hr
  subst hG
  exact w_X4_keysOver_b0 C hr _ _ hx0 h
-- X4_countBelow
set_option maxHeartbeats 4000000 in
set_option maxRecDepth 100000 in
theorem w_X4_countBelow_b51 {X : CX} (C : Cok X RX4 cX4_countBelow 5 5 117) {σ : St} {r : Int32} (hr : RtI X cX4_countBelow r σ) (k_14 : Nat → Int32 → Int32 → Int32 → Int32 → Option Int32) (hk_14 : ∀ (x0 : Nat) (x1 : Int32) (x2 : Int32) (x3 : Int32) (x4 : Int32), kd x0 = 5 → k_14 x0 x1 x2 x3 x4 = some r → V X σ 14 [(0, .ref ((xG X).1 x0)), (1, .int x1), (2, .int x2), (3, .int x3), (4, .int x4)] []) (x0 : Nat) (x1 : Int32) (x2 : Int32) (x3 : Int32) (x4 : Int32) (hx0 : kd x0 = 5) (h : f_X4_countBelow_b51 σ k_14 x0 x1 x2 x3 x4 = some r) : V X σ 51 [(0, .ref ((xG X).1 x0)), (1, .int x1), (2, .int x2), (3, .int x3), (4, .int x4)] [] := by
  unfold f_X4_countBelow_b51 at h
  obtain ⟨y_51, e_51, h⟩ := bs h
  refine r_iinc C (v := y_51) (lv' := [(4, .int y_51), (0, .ref ((xG X).1 x0)), (1, .int x1), (2, .int x2), (3, .int x3)]) (q := 54) 4 dX4_countBelow_51 rfl (Option.some.inj e_51) (by decide) rfl rfl ?_
  refine r_goto C (tgt := 14) dX4_countBelow_54 (by decide) ?_
  refine r_sub (lv' := [(0, .ref ((xG X).1 x0)), (1, .int x1), (2, .int x2), (3, .int x3), (4, .int y_51)]) [1, 2, 3, 4, 0] rfl ?_
  exact hk_14 _ _ _ _ _ hx0 h

set_option maxHeartbeats 4000000 in
set_option maxRecDepth 100000 in
theorem w_X4_countBelow_b14 {X : CX} (C : Cok X RX4 cX4_countBelow 5 5 117) {σ : St} {r : Int32} (hr : RtI X cX4_countBelow r σ) (k_14 : Nat → Int32 → Int32 → Int32 → Int32 → Option Int32) (hk_14 : ∀ (x0 : Nat) (x1 : Int32) (x2 : Int32) (x3 : Int32) (x4 : Int32), kd x0 = 5 → k_14 x0 x1 x2 x3 x4 = some r → V X σ 14 [(0, .ref ((xG X).1 x0)), (1, .int x1), (2, .int x2), (3, .int x3), (4, .int x4)] []) (x0 : Nat) (x1 : Int32) (x2 : Int32) (x3 : Int32) (x4 : Int32) (hx0 : kd x0 = 5) (h : f_X4_countBelow_b14 σ k_14 x0 x1 x2 x3 x4 = some r) : V X σ 14 [(0, .ref ((xG X).1 x0)), (1, .int x1), (2, .int x2), (3, .int x3), (4, .int x4)] [] := by
  unfold f_X4_countBelow_b14 at h
  refine r_iload C 4 (q := 16) dX4_countBelow_14 rfl rfl ?_
  refine r_aload_n C 0 (q := 17) dX4_countBelow_16 rfl rfl ?_
  refine g_X4_0 C (q := 20) dX4_countBelow_17 q_127 hx0 rfl ?_
  refine g_X0_5 C (q := 23) dX4_countBelow_20 q_78 (kf_X4_0 hx0) rfl ?_
  refine r_icmp_ge C (tgt := 57) (q := 26) dX4_countBelow_23 (by decide) rfl (fun c_23 => ?_) (fun c_23 => ?_)
  · replace h := (if_pos c_23).symm.trans h
    refine r_iload_n C 3 (q := 58) dX4_countBelow_57 rfl rfl ?_
    obtain rfl := Option.some.inj h
    exact hr _ _ dX4_countBelow_58
  · replace h := (if_neg c_23).symm.trans h
    refine r_iload C 4 (q := 28) dX4_countBelow_26 rfl rfl ?_
    refine r_iload_n C 1 (q := 29) dX4_countBelow_28 rfl rfl ?_
    refine r_icmp_eq C (tgt := 51) (q := 32) dX4_countBelow_29 (by decide) rfl (fun c_29 => ?_) (fun c_29 => ?_)
    · replace h := (if_pos c_29).symm.trans h
      exact w_X4_countBelow_b51 C hr _ hk_14 _ _ _ _ _ hx0 h
    · replace h := (if_neg c_29).symm.trans h
      refine r_aload_n C 0 (q := 33) dX4_countBelow_32 rfl rfl ?_
      refine g_X4_0 C (q := 36) dX4_countBelow_33 q_127 hx0 rfl ?_
      refine r_iload C 4 (q := 38) dX4_countBelow_36 rfl rfl ?_
      obtain ⟨v_38, e_38, h⟩ := bs h
      refine r_callV C (ci := 0) (st := []) (st2 := [.int v_38]) (q := 41) (m_X0_openedBy (xG X) (xl X) (kf_X4_0 hx0) e_38) ok_X0_openedBy (kf_X4_0 hx0) rfl ⟨_, rfl⟩ q_395 rfl ⟨Nat.le_of_ble_eq_true rfl, Nat.le_of_ble_eq_true rfl⟩ rfl rfl (Nat.le_of_ble_eq_true rfl) dX4_countBelow_38 rfl (fun hp_38 => ?_)
      refine r_iload_n C 2 (q := 42) dX4_countBelow_41 rfl rfl ?_
      refine r_iconst C (v := (-1)) (q := 43) dX4_countBelow_42 (by decide) rfl ?_
      refine r_ixor C (q := 44) dX4_countBelow_43 rfl ?_
      refine r_iand C (q := 45) dX4_countBelow_44 rfl ?_
      refine r_if_ne C (tgt := 51) (q := 48) dX4_countBelow_45 (by decide) rfl (fun c_45 => ?_) (fun c_45 => ?_)
      · replace h := (if_neg c_45).symm.trans h
        exact w_X4_countBelow_b51 C hr _ hk_14 _ _ _ _ _ hx0 h
      · replace h := (if_pos c_45).symm.trans h
        obtain ⟨y_48, e_48, h⟩ := bs h
        refine r_iinc C (v := y_48) (lv' := [(3, .int y_48), (0, .ref ((xG X).1 x0)), (1, .int x1), (2, .int x2), (4, .int x4)]) (q := 51) 3 dX4_countBelow_48 rfl (Option.some.inj e_48) (by decide) rfl rfl ?_
        refine r_sub (lv' := [(0, .ref ((xG X).1 x0)), (1, .int x1), (2, .int x2), (3, .int y_48), (4, .int x4)]) [1, 2, 3, 0, 4] rfl ?_
        exact w_X4_countBelow_b51 C hr _ hk_14 _ _ _ _ _ hx0 h

theorem w_X4_countBelow_l14 {X : CX} (C : Cok X RX4 cX4_countBelow 5 5 117) {σ : St} {r : Int32} (hr : RtI X cX4_countBelow r σ) (n : Nat) : ∀ (x0 : Nat) (x1 : Int32) (x2 : Int32) (x3 : Int32) (x4 : Int32), kd x0 = 5 → f_X4_countBelow_l14 σ n x0 x1 x2 x3 x4 = some r → V X σ 14 [(0, .ref ((xG X).1 x0)), (1, .int x1), (2, .int x2), (3, .int x3), (4, .int x4)] [] := by
  induction n with
  | zero =>
    intro x0 x1 x2 x3 x4 hx0 h
    exact nomatch (show (none : Option Int32) = some r from h)
  | succ n ih =>
    intro x0 x1 x2 x3 x4 hx0 h
    exact w_X4_countBelow_b14 C hr _ ih x0 x1 x2 x3 x4 hx0 h
set_option maxHeartbeats 4000000 in
set_option maxRecDepth 100000 in
theorem w_X4_countBelow_b0 {X : CX} (C : Cok X RX4 cX4_countBelow 5 5 117) {σ : St} {r : Int32} (hr : RtI X cX4_countBelow r σ) (x0 : Nat) (x1 : Int32) (hx0 : kd x0 = 5) (h : f_X4_countBelow σ x0 x1 = some r) : V X σ 0 [(0, .ref ((xG X).1 x0)), (1, .int x1)] [] := by
  unfold f_X4_countBelow at h
  refine r_aload_n C 0 (q := 1) dX4_countBelow_0 rfl rfl ?_
  refine g_X4_0 C (q := 4) dX4_countBelow_1 q_127 hx0 rfl ?_
  refine r_iload_n C 1 (q := 5) dX4_countBelow_4 rfl rfl ?_
  obtain ⟨v_5, e_5, h⟩ := bs h
  refine r_callV C (ci := 0) (st := []) (st2 := [.int v_5]) (q := 8) (m_X0_openedBy (xG X) (xl X) (kf_X4_0 hx0) e_5) ok_X0_openedBy (kf_X4_0 hx0) rfl ⟨_, rfl⟩ q_395 rfl ⟨Nat.le_of_ble_eq_true rfl, Nat.le_of_ble_eq_true rfl⟩ rfl rfl (Nat.le_of_ble_eq_true rfl) dX4_countBelow_5 rfl (fun hp_5 => ?_)
  refine r_istore_n C (lv' := [(2, .int v_5), (0, .ref ((xG X).1 x0)), (1, .int x1)]) (q := 9) dX4_countBelow_8 rfl (by decide) rfl rfl ?_
  refine r_iconst C (v := 0) (q := 10) dX4_countBelow_9 (by decide) rfl ?_
  refine r_istore_n C (lv' := [(3, .int 0), (2, .int v_5), (0, .ref ((xG X).1 x0)), (1, .int x1)]) (q := 11) dX4_countBelow_10 rfl (by decide) rfl rfl ?_
  refine r_iconst C (v := 0) (q := 12) dX4_countBelow_11 (by decide) rfl ?_
  refine r_istore C (lv' := [(4, .int 0), (3, .int 0), (2, .int v_5), (0, .ref ((xG X).1 x0)), (1, .int x1)]) (q := 14) dX4_countBelow_12 (by decide) rfl rfl ?_
  refine r_sub (lv' := [(0, .ref ((xG X).1 x0)), (1, .int x1), (2, .int v_5), (3, .int 0), (4, .int 0)]) [3, 4, 2, 1, 0] rfl ?_
  exact w_X4_countBelow_l14 C hr  FU _ _ _ _ _ hx0 h

theorem m_X4_countBelow (G : Gm) (l : Launch) {σ : St} {x0 : Nat} {x1 : Int32} (hx0 : kd x0 = 5) {r : Int32} (h : f_X4_countBelow σ x0 x1 = some r) : Ctr G l yX4_countBelow cX4_countBelow 5 (some .int) 5 117 [.ref (G.1 x0), .int x1] σ (some (.int r)) True σ := by
  refine Ctr.i (by decide) (Nat.le_of_ble_eq_true rfl) ?_
  intro X hG C hr
  subst hG
  exact w_X4_countBelow_b0 C hr _ _ hx0 h
-- X4_longestBelow
set_option maxHeartbeats 4000000 in
set_option maxRecDepth 100000 in
theorem w_X4_longestBelow_b66 {X : CX} (C : Cok X RX4 cX4_longestBelow 6 1 21) {σ : St} {r : Int32} (hr : RtI X cX4_longestBelow r σ) (k_14 : Nat → Int32 → Int32 → Int32 → Option Int32) (hk_14 : ∀ (x0 : Nat) (x2 : Int32) (x3 : Int32) (x4 : Int32), kd x0 = 5 → k_14 x0 x2 x3 x4 = some r → V X σ 14 [(0, .ref ((xG X).1 x0)), (2, .int x2), (3, .int x3), (4, .int x4)] []) (x0 : Nat) (x2 : Int32) (x3 : Int32) (x4 : Int32) (hx0 : kd x0 = 5) (h : f_X4_longestBelow_b66 σ k_14 x0 x2 x3 x4 = some r) : V X σ 66 [(0, .ref ((xG X).1 x0)), (2, .int x2), (3, .int x3), (4, .int x4)] [] := by
  unfold f_X4_longestBelow_b66 at h
  obtain ⟨y_66, e_66, h⟩ := bs h
  refine r_iinc C (v := y_66) (lv' := [(4, .int y_66), (0, .ref ((xG X).1 x0)), (2, .int x2), (3, .int x3)]) (q := 69) 3 dX4_longestBelow_66 rfl (Option.some.inj e_66) (by decide) rfl rfl ?_
  refine r_goto C (tgt := 14) dX4_longestBelow_69 (by decide) ?_
  refine r_sub (lv' := [(0, .ref ((xG X).1 x0)), (2, .int x2), (3, .int x3), (4, .int y_66)]) [1, 2, 3, 0] rfl ?_
  exact hk_14 _ _ _ _ hx0 h

set_option maxHeartbeats 4000000 in
set_option maxRecDepth 100000 in
theorem w_X4_longestBelow_b14 {X : CX} (C : Cok X RX4 cX4_longestBelow 6 1 21) {σ : St} {r : Int32} (hr : RtI X cX4_longestBelow r σ) (k_14 : Nat → Int32 → Int32 → Int32 → Option Int32) (hk_14 : ∀ (x0 : Nat) (x2 : Int32) (x3 : Int32) (x4 : Int32), kd x0 = 5 → k_14 x0 x2 x3 x4 = some r → V X σ 14 [(0, .ref ((xG X).1 x0)), (2, .int x2), (3, .int x3), (4, .int x4)] []) (x0 : Nat) (x2 : Int32) (x3 : Int32) (x4 : Int32) (hx0 : kd x0 = 5) (h : f_X4_longestBelow_b14 σ k_14 x0 x2 x3 x4 = some r) : V X σ 14 [(0, .ref ((xG X).1 x0)), (2, .int x2), (3, .int x3), (4, .int x4)] [] := by
  unfold f_X4_longestBelow_b14 at h
  refine r_iload C 3 (q := 16) dX4_longestBelow_14 rfl rfl ?_
  refine r_aload_n C 0 (q := 17) dX4_longestBelow_16 rfl rfl ?_
  refine g_X4_0 C (q := 20) dX4_longestBelow_17 q_127 hx0 rfl ?_
  refine g_X0_5 C (q := 23) dX4_longestBelow_20 q_78 (kf_X4_0 hx0) rfl ?_
  refine r_icmp_ge C (tgt := 72) (q := 26) dX4_longestBelow_23 (by decide) rfl (fun c_23 => ?_) (fun c_23 => ?_)
  · replace h := (if_pos c_23).symm.trans h
    refine r_iload_n C 2 (q := 73) dX4_longestBelow_72 rfl rfl ?_
    obtain rfl := Option.some.inj h
    exact hr _ _ dX4_longestBelow_73
  · replace h := (if_neg c_23).symm.trans h
    refine r_aload_n C 0 (q := 27) dX4_longestBelow_26 rfl rfl ?_
    refine g_X4_7 C (q := 30) dX4_longestBelow_27 q_134 hx0 rfl ?_
    refine r_iload C 3 (q := 32) dX4_longestBelow_30 rfl rfl ?_
    obtain ⟨v_32, e_32, h⟩ := bs h
    refine r_callN C (st := []) (st2 := [.int v_32]) (q := 35) (m_X5_at (xG X) (xl X) (kf_X4_7 hx0) e_32) ok_X5_at nst_12 rfl ⟨Nat.le_of_ble_eq_true rfl, Nat.le_of_ble_eq_true rfl⟩ rfl rfl (Nat.le_of_ble_eq_true rfl) dX4_longestBelow_32 rfl (fun hp_32 => ?_)
    refine r_istore C (lv' := [(5, .int v_32), (0, .ref ((xG X).1 x0)), (2, .int x2), (3, .int x3), (4, .int x4)]) (q := 37) dX4_longestBelow_35 (by decide) rfl rfl ?_
    refine r_iload C 0 (q := 39) dX4_longestBelow_37 rfl rfl ?_
    refine r_iload_n C 2 (q := 40) dX4_longestBelow_39 rfl rfl ?_
    refine r_icmp_eq C (tgt := 66) (q := 43) dX4_longestBelow_40 (by decide) rfl (fun c_40 => ?_) (fun c_40 => ?_)
    · replace h := (if_pos c_40).symm.trans h
      refine r_sub (lv' := [(0, .ref ((xG X).1 x0)), (2, .int x2), (3, .int x3), (4, .int x4)]) [1, 2, 3, 4] rfl ?_
      exact w_X4_longestBelow_b66 C hr _ hk_14 _ _ _ _ hx0 h
    · replace h := (if_neg c_40).symm.trans h
      refine r_iload C 0 (q := 45) dX4_longestBelow_43 rfl rfl ?_
      refine r_iload_n C 2 (q := 46) dX4_longestBelow_45 rfl rfl ?_
      refine r_iconst C (v := (-1)) (q := 47) dX4_longestBelow_46 (by decide) rfl ?_
      refine r_ixor C (q := 48) dX4_longestBelow_47 rfl ?_
      refine r_iand C (q := 49) dX4_longestBelow_48 rfl ?_
      refine r_if_ne C (tgt := 66) (q := 52) dX4_longestBelow_49 (by decide) rfl (fun c_49 => ?_) (fun c_49 => ?_)
      · replace h := (if_neg c_49).symm.trans h
        refine r_sub (lv' := [(0, .ref ((xG X).1 x0)), (2, .int x2), (3, .int x3), (4, .int x4)]) [1, 2, 3, 4] rfl ?_
        exact w_X4_longestBelow_b66 C hr _ hk_14 _ _ _ _ hx0 h
      · replace h := (if_pos c_49).symm.trans h
        refine r_iload_n C 3 (q := 53) dX4_longestBelow_52 rfl rfl ?_
        refine r_aload_n C 1 (q := 54) dX4_longestBelow_53 rfl rfl ?_
        refine g_X4_8 C (q := 57) dX4_longestBelow_54 q_135 hx0 rfl ?_
        refine r_iload C 4 (q := 59) dX4_longestBelow_57 rfl rfl ?_
        obtain ⟨v_59, e_59, h⟩ := bs h
        refine r_callN C (st := [.int x3]) (st2 := [.int v_59, .int x3]) (q := 62) (m_X5_at (xG X) (xl X) (kf_X4_8 hx0) e_59) ok_X5_at nst_12 rfl ⟨Nat.le_of_ble_eq_true rfl, Nat.le_of_ble_eq_true rfl⟩ rfl rfl (Nat.le_of_ble_eq_true rfl) dX4_longestBelow_59 rfl (fun hp_59 => ?_)
        refine r_max C (st := []) (q := 65) dX4_longestBelow_62 q_767 ok_max ⟨Nat.le_of_ble_eq_true rfl, Nat.le_of_ble_eq_true rfl⟩ rfl ?_
        obtain ⟨y_65, e_65, h⟩ := bs h
        refine r_topI (Option.some.inj e_65) ?_
        refine r_istore_n C (lv' := [(3, .int y_65), (5, .int v_32), (0, .ref ((xG X).1 x0)), (2, .int x2), (4, .int x4)]) (q := 66) dX4_longestBelow_65 rfl (by decide) rfl rfl ?_
        refine r_sub (lv' := [(0, .ref ((xG X).1 x0)), (2, .int x2), (3, .int y_65), (4, .int x4)]) [2, 3, 0, 4] rfl ?_
        exact w_X4_longestBelow_b66 C hr _ hk_14 _ _ _ _ hx0 h

theorem w_X4_longestBelow_l14 {X : CX} (C : Cok X RX4 cX4_longestBelow 6 1 21) {σ : St} {r : Int32} (hr : RtI X cX4_longestBelow r σ) (n : Nat) : ∀ (x0 : Nat) (x2 : Int32) (x3 : Int32) (x4 : Int32), kd x0 = 5 → f_X4_longestBelow_l14 σ n x0 x2 x3 x4 = some r → V X σ 14 [(0, .ref ((xG X).1 x0)), (2, .int x2), (3, .int x3), (4, .int x4)] [] := by
  induction n with
  | zero =>
    intro x0 x2 x3 x4 hx0 h
    exact nomatch (show (none : Option Int32) = some r from h)
  | succ n ih =>
    intro x0 x2 x3 x4 hx0 h
    exact w_X4_longestBelow_b14 C hr _ ih x0 x2 x3 x4 hx0 h
set_option maxHeartbeats 4000000 in
set_option maxRecDepth 100000 in
theorem w_X4_longestBelow_b0 {X : CX} (C : Cok X RX4 cX4_longestBelow 6 1 21) {σ : St} {r : Int32} (hr : RtI X cX4_longestBelow r σ) (x0 : Nat) (x1 : Int32) (hx0 : kd x0 = 5) (h : f_X4_longestBelow σ x0 x1 = some r) : V X σ 0 [(0, .ref ((xG X).1 x0)), (1, .int x1)] [] := by
  unfold f_X4_longestBelow at h
  refine r_aload_n C 0 (q := 1) dX4_longestBelow_0 rfl rfl ?_
  refine g_X4_7 C (q := 4) dX4_longestBelow_1 q_134 hx0 rfl ?_
  refine r_iload_n C 1 (q := 5) dX4_longestBelow_4 rfl rfl ?_
  obtain ⟨v_5, e_5, h⟩ := bs h
  refine r_callN C (st := []) (st2 := [.int v_5]) (q := 8) (m_X5_at (xG X) (xl X) (kf_X4_7 hx0) e_5) ok_X5_at nst_12 rfl ⟨Nat.le_of_ble_eq_true rfl, Nat.le_of_ble_eq_true rfl⟩ rfl rfl (Nat.le_of_ble_eq_true rfl) dX4_longestBelow_5 rfl (fun hp_5 => ?_)
  refine r_istore_n C (lv' := [(2, .int v_5), (0, .ref ((xG X).1 x0)), (1, .int x1)]) (q := 9) dX4_longestBelow_8 rfl (by decide) rfl rfl ?_
  refine r_iconst C (v := 0) (q := 10) dX4_longestBelow_9 (by decide) rfl ?_
  refine r_istore_n C (lv' := [(3, .int 0), (2, .int v_5), (0, .ref ((xG X).1 x0)), (1, .int x1)]) (q := 11) dX4_longestBelow_10 rfl (by decide) rfl rfl ?_
  refine r_iconst C (v := 0) (q := 12) dX4_longestBelow_11 (by decide) rfl ?_
  refine r_istore C (lv' := [(4, .int 0), (3, .int 0), (2, .int v_5), (0, .ref ((xG X).1 x0)), (1, .int x1)]) (q := 14) dX4_longestBelow_12 (by decide) rfl rfl ?_
  refine r_sub (lv' := [(0, .ref ((xG X).1 x0)), (2, .int v_5), (3, .int 0), (4, .int 0)]) [3, 2, 1, 0] rfl ?_
  exact w_X4_longestBelow_l14 C hr  FU _ _ _ _ hx0 h

theorem m_X4_longestBelow (G : Gm) (l : Launch) {σ : St} {x0 : Nat} {x1 : Int32} (hx0 : kd x0 = 5) {r : Int32} (h : f_X4_longestBelow σ x0 x1 = some r) : Ctr G l yX4_longestBelow cX4_longestBelow 6 (some .int) 1 21 [.ref (G.1 x0), .int x1] σ (some (.int r)) True σ := by
  refine Ctr.i (by decide) (Nat.le_of_ble_eq_true rfl) ?_
  intro X hG C hr
  subst hG
  exact w_X4_longestBelow_b0 C hr _ _ hx0 h
-- X4_longestChain
set_option maxHeartbeats 4000000 in
set_option maxRecDepth 100000 in
theorem w_X4_longestChain_b61 {X : CX} (C : Cok X RX4 cX4_longestChain 4 5 117) {σ' : St} {r : Int32} (hr : RtI X cX4_longestChain r σ') (k_48 : St → Nat → Int32 → Int32 → Option (Int32 × St)) (hk_48 : ∀ (σ : St) (x0 : Nat) (x1 : Int32) (x2 : Int32), kd x0 = 5 → k_48 σ x0 x1 x2 = some (r, σ') → V X σ 48 [(0, .ref ((xG X).1 x0)), (1, .int x1), (2, .int x2)] []) (k_61 : St → Nat → Int32 → Int32 → Int32 → Option (Int32 × St)) (hk_61 : ∀ (σ : St) (x0 : Nat) (x1 : Int32) (x2 : Int32) (x3 : Int32), kd x0 = 5 → k_61 σ x0 x1 x2 x3 = some (r, σ') → V X σ 61 [(0, .ref ((xG X).1 x0)), (1, .int x1), (2, .int x2), (3, .int x3)] []) (σ : St) (x0 : Nat) (x1 : Int32) (x2 : Int32) (x3 : Int32) (hx0 : kd x0 = 5) (h : f_X4_longestChain_b61 k_48 k_61 σ x0 x1 x2 x3 = some (r, σ')) : V X σ 61 [(0, .ref ((xG X).1 x0)), (1, .int x1), (2, .int x2), (3, .int x3)] [] := by
  unfold f_X4_longestChain_b61 at h
  refine r_iload_n C 3 (q := 62) dX4_longestChain_61 rfl rfl ?_
  refine r_aload_n C 0 (q := 63) dX4_longestChain_62 rfl rfl ?_
  refine g_X4_0 C (q := 66) dX4_longestChain_63 q_127 hx0 rfl ?_
  refine g_X0_5 C (q := 69) dX4_longestChain_66 q_78 (kf_X4_0 hx0) rfl ?_
  refine r_icmp_ge C (tgt := 106) (q := 72) dX4_longestChain_69 (by decide) rfl (fun c_69 => ?_) (fun c_69 => ?_)
  · replace h := (if_pos c_69).symm.trans h
    obtain ⟨y_106, e_106, h⟩ := bs h
    refine r_iinc C (v := y_106) (lv' := [(2, .int y_106), (0, .ref ((xG X).1 x0)), (1, .int x1), (3, .int x3)]) (q := 109) 2 dX4_longestChain_106 rfl (Option.some.inj e_106) (by decide) rfl rfl ?_
    refine r_goto C (tgt := 48) dX4_longestChain_109 (by decide) ?_
    refine r_sub (lv' := [(0, .ref ((xG X).1 x0)), (1, .int x1), (2, .int y_106)]) [1, 2, 0] rfl ?_
    exact hk_48 _ _ _ _ hx0 h
  · replace h := (if_neg c_69).symm.trans h
    refine r_aload_n C 0 (q := 73) dX4_longestChain_72 rfl rfl ?_
    refine g_X4_8 C (q := 76) dX4_longestChain_73 q_135 hx0 rfl ?_
    refine r_iload_n C 3 (q := 77) dX4_longestChain_76 rfl rfl ?_
    refine r_iconst C (v := 1) (q := 78) dX4_longestChain_77 (by decide) rfl ?_
    refine r_aload_n C 0 (q := 79) dX4_longestChain_78 rfl rfl ?_
    refine r_iload_n C 3 (q := 80) dX4_longestChain_79 rfl rfl ?_
    obtain ⟨v_80, e_80, h⟩ := bs h
    refine r_callV C (ci := 4) (st := [.int 1, .int x3, .ref ((xG X).1 19)]) (st2 := [.int v_80, .int 1, .int x3, .ref ((xG X).1 19)]) (q := 83) (m_X4_longestBelow (xG X) (xl X) hx0 e_80) ok_X4_longestBelow hx0 rfl ⟨_, rfl⟩ q_878 rfl ⟨Nat.le_of_ble_eq_true rfl, Nat.le_of_ble_eq_true rfl⟩ rfl rfl (Nat.le_of_ble_eq_true rfl) dX4_longestChain_80 rfl (fun hp_80 => ?_)
    refine r_iadd C (q := 84) dX4_longestChain_83 rfl ?_
    obtain ⟨s_84, e_84, h⟩ := bs h
    refine r_callN C (st := []) (st2 := []) (q := 87) (m_X5_put (xG X) (xl X) (kf_X4_8 hx0) e_84) ok_X5_put nst_13 rfl ⟨Nat.le_of_ble_eq_true rfl, Nat.le_of_ble_eq_true rfl⟩ rfl rfl (Nat.le_of_ble_eq_true rfl) dX4_longestChain_84 rfl (fun hp_84 => ?_)
    refine r_iload_n C 1 (q := 88) dX4_longestChain_87 rfl rfl ?_
    refine r_aload_n C 0 (q := 89) dX4_longestChain_88 rfl rfl ?_
    refine g_X4_8 C (q := 92) dX4_longestChain_89 q_135 hx0 rfl ?_
    refine r_iload_n C 3 (q := 93) dX4_longestChain_92 rfl rfl ?_
    obtain ⟨v_93, e_93, h⟩ := bs h
    refine r_callN C (st := [.int x1]) (st2 := [.int v_93, .int x1]) (q := 96) (m_X5_at (xG X) (xl X) (kf_X4_8 hx0) e_93) ok_X5_at nst_12 rfl ⟨Nat.le_of_ble_eq_true rfl, Nat.le_of_ble_eq_true rfl⟩ rfl rfl (Nat.le_of_ble_eq_true rfl) dX4_longestChain_93 rfl (fun hp_93 => ?_)
    refine r_max C (st := []) (q := 99) dX4_longestChain_96 q_767 ok_max ⟨Nat.le_of_ble_eq_true rfl, Nat.le_of_ble_eq_true rfl⟩ rfl ?_
    obtain ⟨y_99, e_99, h⟩ := bs h
    refine r_topI (Option.some.inj e_99) ?_
    refine r_istore_n C (lv' := [(1, .int y_99), (0, .ref ((xG X).1 x0)), (2, .int x2), (3, .int x3)]) (q := 100) dX4_longestChain_99 rfl (by decide) rfl rfl ?_
    obtain ⟨y_100, e_100, h⟩ := bs h
    refine r_iinc C (v := y_100) (lv' := [(3, .int y_100), (1, .int y_99), (0, .ref ((xG X).1 x0)), (2, .int x2)]) (q := 103) 3 dX4_longestChain_100 rfl (Option.some.inj e_100) (by decide) rfl rfl ?_
    refine r_goto C (tgt := 61) dX4_longestChain_103 (by decide) ?_
    refine r_sub (lv' := [(0, .ref ((xG X).1 x0)), (1, .int y_99), (2, .int x2), (3, .int y_100)]) [2, 1, 3, 0] rfl ?_
    exact hk_61 _ _ _ _ _ hx0 h

theorem w_X4_longestChain_l61 {X : CX} (C : Cok X RX4 cX4_longestChain 4 5 117) {σ' : St} {r : Int32} (hr : RtI X cX4_longestChain r σ') (k_48 : St → Nat → Int32 → Int32 → Option (Int32 × St)) (hk_48 : ∀ (σ : St) (x0 : Nat) (x1 : Int32) (x2 : Int32), kd x0 = 5 → k_48 σ x0 x1 x2 = some (r, σ') → V X σ 48 [(0, .ref ((xG X).1 x0)), (1, .int x1), (2, .int x2)] []) (n : Nat) : ∀ (σ : St) (x0 : Nat) (x1 : Int32) (x2 : Int32) (x3 : Int32), kd x0 = 5 → f_X4_longestChain_l61 k_48 n σ x0 x1 x2 x3 = some (r, σ') → V X σ 61 [(0, .ref ((xG X).1 x0)), (1, .int x1), (2, .int x2), (3, .int x3)] [] := by
  induction n with
  | zero =>
    intro σ x0 x1 x2 x3 hx0 h
    exact nomatch (show (none : Option (Int32 × St)) = some (r, σ') from h)
  | succ n ih =>
    intro σ x0 x1 x2 x3 hx0 h
    exact w_X4_longestChain_b61 C hr k_48 hk_48 _ ih σ x0 x1 x2 x3 hx0 h
set_option maxHeartbeats 4000000 in
set_option maxRecDepth 100000 in
theorem w_X4_longestChain_b48 {X : CX} (C : Cok X RX4 cX4_longestChain 4 5 117) {σ' : St} {r : Int32} (hr : RtI X cX4_longestChain r σ') (k_48 : St → Nat → Int32 → Int32 → Option (Int32 × St)) (hk_48 : ∀ (σ : St) (x0 : Nat) (x1 : Int32) (x2 : Int32), kd x0 = 5 → k_48 σ x0 x1 x2 = some (r, σ') → V X σ 48 [(0, .ref ((xG X).1 x0)), (1, .int x1), (2, .int x2)] []) (σ : St) (x0 : Nat) (x1 : Int32) (x2 : Int32) (hx0 : kd x0 = 5) (h : f_X4_longestChain_b48 k_48 σ x0 x1 x2 = some (r, σ')) : V X σ 48 [(0, .ref ((xG X).1 x0)), (1, .int x1), (2, .int x2)] [] := by
  unfold f_X4_longestChain_b48 at h
  refine r_iload_n C 2 (q := 49) dX4_longestChain_48 rfl rfl ?_
  refine r_aload_n C 0 (q := 50) dX4_longestChain_49 rfl rfl ?_
  refine g_X4_0 C (q := 53) dX4_longestChain_50 q_127 hx0 rfl ?_
  refine g_X0_5 C (q := 56) dX4_longestChain_53 q_78 (kf_X4_0 hx0) rfl ?_
  refine r_icmp_ge C (tgt := 112) (q := 59) dX4_longestChain_56 (by decide) rfl (fun c_56 => ?_) (fun c_56 => ?_)
  · replace h := (if_pos c_56).symm.trans h
    refine r_iload_n C 1 (q := 113) dX4_longestChain_112 rfl rfl ?_
    obtain ⟨rfl, rfl⟩ := Prod.mk.inj (Option.some.inj h)
    exact hr _ _ dX4_longestChain_113
  · replace h := (if_neg c_56).symm.trans h
    refine r_iconst C (v := 0) (q := 60) dX4_longestChain_59 (by decide) rfl ?_
    refine r_istore_n C (lv' := [(3, .int 0), (0, .ref ((xG X).1 x0)), (1, .int x1), (2, .int x2)]) (q := 61) dX4_longestChain_60 rfl (by decide) rfl rfl ?_
    refine r_sub (lv' := [(0, .ref ((xG X).1 x0)), (1, .int x1), (2, .int x2), (3, .int 0)]) [1, 2, 3, 0] rfl ?_
    exact w_X4_longestChain_l61 C hr _ hk_48 FU _ _ _ _ _ hx0 h

theorem w_X4_longestChain_l48 {X : CX} (C : Cok X RX4 cX4_longestChain 4 5 117) {σ' : St} {r : Int32} (hr : RtI X cX4_longestChain r σ') (n : Nat) : ∀ (σ : St) (x0 : Nat) (x1 : Int32) (x2 : Int32), kd x0 = 5 → f_X4_longestChain_l48 n σ x0 x1 x2 = some (r, σ') → V X σ 48 [(0, .ref ((xG X).1 x0)), (1, .int x1), (2, .int x2)] [] := by
  induction n with
  | zero =>
    intro σ x0 x1 x2 hx0 h
    exact nomatch (show (none : Option (Int32 × St)) = some (r, σ') from h)
  | succ n ih =>
    intro σ x0 x1 x2 hx0 h
    exact w_X4_longestChain_b48 C hr _ ih σ x0 x1 x2 hx0 h
set_option maxHeartbeats 4000000 in
set_option maxRecDepth 100000 in
theorem w_X4_longestChain_b2 {X : CX} (C : Cok X RX4 cX4_longestChain 4 5 117) {σ' : St} {r : Int32} (hr : RtI X cX4_longestChain r σ') (k_2 : St → Nat → Int32 → Option (Int32 × St)) (hk_2 : ∀ (σ : St) (x0 : Nat) (x1 : Int32), kd x0 = 5 → k_2 σ x0 x1 = some (r, σ') → V X σ 2 [(0, .ref ((xG X).1 x0)), (1, .int x1)] []) (σ : St) (x0 : Nat) (x1 : Int32) (hx0 : kd x0 = 5) (h : f_X4_longestChain_b2 k_2 σ x0 x1 = some (r, σ')) : V X σ 2 [(0, .ref ((xG X).1 x0)), (1, .int x1)] [] := by
  unfold f_X4_longestChain_b2 at h
  refine r_iload_n C 1 (q := 3) dX4_longestChain_2 rfl rfl ?_
  refine r_aload_n C 0 (q := 4) dX4_longestChain_3 rfl rfl ?_
  refine g_X4_0 C (q := 7) dX4_longestChain_4 q_127 hx0 rfl ?_
  refine g_X0_5 C (q := 10) dX4_longestChain_7 q_78 (kf_X4_0 hx0) rfl ?_
  refine r_icmp_ge C (tgt := 44) (q := 13) dX4_longestChain_10 (by decide) rfl (fun c_10 => ?_) (fun c_10 => ?_)
  · replace h := (if_pos c_10).symm.trans h
    refine r_iconst C (v := 0) (q := 45) dX4_longestChain_44 (by decide) rfl ?_
    refine r_istore_n C (lv' := [(1, .int 0), (0, .ref ((xG X).1 x0))]) (q := 46) dX4_longestChain_45 rfl (by decide) rfl rfl ?_
    refine r_iconst C (v := 0) (q := 47) dX4_longestChain_46 (by decide) rfl ?_
    refine r_istore_n C (lv' := [(2, .int 0), (1, .int 0), (0, .ref ((xG X).1 x0))]) (q := 48) dX4_longestChain_47 rfl (by decide) rfl rfl ?_
    refine r_sub (lv' := [(0, .ref ((xG X).1 x0)), (1, .int 0), (2, .int 0)]) [2, 1, 0] rfl ?_
    exact w_X4_longestChain_l48 C hr  FU _ _ _ _ hx0 h
  · replace h := (if_neg c_10).symm.trans h
    refine r_aload_n C 0 (q := 14) dX4_longestChain_13 rfl rfl ?_
    refine g_X4_7 C (q := 17) dX4_longestChain_14 q_134 hx0 rfl ?_
    refine r_iload_n C 1 (q := 18) dX4_longestChain_17 rfl rfl ?_
    refine r_aload_n C 0 (q := 19) dX4_longestChain_18 rfl rfl ?_
    refine g_X4_0 C (q := 22) dX4_longestChain_19 q_127 hx0 rfl ?_
    refine r_iload_n C 1 (q := 23) dX4_longestChain_22 rfl rfl ?_
    obtain ⟨v_23, e_23, h⟩ := bs h
    refine r_callV C (ci := 0) (st := [.int x1, .ref ((xG X).1 18)]) (st2 := [.int v_23, .int x1, .ref ((xG X).1 18)]) (q := 26) (m_X0_openedBy (xG X) (xl X) (kf_X4_0 hx0) e_23) ok_X0_openedBy (kf_X4_0 hx0) rfl ⟨_, rfl⟩ q_395 rfl ⟨Nat.le_of_ble_eq_true rfl, Nat.le_of_ble_eq_true rfl⟩ rfl rfl (Nat.le_of_ble_eq_true rfl) dX4_longestChain_23 rfl (fun hp_23 => ?_)
    obtain ⟨s_26, e_26, h⟩ := bs h
    refine r_callN C (st := []) (st2 := []) (q := 29) (m_X5_put (xG X) (xl X) (kf_X4_7 hx0) e_26) ok_X5_put nst_13 rfl ⟨Nat.le_of_ble_eq_true rfl, Nat.le_of_ble_eq_true rfl⟩ rfl rfl (Nat.le_of_ble_eq_true rfl) dX4_longestChain_26 rfl (fun hp_26 => ?_)
    refine r_aload_n C 0 (q := 30) dX4_longestChain_29 rfl rfl ?_
    refine g_X4_8 C (q := 33) dX4_longestChain_30 q_135 hx0 rfl ?_
    refine r_iload_n C 1 (q := 34) dX4_longestChain_33 rfl rfl ?_
    refine r_iconst C (v := 1) (q := 35) dX4_longestChain_34 (by decide) rfl ?_
    obtain ⟨s_35, e_35, h⟩ := bs h
    refine r_callN C (st := []) (st2 := []) (q := 38) (m_X5_put (xG X) (xl X) (kf_X4_8 hx0) e_35) ok_X5_put nst_13 rfl ⟨Nat.le_of_ble_eq_true rfl, Nat.le_of_ble_eq_true rfl⟩ rfl rfl (Nat.le_of_ble_eq_true rfl) dX4_longestChain_35 rfl (fun hp_35 => ?_)
    obtain ⟨y_38, e_38, h⟩ := bs h
    refine r_iinc C (v := y_38) (lv' := [(1, .int y_38), (0, .ref ((xG X).1 x0))]) (q := 41) 1 dX4_longestChain_38 rfl (Option.some.inj e_38) (by decide) rfl rfl ?_
    refine r_goto C (tgt := 2) dX4_longestChain_41 (by decide) ?_
    refine r_sub (lv' := [(0, .ref ((xG X).1 x0)), (1, .int y_38)]) [1, 0] rfl ?_
    exact hk_2 _ _ _ hx0 h

theorem w_X4_longestChain_l2 {X : CX} (C : Cok X RX4 cX4_longestChain 4 5 117) {σ' : St} {r : Int32} (hr : RtI X cX4_longestChain r σ') (n : Nat) : ∀ (σ : St) (x0 : Nat) (x1 : Int32), kd x0 = 5 → f_X4_longestChain_l2 n σ x0 x1 = some (r, σ') → V X σ 2 [(0, .ref ((xG X).1 x0)), (1, .int x1)] [] := by
  induction n with
  | zero =>
    intro σ x0 x1 hx0 h
    exact nomatch (show (none : Option (Int32 × St)) = some (r, σ') from h)
  | succ n ih =>
    intro σ x0 x1 hx0 h
    exact w_X4_longestChain_b2 C hr _ ih σ x0 x1 hx0 h
set_option maxHeartbeats 4000000 in
set_option maxRecDepth 100000 in
theorem w_X4_longestChain_b0 {X : CX} (C : Cok X RX4 cX4_longestChain 4 5 117) {σ' : St} {r : Int32} (hr : RtI X cX4_longestChain r σ') (σ : St) (x0 : Nat) (hx0 : kd x0 = 5) (h : f_X4_longestChain σ x0 = some (r, σ')) : V X σ 0 [(0, .ref ((xG X).1 x0))] [] := by
  unfold f_X4_longestChain at h
  refine r_iconst C (v := 0) (q := 1) dX4_longestChain_0 (by decide) rfl ?_
  refine r_istore_n C (lv' := [(1, .int 0), (0, .ref ((xG X).1 x0))]) (q := 2) dX4_longestChain_1 rfl (by decide) rfl rfl ?_
  refine r_sub (lv' := [(0, .ref ((xG X).1 x0)), (1, .int 0)]) [1, 0] rfl ?_
  exact w_X4_longestChain_l2 C hr  FU _ _ _ hx0 h

theorem m_X4_longestChain (G : Gm) (l : Launch) {σ σ' : St} {x0 : Nat} (hx0 : kd x0 = 5) {r : Int32} (h : f_X4_longestChain σ x0 = some (r, σ')) : Ctr G l yX4_longestChain cX4_longestChain 4 (some .int) 5 117 [.ref (G.1 x0)] σ (some (.int r)) True σ' := by
  refine Ctr.i (by decide) (Nat.le_of_ble_eq_true rfl) ?_
  intro X hG C hr
  subst hG
  exact w_X4_longestChain_b0 C hr _ _ hx0 h
