-- X4_lostByWard
set_option maxHeartbeats 4000000 in
set_option maxRecDepth 100000 in
theorem w_X4_lostByWard_b85 {X : CX} (C : Cok X RX4 cX4_lostByWard 6 5 117) {σ : St} {r : Int32} (hr : RtI X cX4_lostByWard r σ) (k_4 : Nat → Int32 → Int32 → Int32 → Option Int32) (hk_4 : ∀ (x0 : Nat) (x1 : Int32) (x2 : Int32) (x3 : Int32), kd x0 = 5 → k_4 x0 x1 x2 x3 = some r → V X σ 4 [(0, .ref ((xG X).1 x0)), (1, .int x1), (2, .int x2), (3, .int x3)] []) (x0 : Nat) (x1 : Int32) (x2 : Int32) (x3 : Int32) (hx0 : kd x0 = 5) (h : f_X4_lostByWard_b85 σ k_4 x0 x1 x2 x3 = some r) : V X σ 85 [(0, .ref ((xG X).1 x0)), (1, .int x1), (2, .int x2), (3, .int x3)] [] := by
  unfold f_X4_lostByWard_b85 at h
  obtain ⟨y_85, e_85, h⟩ := bs h
  refine r_iinc C (v := y_85) (lv' := [(3, .int y_85), (0, .ref ((xG X).1 x0)), (1, .int x1), (2, .int x2)]) (q := 88) 3 dX4_lostByWard_85 rfl (Option.some.inj e_85) (by decide) rfl rfl ?_
  refine r_goto C (tgt := 4) dX4_lostByWard_88 (by decide) ?_
  refine r_sub (lv' := [(0, .ref ((xG X).1 x0)), (1, .int x1), (2, .int x2), (3, .int y_85)]) [1, 2, 3, 0] rfl ?_
  exact hk_4 _ _ _ _ hx0 h

set_option maxHeartbeats 4000000 in
set_option maxRecDepth 100000 in
theorem w_X4_lostByWard_b60 {X : CX} (C : Cok X RX4 cX4_lostByWard 6 5 117) {σ : St} {r : Int32} (hr : RtI X cX4_lostByWard r σ) (k_4 : Nat → Int32 → Int32 → Int32 → Option Int32) (hk_4 : ∀ (x0 : Nat) (x1 : Int32) (x2 : Int32) (x3 : Int32), kd x0 = 5 → k_4 x0 x1 x2 x3 = some r → V X σ 4 [(0, .ref ((xG X).1 x0)), (1, .int x1), (2, .int x2), (3, .int x3)] []) (x0 : Nat) (x1 : Int32) (x2 : Int32) (x3 : Int32) (t0 : Int32) (hx0 : kd x0 = 5) (h : f_X4_lostByWard_b60 σ k_4 x0 x1 x2 x3 t0 = some r) : V X σ 60 [(0, .ref ((xG X).1 x0)), (1, .int x1), (2, .int x2), (3, .int x3)] [.int t0] := by
  unfold f_X4_lostByWard_b60 at h
  refine r_istore C (lv' := [(5, .int t0), (0, .ref ((xG X).1 x0)), (1, .int x1), (2, .int x2), (3, .int x3)]) (q := 62) dX4_lostByWard_60 (by decide) rfl rfl ?_
  refine r_aload_n C 1 (q := 63) dX4_lostByWard_62 rfl rfl ?_
  refine g_X4_0 C (q := 66) dX4_lostByWard_63 q_127 hx0 rfl ?_
  refine r_iload_n C 4 (q := 67) dX4_lostByWard_66 rfl rfl ?_
  obtain ⟨v_67, e_67, h⟩ := bs h
  refine r_callV C (ci := 0) (st := []) (st2 := [.int v_67]) (q := 70) (m_X0_openedBy (xG X) (xl X) (kf_X4_0 hx0) e_67) ok_X0_openedBy (kf_X4_0 hx0) rfl ⟨_, rfl⟩ q_395 rfl ⟨Nat.le_of_ble_eq_true rfl, Nat.le_of_ble_eq_true rfl⟩ rfl rfl (Nat.le_of_ble_eq_true rfl) dX4_lostByWard_67 rfl (fun hp_67 => ?_)
  refine r_iload_n C 2 (q := 71) dX4_lostByWard_70 rfl rfl ?_
  obtain ⟨v_71, e_71, h⟩ := bs h
  refine r_callN C (st := []) (st2 := [.int v_71]) (q := 74) (m_X5_hasBit (xG X) (xl X) e_71) ok_X5_hasBit nst_14 rfl ⟨Nat.le_of_ble_eq_true rfl, Nat.le_of_ble_eq_true rfl⟩ rfl rfl (Nat.le_of_ble_eq_true rfl) dX4_lostByWard_71 rfl (fun hp_71 => ?_)
  refine r_if_eq C (tgt := 85) (q := 77) dX4_lostByWard_74 (by decide) rfl (fun c_74 => ?_) (fun c_74 => ?_)
  · replace h := (if_pos c_74).symm.trans h
    refine r_sub (lv' := [(0, .ref ((xG X).1 x0)), (1, .int x1), (2, .int x2), (3, .int x3)]) [1, 2, 3, 4] rfl ?_
    exact w_X4_lostByWard_b85 C hr _ hk_4 _ _ _ _ hx0 h
  · replace h := (if_neg c_74).symm.trans h
    refine r_iload C 0 (q := 79) dX4_lostByWard_77 rfl rfl ?_
    refine r_if_ne C (tgt := 85) (q := 82) dX4_lostByWard_79 (by decide) rfl (fun c_79 => ?_) (fun c_79 => ?_)
    · replace h := (if_neg c_79).symm.trans h
      refine r_sub (lv' := [(0, .ref ((xG X).1 x0)), (1, .int x1), (2, .int x2), (3, .int x3)]) [1, 2, 3, 4] rfl ?_
      exact w_X4_lostByWard_b85 C hr _ hk_4 _ _ _ _ hx0 h
    · replace h := (if_pos c_79).symm.trans h
      obtain ⟨y_82, e_82, h⟩ := bs h
      refine r_iinc C (v := y_82) (lv' := [(2, .int y_82), (5, .int t0), (0, .ref ((xG X).1 x0)), (1, .int x1), (3, .int x3)]) (q := 85) 3 dX4_lostByWard_82 rfl (Option.some.inj e_82) (by decide) rfl rfl ?_
      refine r_sub (lv' := [(0, .ref ((xG X).1 x0)), (1, .int x1), (2, .int y_82), (3, .int x3)]) [2, 3, 0, 4] rfl ?_
      exact w_X4_lostByWard_b85 C hr _ hk_4 _ _ _ _ hx0 h

set_option maxHeartbeats 4000000 in
set_option maxRecDepth 100000 in
theorem w_X4_lostByWard_b59 {X : CX} (C : Cok X RX4 cX4_lostByWard 6 5 117) {σ : St} {r : Int32} (hr : RtI X cX4_lostByWard r σ) (k_4 : Nat → Int32 → Int32 → Int32 → Option Int32) (hk_4 : ∀ (x0 : Nat) (x1 : Int32) (x2 : Int32) (x3 : Int32), kd x0 = 5 → k_4 x0 x1 x2 x3 = some r → V X σ 4 [(0, .ref ((xG X).1 x0)), (1, .int x1), (2, .int x2), (3, .int x3)] []) (x0 : Nat) (x1 : Int32) (x2 : Int32) (x3 : Int32) (hx0 : kd x0 = 5) (h : f_X4_lostByWard_b59 σ k_4 x0 x1 x2 x3 = some r) : V X σ 59 [(0, .ref ((xG X).1 x0)), (1, .int x1), (2, .int x2), (3, .int x3)] [] := by
  unfold f_X4_lostByWard_b59 at h
  refine r_iconst C (v := 0) (q := 60) dX4_lostByWard_59 (by decide) rfl ?_
  exact w_X4_lostByWard_b60 C hr _ hk_4 _ _ _ _ _ hx0 h

set_option maxHeartbeats 4000000 in
set_option maxRecDepth 100000 in
theorem w_X4_lostByWard_b4 {X : CX} (C : Cok X RX4 cX4_lostByWard 6 5 117) {σ : St} {r : Int32} (hr : RtI X cX4_lostByWard r σ) (k_4 : Nat → Int32 → Int32 → Int32 → Option Int32) (hk_4 : ∀ (x0 : Nat) (x1 : Int32) (x2 : Int32) (x3 : Int32), kd x0 = 5 → k_4 x0 x1 x2 x3 = some r → V X σ 4 [(0, .ref ((xG X).1 x0)), (1, .int x1), (2, .int x2), (3, .int x3)] []) (x0 : Nat) (x1 : Int32) (x2 : Int32) (x3 : Int32) (hx0 : kd x0 = 5) (h : f_X4_lostByWard_b4 σ k_4 x0 x1 x2 x3 = some r) : V X σ 4 [(0, .ref ((xG X).1 x0)), (1, .int x1), (2, .int x2), (3, .int x3)] [] := by
  unfold f_X4_lostByWard_b4 at h
  refine r_iload_n C 3 (q := 5) dX4_lostByWard_4 rfl rfl ?_
  refine r_aload_n C 0 (q := 6) dX4_lostByWard_5 rfl rfl ?_
  refine g_X4_0 C (q := 9) dX4_lostByWard_6 q_127 hx0 rfl ?_
  refine g_X0_5 C (q := 12) dX4_lostByWard_9 q_78 (kf_X4_0 hx0) rfl ?_
  refine r_icmp_ge C (tgt := 91) (q := 15) dX4_lostByWard_12 (by decide) rfl (fun c_12 => ?_) (fun c_12 => ?_)
  · replace h := (if_pos c_12).symm.trans h
    refine r_iload_n C 2 (q := 92) dX4_lostByWard_91 rfl rfl ?_
    obtain rfl := Option.some.inj h
    exact hr _ _ dX4_lostByWard_92
  · replace h := (if_neg c_12).symm.trans h
    refine r_aload_n C 0 (q := 16) dX4_lostByWard_15 rfl rfl ?_
    refine g_X4_0 C (q := 19) dX4_lostByWard_16 q_127 hx0 rfl ?_
    refine r_iload_n C 3 (q := 20) dX4_lostByWard_19 rfl rfl ?_
    obtain ⟨v_20, e_20, h⟩ := bs h
    refine r_callV C (ci := 0) (st := []) (st2 := [.ref ((xG X).1 v_20)]) (q := 23) (m_X0_keyAt (xG X) (xl X) (kf_X4_0 hx0) e_20) ok_X0_keyAt (kf_X4_0 hx0) rfl ⟨_, rfl⟩ q_753 rfl ⟨Nat.le_of_ble_eq_true rfl, Nat.le_of_ble_eq_true rfl⟩ rfl rfl (Nat.le_of_ble_eq_true rfl) dX4_lostByWard_20 rfl (fun hp_20 => ?_)
    refine r_astore C (lv' := [(4, .ref ((xG X).1 v_20)), (0, .ref ((xG X).1 x0)), (1, .int x1), (2, .int x2), (3, .int x3)]) (q := 25) dX4_lostByWard_23 (by decide) rfl rfl ?_
    refine r_aload C 0 (q := 27) dX4_lostByWard_25 rfl rfl ?_
    refine r_iconst C (v := 3) (q := 28) dX4_lostByWard_27 (by decide) rfl ?_
    obtain ⟨v_28, e_28, h⟩ := bs h
    refine r_callV C (ci := 1) (st := []) (st2 := [.int v_28]) (q := 31) (m_X1_isOfKind (xG X) (xl X) hp_20 e_28) ok_X1_isOfKind hp_20 rfl ⟨_, rfl⟩ q_890 rfl ⟨Nat.le_of_ble_eq_true rfl, Nat.le_of_ble_eq_true rfl⟩ rfl rfl (Nat.le_of_ble_eq_true rfl) dX4_lostByWard_28 rfl (fun hp_28 => ?_)
    refine r_if_eq C (tgt := 59) (q := 34) dX4_lostByWard_31 (by decide) rfl (fun c_31 => ?_) (fun c_31 => ?_)
    · replace h := (if_pos c_31).symm.trans h
      refine r_sub (lv' := [(0, .ref ((xG X).1 x0)), (1, .int x1), (2, .int x2), (3, .int x3)]) [1, 2, 3, 4] rfl ?_
      exact w_X4_lostByWard_b59 C hr _ hk_4 _ _ _ _ hx0 h
    · replace h := (if_neg c_31).symm.trans h
      refine r_aload_n C 1 (q := 35) dX4_lostByWard_34 rfl rfl ?_
      refine g_X4_0 C (q := 38) dX4_lostByWard_35 q_127 hx0 rfl ?_
      refine r_aload C 0 (q := 40) dX4_lostByWard_38 rfl rfl ?_
      refine r_aload C 0 (q := 42) dX4_lostByWard_40 rfl rfl ?_
      refine g_X1_3 C (q := 45) dX4_lostByWard_42 q_48 hp_20 rfl ?_
      obtain ⟨v_45, e_45, h⟩ := bs h
      refine r_callV C (ci := 0) (st := []) (st2 := [.int v_45]) (q := 48) (m_X0_openedByCuts (xG X) (xl X) (kf_X4_0 hx0) hp_20 (kf_X1_3 hp_20) e_45) ok_X0_openedByCuts (kf_X4_0 hx0) rfl ⟨_, rfl⟩ q_770 rfl ⟨Nat.le_of_ble_eq_true rfl, Nat.le_of_ble_eq_true rfl⟩ rfl rfl (Nat.le_of_ble_eq_true rfl) dX4_lostByWard_45 rfl (fun hp_45 => ?_)
      refine r_iload_n C 2 (q := 49) dX4_lostByWard_48 rfl rfl ?_
      obtain ⟨v_49, e_49, h⟩ := bs h
      refine r_callN C (st := []) (st2 := [.int v_49]) (q := 52) (m_X5_hasBit (xG X) (xl X) e_49) ok_X5_hasBit nst_14 rfl ⟨Nat.le_of_ble_eq_true rfl, Nat.le_of_ble_eq_true rfl⟩ rfl rfl (Nat.le_of_ble_eq_true rfl) dX4_lostByWard_49 rfl (fun hp_49 => ?_)
      refine r_if_eq C (tgt := 59) (q := 55) dX4_lostByWard_52 (by decide) rfl (fun c_52 => ?_) (fun c_52 => ?_)
      · replace h := (if_pos c_52).symm.trans h
        refine r_sub (lv' := [(0, .ref ((xG X).1 x0)), (1, .int x1), (2, .int x2), (3, .int x3)]) [1, 2, 3, 4] rfl ?_
        exact w_X4_lostByWard_b59 C hr _ hk_4 _ _ _ _ hx0 h
      · replace h := (if_neg c_52).symm.trans h
        refine r_iconst C (v := 1) (q := 56) dX4_lostByWard_55 (by decide) rfl ?_
        refine r_goto C (tgt := 60) dX4_lostByWard_56 (by decide) ?_
        refine r_sub (lv' := [(0, .ref ((xG X).1 x0)), (1, .int x1), (2, .int x2), (3, .int x3)]) [1, 2, 3, 4] rfl ?_
        exact w_X4_lostByWard_b60 C hr _ hk_4 _ _ _ _ _ hx0 h

theorem w_X4_lostByWard_l4 {X : CX} (C : Cok X RX4 cX4_lostByWard 6 5 117) {σ : St} {r : Int32} (hr : RtI X cX4_lostByWard r σ) (n : Nat) : ∀ (x0 : Nat) (x1 : Int32) (x2 : Int32) (x3 : Int32), kd x0 = 5 → f_X4_lostByWard_l4 σ n x0 x1 x2 x3 = some r → V X σ 4 [(0, .ref ((xG X).1 x0)), (1, .int x1), (2, .int x2), (3, .int x3)] [] := by
  induction n with
  | zero =>
    intro x0 x1 x2 x3 hx0 h
    exact nomatch (show (none : Option Int32) = some r from h)
  | succ n ih =>
    intro x0 x1 x2 x3 hx0 h
    exact w_X4_lostByWard_b4 C hr _ ih x0 x1 x2 x3 hx0 h
set_option maxHeartbeats 4000000 in
set_option maxRecDepth 100000 in
theorem w_X4_lostByWard_b0 {X : CX} (C : Cok X RX4 cX4_lostByWard 6 5 117) {σ : St} {r : Int32} (hr : RtI X cX4_lostByWard r σ) (x0 : Nat) (x1 : Int32) (hx0 : kd x0 = 5) (h : f_X4_lostByWard σ x0 x1 = some r) : V X σ 0 [(0, .ref ((xG X).1 x0)), (1, .int x1)] [] := by
  unfold f_X4_lostByWard at h
  refine r_iconst C (v := 0) (q := 1) dX4_lostByWard_0 (by decide) rfl ?_
  refine r_istore_n C (lv' := [(2, .int 0), (0, .ref ((xG X).1 x0)), (1, .int x1)]) (q := 2) dX4_lostByWard_1 rfl (by decide) rfl rfl ?_
  refine r_iconst C (v := 0) (q := 3) dX4_lostByWard_2 (by decide) rfl ?_
  refine r_istore_n C (lv' := [(3, .int 0), (2, .int 0), (0, .ref ((xG X).1 x0)), (1, .int x1)]) (q := 4) dX4_lostByWard_3 rfl (by decide) rfl rfl ?_
  refine r_sub (lv' := [(0, .ref ((xG X).1 x0)), (1, .int x1), (2, .int 0), (3, .int 0)]) [2, 3, 1, 0] rfl ?_
  exact w_X4_lostByWard_l4 C hr  FU _ _ _ _ hx0 h

theorem m_X4_lostByWard (G : Gm) (l : Launch) {σ : St} {x0 : Nat} {x1 : Int32} (hx0 : kd x0 = 5) {r : Int32} (h : f_X4_lostByWard σ x0 x1 = some r) : Ctr G l yX4_lostByWard cX4_lostByWard 6 (some .int) 5 117 [.ref (G.1 x0), .int x1] σ (some (.int r)) True σ := by
  refine Ctr.i (by decide) (Nat.le_of_ble_eq_true rfl) ?_
  intro X hG C hr
  subst hG
  exact w_X4_lostByWard_b0 C hr _ _ hx0 h
-- X4_tellCut
set_option maxHeartbeats 4000000 in
set_option maxRecDepth 100000 in
theorem w_X4_tellCut_b0 {X : CX} (C : Cok X RX4 cX4_tellCut 3 1 22) {σ' : St} (hr : RtV X cX4_tellCut σ') (σ : St) (x0 : Nat) (x1 : Int32) (x2 : Int32) (hx0 : kd x0 = 5) (h : f_X4_tellCut σ x0 x1 x2 = some σ') : V X σ 0 [(0, .ref ((xG X).1 x0)), (1, .int x1), (2, .int x2)] [] := by
  unfold f_X4_tellCut at h
  refine r_aload_n C 0 (q := 1) dX4_tellCut_0 rfl rfl ?_
  refine g_X4_2 C (q := 4) dX4_tellCut_1 q_129 hx0 rfl ?_
  refine r_iload_n C 1 (q := 5) dX4_tellCut_4 rfl rfl ?_
  refine r_iload_n C 2 (q := 6) dX4_tellCut_5 rfl rfl ?_
  obtain ⟨s_6, e_6, h⟩ := bs h
  refine r_callN C (st := []) (st2 := []) (q := 9) (m_X5_put (xG X) (xl X) (kf_X4_2 hx0) e_6) ok_X5_put nst_13 rfl ⟨Nat.le_of_ble_eq_true rfl, Nat.le_of_ble_eq_true rfl⟩ rfl rfl (Nat.le_of_ble_eq_true rfl) dX4_tellCut_6 rfl (fun hp_6 => ?_)
  obtain rfl := Option.some.inj h
  exact hr _ _ dX4_tellCut_9

theorem m_X4_tellCut (G : Gm) (l : Launch) {σ σ' : St} {x0 : Nat} {x1 : Int32} {x2 : Int32} (hx0 : kd x0 = 5) (h : f_X4_tellCut σ x0 x1 x2 = some σ') : Ctr G l yX4_tellCut cX4_tellCut 3 none 1 22 [.ref (G.1 x0), .int x1, .int x2] σ none True σ' := by
  refine Ctr.v (by decide) (Nat.le_of_ble_eq_true rfl) ?_
  intro X hG C hr
  subst hG
  exact w_X4_tellCut_b0 C hr _ _ _ _ hx0 h
-- X4_canBecomeTold
set_option maxHeartbeats 4000000 in
set_option maxRecDepth 100000 in
theorem w_X4_canBecomeTold_b54 {X : CX} (C : Cok X RX4 cX4_canBecomeTold 5 1 21) {σ : St} {r : Int32} (hr : RtZ X cX4_canBecomeTold r σ) (k_2 : Nat → Nat → Int32 → Option Int32) (hk_2 : ∀ (x0 : Nat) (x1 : Nat) (x2 : Int32), kd x0 = 5 → kd x1 = 2 → k_2 x0 x1 x2 = some r → V X σ 2 [(0, .ref ((xG X).1 x0)), (1, .ref ((xG X).1 x1)), (2, .int x2)] []) (x0 : Nat) (x1 : Nat) (x2 : Int32) (hx0 : kd x0 = 5) (hx1 : kd x1 = 2) (h : f_X4_canBecomeTold_b54 σ k_2 x0 x1 x2 = some r) : V X σ 54 [(0, .ref ((xG X).1 x0)), (1, .ref ((xG X).1 x1)), (2, .int x2)] [] := by
  unfold f_X4_canBecomeTold_b54 at h
  obtain ⟨y_54, e_54, h⟩ := bs h
  refine r_iinc C (v := y_54) (lv' := [(2, .int y_54), (0, .ref ((xG X).1 x0)), (1, .ref ((xG X).1 x1))]) (q := 57) 2 dX4_canBecomeTold_54 rfl (Option.some.inj e_54) (by decide) rfl rfl ?_
  refine r_goto C (tgt := 2) dX4_canBecomeTold_57 (by decide) ?_
  refine r_sub (lv' := [(0, .ref ((xG X).1 x0)), (1, .ref ((xG X).1 x1)), (2, .int y_54)]) [1, 2, 0] rfl ?_
  exact hk_2 _ _ _ hx0 hx1 h

set_option maxHeartbeats 4000000 in
set_option maxRecDepth 100000 in
theorem w_X4_canBecomeTold_b2 {X : CX} (C : Cok X RX4 cX4_canBecomeTold 5 1 21) {σ : St} {r : Int32} (hr : RtZ X cX4_canBecomeTold r σ) (k_2 : Nat → Nat → Int32 → Option Int32) (hk_2 : ∀ (x0 : Nat) (x1 : Nat) (x2 : Int32), kd x0 = 5 → kd x1 = 2 → k_2 x0 x1 x2 = some r → V X σ 2 [(0, .ref ((xG X).1 x0)), (1, .ref ((xG X).1 x1)), (2, .int x2)] []) (x0 : Nat) (x1 : Nat) (x2 : Int32) (hx0 : kd x0 = 5) (hx1 : kd x1 = 2) (h : f_X4_canBecomeTold_b2 σ k_2 x0 x1 x2 = some r) : V X σ 2 [(0, .ref ((xG X).1 x0)), (1, .ref ((xG X).1 x1)), (2, .int x2)] [] := by
  unfold f_X4_canBecomeTold_b2 at h
  refine r_iload_n C 2 (q := 3) dX4_canBecomeTold_2 rfl rfl ?_
  refine r_aload_n C 0 (q := 4) dX4_canBecomeTold_3 rfl rfl ?_
  refine g_X4_0 C (q := 7) dX4_canBecomeTold_4 q_127 hx0 rfl ?_
  refine g_X0_0 C (q := 10) dX4_canBecomeTold_7 q_63 (kf_X4_0 hx0) rfl ?_
  refine r_icmp_ge C (tgt := 60) (q := 13) dX4_canBecomeTold_10 (by decide) rfl (fun c_10 => ?_) (fun c_10 => ?_)
  · replace h := (if_pos c_10).symm.trans h
    refine r_iconst C (v := 1) (q := 61) dX4_canBecomeTold_60 (by decide) rfl ?_
    obtain rfl := Option.some.inj h
    exact hr _ _ dX4_canBecomeTold_61 (Or.inr rfl)
  · replace h := (if_neg c_10).symm.trans h
    refine r_aload_n C 1 (q := 14) dX4_canBecomeTold_13 rfl rfl ?_
    refine g_X1_3 C (q := 17) dX4_canBecomeTold_14 q_48 hx1 rfl ?_
    refine r_iload_n C 2 (q := 18) dX4_canBecomeTold_17 rfl rfl ?_
    obtain ⟨v_18, e_18, h⟩ := bs h
    refine r_callN C (st := []) (st2 := [.int v_18]) (q := 21) (m_X5_at (xG X) (xl X) (kf_X1_3 hx1) e_18) ok_X5_at nst_12 rfl ⟨Nat.le_of_ble_eq_true rfl, Nat.le_of_ble_eq_true rfl⟩ rfl rfl (Nat.le_of_ble_eq_true rfl) dX4_canBecomeTold_18 rfl (fun hp_18 => ?_)
    refine r_istore_n C (lv' := [(3, .int v_18), (0, .ref ((xG X).1 x0)), (1, .ref ((xG X).1 x1)), (2, .int x2)]) (q := 22) dX4_canBecomeTold_21 rfl (by decide) rfl rfl ?_
    refine r_aload_n C 1 (q := 23) dX4_canBecomeTold_22 rfl rfl ?_
    refine g_X4_2 C (q := 26) dX4_canBecomeTold_23 q_129 hx0 rfl ?_
    refine r_iload_n C 3 (q := 27) dX4_canBecomeTold_26 rfl rfl ?_
    obtain ⟨v_27, e_27, h⟩ := bs h
    refine r_callN C (st := []) (st2 := [.int v_27]) (q := 30) (m_X5_at (xG X) (xl X) (kf_X4_2 hx0) e_27) ok_X5_at nst_12 rfl ⟨Nat.le_of_ble_eq_true rfl, Nat.le_of_ble_eq_true rfl⟩ rfl rfl (Nat.le_of_ble_eq_true rfl) dX4_canBecomeTold_27 rfl (fun hp_27 => ?_)
    refine r_istore C (lv' := [(4, .int v_27), (3, .int v_18), (0, .ref ((xG X).1 x0)), (1, .ref ((xG X).1 x1)), (2, .int x2)]) (q := 32) dX4_canBecomeTold_30 (by decide) rfl rfl ?_
    refine r_iload_n C 1 (q := 33) dX4_canBecomeTold_32 rfl rfl ?_
    refine r_iload C 0 (q := 35) dX4_canBecomeTold_33 rfl rfl ?_
    refine r_icmp_gt C (tgt := 52) (q := 38) dX4_canBecomeTold_35 (by decide) rfl (fun c_35 => ?_) (fun c_35 => ?_)
    · replace h := (if_pos c_35).symm.trans h
      refine r_iconst C (v := 0) (q := 53) dX4_canBecomeTold_52 (by decide) rfl ?_
      obtain rfl := Option.some.inj h
      exact hr _ _ dX4_canBecomeTold_53 (Or.inl rfl)
    · replace h := (if_neg c_35).symm.trans h
      refine r_aload_n C 3 (q := 39) dX4_canBecomeTold_38 rfl rfl ?_
      refine g_X1_0 C (q := 42) dX4_canBecomeTold_39 q_38 hx1 rfl ?_
      refine r_iconst C (v := 4) (q := 43) dX4_canBecomeTold_42 (by decide) rfl ?_
      refine r_icmp_ne C (tgt := 54) (q := 46) dX4_canBecomeTold_43 (by decide) rfl (fun c_43 => ?_) (fun c_43 => ?_)
      · replace h := (if_neg c_43).symm.trans h
        refine r_sub (lv' := [(0, .ref ((xG X).1 x0)), (1, .ref ((xG X).1 x1)), (2, .int x2)]) [2, 3, 4] rfl ?_
        exact w_X4_canBecomeTold_b54 C hr _ hk_2 _ _ _ hx0 hx1 h
      · replace h := (if_pos c_43).symm.trans h
        refine r_iload_n C 1 (q := 47) dX4_canBecomeTold_46 rfl rfl ?_
        refine r_iload C 0 (q := 49) dX4_canBecomeTold_47 rfl rfl ?_
        refine r_icmp_eq C (tgt := 54) (q := 52) dX4_canBecomeTold_49 (by decide) rfl (fun c_49 => ?_) (fun c_49 => ?_)
        · replace h := (if_pos c_49).symm.trans h
          refine r_sub (lv' := [(0, .ref ((xG X).1 x0)), (1, .ref ((xG X).1 x1)), (2, .int x2)]) [2, 3, 4] rfl ?_
          exact w_X4_canBecomeTold_b54 C hr _ hk_2 _ _ _ hx0 hx1 h
        · replace h := (if_neg c_49).symm.trans h
          refine r_iconst C (v := 0) (q := 53) dX4_canBecomeTold_52 (by decide) rfl ?_
          obtain rfl := Option.some.inj h
          exact hr _ _ dX4_canBecomeTold_53 (Or.inl rfl)

theorem w_X4_canBecomeTold_l2 {X : CX} (C : Cok X RX4 cX4_canBecomeTold 5 1 21) {σ : St} {r : Int32} (hr : RtZ X cX4_canBecomeTold r σ) (n : Nat) : ∀ (x0 : Nat) (x1 : Nat) (x2 : Int32), kd x0 = 5 → kd x1 = 2 → f_X4_canBecomeTold_l2 σ n x0 x1 x2 = some r → V X σ 2 [(0, .ref ((xG X).1 x0)), (1, .ref ((xG X).1 x1)), (2, .int x2)] [] := by
  induction n with
  | zero =>
    intro x0 x1 x2 hx0 hx1 h
    exact nomatch (show (none : Option Int32) = some r from h)
  | succ n ih =>
    intro x0 x1 x2 hx0 hx1 h
    exact w_X4_canBecomeTold_b2 C hr _ ih x0 x1 x2 hx0 hx1 h
set_option maxHeartbeats 4000000 in
set_option maxRecDepth 100000 in
theorem w_X4_canBecomeTold_b0 {X : CX} (C : Cok X RX4 cX4_canBecomeTold 5 1 21) {σ : St} {r : Int32} (hr : RtZ X cX4_canBecomeTold r σ) (x0 : Nat) (x1 : Nat) (hx0 : kd x0 = 5) (hx1 : kd x1 = 2) (h : f_X4_canBecomeTold σ x0 x1 = some r) : V X σ 0 [(0, .ref ((xG X).1 x0)), (1, .ref ((xG X).1 x1))] [] := by
  unfold f_X4_canBecomeTold at h
  refine r_iconst C (v := 0) (q := 1) dX4_canBecomeTold_0 (by decide) rfl ?_
  refine r_istore_n C (lv' := [(2, .int 0), (0, .ref ((xG X).1 x0)), (1, .ref ((xG X).1 x1))]) (q := 2) dX4_canBecomeTold_1 rfl (by decide) rfl rfl ?_
  refine r_sub (lv' := [(0, .ref ((xG X).1 x0)), (1, .ref ((xG X).1 x1)), (2, .int 0)]) [1, 2, 0] rfl ?_
  exact w_X4_canBecomeTold_l2 C hr  FU _ _ _ hx0 hx1 h

theorem m_X4_canBecomeTold (G : Gm) (l : Launch) {σ : St} {x0 : Nat} {x1 : Nat} (hx0 : kd x0 = 5) (hx1 : kd x1 = 2) {r : Int32} (h : f_X4_canBecomeTold σ x0 x1 = some r) : Ctr G l yX4_canBecomeTold cX4_canBecomeTold 5 (some .boolean) 1 21 [.ref (G.1 x0), .ref (G.1 x1)] σ (some (.int r)) (r = 0 ∨ r = 1) σ := by
  refine Ctr.z (by decide) (Nat.le_of_ble_eq_true rfl) ?_
  intro X hG C hr
  subst hG
  exact w_X4_canBecomeTold_b0 C hr _ _ hx0 hx1 h
-- X4_keysOfTold
set_option maxHeartbeats 4000000 in
set_option maxRecDepth 100000 in
theorem w_X4_keysOfTold_b73 {X : CX} (C : Cok X RX4 cX4_keysOfTold 6 4 95) {σ : St} {r : Int32} (hr : RtI X cX4_keysOfTold r σ) (k_4 : Nat → Int32 → Int32 → Int32 → Option Int32) (hk_4 : ∀ (x0 : Nat) (x1 : Int32) (x2 : Int32) (x3 : Int32), kd x0 = 5 → k_4 x0 x1 x2 x3 = some r → V X σ 4 [(0, .ref ((xG X).1 x0)), (1, .int x1), (2, .int x2), (3, .int x3)] []) (x0 : Nat) (x1 : Int32) (x2 : Int32) (x3 : Int32) (hx0 : kd x0 = 5) (h : f_X4_keysOfTold_b73 σ k_4 x0 x1 x2 x3 = some r) : V X σ 73 [(0, .ref ((xG X).1 x0)), (1, .int x1), (2, .int x2), (3, .int x3)] [] := by
  unfold f_X4_keysOfTold_b73 at h
  obtain ⟨y_73, e_73, h⟩ := bs h
  refine r_iinc C (v := y_73) (lv' := [(3, .int y_73), (0, .ref ((xG X).1 x0)), (1, .int x1), (2, .int x2)]) (q := 76) 3 dX4_keysOfTold_73 rfl (Option.some.inj e_73) (by decide) rfl rfl ?_
  refine r_goto C (tgt := 4) dX4_keysOfTold_76 (by decide) ?_
  refine r_sub (lv' := [(0, .ref ((xG X).1 x0)), (1, .int x1), (2, .int x2), (3, .int y_73)]) [1, 2, 3, 0] rfl ?_
  exact hk_4 _ _ _ _ hx0 h

set_option maxHeartbeats 4000000 in
set_option maxRecDepth 100000 in
theorem w_X4_keysOfTold_b4 {X : CX} (C : Cok X RX4 cX4_keysOfTold 6 4 95) {σ : St} {r : Int32} (hr : RtI X cX4_keysOfTold r σ) (k_4 : Nat → Int32 → Int32 → Int32 → Option Int32) (hk_4 : ∀ (x0 : Nat) (x1 : Int32) (x2 : Int32) (x3 : Int32), kd x0 = 5 → k_4 x0 x1 x2 x3 = some r → V X σ 4 [(0, .ref ((xG X).1 x0)), (1, .int x1), (2, .int x2), (3, .int x3)] []) (x0 : Nat) (x1 : Int32) (x2 : Int32) (x3 : Int32) (hx0 : kd x0 = 5) (h : f_X4_keysOfTold_b4 σ k_4 x0 x1 x2 x3 = some r) : V X σ 4 [(0, .ref ((xG X).1 x0)), (1, .int x1), (2, .int x2), (3, .int x3)] [] := by
  unfold f_X4_keysOfTold_b4 at h
  refine r_iload_n C 3 (q := 5) dX4_keysOfTold_4 rfl rfl ?_
  refine r_aload_n C 0 (q := 6) dX4_keysOfTold_5 rfl rfl ?_
  refine g_X4_0 C (q := 9) dX4_keysOfTold_6 q_127 hx0 rfl ?_
  refine g_X0_5 C (q := 12) dX4_keysOfTold_9 q_78 (kf_X4_0 hx0) rfl ?_
  refine r_icmp_ge C (tgt := 79) (q := 15) dX4_keysOfTold_12 (by decide) rfl (fun c_12 => ?_) (fun c_12 => ?_)
  · replace h := (if_pos c_12).symm.trans h
    refine r_iload_n C 2 (q := 80) dX4_keysOfTold_79 rfl rfl ?_
    obtain rfl := Option.some.inj h
    exact hr _ _ dX4_keysOfTold_80
  · replace h := (if_neg c_12).symm.trans h
    refine r_aload_n C 0 (q := 16) dX4_keysOfTold_15 rfl rfl ?_
    refine g_X4_0 C (q := 19) dX4_keysOfTold_16 q_127 hx0 rfl ?_
    refine r_iload_n C 3 (q := 20) dX4_keysOfTold_19 rfl rfl ?_
    obtain ⟨v_20, e_20, h⟩ := bs h
    refine r_callV C (ci := 0) (st := []) (st2 := [.ref ((xG X).1 v_20)]) (q := 23) (m_X0_keyAt (xG X) (xl X) (kf_X4_0 hx0) e_20) ok_X0_keyAt (kf_X4_0 hx0) rfl ⟨_, rfl⟩ q_753 rfl ⟨Nat.le_of_ble_eq_true rfl, Nat.le_of_ble_eq_true rfl⟩ rfl rfl (Nat.le_of_ble_eq_true rfl) dX4_keysOfTold_20 rfl (fun hp_20 => ?_)
    refine r_astore C (lv' := [(4, .ref ((xG X).1 v_20)), (0, .ref ((xG X).1 x0)), (1, .int x1), (2, .int x2), (3, .int x3)]) (q := 25) dX4_keysOfTold_23 (by decide) rfl rfl ?_
    refine r_aload_n C 1 (q := 26) dX4_keysOfTold_25 rfl rfl ?_
    refine g_X4_0 C (q := 29) dX4_keysOfTold_26 q_127 hx0 rfl ?_
    refine r_aload C 0 (q := 31) dX4_keysOfTold_29 rfl rfl ?_
    refine r_aload_n C 1 (q := 32) dX4_keysOfTold_31 rfl rfl ?_
    refine g_X4_2 C (q := 35) dX4_keysOfTold_32 q_129 hx0 rfl ?_
    refine r_aload_n C 1 (q := 36) dX4_keysOfTold_35 rfl rfl ?_
    refine g_X4_0 C (q := 39) dX4_keysOfTold_36 q_127 hx0 rfl ?_
    refine r_aload C 0 (q := 41) dX4_keysOfTold_39 rfl rfl ?_
    obtain ⟨v_41, e_41, h⟩ := bs h
    refine r_callV C (ci := 0) (st := [.ref ((xG X).1 7), .ref ((xG X).1 v_20), .ref ((xG X).1 39)]) (st2 := [.int v_41, .ref ((xG X).1 7), .ref ((xG X).1 v_20), .ref ((xG X).1 39)]) (q := 44) (m_X0_openedBesides (xG X) (xl X) (kf_X4_0 hx0) hp_20 e_41) ok_X0_openedBesides (kf_X4_0 hx0) rfl ⟨_, rfl⟩ q_800 rfl ⟨Nat.le_of_ble_eq_true rfl, Nat.le_of_ble_eq_true rfl⟩ rfl rfl (Nat.le_of_ble_eq_true rfl) dX4_keysOfTold_41 rfl (fun hp_41 => ?_)
    obtain ⟨v_44, e_44, h⟩ := bs h
    refine r_callV C (ci := 0) (st := []) (st2 := [.int v_44]) (q := 47) (m_X0_openedAs (xG X) (xl X) (kf_X4_0 hx0) hp_20 (kf_X4_2 hx0) e_44) ok_X0_openedAs (kf_X4_0 hx0) rfl ⟨_, rfl⟩ q_801 rfl ⟨Nat.le_of_ble_eq_true rfl, Nat.le_of_ble_eq_true rfl⟩ rfl rfl (Nat.le_of_ble_eq_true rfl) dX4_keysOfTold_44 rfl (fun hp_44 => ?_)
    refine r_istore C (lv' := [(5, .int v_44), (4, .ref ((xG X).1 v_20)), (0, .ref ((xG X).1 x0)), (1, .int x1), (2, .int x2), (3, .int x3)]) (q := 49) dX4_keysOfTold_47 (by decide) rfl rfl ?_
    refine r_aload_n C 2 (q := 50) dX4_keysOfTold_49 rfl rfl ?_
    refine r_aload C 1 (q := 52) dX4_keysOfTold_50 rfl rfl ?_
    obtain ⟨v_52, e_52, h⟩ := bs h
    refine r_callV C (ci := 4) (st := []) (st2 := [.int v_52]) (q := 55) (m_X4_canBecomeTold (xG X) (xl X) hx0 hp_20 e_52) ok_X4_canBecomeTold hx0 rfl ⟨_, rfl⟩ q_907 rfl ⟨Nat.le_of_ble_eq_true rfl, Nat.le_of_ble_eq_true rfl⟩ rfl rfl (Nat.le_of_ble_eq_true rfl) dX4_keysOfTold_52 rfl (fun hp_52 => ?_)
    refine r_if_eq C (tgt := 73) (q := 58) dX4_keysOfTold_55 (by decide) rfl (fun c_55 => ?_) (fun c_55 => ?_)
    · replace h := (if_pos c_55).symm.trans h
      refine r_sub (lv' := [(0, .ref ((xG X).1 x0)), (1, .int x1), (2, .int x2), (3, .int x3)]) [2, 3, 4, 5] rfl ?_
      exact w_X4_keysOfTold_b73 C hr _ hk_4 _ _ _ _ hx0 h
    · replace h := (if_neg c_55).symm.trans h
      refine r_iload_n C 3 (q := 59) dX4_keysOfTold_58 rfl rfl ?_
      refine r_iload C 0 (q := 61) dX4_keysOfTold_59 rfl rfl ?_
      refine r_iconst C (v := (-1)) (q := 62) dX4_keysOfTold_61 (by decide) rfl ?_
      refine r_ixor C (q := 63) dX4_keysOfTold_62 rfl ?_
      refine r_iand C (q := 64) dX4_keysOfTold_63 rfl ?_
      refine r_if_ne C (tgt := 73) (q := 67) dX4_keysOfTold_64 (by decide) rfl (fun c_64 => ?_) (fun c_64 => ?_)
      · replace h := (if_neg c_64).symm.trans h
        refine r_sub (lv' := [(0, .ref ((xG X).1 x0)), (1, .int x1), (2, .int x2), (3, .int x3)]) [2, 3, 4, 5] rfl ?_
        exact w_X4_keysOfTold_b73 C hr _ hk_4 _ _ _ _ hx0 h
      · replace h := (if_pos c_64).symm.trans h
        refine r_iload_n C 4 (q := 68) dX4_keysOfTold_67 rfl rfl ?_
        refine r_iconst C (v := 1) (q := 69) dX4_keysOfTold_68 (by decide) rfl ?_
        refine r_iload_n C 5 (q := 70) dX4_keysOfTold_69 rfl rfl ?_
        refine r_ishl C (q := 71) dX4_keysOfTold_70 rfl ?_
        refine r_ior C (q := 72) dX4_keysOfTold_71 rfl ?_
        obtain ⟨y_72, e_72, h⟩ := bs h
        refine r_topI (Option.some.inj e_72) ?_
        refine r_istore_n C (lv' := [(2, .int y_72), (5, .int v_44), (4, .ref ((xG X).1 v_20)), (0, .ref ((xG X).1 x0)), (1, .int x1), (3, .int x3)]) (q := 73) dX4_keysOfTold_72 rfl (by decide) rfl rfl ?_
        refine r_sub (lv' := [(0, .ref ((xG X).1 x0)), (1, .int x1), (2, .int y_72), (3, .int x3)]) [3, 4, 0, 5] rfl ?_
        exact w_X4_keysOfTold_b73 C hr _ hk_4 _ _ _ _ hx0 h

theorem w_X4_keysOfTold_l4 {X : CX} (C : Cok X RX4 cX4_keysOfTold 6 4 95) {σ : St} {r : Int32} (hr : RtI X cX4_keysOfTold r σ) (n : Nat) : ∀ (x0 : Nat) (x1 : Int32) (x2 : Int32) (x3 : Int32), kd x0 = 5 → f_X4_keysOfTold_l4 σ n x0 x1 x2 x3 = some r → V X σ 4 [(0, .ref ((xG X).1 x0)), (1, .int x1), (2, .int x2), (3, .int x3)] [] := by
  induction n with
  | zero =>
    intro x0 x1 x2 x3 hx0 h
    exact nomatch (show (none : Option Int32) = some r from h)
  | succ n ih =>
    intro x0 x1 x2 x3 hx0 h
    exact w_X4_keysOfTold_b4 C hr _ ih x0 x1 x2 x3 hx0 h
set_option maxHeartbeats 4000000 in
set_option maxRecDepth 100000 in
theorem w_X4_keysOfTold_b0 {X : CX} (C : Cok X RX4 cX4_keysOfTold 6 4 95) {σ : St} {r : Int32} (hr : RtI X cX4_keysOfTold r σ) (x0 : Nat) (x1 : Int32) (hx0 : kd x0 = 5) (h : f_X4_keysOfTold σ x0 x1 = some r) : V X σ 0 [(0, .ref ((xG X).1 x0)), (1, .int x1)] [] := by
  unfold f_X4_keysOfTold at h
  refine r_iconst C (v := 0) (q := 1) dX4_keysOfTold_0 (by decide) rfl ?_
  refine r_istore_n C (lv' := [(2, .int 0), (0, .ref ((xG X).1 x0)), (1, .int x1)]) (q := 2) dX4_keysOfTold_1 rfl (by decide) rfl rfl ?_
  refine r_iconst C (v := 0) (q := 3) dX4_keysOfTold_2 (by decide) rfl ?_
  refine r_istore_n C (lv' := [(3, .int 0), (2, .int 0), (0, .ref ((xG X).1 x0)), (1, .int x1)]) (q := 4) dX4_keysOfTold_3 rfl (by decide) rfl rfl ?_
  refine r_sub (lv' := [(0, .ref ((xG X).1 x0)), (1, .int x1), (2, .int 0), (3, .int 0)]) [2, 3, 1, 0] rfl ?_
  exact w_X4_keysOfTold_l4 C hr  FU _ _ _ _ hx0 h

theorem m_X4_keysOfTold (G : Gm) (l : Launch) {σ : St} {x0 : Nat} {x1 : Int32} (hx0 : kd x0 = 5) {r : Int32} (h : f_X4_keysOfTold σ x0 x1 = some r) : Ctr G l yX4_keysOfTold cX4_keysOfTold 6 (some .int) 4 95 [.ref (G.1 x0), .int x1] σ (some (.int r)) True σ := by
  refine Ctr.i (by decide) (Nat.le_of_ble_eq_true rfl) ?_
  intro X hG C hr
  subst hG
  exact w_X4_keysOfTold_b0 C hr _ _ hx0 h
-- X5_isShelf
set_option maxHeartbeats 4000000 in
set_option maxRecDepth 100000 in
theorem w_X5_isShelf_b0 {X : CX} (C : Cok X RX5 cX5_isShelf 2 1 22) {σ : St} {r : Int32} (hr : RtZ X cX5_isShelf r σ) (x0 : Nat) (x1 : Int32) (hx0 : kd x0 = 6) (h : f_X5_isShelf x0 x1 = some r) : V X σ 0 [(0, .ref ((xG X).1 x0)), (1, .int x1)] [] := by
  unfold f_X5_isShelf at h
  refine r_iload_n C 1 (q := 1) dX5_isShelf_0 rfl rfl ?_
  refine r_iconst C (v := 0) (q := 2) dX5_isShelf_1 (by decide) rfl ?_
  refine r_bipush C (v := 7) (q := 4) dX5_isShelf_2 (by decide) rfl ?_
  obtain ⟨v_4, e_4, h⟩ := bs h
  refine r_callS C (st := []) (st2 := [.int v_4]) (q := 7) (m_X5_isWithin (xG X) (xl X) e_4) ok_X5_isWithin q_239 rfl ⟨Nat.le_of_ble_eq_true rfl, Nat.le_of_ble_eq_true rfl⟩ rfl rfl (Nat.le_of_ble_eq_true rfl) dX5_isShelf_4 rfl (fun hp_4 => ?_)
  obtain rfl := Option.some.inj h
  exact hr _ _ dX5_isShelf_7 hp_4

theorem m_X5_isShelf (G : Gm) (l : Launch) {σ : St} {x0 : Nat} {x1 : Int32} (hx0 : kd x0 = 6) {r : Int32} (h : f_X5_isShelf x0 x1 = some r) : Ctr G l yX5_isShelf cX5_isShelf 2 (some .boolean) 1 22 [.ref (G.1 x0), .int x1] σ (some (.int r)) (r = 0 ∨ r = 1) σ := by
  refine Ctr.z (by decide) (Nat.le_of_ble_eq_true rfl) ?_
  intro X hG C hr
  subst hG
  exact w_X5_isShelf_b0 C hr _ _ hx0 h
-- X5_refuse
set_option maxHeartbeats 4000000 in
set_option maxRecDepth 100000 in
theorem w_X5_refuse_b0 {X : CX} (C : Cok X RX5 cX5_refuse 3 1 22) {σ' : St} {r : Int32} (hr : RtI X cX5_refuse r σ') (σ : St) (x0 : Nat) (x1 : Int32) (hx0 : kd x0 = 6) (h : f_X5_refuse σ x0 x1 = some (r, σ')) : V X σ 0 [(0, .ref ((xG X).1 x0)), (1, .int x1)] [] := by
  unfold f_X5_refuse at h
  refine r_bipush C (v := (-2)) (q := 2) dX5_refuse_0 (by decide) rfl ?_
  refine r_iload_n C 1 (q := 3) dX5_refuse_2 rfl rfl ?_
  refine r_isub C (q := 4) dX5_refuse_3 rfl ?_
  obtain ⟨y_4, e_4, h⟩ := bs h
  refine r_topI (Option.some.inj e_4) ?_
  refine r_istore_n C (lv' := [(2, .int y_4), (0, .ref ((xG X).1 x0)), (1, .int x1)]) (q := 5) dX5_refuse_4 rfl (by decide) rfl rfl ?_
  refine r_aload_n C 1 (q := 6) dX5_refuse_5 rfl rfl ?_
  refine g_X5_7 C (q := 9) dX5_refuse_6 q_210 hx0 rfl ?_
  refine r_iload_n C 0 (q := 10) dX5_refuse_9 rfl rfl ?_
  refine r_aload_n C 1 (q := 11) dX5_refuse_10 rfl rfl ?_
  refine g_X5_7 C (q := 14) dX5_refuse_11 q_210 hx0 rfl ?_
  refine r_iload_n C 0 (q := 15) dX5_refuse_14 rfl rfl ?_
  obtain ⟨v_15, e_15, h⟩ := bs h
  refine r_callS C (st := [.int y_4, .ref ((xG X).1 1)]) (st2 := [.int v_15, .int y_4, .ref ((xG X).1 1)]) (q := 18) (m_X5_at (xG X) (xl X) (kf_X5_7 hx0) e_15) ok_X5_at q_246 rfl ⟨Nat.le_of_ble_eq_true rfl, Nat.le_of_ble_eq_true rfl⟩ rfl rfl (Nat.le_of_ble_eq_true rfl) dX5_refuse_15 rfl (fun hp_15 => ?_)
  refine r_iconst C (v := 1) (q := 19) dX5_refuse_18 (by decide) rfl ?_
  refine r_iadd C (q := 20) dX5_refuse_19 rfl ?_
  obtain ⟨s_20, e_20, h⟩ := bs h
  refine r_callS C (st := []) (st2 := []) (q := 23) (m_X5_put (xG X) (xl X) (kf_X5_7 hx0) e_20) ok_X5_put q_249 rfl ⟨Nat.le_of_ble_eq_true rfl, Nat.le_of_ble_eq_true rfl⟩ rfl rfl (Nat.le_of_ble_eq_true rfl) dX5_refuse_20 rfl (fun hp_20 => ?_)
  refine r_iload_n C 2 (q := 24) dX5_refuse_23 rfl rfl ?_
  obtain ⟨rfl, rfl⟩ := Prod.mk.inj (Option.some.inj h)
  exact hr _ _ dX5_refuse_24

theorem m_X5_refuse (G : Gm) (l : Launch) {σ σ' : St} {x0 : Nat} {x1 : Int32} (hx0 : kd x0 = 6) {r : Int32} (h : f_X5_refuse σ x0 x1 = some (r, σ')) : Ctr G l yX5_refuse cX5_refuse 3 (some .int) 1 22 [.ref (G.1 x0), .int x1] σ (some (.int r)) True σ' := by
  refine Ctr.i (by decide) (Nat.le_of_ble_eq_true rfl) ?_
  intro X hG C hr
  subst hG
  exact w_X5_refuse_b0 C hr _ _ _ hx0 h
-- X5_shelfAt
set_option maxHeartbeats 4000000 in
set_option maxRecDepth 100000 in
theorem w_X5_shelfAt_b22 {X : CX} (C : Cok X RX5 cX5_shelfAt 2 0 0) {σ : St} {r : Nat} (hr : RtA X cX5_shelfAt 3 r σ) (x0 : Nat) (hx0 : kd x0 = 6) (h : f_X5_shelfAt_b22 σ x0 = some r) : V X σ 22 [(0, .ref ((xG X).1 x0))] [] := by
  unfold f_X5_shelfAt_b22 at h
  refine r_aload_n C 0 (q := 23) dX5_shelfAt_22 rfl rfl ?_
  refine g_X5_6 C (q := 26) dX5_shelfAt_23 q_209 hx0 rfl ?_
  obtain rfl := Option.some.inj h
  exact hr _ _ dX5_shelfAt_26 (kf_X5_6 hx0)

set_option maxHeartbeats 4000000 in
set_option maxRecDepth 100000 in
theorem w_X5_shelfAt_b0 {X : CX} (C : Cok X RX5 cX5_shelfAt 2 0 0) {σ : St} {r : Nat} (hr : RtA X cX5_shelfAt 3 r σ) (x0 : Nat) (x1 : Int32) (hx0 : kd x0 = 6) (h : f_X5_shelfAt σ x0 x1 = some r) : V X σ 0 [(0, .ref ((xG X).1 x0)), (1, .int x1)] [] := by
  unfold f_X5_shelfAt at h
  refine r_iload_n C 1 (q := 1) dX5_shelfAt_0 rfl rfl ?_
  refine r_if_lt C (tgt := 22) (q := 4) dX5_shelfAt_1 (by decide) rfl (fun c_1 => ?_) (fun c_1 => ?_)
  · replace h := (if_pos c_1).symm.trans h
    refine r_sub (lv' := [(0, .ref ((xG X).1 x0))]) [0] rfl ?_
    exact w_X5_shelfAt_b22 C hr  _ hx0 h
  · replace h := (if_neg c_1).symm.trans h
    refine r_iload_n C 1 (q := 5) dX5_shelfAt_4 rfl rfl ?_
    refine r_aload_n C 0 (q := 6) dX5_shelfAt_5 rfl rfl ?_
    refine g_X5_5 C (q := 9) dX5_shelfAt_6 q_208 hx0 rfl ?_
    refine r_alen11 C (q := 10) dX5_shelfAt_9 (kf_X5_5 hx0) rfl ?_
    refine r_icmp_ge C (tgt := 22) (q := 13) dX5_shelfAt_10 (by decide) rfl (fun c_10 => ?_) (fun c_10 => ?_)
    · replace h := (if_pos c_10).symm.trans h
      refine r_sub (lv' := [(0, .ref ((xG X).1 x0))]) [0] rfl ?_
      exact w_X5_shelfAt_b22 C hr  _ hx0 h
    · replace h := (if_neg c_10).symm.trans h
      refine r_aload_n C 0 (q := 14) dX5_shelfAt_13 rfl rfl ?_
      refine g_X5_5 C (q := 17) dX5_shelfAt_14 q_208 hx0 rfl ?_
      refine r_iload_n C 1 (q := 18) dX5_shelfAt_17 rfl rfl ?_
      obtain ⟨v_18, e_18, h⟩ := bs h
      refine r_aaldS C (q := 19) dX5_shelfAt_18 (kf_X5_5 hx0) e_18 rfl ?_
      refine r_goto C (tgt := 26) dX5_shelfAt_19 (by decide) ?_
      obtain rfl := Option.some.inj h
      exact hr _ _ dX5_shelfAt_26 (kS (kf_X5_5 hx0) e_18)

theorem m_X5_shelfAt (G : Gm) (l : Launch) {σ : St} {x0 : Nat} {x1 : Int32} (hx0 : kd x0 = 6) {r : Nat} (h : f_X5_shelfAt σ x0 x1 = some r) : Ctr G l yX5_shelfAt cX5_shelfAt 2 (some (.object "CutDeeper$Shelf")) 0 0 [.ref (G.1 x0), .int x1] σ (some (.ref (G.1 r))) (kd r = 3) σ := by
  refine Ctr.a (by first | exact Or.inl ⟨_, rfl⟩ | exact Or.inr ⟨_, rfl⟩) (by decide) (Nat.le_of_ble_eq_true rfl) ?_
  intro X hG C hr
  subst hG
  exact w_X5_shelfAt_b0 C hr _ _ hx0 h
-- X5_row
set_option maxHeartbeats 4000000 in
set_option maxRecDepth 100000 in
theorem w_X5_row_b27 {X : CX} (C : Cok X RX5 cX5_row 4 2 46) {σ' : St} {r : Int32} (hr : RtI X cX5_row r σ') (σ : St) (x0 : Nat) (hx0 : kd x0 = 6) (h : f_X5_row_b27 σ x0 = some (r, σ')) : V X σ 27 [(0, .ref ((xG X).1 x0))] [] := by
  unfold f_X5_row_b27 at h
  refine r_aload_n C 0 (q := 28) dX5_row_27 rfl rfl ?_
  refine r_bipush C (v := (-2)) (q := 30) dX5_row_28 (by decide) rfl ?_
  obtain ⟨v_30, s_30, e_30, h⟩ := bs2 h
  refine r_callV C (ci := 5) (st := []) (st2 := [.int v_30]) (q := 33) (m_X5_refuse (xG X) (xl X) hx0 e_30) ok_X5_refuse hx0 rfl ⟨_, rfl⟩ q_242 rfl ⟨Nat.le_of_ble_eq_true rfl, Nat.le_of_ble_eq_true rfl⟩ rfl rfl (Nat.le_of_ble_eq_true rfl) dX5_row_30 rfl (fun hp_30 => ?_)
  obtain ⟨rfl, rfl⟩ := Prod.mk.inj (Option.some.inj h)
  exact hr _ _ dX5_row_33

set_option maxHeartbeats 4000000 in
set_option maxRecDepth 100000 in
theorem w_X5_row_b0 {X : CX} (C : Cok X RX5 cX5_row 4 2 46) {σ' : St} {r : Int32} (hr : RtI X cX5_row r σ') (σ : St) (x0 : Nat) (x1 : Int32) (x2 : Int32) (x3 : Int32) (hx0 : kd x0 = 6) (h : f_X5_row σ x0 x1 x2 x3 = some (r, σ')) : V X σ 0 [(0, .ref ((xG X).1 x0)), (1, .int x1), (2, .int x2), (3, .int x3)] [] := by
  unfold f_X5_row at h
  refine r_aload_n C 0 (q := 1) dX5_row_0 rfl rfl ?_
  refine r_iload_n C 1 (q := 2) dX5_row_1 rfl rfl ?_
  obtain ⟨v_2, e_2, h⟩ := bs h
  refine r_callV C (ci := 5) (st := []) (st2 := [.int v_2]) (q := 5) (m_X5_isShelf (xG X) (xl X) hx0 e_2) ok_X5_isShelf hx0 rfl ⟨_, rfl⟩ q_235 rfl ⟨Nat.le_of_ble_eq_true rfl, Nat.le_of_ble_eq_true rfl⟩ rfl rfl (Nat.le_of_ble_eq_true rfl) dX5_row_2 rfl (fun hp_2 => ?_)
  refine r_if_eq C (tgt := 27) (q := 8) dX5_row_5 (by decide) rfl (fun c_5 => ?_) (fun c_5 => ?_)
  · replace h := (if_pos c_5).symm.trans h
    refine r_sub (lv' := [(0, .ref ((xG X).1 x0))]) [0] rfl ?_
    exact w_X5_row_b27 C hr  _ _ hx0 h
  · replace h := (if_neg c_5).symm.trans h
    refine r_iload_n C 2 (q := 9) dX5_row_8 rfl rfl ?_
    refine r_iconst C (v := 0) (q := 10) dX5_row_9 (by decide) rfl ?_
    refine r_iconst C (v := 4) (q := 11) dX5_row_10 (by decide) rfl ?_
    obtain ⟨v_11, e_11, h⟩ := bs h
    refine r_callS C (st := []) (st2 := [.int v_11]) (q := 14) (m_X5_isWithin (xG X) (xl X) e_11) ok_X5_isWithin q_239 rfl ⟨Nat.le_of_ble_eq_true rfl, Nat.le_of_ble_eq_true rfl⟩ rfl rfl (Nat.le_of_ble_eq_true rfl) dX5_row_11 rfl (fun hp_11 => ?_)
    refine r_if_eq C (tgt := 27) (q := 17) dX5_row_14 (by decide) rfl (fun c_14 => ?_) (fun c_14 => ?_)
    · replace h := (if_pos c_14).symm.trans h
      refine r_sub (lv' := [(0, .ref ((xG X).1 x0))]) [0] rfl ?_
      exact w_X5_row_b27 C hr  _ _ hx0 h
    · replace h := (if_neg c_14).symm.trans h
      refine r_iload_n C 3 (q := 18) dX5_row_17 rfl rfl ?_
      refine r_iconst C (v := 0) (q := 19) dX5_row_18 (by decide) rfl ?_
      refine r_bipush C (v := 40) (q := 21) dX5_row_19 (by decide) rfl ?_
      obtain ⟨v_21, e_21, h⟩ := bs h
      refine r_callS C (st := []) (st2 := [.int v_21]) (q := 24) (m_X5_isWithin (xG X) (xl X) e_21) ok_X5_isWithin q_239 rfl ⟨Nat.le_of_ble_eq_true rfl, Nat.le_of_ble_eq_true rfl⟩ rfl rfl (Nat.le_of_ble_eq_true rfl) dX5_row_21 rfl (fun hp_21 => ?_)
      refine r_if_ne C (tgt := 34) (q := 27) dX5_row_24 (by decide) rfl (fun c_24 => ?_) (fun c_24 => ?_)
      · replace h := (if_neg c_24).symm.trans h
        refine r_aload_n C 0 (q := 35) dX5_row_34 rfl rfl ?_
        refine r_iload_n C 1 (q := 36) dX5_row_35 rfl rfl ?_
        obtain ⟨v_36, e_36, h⟩ := bs h
        refine r_callV C (ci := 5) (st := []) (st2 := [.ref ((xG X).1 v_36)]) (q := 39) (m_X5_shelfAt (xG X) (xl X) hx0 e_36) ok_X5_shelfAt hx0 rfl ⟨_, rfl⟩ q_252 rfl ⟨Nat.le_of_ble_eq_true rfl, Nat.le_of_ble_eq_true rfl⟩ rfl rfl (Nat.le_of_ble_eq_true rfl) dX5_row_36 rfl (fun hp_36 => ?_)
        refine r_iload_n C 2 (q := 40) dX5_row_39 rfl rfl ?_
        refine r_iload_n C 3 (q := 41) dX5_row_40 rfl rfl ?_
        obtain ⟨s_41, e_41, h⟩ := bs h
        refine r_callV C (ci := 2) (st := []) (st2 := []) (q := 44) (m_X2_beginRow (xG X) (xl X) hp_36 e_41) ok_X2_beginRow hp_36 rfl ⟨_, rfl⟩ q_256 rfl ⟨Nat.le_of_ble_eq_true rfl, Nat.le_of_ble_eq_true rfl⟩ rfl rfl (Nat.le_of_ble_eq_true rfl) dX5_row_41 rfl (fun hp_41 => ?_)
        refine r_iconst C (v := 1) (q := 45) dX5_row_44 (by decide) rfl ?_
        obtain ⟨rfl, rfl⟩ := Prod.mk.inj (Option.some.inj h)
        exact hr _ _ dX5_row_45
      · replace h := (if_pos c_24).symm.trans h
        refine r_sub (lv' := [(0, .ref ((xG X).1 x0))]) [0] rfl ?_
        exact w_X5_row_b27 C hr  _ _ hx0 h

theorem m_X5_row (G : Gm) (l : Launch) {σ σ' : St} {x0 : Nat} {x1 : Int32} {x2 : Int32} {x3 : Int32} (hx0 : kd x0 = 6) {r : Int32} (h : f_X5_row σ x0 x1 x2 x3 = some (r, σ')) : Ctr G l yX5_row cX5_row 4 (some .int) 2 46 [.ref (G.1 x0), .int x1, .int x2, .int x3] σ (some (.int r)) True σ' := by
  refine Ctr.i (by decide) (Nat.le_of_ble_eq_true rfl) ?_
  intro X hG C hr
  subst hG
  exact w_X5_row_b0 C hr _ _ _ _ _ hx0 h
-- X5_set
set_option maxHeartbeats 4000000 in
set_option maxRecDepth 100000 in
theorem w_X5_set_b0 {X : CX} (C : Cok X RX5 cX5_set 6 4 86) {σ' : St} {r : Int32} (hr : RtI X cX5_set r σ') (σ : St) (x0 : Nat) (x1 : Int32) (x2 : Int32) (x3 : Int64) (hx0 : kd x0 = 6) (h : f_X5_set σ x0 x1 x2 x3 = some (r, σ')) : V X σ 0 [(0, .ref ((xG X).1 x0)), (1, .int x1), (2, .int x2), (3, .long x3)] [] := by
  unfold f_X5_set at h
  refine r_aload_n C 0 (q := 1) dX5_set_0 rfl rfl ?_
  refine r_iload_n C 1 (q := 2) dX5_set_1 rfl rfl ?_
  obtain ⟨v_2, e_2, h⟩ := bs h
  refine r_callV C (ci := 5) (st := []) (st2 := [.int v_2]) (q := 5) (m_X5_isShelf (xG X) (xl X) hx0 e_2) ok_X5_isShelf hx0 rfl ⟨_, rfl⟩ q_235 rfl ⟨Nat.le_of_ble_eq_true rfl, Nat.le_of_ble_eq_true rfl⟩ rfl rfl (Nat.le_of_ble_eq_true rfl) dX5_set_2 rfl (fun hp_2 => ?_)
  refine r_if_ne C (tgt := 15) (q := 8) dX5_set_5 (by decide) rfl (fun c_5 => ?_) (fun c_5 => ?_)
  · replace h := (if_neg c_5).symm.trans h
    refine r_aload_n C 0 (q := 16) dX5_set_15 rfl rfl ?_
    refine r_iload_n C 1 (q := 17) dX5_set_16 rfl rfl ?_
    obtain ⟨v_17, e_17, h⟩ := bs h
    refine r_callV C (ci := 5) (st := []) (st2 := [.ref ((xG X).1 v_17)]) (q := 20) (m_X5_shelfAt (xG X) (xl X) hx0 e_17) ok_X5_shelfAt hx0 rfl ⟨_, rfl⟩ q_252 rfl ⟨Nat.le_of_ble_eq_true rfl, Nat.le_of_ble_eq_true rfl⟩ rfl rfl (Nat.le_of_ble_eq_true rfl) dX5_set_17 rfl (fun hp_17 => ?_)
    refine r_astore C (lv' := [(5, .ref ((xG X).1 v_17)), (0, .ref ((xG X).1 x0)), (1, .int x1), (2, .int x2), (3, .long x3)]) (q := 22) dX5_set_20 (by decide) rfl rfl ?_
    refine r_aload C 0 (q := 24) dX5_set_22 rfl rfl ?_
    obtain ⟨v_24, e_24, h⟩ := bs h
    refine r_callV C (ci := 2) (st := []) (st2 := [.int v_24]) (q := 27) (m_X2_isRow (xG X) (xl X) hp_17 e_24) ok_X2_isRow hp_17 rfl ⟨_, rfl⟩ q_267 rfl ⟨Nat.le_of_ble_eq_true rfl, Nat.le_of_ble_eq_true rfl⟩ rfl rfl (Nat.le_of_ble_eq_true rfl) dX5_set_24 rfl (fun hp_24 => ?_)
    refine r_if_ne C (tgt := 40) (q := 30) dX5_set_27 (by decide) rfl (fun c_27 => ?_) (fun c_27 => ?_)
    · replace h := (if_neg c_27).symm.trans h
      refine r_iload_n C 3 (q := 41) dX5_set_40 rfl rfl ?_
      refine r_iconst C (v := 0) (q := 42) dX5_set_41 (by decide) rfl ?_
      refine r_aload C 0 (q := 44) dX5_set_42 rfl rfl ?_
      refine g_X2_1 C (q := 47) dX5_set_44 q_192 hp_17 rfl ?_
      refine r_iconst C (v := 1) (q := 48) dX5_set_47 (by decide) rfl ?_
      refine r_isub C (q := 49) dX5_set_48 rfl ?_
      obtain ⟨v_49, e_49, h⟩ := bs h
      refine r_callS C (st := []) (st2 := [.int v_49]) (q := 52) (m_X5_isWithin (xG X) (xl X) e_49) ok_X5_isWithin q_239 rfl ⟨Nat.le_of_ble_eq_true rfl, Nat.le_of_ble_eq_true rfl⟩ rfl rfl (Nat.le_of_ble_eq_true rfl) dX5_set_49 rfl (fun hp_49 => ?_)
      refine r_if_ne C (tgt := 62) (q := 55) dX5_set_52 (by decide) rfl (fun c_52 => ?_) (fun c_52 => ?_)
      · replace h := (if_neg c_52).symm.trans h
        refine r_aload C 0 (q := 64) dX5_set_62 rfl rfl ?_
        refine r_iload_n C 3 (q := 65) dX5_set_64 rfl rfl ?_
        refine r_lload_n C 4 (q := 66) dX5_set_65 rfl rfl ?_
        obtain ⟨s_66, e_66, h⟩ := bs h
        refine r_callV C (ci := 2) (st := []) (st2 := []) (q := 69) (m_X2_putElement (xG X) (xl X) hp_17 e_66) ok_X2_putElement hp_17 rfl ⟨_, rfl⟩ q_280 rfl ⟨Nat.le_of_ble_eq_true rfl, Nat.le_of_ble_eq_true rfl⟩ rfl rfl (Nat.le_of_ble_eq_true rfl) dX5_set_66 rfl (fun hp_66 => ?_)
        refine r_iconst C (v := 1) (q := 70) dX5_set_69 (by decide) rfl ?_
        obtain ⟨rfl, rfl⟩ := Prod.mk.inj (Option.some.inj h)
        exact hr _ _ dX5_set_70
      · replace h := (if_pos c_52).symm.trans h
        refine r_aload_n C 1 (q := 56) dX5_set_55 rfl rfl ?_
        refine r_bipush C (v := (-2)) (q := 58) dX5_set_56 (by decide) rfl ?_
        obtain ⟨v_58, s_58, e_58, h⟩ := bs2 h
        refine r_callV C (ci := 5) (st := []) (st2 := [.int v_58]) (q := 61) (m_X5_refuse (xG X) (xl X) hx0 e_58) ok_X5_refuse hx0 rfl ⟨_, rfl⟩ q_242 rfl ⟨Nat.le_of_ble_eq_true rfl, Nat.le_of_ble_eq_true rfl⟩ rfl rfl (Nat.le_of_ble_eq_true rfl) dX5_set_58 rfl (fun hp_58 => ?_)
        obtain ⟨rfl, rfl⟩ := Prod.mk.inj (Option.some.inj h)
        exact hr _ _ dX5_set_61
    · replace h := (if_pos c_27).symm.trans h
      refine r_aload_n C 1 (q := 31) dX5_set_30 rfl rfl ?_
      refine r_aload C 0 (q := 33) dX5_set_31 rfl rfl ?_
      obtain ⟨v_33, e_33, h⟩ := bs h
      refine r_callV C (ci := 2) (st := [.ref ((xG X).1 x0)]) (st2 := [.int v_33, .ref ((xG X).1 x0)]) (q := 36) (m_X2_whyNoRow (xG X) (xl X) hp_17 e_33) ok_X2_whyNoRow hp_17 rfl ⟨_, rfl⟩ q_272 rfl ⟨Nat.le_of_ble_eq_true rfl, Nat.le_of_ble_eq_true rfl⟩ rfl rfl (Nat.le_of_ble_eq_true rfl) dX5_set_33 rfl (fun hp_33 => ?_)
      obtain ⟨v_36, s_36, e_36, h⟩ := bs2 h
      refine r_callV C (ci := 5) (st := []) (st2 := [.int v_36]) (q := 39) (m_X5_refuse (xG X) (xl X) hx0 e_36) ok_X5_refuse hx0 rfl ⟨_, rfl⟩ q_242 rfl ⟨Nat.le_of_ble_eq_true rfl, Nat.le_of_ble_eq_true rfl⟩ rfl rfl (Nat.le_of_ble_eq_true rfl) dX5_set_36 rfl (fun hp_36 => ?_)
      obtain ⟨rfl, rfl⟩ := Prod.mk.inj (Option.some.inj h)
      exact hr _ _ dX5_set_39
  · replace h := (if_pos c_5).symm.trans h
    refine r_aload_n C 0 (q := 9) dX5_set_8 rfl rfl ?_
    refine r_bipush C (v := (-2)) (q := 11) dX5_set_9 (by decide) rfl ?_
    obtain ⟨v_11, s_11, e_11, h⟩ := bs2 h
    refine r_callV C (ci := 5) (st := []) (st2 := [.int v_11]) (q := 14) (m_X5_refuse (xG X) (xl X) hx0 e_11) ok_X5_refuse hx0 rfl ⟨_, rfl⟩ q_242 rfl ⟨Nat.le_of_ble_eq_true rfl, Nat.le_of_ble_eq_true rfl⟩ rfl rfl (Nat.le_of_ble_eq_true rfl) dX5_set_11 rfl (fun hp_11 => ?_)
    obtain ⟨rfl, rfl⟩ := Prod.mk.inj (Option.some.inj h)
    exact hr _ _ dX5_set_14

theorem m_X5_set (G : Gm) (l : Launch) {σ σ' : St} {x0 : Nat} {x1 : Int32} {x2 : Int32} {x3 : Int64} (hx0 : kd x0 = 6) {r : Int32} (h : f_X5_set σ x0 x1 x2 x3 = some (r, σ')) : Ctr G l yX5_set cX5_set 6 (some .int) 4 86 [.ref (G.1 x0), .int x1, .int x2, .long x3] σ (some (.int r)) True σ' := by
  refine Ctr.i (by decide) (Nat.le_of_ble_eq_true rfl) ?_
  intro X hG C hr
  subst hG
  exact w_X5_set_b0 C hr _ _ _ _ _ hx0 h
-- X5_copy
set_option maxHeartbeats 4000000 in
set_option maxRecDepth 100000 in
theorem w_X5_copy_b126 {X : CX} (C : Cok X RX5 cX5_copy 8 2 44) {σ' : St} {r : Int32} (hr : RtI X cX5_copy r σ') (σ : St) (x0 : Nat) (hx0 : kd x0 = 6) (h : f_X5_copy_b126 σ x0 = some (r, σ')) : V X σ 126 [(0, .ref ((xG X).1 x0))] [] := by
  unfold f_X5_copy_b126 at h
  refine r_aload_n C 0 (q := 127) dX5_copy_126 rfl rfl ?_
  refine r_bipush C (v := (-2)) (q := 129) dX5_copy_127 (by decide) rfl ?_
  obtain ⟨v_129, s_129, e_129, h⟩ := bs2 h
  refine r_callV C (ci := 5) (st := []) (st2 := [.int v_129]) (q := 132) (m_X5_refuse (xG X) (xl X) hx0 e_129) ok_X5_refuse hx0 rfl ⟨_, rfl⟩ q_242 rfl ⟨Nat.le_of_ble_eq_true rfl, Nat.le_of_ble_eq_true rfl⟩ rfl rfl (Nat.le_of_ble_eq_true rfl) dX5_copy_129 rfl (fun hp_129 => ?_)
  obtain ⟨rfl, rfl⟩ := Prod.mk.inj (Option.some.inj h)
  exact hr _ _ dX5_copy_132

set_option maxHeartbeats 4000000 in
set_option maxRecDepth 100000 in
theorem w_X5_copy_b76 {X : CX} (C : Cok X RX5 cX5_copy 8 2 44) {σ' : St} {r : Int32} (hr : RtI X cX5_copy r σ') (σ : St) (x0 : Nat) (hx0 : kd x0 = 6) (h : f_X5_copy_b76 σ x0 = some (r, σ')) : V X σ 76 [(0, .ref ((xG X).1 x0))] [] := by
  unfold f_X5_copy_b76 at h
  refine r_aload_n C 0 (q := 77) dX5_copy_76 rfl rfl ?_
  refine r_bipush C (v := (-4)) (q := 79) dX5_copy_77 (by decide) rfl ?_
  obtain ⟨v_79, s_79, e_79, h⟩ := bs2 h
  refine r_callV C (ci := 5) (st := []) (st2 := [.int v_79]) (q := 82) (m_X5_refuse (xG X) (xl X) hx0 e_79) ok_X5_refuse hx0 rfl ⟨_, rfl⟩ q_242 rfl ⟨Nat.le_of_ble_eq_true rfl, Nat.le_of_ble_eq_true rfl⟩ rfl rfl (Nat.le_of_ble_eq_true rfl) dX5_copy_79 rfl (fun hp_79 => ?_)
  obtain ⟨rfl, rfl⟩ := Prod.mk.inj (Option.some.inj h)
  exact hr _ _ dX5_copy_82

set_option maxHeartbeats 4000000 in
set_option maxRecDepth 100000 in
theorem w_X5_copy_b53 {X : CX} (C : Cok X RX5 cX5_copy 8 2 44) {σ' : St} {r : Int32} (hr : RtI X cX5_copy r σ') (σ : St) (x0 : Nat) (hx0 : kd x0 = 6) (h : f_X5_copy_b53 σ x0 = some (r, σ')) : V X σ 53 [(0, .ref ((xG X).1 x0))] [] := by
  unfold f_X5_copy_b53 at h
  refine r_aload_n C 0 (q := 54) dX5_copy_53 rfl rfl ?_
  refine r_bipush C (v := (-3)) (q := 56) dX5_copy_54 (by decide) rfl ?_
  obtain ⟨v_56, s_56, e_56, h⟩ := bs2 h
  refine r_callV C (ci := 5) (st := []) (st2 := [.int v_56]) (q := 59) (m_X5_refuse (xG X) (xl X) hx0 e_56) ok_X5_refuse hx0 rfl ⟨_, rfl⟩ q_242 rfl ⟨Nat.le_of_ble_eq_true rfl, Nat.le_of_ble_eq_true rfl⟩ rfl rfl (Nat.le_of_ble_eq_true rfl) dX5_copy_56 rfl (fun hp_56 => ?_)
  obtain ⟨rfl, rfl⟩ := Prod.mk.inj (Option.some.inj h)
  exact hr _ _ dX5_copy_59

set_option maxHeartbeats 4000000 in
set_option maxRecDepth 100000 in
theorem w_X5_copy_b16 {X : CX} (C : Cok X RX5 cX5_copy 8 2 44) {σ' : St} {r : Int32} (hr : RtI X cX5_copy r σ') (σ : St) (x0 : Nat) (hx0 : kd x0 = 6) (h : f_X5_copy_b16 σ x0 = some (r, σ')) : V X σ 16 [(0, .ref ((xG X).1 x0))] [] := by
  unfold f_X5_copy_b16 at h
  refine r_aload_n C 0 (q := 17) dX5_copy_16 rfl rfl ?_
  refine r_bipush C (v := (-2)) (q := 19) dX5_copy_17 (by decide) rfl ?_
  obtain ⟨v_19, s_19, e_19, h⟩ := bs2 h
  refine r_callV C (ci := 5) (st := []) (st2 := [.int v_19]) (q := 22) (m_X5_refuse (xG X) (xl X) hx0 e_19) ok_X5_refuse hx0 rfl ⟨_, rfl⟩ q_242 rfl ⟨Nat.le_of_ble_eq_true rfl, Nat.le_of_ble_eq_true rfl⟩ rfl rfl (Nat.le_of_ble_eq_true rfl) dX5_copy_19 rfl (fun hp_19 => ?_)
  obtain ⟨rfl, rfl⟩ := Prod.mk.inj (Option.some.inj h)
  exact hr _ _ dX5_copy_22

set_option maxHeartbeats 4000000 in
set_option maxRecDepth 100000 in
theorem w_X5_copy_b0 {X : CX} (C : Cok X RX5 cX5_copy 8 2 44) {σ' : St} {r : Int32} (hr : RtI X cX5_copy r σ') (σ : St) (x0 : Nat) (x1 : Int32) (x2 : Int32) (x3 : Int32) (x4 : Int32) (x5 : Int32) (hx0 : kd x0 = 6) (h : f_X5_copy σ x0 x1 x2 x3 x4 x5 = some (r, σ')) : V X σ 0 [(0, .ref ((xG X).1 x0)), (1, .int x1), (2, .int x2), (3, .int x3), (4, .int x4), (5, .int x5)] [] := by
  unfold f_X5_copy at h
  refine r_aload_n C 0 (q := 1) dX5_copy_0 rfl rfl ?_
  refine r_iload_n C 1 (q := 2) dX5_copy_1 rfl rfl ?_
  obtain ⟨v_2, e_2, h⟩ := bs h
  refine r_callV C (ci := 5) (st := []) (st2 := [.int v_2]) (q := 5) (m_X5_isShelf (xG X) (xl X) hx0 e_2) ok_X5_isShelf hx0 rfl ⟨_, rfl⟩ q_235 rfl ⟨Nat.le_of_ble_eq_true rfl, Nat.le_of_ble_eq_true rfl⟩ rfl rfl (Nat.le_of_ble_eq_true rfl) dX5_copy_2 rfl (fun hp_2 => ?_)
  refine r_if_eq C (tgt := 16) (q := 8) dX5_copy_5 (by decide) rfl (fun c_5 => ?_) (fun c_5 => ?_)
  · replace h := (if_pos c_5).symm.trans h
    refine r_sub (lv' := [(0, .ref ((xG X).1 x0))]) [0] rfl ?_
    exact w_X5_copy_b16 C hr  _ _ hx0 h
  · replace h := (if_neg c_5).symm.trans h
    refine r_aload_n C 0 (q := 9) dX5_copy_8 rfl rfl ?_
    refine r_iload_n C 2 (q := 10) dX5_copy_9 rfl rfl ?_
    obtain ⟨v_10, e_10, h⟩ := bs h
    refine r_callV C (ci := 5) (st := []) (st2 := [.int v_10]) (q := 13) (m_X5_isShelf (xG X) (xl X) hx0 e_10) ok_X5_isShelf hx0 rfl ⟨_, rfl⟩ q_235 rfl ⟨Nat.le_of_ble_eq_true rfl, Nat.le_of_ble_eq_true rfl⟩ rfl rfl (Nat.le_of_ble_eq_true rfl) dX5_copy_10 rfl (fun hp_10 => ?_)
    refine r_if_ne C (tgt := 23) (q := 16) dX5_copy_13 (by decide) rfl (fun c_13 => ?_) (fun c_13 => ?_)
    · replace h := (if_neg c_13).symm.trans h
      refine r_aload_n C 0 (q := 24) dX5_copy_23 rfl rfl ?_
      refine r_iload_n C 1 (q := 25) dX5_copy_24 rfl rfl ?_
      obtain ⟨v_25, e_25, h⟩ := bs h
      refine r_callV C (ci := 5) (st := []) (st2 := [.ref ((xG X).1 v_25)]) (q := 28) (m_X5_shelfAt (xG X) (xl X) hx0 e_25) ok_X5_shelfAt hx0 rfl ⟨_, rfl⟩ q_252 rfl ⟨Nat.le_of_ble_eq_true rfl, Nat.le_of_ble_eq_true rfl⟩ rfl rfl (Nat.le_of_ble_eq_true rfl) dX5_copy_25 rfl (fun hp_25 => ?_)
      refine r_astore C (lv' := [(6, .ref ((xG X).1 v_25)), (0, .ref ((xG X).1 x0)), (1, .int x1), (2, .int x2), (3, .int x3), (4, .int x4), (5, .int x5)]) (q := 30) dX5_copy_28 (by decide) rfl rfl ?_
      refine r_aload_n C 1 (q := 31) dX5_copy_30 rfl rfl ?_
      refine r_iload_n C 3 (q := 32) dX5_copy_31 rfl rfl ?_
      obtain ⟨v_32, e_32, h⟩ := bs h
      refine r_callV C (ci := 5) (st := []) (st2 := [.ref ((xG X).1 v_32)]) (q := 35) (m_X5_shelfAt (xG X) (xl X) hx0 e_32) ok_X5_shelfAt hx0 rfl ⟨_, rfl⟩ q_252 rfl ⟨Nat.le_of_ble_eq_true rfl, Nat.le_of_ble_eq_true rfl⟩ rfl rfl (Nat.le_of_ble_eq_true rfl) dX5_copy_32 rfl (fun hp_32 => ?_)
      refine r_astore C (lv' := [(7, .ref ((xG X).1 v_32)), (6, .ref ((xG X).1 v_25)), (0, .ref ((xG X).1 x0)), (1, .int x1), (2, .int x2), (3, .int x3), (4, .int x4), (5, .int x5)]) (q := 37) dX5_copy_35 (by decide) rfl rfl ?_
      refine r_aload C 1 (q := 39) dX5_copy_37 rfl rfl ?_
      obtain ⟨v_39, e_39, h⟩ := bs h
      refine r_callV C (ci := 2) (st := []) (st2 := [.int v_39]) (q := 42) (m_X2_isKey (xG X) (xl X) hp_25 e_39) ok_X2_isKey hp_25 rfl ⟨_, rfl⟩ q_297 rfl ⟨Nat.le_of_ble_eq_true rfl, Nat.le_of_ble_eq_true rfl⟩ rfl rfl (Nat.le_of_ble_eq_true rfl) dX5_copy_39 rfl (fun hp_39 => ?_)
      refine r_if_ne C (tgt := 53) (q := 45) dX5_copy_42 (by decide) rfl (fun c_42 => ?_) (fun c_42 => ?_)
      · replace h := (if_neg c_42).symm.trans h
        refine r_sub (lv' := [(0, .ref ((xG X).1 x0))]) [2] rfl ?_
        exact w_X5_copy_b53 C hr  _ _ hx0 h
      · replace h := (if_pos c_42).symm.trans h
        refine r_aload C 0 (q := 47) dX5_copy_45 rfl rfl ?_
        obtain ⟨v_47, e_47, h⟩ := bs h
        refine r_callV C (ci := 2) (st := []) (st2 := [.int v_47]) (q := 50) (m_X2_isKey (xG X) (xl X) hp_32 e_47) ok_X2_isKey hp_32 rfl ⟨_, rfl⟩ q_297 rfl ⟨Nat.le_of_ble_eq_true rfl, Nat.le_of_ble_eq_true rfl⟩ rfl rfl (Nat.le_of_ble_eq_true rfl) dX5_copy_47 rfl (fun hp_47 => ?_)
        refine r_if_eq C (tgt := 60) (q := 53) dX5_copy_50 (by decide) rfl (fun c_50 => ?_) (fun c_50 => ?_)
        · replace h := (if_pos c_50).symm.trans h
          refine r_aload C 1 (q := 62) dX5_copy_60 rfl rfl ?_
          obtain ⟨v_62, e_62, h⟩ := bs h
          refine r_callV C (ci := 2) (st := []) (st2 := [.int v_62]) (q := 65) (m_X2_isRow (xG X) (xl X) hp_25 e_62) ok_X2_isRow hp_25 rfl ⟨_, rfl⟩ q_267 rfl ⟨Nat.le_of_ble_eq_true rfl, Nat.le_of_ble_eq_true rfl⟩ rfl rfl (Nat.le_of_ble_eq_true rfl) dX5_copy_62 rfl (fun hp_62 => ?_)
          refine r_if_eq C (tgt := 76) (q := 68) dX5_copy_65 (by decide) rfl (fun c_65 => ?_) (fun c_65 => ?_)
          · replace h := (if_pos c_65).symm.trans h
            refine r_sub (lv' := [(0, .ref ((xG X).1 x0))]) [2] rfl ?_
            exact w_X5_copy_b76 C hr  _ _ hx0 h
          · replace h := (if_neg c_65).symm.trans h
            refine r_aload C 0 (q := 70) dX5_copy_68 rfl rfl ?_
            obtain ⟨v_70, e_70, h⟩ := bs h
            refine r_callV C (ci := 2) (st := []) (st2 := [.int v_70]) (q := 73) (m_X2_isRow (xG X) (xl X) hp_32 e_70) ok_X2_isRow hp_32 rfl ⟨_, rfl⟩ q_267 rfl ⟨Nat.le_of_ble_eq_true rfl, Nat.le_of_ble_eq_true rfl⟩ rfl rfl (Nat.le_of_ble_eq_true rfl) dX5_copy_70 rfl (fun hp_70 => ?_)
            refine r_if_ne C (tgt := 83) (q := 76) dX5_copy_73 (by decide) rfl (fun c_73 => ?_) (fun c_73 => ?_)
            · replace h := (if_neg c_73).symm.trans h
              refine r_aload C 1 (q := 85) dX5_copy_83 rfl rfl ?_
              refine g_X2_0 C (q := 88) dX5_copy_85 q_190 hp_25 rfl ?_
              refine r_aload C 0 (q := 90) dX5_copy_88 rfl rfl ?_
              refine g_X2_0 C (q := 93) dX5_copy_90 q_190 hp_32 rfl ?_
              refine r_icmp_eq C (tgt := 103) (q := 96) dX5_copy_93 (by decide) rfl (fun c_93 => ?_) (fun c_93 => ?_)
              · replace h := (if_pos c_93).symm.trans h
                refine r_aload C 1 (q := 105) dX5_copy_103 rfl rfl ?_
                refine r_iload_n C 5 (q := 106) dX5_copy_105 rfl rfl ?_
                refine r_iload C 7 (q := 108) dX5_copy_106 rfl rfl ?_
                obtain ⟨v_108, e_108, h⟩ := bs h
                refine r_callV C (ci := 2) (st := []) (st2 := [.int v_108]) (q := 111) (m_X2_hasPart (xG X) (xl X) hp_25 e_108) ok_X2_hasPart hp_25 rfl ⟨_, rfl⟩ q_298 rfl ⟨Nat.le_of_ble_eq_true rfl, Nat.le_of_ble_eq_true rfl⟩ rfl rfl (Nat.le_of_ble_eq_true rfl) dX5_copy_108 rfl (fun hp_108 => ?_)
                refine r_if_eq C (tgt := 126) (q := 114) dX5_copy_111 (by decide) rfl (fun c_111 => ?_) (fun c_111 => ?_)
                · replace h := (if_pos c_111).symm.trans h
                  refine r_sub (lv' := [(0, .ref ((xG X).1 x0))]) [2] rfl ?_
                  exact w_X5_copy_b126 C hr  _ _ hx0 h
                · replace h := (if_neg c_111).symm.trans h
                  refine r_aload C 0 (q := 116) dX5_copy_114 rfl rfl ?_
                  refine r_iload C 6 (q := 118) dX5_copy_116 rfl rfl ?_
                  refine r_iload C 7 (q := 120) dX5_copy_118 rfl rfl ?_
                  obtain ⟨v_120, e_120, h⟩ := bs h
                  refine r_callV C (ci := 2) (st := []) (st2 := [.int v_120]) (q := 123) (m_X2_hasPart (xG X) (xl X) hp_32 e_120) ok_X2_hasPart hp_32 rfl ⟨_, rfl⟩ q_298 rfl ⟨Nat.le_of_ble_eq_true rfl, Nat.le_of_ble_eq_true rfl⟩ rfl rfl (Nat.le_of_ble_eq_true rfl) dX5_copy_120 rfl (fun hp_120 => ?_)
                  refine r_if_ne C (tgt := 133) (q := 126) dX5_copy_123 (by decide) rfl (fun c_123 => ?_) (fun c_123 => ?_)
                  · replace h := (if_neg c_123).symm.trans h
                    refine r_aload C 1 (q := 135) dX5_copy_133 rfl rfl ?_
                    refine g_X2_2 C (q := 138) dX5_copy_135 q_194 hp_25 rfl ?_
                    refine r_iload_n C 5 (q := 139) dX5_copy_138 rfl rfl ?_
                    refine r_aload C 0 (q := 141) dX5_copy_139 rfl rfl ?_
                    refine g_X2_2 C (q := 144) dX5_copy_141 q_194 hp_32 rfl ?_
                    refine r_iload C 6 (q := 146) dX5_copy_144 rfl rfl ?_
                    refine r_iload C 7 (q := 148) dX5_copy_146 rfl rfl ?_
                    obtain ⟨s_148, e_148, h⟩ := bs h
                    refine r_copyJ C (st := []) (q := 151) dX5_copy_148 q_302 ok_copy (kf_X2_2 hp_25) (kf_X2_2 hp_32) e_148 ⟨Nat.le_of_ble_eq_true rfl, Nat.le_of_ble_eq_true rfl⟩ rfl ?_
                    refine r_iload C 7 (q := 153) dX5_copy_151 rfl rfl ?_
                    obtain ⟨rfl, rfl⟩ := Prod.mk.inj (Option.some.inj h)
                    exact hr _ _ dX5_copy_153
                  · replace h := (if_pos c_123).symm.trans h
                    refine r_sub (lv' := [(0, .ref ((xG X).1 x0))]) [2] rfl ?_
                    exact w_X5_copy_b126 C hr  _ _ hx0 h
              · replace h := (if_neg c_93).symm.trans h
                refine r_aload_n C 2 (q := 97) dX5_copy_96 rfl rfl ?_
                refine r_bipush C (v := (-3)) (q := 99) dX5_copy_97 (by decide) rfl ?_
                obtain ⟨v_99, s_99, e_99, h⟩ := bs2 h
                refine r_callV C (ci := 5) (st := []) (st2 := [.int v_99]) (q := 102) (m_X5_refuse (xG X) (xl X) hx0 e_99) ok_X5_refuse hx0 rfl ⟨_, rfl⟩ q_242 rfl ⟨Nat.le_of_ble_eq_true rfl, Nat.le_of_ble_eq_true rfl⟩ rfl rfl (Nat.le_of_ble_eq_true rfl) dX5_copy_99 rfl (fun hp_99 => ?_)
                obtain ⟨rfl, rfl⟩ := Prod.mk.inj (Option.some.inj h)
                exact hr _ _ dX5_copy_102
            · replace h := (if_pos c_73).symm.trans h
              refine r_sub (lv' := [(0, .ref ((xG X).1 x0))]) [2] rfl ?_
              exact w_X5_copy_b76 C hr  _ _ hx0 h
        · replace h := (if_neg c_50).symm.trans h
          refine r_sub (lv' := [(0, .ref ((xG X).1 x0))]) [2] rfl ?_
          exact w_X5_copy_b53 C hr  _ _ hx0 h
    · replace h := (if_pos c_13).symm.trans h
      refine r_sub (lv' := [(0, .ref ((xG X).1 x0))]) [0] rfl ?_
      exact w_X5_copy_b16 C hr  _ _ hx0 h

theorem m_X5_copy (G : Gm) (l : Launch) {σ σ' : St} {x0 : Nat} {x1 : Int32} {x2 : Int32} {x3 : Int32} {x4 : Int32} {x5 : Int32} (hx0 : kd x0 = 6) {r : Int32} (h : f_X5_copy σ x0 x1 x2 x3 x4 x5 = some (r, σ')) : Ctr G l yX5_copy cX5_copy 8 (some .int) 2 44 [.ref (G.1 x0), .int x1, .int x2, .int x3, .int x4, .int x5] σ (some (.int r)) True σ' := by
  refine Ctr.i (by decide) (Nat.le_of_ble_eq_true rfl) ?_
  intro X hG C hr
  subst hG
  exact w_X5_copy_b0 C hr _ _ _ _ _ _ _ hx0 h
-- X5_element
set_option maxHeartbeats 4000000 in
set_option maxRecDepth 100000 in
theorem w_X5_element_b0 {X : CX} (C : Cok X RX5 cX5_element 3 4 84) {σ : St} {r : Int64} (hr : RtJ X cX5_element r σ) (x0 : Nat) (x1 : Int32) (x2 : Int32) (hx0 : kd x0 = 6) (h : f_X5_element σ x0 x1 x2 = some r) : V X σ 0 [(0, .ref ((xG X).1 x0)), (1, .int x1), (2, .int x2)] [] := by
  unfold f_X5_element at h
  refine r_aload_n C 0 (q := 1) dX5_element_0 rfl rfl ?_
  refine r_iload_n C 1 (q := 2) dX5_element_1 rfl rfl ?_
  obtain ⟨v_2, e_2, h⟩ := bs h
  refine r_callV C (ci := 5) (st := []) (st2 := [.ref ((xG X).1 v_2)]) (q := 5) (m_X5_shelfAt (xG X) (xl X) hx0 e_2) ok_X5_shelfAt hx0 rfl ⟨_, rfl⟩ q_252 rfl ⟨Nat.le_of_ble_eq_true rfl, Nat.le_of_ble_eq_true rfl⟩ rfl rfl (Nat.le_of_ble_eq_true rfl) dX5_element_2 rfl (fun hp_2 => ?_)
  refine r_iload_n C 2 (q := 6) dX5_element_5 rfl rfl ?_
  obtain ⟨v_6, e_6, h⟩ := bs h
  refine r_callV C (ci := 2) (st := []) (st2 := [.long v_6]) (q := 9) (m_X2_elementAt (xG X) (xl X) hp_2 e_6) ok_X2_elementAt hp_2 rfl ⟨_, rfl⟩ q_309 rfl ⟨Nat.le_of_ble_eq_true rfl, Nat.le_of_ble_eq_true rfl⟩ rfl rfl (Nat.le_of_ble_eq_true rfl) dX5_element_6 rfl (fun hp_6 => ?_)
  obtain rfl := Option.some.inj h
  exact hr _ _ dX5_element_9

theorem m_X5_element (G : Gm) (l : Launch) {σ : St} {x0 : Nat} {x1 : Int32} {x2 : Int32} (hx0 : kd x0 = 6) {r : Int64} (h : f_X5_element σ x0 x1 x2 = some r) : Ctr G l yX5_element cX5_element 3 (some .long) 4 84 [.ref (G.1 x0), .int x1, .int x2] σ (some (.long r)) True σ := by
  refine Ctr.j (by decide) (Nat.le_of_ble_eq_true rfl) ?_
  intro X hG C hr
  subst hG
  exact w_X5_element_b0 C hr _ _ _ hx0 h
-- X5_holds
set_option maxHeartbeats 4000000 in
set_option maxRecDepth 100000 in
theorem w_X5_holds_b0 {X : CX} (C : Cok X RX5 cX5_holds 2 1 21) {σ : St} {r : Int32} (hr : RtI X cX5_holds r σ) (x0 : Nat) (x1 : Int32) (hx0 : kd x0 = 6) (h : f_X5_holds σ x0 x1 = some r) : V X σ 0 [(0, .ref ((xG X).1 x0)), (1, .int x1)] [] := by
  unfold f_X5_holds at h
  refine r_aload_n C 0 (q := 1) dX5_holds_0 rfl rfl ?_
  refine r_iload_n C 1 (q := 2) dX5_holds_1 rfl rfl ?_
  obtain ⟨v_2, e_2, h⟩ := bs h
  refine r_callV C (ci := 5) (st := []) (st2 := [.ref ((xG X).1 v_2)]) (q := 5) (m_X5_shelfAt (xG X) (xl X) hx0 e_2) ok_X5_shelfAt hx0 rfl ⟨_, rfl⟩ q_252 rfl ⟨Nat.le_of_ble_eq_true rfl, Nat.le_of_ble_eq_true rfl⟩ rfl rfl (Nat.le_of_ble_eq_true rfl) dX5_holds_2 rfl (fun hp_2 => ?_)
  refine g_X2_0 C (q := 8) dX5_holds_5 q_190 hp_2 rfl ?_
  obtain rfl := Option.some.inj h
  exact hr _ _ dX5_holds_8

theorem m_X5_holds (G : Gm) (l : Launch) {σ : St} {x0 : Nat} {x1 : Int32} (hx0 : kd x0 = 6) {r : Int32} (h : f_X5_holds σ x0 x1 = some r) : Ctr G l yX5_holds cX5_holds 2 (some .int) 1 21 [.ref (G.1 x0), .int x1] σ (some (.int r)) True σ := by
  refine Ctr.i (by decide) (Nat.le_of_ble_eq_true rfl) ?_
  intro X hG C hr
  subst hG
  exact w_X5_holds_b0 C hr _ _ hx0 h
-- X5_isKey
set_option maxHeartbeats 4000000 in
set_option maxRecDepth 100000 in
theorem w_X5_isKey_b0 {X : CX} (C : Cok X RX5 cX5_isKey 2 1 22) {σ : St} {r : Int32} (hr : RtZ X cX5_isKey r σ) (x0 : Nat) (x1 : Int32) (hx0 : kd x0 = 6) (h : f_X5_isKey σ x0 x1 = some r) : V X σ 0 [(0, .ref ((xG X).1 x0)), (1, .int x1)] [] := by
  unfold f_X5_isKey at h
  refine r_iload_n C 1 (q := 1) dX5_isKey_0 rfl rfl ?_
  refine r_iconst C (v := 0) (q := 2) dX5_isKey_1 (by decide) rfl ?_
  refine r_aload_n C 0 (q := 3) dX5_isKey_2 rfl rfl ?_
  refine g_X5_0 C (q := 6) dX5_isKey_3 q_203 hx0 rfl ?_
  refine g_X0_5 C (q := 9) dX5_isKey_6 q_80 (kf_X5_0 hx0) rfl ?_
  refine r_iconst C (v := 1) (q := 10) dX5_isKey_9 (by decide) rfl ?_
  refine r_isub C (q := 11) dX5_isKey_10 rfl ?_
  obtain ⟨v_11, e_11, h⟩ := bs h
  refine r_callS C (st := []) (st2 := [.int v_11]) (q := 14) (m_X5_isWithin (xG X) (xl X) e_11) ok_X5_isWithin q_239 rfl ⟨Nat.le_of_ble_eq_true rfl, Nat.le_of_ble_eq_true rfl⟩ rfl rfl (Nat.le_of_ble_eq_true rfl) dX5_isKey_11 rfl (fun hp_11 => ?_)
  obtain rfl := Option.some.inj h
  exact hr _ _ dX5_isKey_14 hp_11

theorem m_X5_isKey (G : Gm) (l : Launch) {σ : St} {x0 : Nat} {x1 : Int32} (hx0 : kd x0 = 6) {r : Int32} (h : f_X5_isKey σ x0 x1 = some r) : Ctr G l yX5_isKey cX5_isKey 2 (some .boolean) 1 22 [.ref (G.1 x0), .int x1] σ (some (.int r)) (r = 0 ∨ r = 1) σ := by
  refine Ctr.z (by decide) (Nat.le_of_ble_eq_true rfl) ?_
  intro X hG C hr
  subst hG
  exact w_X5_isKey_b0 C hr _ _ hx0 h
-- X5_show
set_option maxHeartbeats 4000000 in
set_option maxRecDepth 100000 in
theorem w_X5_show_b46 {X : CX} (C : Cok X RX5 cX5_show 3 2 44) {σ' : St} {r : Int32} (hr : RtI X cX5_show r σ') (σ : St) (t0 : Nat) (t1 : Int32) (ht0 : kd t0 = 3) (h : f_X5_show_b46 σ t0 t1 = some (r, σ')) : V X σ 46 [] [.int t1, .ref ((xG X).1 t0)] := by
  unfold f_X5_show_b46 at h
  obtain ⟨s_46, e_46, h⟩ := bs h
  refine p_X2_0 C (q := 49) dX5_show_46 q_190 ht0 e_46 rfl ?_
  refine r_iconst C (v := 1) (q := 50) dX5_show_49 (by decide) rfl ?_
  obtain ⟨rfl, rfl⟩ := Prod.mk.inj (Option.some.inj h)
  exact hr _ _ dX5_show_50

set_option maxHeartbeats 4000000 in
set_option maxRecDepth 100000 in
theorem w_X5_show_b28 {X : CX} (C : Cok X RX5 cX5_show 3 2 44) {σ' : St} {r : Int32} (hr : RtI X cX5_show r σ') (σ : St) (x0 : Nat) (x1 : Int32) (x2 : Int32) (hx0 : kd x0 = 6) (h : f_X5_show_b28 σ x0 x1 x2 = some (r, σ')) : V X σ 28 [(0, .ref ((xG X).1 x0)), (1, .int x1), (2, .int x2)] [] := by
  unfold f_X5_show_b28 at h
  refine r_aload_n C 0 (q := 29) dX5_show_28 rfl rfl ?_
  refine r_iload_n C 1 (q := 30) dX5_show_29 rfl rfl ?_
  obtain ⟨v_30, e_30, h⟩ := bs h
  refine r_callV C (ci := 5) (st := []) (st2 := [.ref ((xG X).1 v_30)]) (q := 33) (m_X5_shelfAt (xG X) (xl X) hx0 e_30) ok_X5_shelfAt hx0 rfl ⟨_, rfl⟩ q_252 rfl ⟨Nat.le_of_ble_eq_true rfl, Nat.le_of_ble_eq_true rfl⟩ rfl rfl (Nat.le_of_ble_eq_true rfl) dX5_show_30 rfl (fun hp_30 => ?_)
  refine r_iload_n C 2 (q := 34) dX5_show_33 rfl rfl ?_
  refine r_iconst C (v := (-1)) (q := 35) dX5_show_34 (by decide) rfl ?_
  refine r_icmp_ne C (tgt := 42) (q := 38) dX5_show_35 (by decide) rfl (fun c_35 => ?_) (fun c_35 => ?_)
  · replace h := (if_neg c_35).symm.trans h
    refine r_bipush C (v := 10) (q := 44) dX5_show_42 (by decide) rfl ?_
    refine r_iload_n C 2 (q := 45) dX5_show_44 rfl rfl ?_
    refine r_iadd C (q := 46) dX5_show_45 rfl ?_
    refine r_sub (lv' := []) [] rfl ?_
    exact w_X5_show_b46 C hr  _ _ _ hp_30 h
  · replace h := (if_pos c_35).symm.trans h
    refine r_iconst C (v := (-1)) (q := 39) dX5_show_38 (by decide) rfl ?_
    refine r_goto C (tgt := 46) dX5_show_39 (by decide) ?_
    refine r_sub (lv' := []) [] rfl ?_
    exact w_X5_show_b46 C hr  _ _ _ hp_30 h

set_option maxHeartbeats 4000000 in
set_option maxRecDepth 100000 in
theorem w_X5_show_b21 {X : CX} (C : Cok X RX5 cX5_show 3 2 44) {σ' : St} {r : Int32} (hr : RtI X cX5_show r σ') (σ : St) (x0 : Nat) (hx0 : kd x0 = 6) (h : f_X5_show_b21 σ x0 = some (r, σ')) : V X σ 21 [(0, .ref ((xG X).1 x0))] [] := by
  unfold f_X5_show_b21 at h
  refine r_aload_n C 0 (q := 22) dX5_show_21 rfl rfl ?_
  refine r_bipush C (v := (-2)) (q := 24) dX5_show_22 (by decide) rfl ?_
  obtain ⟨v_24, s_24, e_24, h⟩ := bs2 h
  refine r_callV C (ci := 5) (st := []) (st2 := [.int v_24]) (q := 27) (m_X5_refuse (xG X) (xl X) hx0 e_24) ok_X5_refuse hx0 rfl ⟨_, rfl⟩ q_242 rfl ⟨Nat.le_of_ble_eq_true rfl, Nat.le_of_ble_eq_true rfl⟩ rfl rfl (Nat.le_of_ble_eq_true rfl) dX5_show_24 rfl (fun hp_24 => ?_)
  obtain ⟨rfl, rfl⟩ := Prod.mk.inj (Option.some.inj h)
  exact hr _ _ dX5_show_27

set_option maxHeartbeats 4000000 in
set_option maxRecDepth 100000 in
theorem w_X5_show_b0 {X : CX} (C : Cok X RX5 cX5_show 3 2 44) {σ' : St} {r : Int32} (hr : RtI X cX5_show r σ') (σ : St) (x0 : Nat) (x1 : Int32) (x2 : Int32) (hx0 : kd x0 = 6) (h : f_X5_show σ x0 x1 x2 = some (r, σ')) : V X σ 0 [(0, .ref ((xG X).1 x0)), (1, .int x1), (2, .int x2)] [] := by
  unfold f_X5_show at h
  refine r_aload_n C 0 (q := 1) dX5_show_0 rfl rfl ?_
  refine r_iload_n C 1 (q := 2) dX5_show_1 rfl rfl ?_
  obtain ⟨v_2, e_2, h⟩ := bs h
  refine r_callV C (ci := 5) (st := []) (st2 := [.int v_2]) (q := 5) (m_X5_isShelf (xG X) (xl X) hx0 e_2) ok_X5_isShelf hx0 rfl ⟨_, rfl⟩ q_235 rfl ⟨Nat.le_of_ble_eq_true rfl, Nat.le_of_ble_eq_true rfl⟩ rfl rfl (Nat.le_of_ble_eq_true rfl) dX5_show_2 rfl (fun hp_2 => ?_)
  refine r_if_eq C (tgt := 21) (q := 8) dX5_show_5 (by decide) rfl (fun c_5 => ?_) (fun c_5 => ?_)
  · replace h := (if_pos c_5).symm.trans h
    refine r_sub (lv' := [(0, .ref ((xG X).1 x0))]) [0] rfl ?_
    exact w_X5_show_b21 C hr  _ _ hx0 h
  · replace h := (if_neg c_5).symm.trans h
    refine r_iload_n C 2 (q := 9) dX5_show_8 rfl rfl ?_
    refine r_iconst C (v := (-1)) (q := 10) dX5_show_9 (by decide) rfl ?_
    refine r_icmp_eq C (tgt := 28) (q := 13) dX5_show_10 (by decide) rfl (fun c_10 => ?_) (fun c_10 => ?_)
    · replace h := (if_pos c_10).symm.trans h
      exact w_X5_show_b28 C hr  _ _ _ _ hx0 h
    · replace h := (if_neg c_10).symm.trans h
      refine r_aload_n C 0 (q := 14) dX5_show_13 rfl rfl ?_
      refine r_iload_n C 2 (q := 15) dX5_show_14 rfl rfl ?_
      obtain ⟨v_15, e_15, h⟩ := bs h
      refine r_callV C (ci := 5) (st := []) (st2 := [.int v_15]) (q := 18) (m_X5_isKey (xG X) (xl X) hx0 e_15) ok_X5_isKey hx0 rfl ⟨_, rfl⟩ q_321 rfl ⟨Nat.le_of_ble_eq_true rfl, Nat.le_of_ble_eq_true rfl⟩ rfl rfl (Nat.le_of_ble_eq_true rfl) dX5_show_15 rfl (fun hp_15 => ?_)
      refine r_if_ne C (tgt := 28) (q := 21) dX5_show_18 (by decide) rfl (fun c_18 => ?_) (fun c_18 => ?_)
      · replace h := (if_neg c_18).symm.trans h
        exact w_X5_show_b28 C hr  _ _ _ _ hx0 h
      · replace h := (if_pos c_18).symm.trans h
        refine r_sub (lv' := [(0, .ref ((xG X).1 x0))]) [0] rfl ?_
        exact w_X5_show_b21 C hr  _ _ hx0 h

theorem m_X5_show (G : Gm) (l : Launch) {σ σ' : St} {x0 : Nat} {x1 : Int32} {x2 : Int32} (hx0 : kd x0 = 6) {r : Int32} (h : f_X5_show σ x0 x1 x2 = some (r, σ')) : Ctr G l yX5_show cX5_show 3 (some .int) 2 44 [.ref (G.1 x0), .int x1, .int x2] σ (some (.int r)) True σ' := by
  refine Ctr.i (by decide) (Nat.le_of_ble_eq_true rfl) ?_
  intro X hG C hr
  subst hG
  exact w_X5_show_b0 C hr _ _ _ _ hx0 h
-- X5_saysAs
set_option maxHeartbeats 4000000 in
set_option maxRecDepth 100000 in
theorem w_X5_saysAs_b0 {X : CX} (C : Cok X RX5 cX5_saysAs 4 6 141) {σ : St} {r : Int32} (hr : RtI X cX5_saysAs r σ) (x0 : Nat) (x1 : Int32) (x2 : Int32) (hx0 : kd x0 = 6) (h : f_X5_saysAs σ x0 x1 x2 = some r) : V X σ 0 [(0, .ref ((xG X).1 x0)), (1, .int x1), (2, .int x2)] [] := by
  unfold f_X5_saysAs at h
  refine r_aload_n C 0 (q := 1) dX5_saysAs_0 rfl rfl ?_
  refine g_X5_0 C (q := 4) dX5_saysAs_1 q_203 hx0 rfl ?_
  refine r_iload_n C 1 (q := 5) dX5_saysAs_4 rfl rfl ?_
  obtain ⟨v_5, e_5, h⟩ := bs h
  refine r_callV C (ci := 0) (st := []) (st2 := [.ref ((xG X).1 v_5)]) (q := 8) (m_X0_keyAt (xG X) (xl X) (kf_X5_0 hx0) e_5) ok_X0_keyAt (kf_X5_0 hx0) rfl ⟨_, rfl⟩ q_329 rfl ⟨Nat.le_of_ble_eq_true rfl, Nat.le_of_ble_eq_true rfl⟩ rfl rfl (Nat.le_of_ble_eq_true rfl) dX5_saysAs_5 rfl (fun hp_5 => ?_)
  refine r_astore_n C (lv' := [(3, .ref ((xG X).1 v_5)), (0, .ref ((xG X).1 x0)), (1, .int x1), (2, .int x2)]) (q := 9) dX5_saysAs_8 rfl (by decide) rfl rfl ?_
  refine r_iload_n C 3 (q := 10) dX5_saysAs_9 rfl rfl ?_
  by_cases c_10_0 : x2 = 0
  · replace h := (if_pos c_10_0).symm.trans h
    refine r_tabIn C (tgt := 48) (off := 38) dX5_saysAs_10 (by rw [c_10_0]; decide) (by rw [c_10_0]; decide) (by rw [c_10_0]; rfl) (by decide) ?_
    refine r_aload_n C 1 (q := 49) dX5_saysAs_48 rfl rfl ?_
    refine g_X5_0 C (q := 52) dX5_saysAs_49 q_203 hx0 rfl ?_
    refine r_aload_n C 0 (q := 53) dX5_saysAs_52 rfl rfl ?_
    refine g_X1_3 C (q := 56) dX5_saysAs_53 q_50 hp_5 rfl ?_
    obtain ⟨v_56, e_56, h⟩ := bs h
    refine r_callV C (ci := 0) (st := []) (st2 := [.int v_56]) (q := 59) (m_X0_sum (xG X) (xl X) (kf_X5_0 hx0) (kf_X1_3 hp_5) e_56) ok_X0_sum (kf_X5_0 hx0) rfl ⟨_, rfl⟩ q_341 rfl ⟨Nat.le_of_ble_eq_true rfl, Nat.le_of_ble_eq_true rfl⟩ rfl rfl (Nat.le_of_ble_eq_true rfl) dX5_saysAs_56 rfl (fun hp_56 => ?_)
    obtain rfl := Option.some.inj h
    exact hr _ _ dX5_saysAs_59
  · replace h := (if_neg c_10_0).symm.trans h
    by_cases c_10_1 : x2 = 1
    · replace h := (if_pos c_10_1).symm.trans h
      refine r_tabIn C (tgt := 60) (off := 50) dX5_saysAs_10 (by rw [c_10_1]; decide) (by rw [c_10_1]; decide) (by rw [c_10_1]; rfl) (by decide) ?_
      refine r_aload_n C 1 (q := 61) dX5_saysAs_60 rfl rfl ?_
      refine g_X5_0 C (q := 64) dX5_saysAs_61 q_203 hx0 rfl ?_
      refine r_aload_n C 0 (q := 65) dX5_saysAs_64 rfl rfl ?_
      obtain ⟨v_65, e_65, h⟩ := bs h
      refine r_callV C (ci := 0) (st := []) (st2 := [.int v_65]) (q := 68) (m_X0_wornPlace (xG X) (xl X) (kf_X5_0 hx0) hp_5 e_65) ok_X0_wornPlace (kf_X5_0 hx0) rfl ⟨_, rfl⟩ q_345 rfl ⟨Nat.le_of_ble_eq_true rfl, Nat.le_of_ble_eq_true rfl⟩ rfl rfl (Nat.le_of_ble_eq_true rfl) dX5_saysAs_65 rfl (fun hp_65 => ?_)
      obtain rfl := Option.some.inj h
      exact hr _ _ dX5_saysAs_68
    · replace h := (if_neg c_10_1).symm.trans h
      by_cases c_10_2 : x2 = 2
      · replace h := (if_pos c_10_2).symm.trans h
        refine r_tabIn C (tgt := 98) (off := 88) dX5_saysAs_10 (by rw [c_10_2]; decide) (by rw [c_10_2]; decide) (by rw [c_10_2]; rfl) (by decide) ?_
        refine r_aload_n C 1 (q := 99) dX5_saysAs_98 rfl rfl ?_
        refine g_X5_0 C (q := 102) dX5_saysAs_99 q_203 hx0 rfl ?_
        refine r_aload_n C 0 (q := 103) dX5_saysAs_102 rfl rfl ?_
        obtain ⟨v_103, e_103, h⟩ := bs h
        refine r_callV C (ci := 0) (st := []) (st2 := [.int v_103]) (q := 106) (m_X0_bears (xG X) (xl X) (kf_X5_0 hx0) hp_5 e_103) ok_X0_bears (kf_X5_0 hx0) rfl ⟨_, rfl⟩ q_396 rfl ⟨Nat.le_of_ble_eq_true rfl, Nat.le_of_ble_eq_true rfl⟩ rfl rfl (Nat.le_of_ble_eq_true rfl) dX5_saysAs_103 rfl (fun hp_103 => ?_)
        obtain rfl := Option.some.inj h
        exact hr _ _ dX5_saysAs_106
      · replace h := (if_neg c_10_2).symm.trans h
        by_cases c_10_3 : x2 = 3
        · replace h := (if_pos c_10_3).symm.trans h
          refine r_tabIn C (tgt := 69) (off := 59) dX5_saysAs_10 (by rw [c_10_3]; decide) (by rw [c_10_3]; decide) (by rw [c_10_3]; rfl) (by decide) ?_
          refine r_aload_n C 1 (q := 70) dX5_saysAs_69 rfl rfl ?_
          refine g_X5_0 C (q := 73) dX5_saysAs_70 q_203 hx0 rfl ?_
          refine r_iload_n C 2 (q := 74) dX5_saysAs_73 rfl rfl ?_
          obtain ⟨v_74, e_74, h⟩ := bs h
          refine r_callV C (ci := 0) (st := []) (st2 := [.int v_74]) (q := 77) (m_X0_openedBy (xG X) (xl X) (kf_X5_0 hx0) e_74) ok_X0_openedBy (kf_X5_0 hx0) rfl ⟨_, rfl⟩ q_349 rfl ⟨Nat.le_of_ble_eq_true rfl, Nat.le_of_ble_eq_true rfl⟩ rfl rfl (Nat.le_of_ble_eq_true rfl) dX5_saysAs_74 rfl (fun hp_74 => ?_)
          refine r_aload_n C 1 (q := 78) dX5_saysAs_77 rfl rfl ?_
          refine g_X5_0 C (q := 81) dX5_saysAs_78 q_203 hx0 rfl ?_
          refine g_X0_7 C (q := 84) dX5_saysAs_81 q_87 (kf_X5_0 hx0) rfl ?_
          refine r_iand C (q := 85) dX5_saysAs_84 rfl ?_
          obtain ⟨v_85, e_85, h⟩ := bs h
          refine r_callS C (st := []) (st2 := [.int v_85]) (q := 88) (m_J6_bitCount_0f7a4 (xG X) (xl X) e_85) ok_J6_bitCount_0f7a4 q_385 rfl ⟨Nat.le_of_ble_eq_true rfl, Nat.le_of_ble_eq_true rfl⟩ rfl rfl (Nat.le_of_ble_eq_true rfl) dX5_saysAs_85 rfl (fun hp_85 => ?_)
          obtain rfl := Option.some.inj h
          exact hr _ _ dX5_saysAs_88
        · replace h := (if_neg c_10_3).symm.trans h
          by_cases c_10_4 : x2 = 4
          · replace h := (if_pos c_10_4).symm.trans h
            refine r_tabIn C (tgt := 98) (off := 88) dX5_saysAs_10 (by rw [c_10_4]; decide) (by rw [c_10_4]; decide) (by rw [c_10_4]; rfl) (by decide) ?_
            refine r_aload_n C 1 (q := 99) dX5_saysAs_98 rfl rfl ?_
            refine g_X5_0 C (q := 102) dX5_saysAs_99 q_203 hx0 rfl ?_
            refine r_aload_n C 0 (q := 103) dX5_saysAs_102 rfl rfl ?_
            obtain ⟨v_103, e_103, h⟩ := bs h
            refine r_callV C (ci := 0) (st := []) (st2 := [.int v_103]) (q := 106) (m_X0_bears (xG X) (xl X) (kf_X5_0 hx0) hp_5 e_103) ok_X0_bears (kf_X5_0 hx0) rfl ⟨_, rfl⟩ q_396 rfl ⟨Nat.le_of_ble_eq_true rfl, Nat.le_of_ble_eq_true rfl⟩ rfl rfl (Nat.le_of_ble_eq_true rfl) dX5_saysAs_103 rfl (fun hp_103 => ?_)
            obtain rfl := Option.some.inj h
            exact hr _ _ dX5_saysAs_106
          · replace h := (if_neg c_10_4).symm.trans h
            by_cases c_10_5 : x2 = 5
            · replace h := (if_pos c_10_5).symm.trans h
              refine r_tabIn C (tgt := 89) (off := 79) dX5_saysAs_10 (by rw [c_10_5]; decide) (by rw [c_10_5]; decide) (by rw [c_10_5]; rfl) (by decide) ?_
              refine r_aload_n C 1 (q := 90) dX5_saysAs_89 rfl rfl ?_
              refine g_X5_3 C (q := 93) dX5_saysAs_90 q_206 hx0 rfl ?_
              refine r_iload_n C 2 (q := 94) dX5_saysAs_93 rfl rfl ?_
              obtain ⟨v_94, e_94, h⟩ := bs h
              refine r_callV C (ci := 4) (st := []) (st2 := [.int v_94]) (q := 97) (m_X4_countBelow (xG X) (xl X) (kf_X5_3 hx0) e_94) ok_X4_countBelow (kf_X5_3 hx0) rfl ⟨_, rfl⟩ q_391 rfl ⟨Nat.le_of_ble_eq_true rfl, Nat.le_of_ble_eq_true rfl⟩ rfl rfl (Nat.le_of_ble_eq_true rfl) dX5_saysAs_94 rfl (fun hp_94 => ?_)
              obtain rfl := Option.some.inj h
              exact hr _ _ dX5_saysAs_97
            · replace h := (if_neg c_10_5).symm.trans h
              refine r_tabOut C (tgt := 98) dX5_saysAs_10 (tab_out (lt_s (lt_s (lt_s (lt_s (lt_s (lt_s lt_0 c_10_0) c_10_1) c_10_2) c_10_3) c_10_4) c_10_5) (by decide)) (by decide) ?_
              refine r_aload_n C 1 (q := 99) dX5_saysAs_98 rfl rfl ?_
              refine g_X5_0 C (q := 102) dX5_saysAs_99 q_203 hx0 rfl ?_
              refine r_aload_n C 0 (q := 103) dX5_saysAs_102 rfl rfl ?_
              obtain ⟨v_103, e_103, h⟩ := bs h
              refine r_callV C (ci := 0) (st := []) (st2 := [.int v_103]) (q := 106) (m_X0_bears (xG X) (xl X) (kf_X5_0 hx0) hp_5 e_103) ok_X0_bears (kf_X5_0 hx0) rfl ⟨_, rfl⟩ q_396 rfl ⟨Nat.le_of_ble_eq_true rfl, Nat.le_of_ble_eq_true rfl⟩ rfl rfl (Nat.le_of_ble_eq_true rfl) dX5_saysAs_103 rfl (fun hp_103 => ?_)
              obtain rfl := Option.some.inj h
              exact hr _ _ dX5_saysAs_106

theorem m_X5_saysAs (G : Gm) (l : Launch) {σ : St} {x0 : Nat} {x1 : Int32} {x2 : Int32} (hx0 : kd x0 = 6) {r : Int32} (h : f_X5_saysAs σ x0 x1 x2 = some r) : Ctr G l yX5_saysAs cX5_saysAs 4 (some .int) 6 141 [.ref (G.1 x0), .int x1, .int x2] σ (some (.int r)) True σ := by
  refine Ctr.i (by decide) (Nat.le_of_ble_eq_true rfl) ?_
  intro X hG C hr
  subst hG
  exact w_X5_saysAs_b0 C hr _ _ _ hx0 h
-- X5_says
set_option maxHeartbeats 4000000 in
set_option maxRecDepth 100000 in
theorem w_X5_says_b17 {X : CX} (C : Cok X RX5 cX5_says 5 7 164) {σ' : St} {r : Int32} (hr : RtI X cX5_says r σ') (σ : St) (x0 : Nat) (hx0 : kd x0 = 6) (h : f_X5_says_b17 σ x0 = some (r, σ')) : V X σ 17 [(0, .ref ((xG X).1 x0))] [] := by
  unfold f_X5_says_b17 at h
  refine r_aload_n C 0 (q := 18) dX5_says_17 rfl rfl ?_
  refine r_bipush C (v := (-2)) (q := 20) dX5_says_18 (by decide) rfl ?_
  obtain ⟨v_20, s_20, e_20, h⟩ := bs2 h
  refine r_callV C (ci := 5) (st := []) (st2 := [.int v_20]) (q := 23) (m_X5_refuse (xG X) (xl X) hx0 e_20) ok_X5_refuse hx0 rfl ⟨_, rfl⟩ q_242 rfl ⟨Nat.le_of_ble_eq_true rfl, Nat.le_of_ble_eq_true rfl⟩ rfl rfl (Nat.le_of_ble_eq_true rfl) dX5_says_20 rfl (fun hp_20 => ?_)
  obtain ⟨rfl, rfl⟩ := Prod.mk.inj (Option.some.inj h)
  exact hr _ _ dX5_says_23

set_option maxHeartbeats 4000000 in
set_option maxRecDepth 100000 in
theorem w_X5_says_b0 {X : CX} (C : Cok X RX5 cX5_says 5 7 164) {σ' : St} {r : Int32} (hr : RtI X cX5_says r σ') (σ : St) (x0 : Nat) (x1 : Int32) (x2 : Int32) (hx0 : kd x0 = 6) (h : f_X5_says σ x0 x1 x2 = some (r, σ')) : V X σ 0 [(0, .ref ((xG X).1 x0)), (1, .int x1), (2, .int x2)] [] := by
  unfold f_X5_says at h
  refine r_aload_n C 0 (q := 1) dX5_says_0 rfl rfl ?_
  refine r_iload_n C 1 (q := 2) dX5_says_1 rfl rfl ?_
  obtain ⟨v_2, e_2, h⟩ := bs h
  refine r_callV C (ci := 5) (st := []) (st2 := [.int v_2]) (q := 5) (m_X5_isShelf (xG X) (xl X) hx0 e_2) ok_X5_isShelf hx0 rfl ⟨_, rfl⟩ q_235 rfl ⟨Nat.le_of_ble_eq_true rfl, Nat.le_of_ble_eq_true rfl⟩ rfl rfl (Nat.le_of_ble_eq_true rfl) dX5_says_2 rfl (fun hp_2 => ?_)
  refine r_if_eq C (tgt := 17) (q := 8) dX5_says_5 (by decide) rfl (fun c_5 => ?_) (fun c_5 => ?_)
  · replace h := (if_pos c_5).symm.trans h
    refine r_sub (lv' := [(0, .ref ((xG X).1 x0))]) [0] rfl ?_
    exact w_X5_says_b17 C hr  _ _ hx0 h
  · replace h := (if_neg c_5).symm.trans h
    refine r_iload_n C 2 (q := 9) dX5_says_8 rfl rfl ?_
    refine r_iconst C (v := 0) (q := 10) dX5_says_9 (by decide) rfl ?_
    refine r_iconst C (v := 5) (q := 11) dX5_says_10 (by decide) rfl ?_
    obtain ⟨v_11, e_11, h⟩ := bs h
    refine r_callS C (st := []) (st2 := [.int v_11]) (q := 14) (m_X5_isWithin (xG X) (xl X) e_11) ok_X5_isWithin q_239 rfl ⟨Nat.le_of_ble_eq_true rfl, Nat.le_of_ble_eq_true rfl⟩ rfl rfl (Nat.le_of_ble_eq_true rfl) dX5_says_11 rfl (fun hp_11 => ?_)
    refine r_if_ne C (tgt := 24) (q := 17) dX5_says_14 (by decide) rfl (fun c_14 => ?_) (fun c_14 => ?_)
    · replace h := (if_neg c_14).symm.trans h
      refine r_aload_n C 0 (q := 25) dX5_says_24 rfl rfl ?_
      refine r_iload_n C 1 (q := 26) dX5_says_25 rfl rfl ?_
      obtain ⟨v_26, e_26, h⟩ := bs h
      refine r_callV C (ci := 5) (st := []) (st2 := [.ref ((xG X).1 v_26)]) (q := 29) (m_X5_shelfAt (xG X) (xl X) hx0 e_26) ok_X5_shelfAt hx0 rfl ⟨_, rfl⟩ q_252 rfl ⟨Nat.le_of_ble_eq_true rfl, Nat.le_of_ble_eq_true rfl⟩ rfl rfl (Nat.le_of_ble_eq_true rfl) dX5_says_26 rfl (fun hp_26 => ?_)
      refine r_astore_n C (lv' := [(3, .ref ((xG X).1 v_26)), (0, .ref ((xG X).1 x0)), (1, .int x1), (2, .int x2)]) (q := 30) dX5_says_29 rfl (by decide) rfl rfl ?_
      refine r_aload_n C 0 (q := 31) dX5_says_30 rfl rfl ?_
      obtain ⟨v_31, e_31, h⟩ := bs h
      refine r_callV C (ci := 2) (st := []) (st2 := [.int v_31]) (q := 34) (m_X2_isRow (xG X) (xl X) hp_26 e_31) ok_X2_isRow hp_26 rfl ⟨_, rfl⟩ q_267 rfl ⟨Nat.le_of_ble_eq_true rfl, Nat.le_of_ble_eq_true rfl⟩ rfl rfl (Nat.le_of_ble_eq_true rfl) dX5_says_31 rfl (fun hp_31 => ?_)
      refine r_if_eq C (tgt := 44) (q := 37) dX5_says_34 (by decide) rfl (fun c_34 => ?_) (fun c_34 => ?_)
      · replace h := (if_pos c_34).symm.trans h
        refine r_aload_n C 0 (q := 45) dX5_says_44 rfl rfl ?_
        obtain ⟨v_45, e_45, h⟩ := bs h
        refine r_callV C (ci := 2) (st := []) (st2 := [.int v_45]) (q := 48) (m_X2_isKey (xG X) (xl X) hp_26 e_45) ok_X2_isKey hp_26 rfl ⟨_, rfl⟩ q_297 rfl ⟨Nat.le_of_ble_eq_true rfl, Nat.le_of_ble_eq_true rfl⟩ rfl rfl (Nat.le_of_ble_eq_true rfl) dX5_says_45 rfl (fun hp_45 => ?_)
        refine r_if_ne C (tgt := 58) (q := 51) dX5_says_48 (by decide) rfl (fun c_48 => ?_) (fun c_48 => ?_)
        · replace h := (if_neg c_48).symm.trans h
          refine r_aload_n C 0 (q := 59) dX5_says_58 rfl rfl ?_
          refine g_X2_0 C (q := 62) dX5_says_59 q_190 hp_26 rfl ?_
          refine r_bipush C (v := 10) (q := 64) dX5_says_62 (by decide) rfl ?_
          refine r_isub C (q := 65) dX5_says_64 rfl ?_
          obtain ⟨y_65, e_65, h⟩ := bs h
          refine r_topI (Option.some.inj e_65) ?_
          refine r_istore C (lv' := [(4, .int y_65), (3, .ref ((xG X).1 v_26)), (0, .ref ((xG X).1 x0)), (1, .int x1), (2, .int x2)]) (q := 67) dX5_says_65 (by decide) rfl rfl ?_
          refine r_aload_n C 2 (q := 68) dX5_says_67 rfl rfl ?_
          refine g_X5_0 C (q := 71) dX5_says_68 q_203 hx0 rfl ?_
          refine r_iload C 0 (q := 73) dX5_says_71 rfl rfl ?_
          obtain ⟨v_73, e_73, h⟩ := bs h
          refine r_callV C (ci := 0) (st := []) (st2 := [.ref ((xG X).1 v_73)]) (q := 76) (m_X0_keyAt (xG X) (xl X) (kf_X5_0 hx0) e_73) ok_X0_keyAt (kf_X5_0 hx0) rfl ⟨_, rfl⟩ q_329 rfl ⟨Nat.le_of_ble_eq_true rfl, Nat.le_of_ble_eq_true rfl⟩ rfl rfl (Nat.le_of_ble_eq_true rfl) dX5_says_73 rfl (fun hp_73 => ?_)
          refine r_iload_n C 4 (q := 77) dX5_says_76 rfl rfl ?_
          obtain ⟨v_77, e_77, h⟩ := bs h
          refine r_callV C (ci := 1) (st := []) (st2 := [.int v_77]) (q := 80) (m_X1_isOfKind (xG X) (xl X) hp_73 e_77) ok_X1_isOfKind hp_73 rfl ⟨_, rfl⟩ q_333 rfl ⟨Nat.le_of_ble_eq_true rfl, Nat.le_of_ble_eq_true rfl⟩ rfl rfl (Nat.le_of_ble_eq_true rfl) dX5_says_77 rfl (fun hp_77 => ?_)
          refine r_if_ne C (tgt := 90) (q := 83) dX5_says_80 (by decide) rfl (fun c_80 => ?_) (fun c_80 => ?_)
          · replace h := (if_neg c_80).symm.trans h
            refine r_aload_n C 2 (q := 91) dX5_says_90 rfl rfl ?_
            refine r_iload C 0 (q := 93) dX5_says_91 rfl rfl ?_
            refine r_iload_n C 4 (q := 94) dX5_says_93 rfl rfl ?_
            obtain ⟨v_94, e_94, h⟩ := bs h
            refine r_callV C (ci := 5) (st := []) (st2 := [.int v_94]) (q := 97) (m_X5_saysAs (xG X) (xl X) hx0 e_94) ok_X5_saysAs hx0 rfl ⟨_, rfl⟩ q_337 rfl ⟨Nat.le_of_ble_eq_true rfl, Nat.le_of_ble_eq_true rfl⟩ rfl rfl (Nat.le_of_ble_eq_true rfl) dX5_says_94 rfl (fun hp_94 => ?_)
            obtain ⟨rfl, rfl⟩ := Prod.mk.inj (Option.some.inj h)
            exact hr _ _ dX5_says_97
          · replace h := (if_pos c_80).symm.trans h
            refine r_aload_n C 2 (q := 84) dX5_says_83 rfl rfl ?_
            refine r_bipush C (v := (-3)) (q := 86) dX5_says_84 (by decide) rfl ?_
            obtain ⟨v_86, s_86, e_86, h⟩ := bs2 h
            refine r_callV C (ci := 5) (st := []) (st2 := [.int v_86]) (q := 89) (m_X5_refuse (xG X) (xl X) hx0 e_86) ok_X5_refuse hx0 rfl ⟨_, rfl⟩ q_242 rfl ⟨Nat.le_of_ble_eq_true rfl, Nat.le_of_ble_eq_true rfl⟩ rfl rfl (Nat.le_of_ble_eq_true rfl) dX5_says_86 rfl (fun hp_86 => ?_)
            obtain ⟨rfl, rfl⟩ := Prod.mk.inj (Option.some.inj h)
            exact hr _ _ dX5_says_89
        · replace h := (if_pos c_48).symm.trans h
          refine r_aload_n C 1 (q := 52) dX5_says_51 rfl rfl ?_
          refine r_bipush C (v := (-4)) (q := 54) dX5_says_52 (by decide) rfl ?_
          obtain ⟨v_54, s_54, e_54, h⟩ := bs2 h
          refine r_callV C (ci := 5) (st := []) (st2 := [.int v_54]) (q := 57) (m_X5_refuse (xG X) (xl X) hx0 e_54) ok_X5_refuse hx0 rfl ⟨_, rfl⟩ q_242 rfl ⟨Nat.le_of_ble_eq_true rfl, Nat.le_of_ble_eq_true rfl⟩ rfl rfl (Nat.le_of_ble_eq_true rfl) dX5_says_54 rfl (fun hp_54 => ?_)
          obtain ⟨rfl, rfl⟩ := Prod.mk.inj (Option.some.inj h)
          exact hr _ _ dX5_says_57
      · replace h := (if_neg c_34).symm.trans h
        refine r_aload_n C 1 (q := 38) dX5_says_37 rfl rfl ?_
        refine r_bipush C (v := (-3)) (q := 40) dX5_says_38 (by decide) rfl ?_
        obtain ⟨v_40, s_40, e_40, h⟩ := bs2 h
        refine r_callV C (ci := 5) (st := []) (st2 := [.int v_40]) (q := 43) (m_X5_refuse (xG X) (xl X) hx0 e_40) ok_X5_refuse hx0 rfl ⟨_, rfl⟩ q_242 rfl ⟨Nat.le_of_ble_eq_true rfl, Nat.le_of_ble_eq_true rfl⟩ rfl rfl (Nat.le_of_ble_eq_true rfl) dX5_says_40 rfl (fun hp_40 => ?_)
        obtain ⟨rfl, rfl⟩ := Prod.mk.inj (Option.some.inj h)
        exact hr _ _ dX5_says_43
    · replace h := (if_pos c_14).symm.trans h
      refine r_sub (lv' := [(0, .ref ((xG X).1 x0))]) [0] rfl ?_
      exact w_X5_says_b17 C hr  _ _ hx0 h

theorem m_X5_says (G : Gm) (l : Launch) {σ σ' : St} {x0 : Nat} {x1 : Int32} {x2 : Int32} (hx0 : kd x0 = 6) {r : Int32} (h : f_X5_says σ x0 x1 x2 = some (r, σ')) : Ctr G l yX5_says cX5_says 5 (some .int) 7 164 [.ref (G.1 x0), .int x1, .int x2] σ (some (.int r)) True σ' := by
  refine Ctr.i (by decide) (Nat.le_of_ble_eq_true rfl) ?_
  intro X hG C hr
  subst hG
  exact w_X5_says_b0 C hr _ _ _ _ hx0 h
-- X5_askPlaces
set_option maxHeartbeats 4000000 in
set_option maxRecDepth 100000 in
theorem w_X5_askPlaces_b0 {X : CX} (C : Cok X RX5 cX5_askPlaces 3 2 44) {σ' : St} {r : Int32} (hr : RtI X cX5_askPlaces r σ') (σ : St) (x0 : Nat) (x1 : Int32) (hx0 : kd x0 = 6) (h : f_X5_askPlaces σ x0 x1 = some (r, σ')) : V X σ 0 [(0, .ref ((xG X).1 x0)), (1, .int x1)] [] := by
  unfold f_X5_askPlaces at h
  refine r_iload_n C 1 (q := 1) dX5_askPlaces_0 rfl rfl ?_
  refine r_iconst C (v := 1) (q := 2) dX5_askPlaces_1 (by decide) rfl ?_
  refine r_iconst C (v := 5) (q := 3) dX5_askPlaces_2 (by decide) rfl ?_
  obtain ⟨v_3, e_3, h⟩ := bs h
  refine r_callS C (st := []) (st2 := [.int v_3]) (q := 6) (m_X5_isWithin (xG X) (xl X) e_3) ok_X5_isWithin q_239 rfl ⟨Nat.le_of_ble_eq_true rfl, Nat.le_of_ble_eq_true rfl⟩ rfl rfl (Nat.le_of_ble_eq_true rfl) dX5_askPlaces_3 rfl (fun hp_3 => ?_)
  refine r_if_ne C (tgt := 16) (q := 9) dX5_askPlaces_6 (by decide) rfl (fun c_6 => ?_) (fun c_6 => ?_)
  · replace h := (if_neg c_6).symm.trans h
    refine r_aload_n C 0 (q := 17) dX5_askPlaces_16 rfl rfl ?_
    refine g_X5_0 C (q := 20) dX5_askPlaces_17 q_203 hx0 rfl ?_
    obtain ⟨v_20, e_20, h⟩ := bs h
    refine r_callV C (ci := 0) (st := []) (st2 := [.int v_20]) (q := 23) (m_X0_isEmpty (xG X) (xl X) (kf_X5_0 hx0) e_20) ok_X0_isEmpty (kf_X5_0 hx0) rfl ⟨_, rfl⟩ q_405 rfl ⟨Nat.le_of_ble_eq_true rfl, Nat.le_of_ble_eq_true rfl⟩ rfl rfl (Nat.le_of_ble_eq_true rfl) dX5_askPlaces_20 rfl (fun hp_20 => ?_)
    refine r_if_ne C (tgt := 33) (q := 26) dX5_askPlaces_23 (by decide) rfl (fun c_23 => ?_) (fun c_23 => ?_)
    · replace h := (if_neg c_23).symm.trans h
      refine r_aload_n C 0 (q := 34) dX5_askPlaces_33 rfl rfl ?_
      refine g_X5_0 C (q := 37) dX5_askPlaces_34 q_203 hx0 rfl ?_
      refine g_X0_0 C (q := 40) dX5_askPlaces_37 q_65 (kf_X5_0 hx0) rfl ?_
      obtain ⟨y_40, e_40, h⟩ := bs h
      refine r_topI (Option.some.inj e_40) ?_
      refine r_istore_n C (lv' := [(2, .int y_40), (0, .ref ((xG X).1 x0)), (1, .int x1)]) (q := 41) dX5_askPlaces_40 rfl (by decide) rfl rfl ?_
      refine r_aload_n C 1 (q := 42) dX5_askPlaces_41 rfl rfl ?_
      refine g_X5_0 C (q := 45) dX5_askPlaces_42 q_203 hx0 rfl ?_
      refine r_iload_n C 2 (q := 46) dX5_askPlaces_45 rfl rfl ?_
      obtain ⟨s_46, e_46, h⟩ := bs h
      refine p_X0_0 C (q := 49) dX5_askPlaces_46 q_65 (kf_X5_0 hx0) e_46 rfl ?_
      refine r_iload_n C 0 (q := 50) dX5_askPlaces_49 rfl rfl ?_
      obtain ⟨rfl, rfl⟩ := Prod.mk.inj (Option.some.inj h)
      exact hr _ _ dX5_askPlaces_50
    · replace h := (if_pos c_23).symm.trans h
      refine r_aload_n C 0 (q := 27) dX5_askPlaces_26 rfl rfl ?_
      refine r_bipush C (v := (-5)) (q := 29) dX5_askPlaces_27 (by decide) rfl ?_
      obtain ⟨v_29, s_29, e_29, h⟩ := bs2 h
      refine r_callV C (ci := 5) (st := []) (st2 := [.int v_29]) (q := 32) (m_X5_refuse (xG X) (xl X) hx0 e_29) ok_X5_refuse hx0 rfl ⟨_, rfl⟩ q_242 rfl ⟨Nat.le_of_ble_eq_true rfl, Nat.le_of_ble_eq_true rfl⟩ rfl rfl (Nat.le_of_ble_eq_true rfl) dX5_askPlaces_29 rfl (fun hp_29 => ?_)
      obtain ⟨rfl, rfl⟩ := Prod.mk.inj (Option.some.inj h)
      exact hr _ _ dX5_askPlaces_32
  · replace h := (if_pos c_6).symm.trans h
    refine r_aload_n C 0 (q := 10) dX5_askPlaces_9 rfl rfl ?_
    refine r_bipush C (v := (-2)) (q := 12) dX5_askPlaces_10 (by decide) rfl ?_
    obtain ⟨v_12, s_12, e_12, h⟩ := bs2 h
    refine r_callV C (ci := 5) (st := []) (st2 := [.int v_12]) (q := 15) (m_X5_refuse (xG X) (xl X) hx0 e_12) ok_X5_refuse hx0 rfl ⟨_, rfl⟩ q_242 rfl ⟨Nat.le_of_ble_eq_true rfl, Nat.le_of_ble_eq_true rfl⟩ rfl rfl (Nat.le_of_ble_eq_true rfl) dX5_askPlaces_12 rfl (fun hp_12 => ?_)
    obtain ⟨rfl, rfl⟩ := Prod.mk.inj (Option.some.inj h)
    exact hr _ _ dX5_askPlaces_15

theorem m_X5_askPlaces (G : Gm) (l : Launch) {σ σ' : St} {x0 : Nat} {x1 : Int32} (hx0 : kd x0 = 6) {r : Int32} (h : f_X5_askPlaces σ x0 x1 = some (r, σ')) : Ctr G l yX5_askPlaces cX5_askPlaces 3 (some .int) 2 44 [.ref (G.1 x0), .int x1] σ (some (.int r)) True σ' := by
  refine Ctr.i (by decide) (Nat.le_of_ble_eq_true rfl) ?_
  intro X hG C hr
  subst hG
  exact w_X5_askPlaces_b0 C hr _ _ _ hx0 h
-- X5_askDeep
set_option maxHeartbeats 4000000 in
set_option maxRecDepth 100000 in
theorem w_X5_askDeep_b0 {X : CX} (C : Cok X RX5 cX5_askDeep 3 2 44) {σ' : St} {r : Int32} (hr : RtI X cX5_askDeep r σ') (σ : St) (x0 : Nat) (x1 : Int32) (hx0 : kd x0 = 6) (h : f_X5_askDeep σ x0 x1 = some (r, σ')) : V X σ 0 [(0, .ref ((xG X).1 x0)), (1, .int x1)] [] := by
  unfold f_X5_askDeep at h
  refine r_iload_n C 1 (q := 1) dX5_askDeep_0 rfl rfl ?_
  refine r_iconst C (v := 1) (q := 2) dX5_askDeep_1 (by decide) rfl ?_
  refine r_iconst C (v := 4) (q := 3) dX5_askDeep_2 (by decide) rfl ?_
  obtain ⟨v_3, e_3, h⟩ := bs h
  refine r_callS C (st := []) (st2 := [.int v_3]) (q := 6) (m_X5_isWithin (xG X) (xl X) e_3) ok_X5_isWithin q_239 rfl ⟨Nat.le_of_ble_eq_true rfl, Nat.le_of_ble_eq_true rfl⟩ rfl rfl (Nat.le_of_ble_eq_true rfl) dX5_askDeep_3 rfl (fun hp_3 => ?_)
  refine r_if_ne C (tgt := 16) (q := 9) dX5_askDeep_6 (by decide) rfl (fun c_6 => ?_) (fun c_6 => ?_)
  · replace h := (if_neg c_6).symm.trans h
    refine r_aload_n C 0 (q := 17) dX5_askDeep_16 rfl rfl ?_
    refine g_X5_0 C (q := 20) dX5_askDeep_17 q_203 hx0 rfl ?_
    obtain ⟨v_20, e_20, h⟩ := bs h
    refine r_callV C (ci := 0) (st := []) (st2 := [.int v_20]) (q := 23) (m_X0_isEmpty (xG X) (xl X) (kf_X5_0 hx0) e_20) ok_X0_isEmpty (kf_X5_0 hx0) rfl ⟨_, rfl⟩ q_405 rfl ⟨Nat.le_of_ble_eq_true rfl, Nat.le_of_ble_eq_true rfl⟩ rfl rfl (Nat.le_of_ble_eq_true rfl) dX5_askDeep_20 rfl (fun hp_20 => ?_)
    refine r_if_ne C (tgt := 33) (q := 26) dX5_askDeep_23 (by decide) rfl (fun c_23 => ?_) (fun c_23 => ?_)
    · replace h := (if_neg c_23).symm.trans h
      refine r_aload_n C 0 (q := 34) dX5_askDeep_33 rfl rfl ?_
      refine g_X5_0 C (q := 37) dX5_askDeep_34 q_203 hx0 rfl ?_
      refine g_X0_1 C (q := 40) dX5_askDeep_37 q_68 (kf_X5_0 hx0) rfl ?_
      obtain ⟨y_40, e_40, h⟩ := bs h
      refine r_topI (Option.some.inj e_40) ?_
      refine r_istore_n C (lv' := [(2, .int y_40), (0, .ref ((xG X).1 x0)), (1, .int x1)]) (q := 41) dX5_askDeep_40 rfl (by decide) rfl rfl ?_
      refine r_aload_n C 1 (q := 42) dX5_askDeep_41 rfl rfl ?_
      refine g_X5_0 C (q := 45) dX5_askDeep_42 q_203 hx0 rfl ?_
      refine r_iload_n C 2 (q := 46) dX5_askDeep_45 rfl rfl ?_
      obtain ⟨s_46, e_46, h⟩ := bs h
      refine p_X0_1 C (q := 49) dX5_askDeep_46 q_68 (kf_X5_0 hx0) e_46 rfl ?_
      refine r_iload_n C 0 (q := 50) dX5_askDeep_49 rfl rfl ?_
      obtain ⟨rfl, rfl⟩ := Prod.mk.inj (Option.some.inj h)
      exact hr _ _ dX5_askDeep_50
    · replace h := (if_pos c_23).symm.trans h
      refine r_aload_n C 0 (q := 27) dX5_askDeep_26 rfl rfl ?_
      refine r_bipush C (v := (-5)) (q := 29) dX5_askDeep_27 (by decide) rfl ?_
      obtain ⟨v_29, s_29, e_29, h⟩ := bs2 h
      refine r_callV C (ci := 5) (st := []) (st2 := [.int v_29]) (q := 32) (m_X5_refuse (xG X) (xl X) hx0 e_29) ok_X5_refuse hx0 rfl ⟨_, rfl⟩ q_242 rfl ⟨Nat.le_of_ble_eq_true rfl, Nat.le_of_ble_eq_true rfl⟩ rfl rfl (Nat.le_of_ble_eq_true rfl) dX5_askDeep_29 rfl (fun hp_29 => ?_)
      obtain ⟨rfl, rfl⟩ := Prod.mk.inj (Option.some.inj h)
      exact hr _ _ dX5_askDeep_32
  · replace h := (if_pos c_6).symm.trans h
    refine r_aload_n C 0 (q := 10) dX5_askDeep_9 rfl rfl ?_
    refine r_bipush C (v := (-2)) (q := 12) dX5_askDeep_10 (by decide) rfl ?_
    obtain ⟨v_12, s_12, e_12, h⟩ := bs2 h
    refine r_callV C (ci := 5) (st := []) (st2 := [.int v_12]) (q := 15) (m_X5_refuse (xG X) (xl X) hx0 e_12) ok_X5_refuse hx0 rfl ⟨_, rfl⟩ q_242 rfl ⟨Nat.le_of_ble_eq_true rfl, Nat.le_of_ble_eq_true rfl⟩ rfl rfl (Nat.le_of_ble_eq_true rfl) dX5_askDeep_12 rfl (fun hp_12 => ?_)
    obtain ⟨rfl, rfl⟩ := Prod.mk.inj (Option.some.inj h)
    exact hr _ _ dX5_askDeep_15

theorem m_X5_askDeep (G : Gm) (l : Launch) {σ σ' : St} {x0 : Nat} {x1 : Int32} (hx0 : kd x0 = 6) {r : Int32} (h : f_X5_askDeep σ x0 x1 = some (r, σ')) : Ctr G l yX5_askDeep cX5_askDeep 3 (some .int) 2 44 [.ref (G.1 x0), .int x1] σ (some (.int r)) True σ' := by
  refine Ctr.i (by decide) (Nat.le_of_ble_eq_true rfl) ?_
  intro X hG C hr
  subst hG
  exact w_X5_askDeep_b0 C hr _ _ _ hx0 h
-- X5_askStrength
set_option maxHeartbeats 4000000 in
set_option maxRecDepth 100000 in
theorem w_X5_askStrength_b0 {X : CX} (C : Cok X RX5 cX5_askStrength 3 2 44) {σ' : St} {r : Int32} (hr : RtI X cX5_askStrength r σ') (σ : St) (x0 : Nat) (x1 : Int32) (hx0 : kd x0 = 6) (h : f_X5_askStrength σ x0 x1 = some (r, σ')) : V X σ 0 [(0, .ref ((xG X).1 x0)), (1, .int x1)] [] := by
  unfold f_X5_askStrength at h
  refine r_iload_n C 1 (q := 1) dX5_askStrength_0 rfl rfl ?_
  refine r_iconst C (v := 1) (q := 2) dX5_askStrength_1 (by decide) rfl ?_
  refine r_bipush C (v := 20) (q := 4) dX5_askStrength_2 (by decide) rfl ?_
  obtain ⟨v_4, e_4, h⟩ := bs h
  refine r_callS C (st := []) (st2 := [.int v_4]) (q := 7) (m_X5_isWithin (xG X) (xl X) e_4) ok_X5_isWithin q_239 rfl ⟨Nat.le_of_ble_eq_true rfl, Nat.le_of_ble_eq_true rfl⟩ rfl rfl (Nat.le_of_ble_eq_true rfl) dX5_askStrength_4 rfl (fun hp_4 => ?_)
  refine r_if_ne C (tgt := 17) (q := 10) dX5_askStrength_7 (by decide) rfl (fun c_7 => ?_) (fun c_7 => ?_)
  · replace h := (if_neg c_7).symm.trans h
    refine r_aload_n C 0 (q := 18) dX5_askStrength_17 rfl rfl ?_
    refine g_X5_0 C (q := 21) dX5_askStrength_18 q_203 hx0 rfl ?_
    refine g_X0_2 C (q := 24) dX5_askStrength_21 q_72 (kf_X5_0 hx0) rfl ?_
    obtain ⟨y_24, e_24, h⟩ := bs h
    refine r_topI (Option.some.inj e_24) ?_
    refine r_istore_n C (lv' := [(2, .int y_24), (0, .ref ((xG X).1 x0)), (1, .int x1)]) (q := 25) dX5_askStrength_24 rfl (by decide) rfl rfl ?_
    refine r_aload_n C 1 (q := 26) dX5_askStrength_25 rfl rfl ?_
    refine g_X5_0 C (q := 29) dX5_askStrength_26 q_203 hx0 rfl ?_
    refine r_iload_n C 2 (q := 30) dX5_askStrength_29 rfl rfl ?_
    obtain ⟨s_30, e_30, h⟩ := bs h
    refine p_X0_2 C (q := 33) dX5_askStrength_30 q_72 (kf_X5_0 hx0) e_30 rfl ?_
    refine r_iload_n C 0 (q := 34) dX5_askStrength_33 rfl rfl ?_
    obtain ⟨rfl, rfl⟩ := Prod.mk.inj (Option.some.inj h)
    exact hr _ _ dX5_askStrength_34
  · replace h := (if_pos c_7).symm.trans h
    refine r_aload_n C 0 (q := 11) dX5_askStrength_10 rfl rfl ?_
    refine r_bipush C (v := (-2)) (q := 13) dX5_askStrength_11 (by decide) rfl ?_
    obtain ⟨v_13, s_13, e_13, h⟩ := bs2 h
    refine r_callV C (ci := 5) (st := []) (st2 := [.int v_13]) (q := 16) (m_X5_refuse (xG X) (xl X) hx0 e_13) ok_X5_refuse hx0 rfl ⟨_, rfl⟩ q_242 rfl ⟨Nat.le_of_ble_eq_true rfl, Nat.le_of_ble_eq_true rfl⟩ rfl rfl (Nat.le_of_ble_eq_true rfl) dX5_askStrength_13 rfl (fun hp_13 => ?_)
    obtain ⟨rfl, rfl⟩ := Prod.mk.inj (Option.some.inj h)
    exact hr _ _ dX5_askStrength_16

theorem m_X5_askStrength (G : Gm) (l : Launch) {σ σ' : St} {x0 : Nat} {x1 : Int32} (hx0 : kd x0 = 6) {r : Int32} (h : f_X5_askStrength σ x0 x1 = some (r, σ')) : Ctr G l yX5_askStrength cX5_askStrength 3 (some .int) 2 44 [.ref (G.1 x0), .int x1] σ (some (.int r)) True σ' := by
  refine Ctr.i (by decide) (Nat.le_of_ble_eq_true rfl) ?_
  intro X hG C hr
  subst hG
  exact w_X5_askStrength_b0 C hr _ _ _ hx0 h
-- X5_ask
set_option maxHeartbeats 4000000 in
set_option maxRecDepth 100000 in
theorem w_X5_ask_b0 {X : CX} (C : Cok X RX5 cX5_ask 3 3 66) {σ' : St} {r : Int32} (hr : RtI X cX5_ask r σ') (σ : St) (x0 : Nat) (x1 : Int32) (x2 : Int32) (hx0 : kd x0 = 6) (h : f_X5_ask σ x0 x1 x2 = some (r, σ')) : V X σ 0 [(0, .ref ((xG X).1 x0)), (1, .int x1), (2, .int x2)] [] := by
  unfold f_X5_ask at h
  refine r_iload_n C 1 (q := 1) dX5_ask_0 rfl rfl ?_
  by_cases c_1_0 : x1 = 0
  · replace h := (if_pos c_1_0).symm.trans h
    refine r_tabIn C (tgt := 28) (off := 27) dX5_ask_1 (by rw [c_1_0]; decide) (by rw [c_1_0]; decide) (by rw [c_1_0]; rfl) (by decide) ?_
    refine r_aload_n C 0 (q := 29) dX5_ask_28 rfl rfl ?_
    refine r_iload_n C 2 (q := 30) dX5_ask_29 rfl rfl ?_
    obtain ⟨v_30, s_30, e_30, h⟩ := bs2 h
    refine r_callV C (ci := 5) (st := []) (st2 := [.int v_30]) (q := 33) (m_X5_askPlaces (xG X) (xl X) hx0 e_30) ok_X5_askPlaces hx0 rfl ⟨_, rfl⟩ q_401 rfl ⟨Nat.le_of_ble_eq_true rfl, Nat.le_of_ble_eq_true rfl⟩ rfl rfl (Nat.le_of_ble_eq_true rfl) dX5_ask_30 rfl (fun hp_30 => ?_)
    obtain ⟨rfl, rfl⟩ := Prod.mk.inj (Option.some.inj h)
    exact hr _ _ dX5_ask_33
  · replace h := (if_neg c_1_0).symm.trans h
    by_cases c_1_1 : x1 = 1
    · replace h := (if_pos c_1_1).symm.trans h
      refine r_tabIn C (tgt := 34) (off := 33) dX5_ask_1 (by rw [c_1_1]; decide) (by rw [c_1_1]; decide) (by rw [c_1_1]; rfl) (by decide) ?_
      refine r_aload_n C 0 (q := 35) dX5_ask_34 rfl rfl ?_
      refine r_iload_n C 2 (q := 36) dX5_ask_35 rfl rfl ?_
      obtain ⟨v_36, s_36, e_36, h⟩ := bs2 h
      refine r_callV C (ci := 5) (st := []) (st2 := [.int v_36]) (q := 39) (m_X5_askDeep (xG X) (xl X) hx0 e_36) ok_X5_askDeep hx0 rfl ⟨_, rfl⟩ q_409 rfl ⟨Nat.le_of_ble_eq_true rfl, Nat.le_of_ble_eq_true rfl⟩ rfl rfl (Nat.le_of_ble_eq_true rfl) dX5_ask_36 rfl (fun hp_36 => ?_)
      obtain ⟨rfl, rfl⟩ := Prod.mk.inj (Option.some.inj h)
      exact hr _ _ dX5_ask_39
    · replace h := (if_neg c_1_1).symm.trans h
      by_cases c_1_2 : x1 = 2
      · replace h := (if_pos c_1_2).symm.trans h
        refine r_tabIn C (tgt := 40) (off := 39) dX5_ask_1 (by rw [c_1_2]; decide) (by rw [c_1_2]; decide) (by rw [c_1_2]; rfl) (by decide) ?_
        refine r_aload_n C 0 (q := 41) dX5_ask_40 rfl rfl ?_
        refine r_iload_n C 2 (q := 42) dX5_ask_41 rfl rfl ?_
        obtain ⟨v_42, s_42, e_42, h⟩ := bs2 h
        refine r_callV C (ci := 5) (st := []) (st2 := [.int v_42]) (q := 45) (m_X5_askStrength (xG X) (xl X) hx0 e_42) ok_X5_askStrength hx0 rfl ⟨_, rfl⟩ q_413 rfl ⟨Nat.le_of_ble_eq_true rfl, Nat.le_of_ble_eq_true rfl⟩ rfl rfl (Nat.le_of_ble_eq_true rfl) dX5_ask_42 rfl (fun hp_42 => ?_)
        obtain ⟨rfl, rfl⟩ := Prod.mk.inj (Option.some.inj h)
        exact hr _ _ dX5_ask_45
      · replace h := (if_neg c_1_2).symm.trans h
        refine r_tabOut C (tgt := 46) dX5_ask_1 (tab_out (lt_s (lt_s (lt_s lt_0 c_1_0) c_1_1) c_1_2) (by decide)) (by decide) ?_
        refine r_aload_n C 0 (q := 47) dX5_ask_46 rfl rfl ?_
        refine r_bipush C (v := (-2)) (q := 49) dX5_ask_47 (by decide) rfl ?_
        obtain ⟨v_49, s_49, e_49, h⟩ := bs2 h
        refine r_callV C (ci := 5) (st := []) (st2 := [.int v_49]) (q := 52) (m_X5_refuse (xG X) (xl X) hx0 e_49) ok_X5_refuse hx0 rfl ⟨_, rfl⟩ q_242 rfl ⟨Nat.le_of_ble_eq_true rfl, Nat.le_of_ble_eq_true rfl⟩ rfl rfl (Nat.le_of_ble_eq_true rfl) dX5_ask_49 rfl (fun hp_49 => ?_)
        obtain ⟨rfl, rfl⟩ := Prod.mk.inj (Option.some.inj h)
        exact hr _ _ dX5_ask_52

theorem m_X5_ask (G : Gm) (l : Launch) {σ σ' : St} {x0 : Nat} {x1 : Int32} {x2 : Int32} (hx0 : kd x0 = 6) {r : Int32} (h : f_X5_ask σ x0 x1 x2 = some (r, σ')) : Ctr G l yX5_ask cX5_ask 3 (some .int) 3 66 [.ref (G.1 x0), .int x1, .int x2] σ (some (.int r)) True σ' := by
  refine Ctr.i (by decide) (Nat.le_of_ble_eq_true rfl) ?_
  intro X hG C hr
  subst hG
  exact w_X5_ask_b0 C hr _ _ _ _ hx0 h
-- X5_key
set_option maxHeartbeats 4000000 in
set_option maxRecDepth 100000 in
theorem w_X5_key_b19 {X : CX} (C : Cok X RX5 cX5_key 4 3 67) {σ' : St} {r : Int32} (hr : RtI X cX5_key r σ') (σ : St) (x0 : Nat) (hx0 : kd x0 = 6) (h : f_X5_key_b19 σ x0 = some (r, σ')) : V X σ 19 [(0, .ref ((xG X).1 x0))] [] := by
  unfold f_X5_key_b19 at h
  refine r_aload_n C 0 (q := 20) dX5_key_19 rfl rfl ?_
  refine r_bipush C (v := (-2)) (q := 22) dX5_key_20 (by decide) rfl ?_
  obtain ⟨v_22, s_22, e_22, h⟩ := bs2 h
  refine r_callV C (ci := 5) (st := []) (st2 := [.int v_22]) (q := 25) (m_X5_refuse (xG X) (xl X) hx0 e_22) ok_X5_refuse hx0 rfl ⟨_, rfl⟩ q_242 rfl ⟨Nat.le_of_ble_eq_true rfl, Nat.le_of_ble_eq_true rfl⟩ rfl rfl (Nat.le_of_ble_eq_true rfl) dX5_key_22 rfl (fun hp_22 => ?_)
  obtain ⟨rfl, rfl⟩ := Prod.mk.inj (Option.some.inj h)
  exact hr _ _ dX5_key_25

set_option maxHeartbeats 4000000 in
set_option maxRecDepth 100000 in
theorem w_X5_key_b0 {X : CX} (C : Cok X RX5 cX5_key 4 3 67) {σ' : St} {r : Int32} (hr : RtI X cX5_key r σ') (σ : St) (x0 : Nat) (x1 : Int32) (x2 : Int32) (hx0 : kd x0 = 6) (h : f_X5_key σ x0 x1 x2 = some (r, σ')) : V X σ 0 [(0, .ref ((xG X).1 x0)), (1, .int x1), (2, .int x2)] [] := by
  unfold f_X5_key at h
  refine r_iload_n C 1 (q := 1) dX5_key_0 rfl rfl ?_
  refine r_iconst C (v := 0) (q := 2) dX5_key_1 (by decide) rfl ?_
  refine r_iconst C (v := 5) (q := 3) dX5_key_2 (by decide) rfl ?_
  obtain ⟨v_3, e_3, h⟩ := bs h
  refine r_callS C (st := []) (st2 := [.int v_3]) (q := 6) (m_X5_isWithin (xG X) (xl X) e_3) ok_X5_isWithin q_239 rfl ⟨Nat.le_of_ble_eq_true rfl, Nat.le_of_ble_eq_true rfl⟩ rfl rfl (Nat.le_of_ble_eq_true rfl) dX5_key_3 rfl (fun hp_3 => ?_)
  refine r_if_eq C (tgt := 19) (q := 9) dX5_key_6 (by decide) rfl (fun c_6 => ?_) (fun c_6 => ?_)
  · replace h := (if_pos c_6).symm.trans h
    refine r_sub (lv' := [(0, .ref ((xG X).1 x0))]) [0] rfl ?_
    exact w_X5_key_b19 C hr  _ _ hx0 h
  · replace h := (if_neg c_6).symm.trans h
    refine r_iload_n C 2 (q := 10) dX5_key_9 rfl rfl ?_
    refine r_iconst C (v := 0) (q := 11) dX5_key_10 (by decide) rfl ?_
    refine r_bipush C (v := 9) (q := 13) dX5_key_11 (by decide) rfl ?_
    obtain ⟨v_13, e_13, h⟩ := bs h
    refine r_callS C (st := []) (st2 := [.int v_13]) (q := 16) (m_X5_isWithin (xG X) (xl X) e_13) ok_X5_isWithin q_239 rfl ⟨Nat.le_of_ble_eq_true rfl, Nat.le_of_ble_eq_true rfl⟩ rfl rfl (Nat.le_of_ble_eq_true rfl) dX5_key_13 rfl (fun hp_13 => ?_)
    refine r_if_ne C (tgt := 26) (q := 19) dX5_key_16 (by decide) rfl (fun c_16 => ?_) (fun c_16 => ?_)
    · replace h := (if_neg c_16).symm.trans h
      refine r_aload_n C 0 (q := 27) dX5_key_26 rfl rfl ?_
      refine g_X5_0 C (q := 30) dX5_key_27 q_203 hx0 rfl ?_
      refine r_iload_n C 1 (q := 31) dX5_key_30 rfl rfl ?_
      refine r_iload_n C 2 (q := 32) dX5_key_31 rfl rfl ?_
      obtain ⟨v_32, s_32, e_32, h⟩ := bs2 h
      refine r_callV C (ci := 0) (st := []) (st2 := [.int v_32]) (q := 35) (m_X0_addKey (xG X) (xl X) (kf_X5_0 hx0) e_32) ok_X0_addKey (kf_X5_0 hx0) rfl ⟨_, rfl⟩ q_421 rfl ⟨Nat.le_of_ble_eq_true rfl, Nat.le_of_ble_eq_true rfl⟩ rfl rfl (Nat.le_of_ble_eq_true rfl) dX5_key_32 rfl (fun hp_32 => ?_)
      refine r_istore_n C (lv' := [(3, .int v_32), (0, .ref ((xG X).1 x0)), (1, .int x1), (2, .int x2)]) (q := 36) dX5_key_35 rfl (by decide) rfl rfl ?_
      refine r_iload_n C 0 (q := 37) dX5_key_36 rfl rfl ?_
      refine r_iconst C (v := (-1)) (q := 38) dX5_key_37 (by decide) rfl ?_
      refine r_icmp_ne C (tgt := 50) (q := 41) dX5_key_38 (by decide) rfl (fun c_38 => ?_) (fun c_38 => ?_)
      · replace h := (if_neg c_38).symm.trans h
        refine r_iload_n C 0 (q := 51) dX5_key_50 rfl rfl ?_
        obtain ⟨rfl, rfl⟩ := Prod.mk.inj (Option.some.inj h)
        exact hr _ _ dX5_key_51
      · replace h := (if_pos c_38).symm.trans h
        refine r_aload_n C 1 (q := 42) dX5_key_41 rfl rfl ?_
        refine r_bipush C (v := (-6)) (q := 44) dX5_key_42 (by decide) rfl ?_
        obtain ⟨v_44, s_44, e_44, h⟩ := bs2 h
        refine r_callV C (ci := 5) (st := []) (st2 := [.int v_44]) (q := 47) (m_X5_refuse (xG X) (xl X) hx0 e_44) ok_X5_refuse hx0 rfl ⟨_, rfl⟩ q_242 rfl ⟨Nat.le_of_ble_eq_true rfl, Nat.le_of_ble_eq_true rfl⟩ rfl rfl (Nat.le_of_ble_eq_true rfl) dX5_key_44 rfl (fun hp_44 => ?_)
        refine r_goto C (tgt := 51) dX5_key_47 (by decide) ?_
        obtain ⟨rfl, rfl⟩ := Prod.mk.inj (Option.some.inj h)
        exact hr _ _ dX5_key_51
    · replace h := (if_pos c_16).symm.trans h
      refine r_sub (lv' := [(0, .ref ((xG X).1 x0))]) [0] rfl ?_
      exact w_X5_key_b19 C hr  _ _ hx0 h

theorem m_X5_key (G : Gm) (l : Launch) {σ σ' : St} {x0 : Nat} {x1 : Int32} {x2 : Int32} (hx0 : kd x0 = 6) {r : Int32} (h : f_X5_key σ x0 x1 x2 = some (r, σ')) : Ctr G l yX5_key cX5_key 4 (some .int) 3 67 [.ref (G.1 x0), .int x1, .int x2] σ (some (.int r)) True σ' := by
  refine Ctr.i (by decide) (Nat.le_of_ble_eq_true rfl) ?_
  intro X hG C hr
  subst hG
  exact w_X5_key_b0 C hr _ _ _ _ hx0 h
-- X5_lock
set_option maxHeartbeats 4000000 in
set_option maxRecDepth 100000 in
theorem w_X5_lock_b0 {X : CX} (C : Cok X RX5 cX5_lock 3 4 92) {σ' : St} {r : Int32} (hr : RtI X cX5_lock r σ') (σ : St) (x0 : Nat) (x1 : Int32) (hx0 : kd x0 = 6) (h : f_X5_lock σ x0 x1 = some (r, σ')) : V X σ 0 [(0, .ref ((xG X).1 x0)), (1, .int x1)] [] := by
  unfold f_X5_lock at h
  refine r_aload_n C 0 (q := 1) dX5_lock_0 rfl rfl ?_
  refine g_X5_0 C (q := 4) dX5_lock_1 q_203 hx0 rfl ?_
  refine r_iload_n C 1 (q := 5) dX5_lock_4 rfl rfl ?_
  obtain ⟨v_5, s_5, e_5, h⟩ := bs2 h
  refine r_callV C (ci := 0) (st := []) (st2 := [.int v_5]) (q := 8) (m_X0_addLock (xG X) (xl X) (kf_X5_0 hx0) e_5) ok_X0_addLock (kf_X5_0 hx0) rfl ⟨_, rfl⟩ q_436 rfl ⟨Nat.le_of_ble_eq_true rfl, Nat.le_of_ble_eq_true rfl⟩ rfl rfl (Nat.le_of_ble_eq_true rfl) dX5_lock_5 rfl (fun hp_5 => ?_)
  refine r_istore_n C (lv' := [(2, .int v_5), (0, .ref ((xG X).1 x0)), (1, .int x1)]) (q := 9) dX5_lock_8 rfl (by decide) rfl rfl ?_
  refine r_iload_n C 0 (q := 10) dX5_lock_9 rfl rfl ?_
  refine r_iconst C (v := (-1)) (q := 11) dX5_lock_10 (by decide) rfl ?_
  refine r_icmp_ne C (tgt := 23) (q := 14) dX5_lock_11 (by decide) rfl (fun c_11 => ?_) (fun c_11 => ?_)
  · replace h := (if_neg c_11).symm.trans h
    refine r_iload_n C 0 (q := 24) dX5_lock_23 rfl rfl ?_
    obtain ⟨rfl, rfl⟩ := Prod.mk.inj (Option.some.inj h)
    exact hr _ _ dX5_lock_24
  · replace h := (if_pos c_11).symm.trans h
    refine r_aload_n C 1 (q := 15) dX5_lock_14 rfl rfl ?_
    refine r_bipush C (v := (-6)) (q := 17) dX5_lock_15 (by decide) rfl ?_
    obtain ⟨v_17, s_17, e_17, h⟩ := bs2 h
    refine r_callV C (ci := 5) (st := []) (st2 := [.int v_17]) (q := 20) (m_X5_refuse (xG X) (xl X) hx0 e_17) ok_X5_refuse hx0 rfl ⟨_, rfl⟩ q_242 rfl ⟨Nat.le_of_ble_eq_true rfl, Nat.le_of_ble_eq_true rfl⟩ rfl rfl (Nat.le_of_ble_eq_true rfl) dX5_lock_17 rfl (fun hp_17 => ?_)
    refine r_goto C (tgt := 24) dX5_lock_20 (by decide) ?_
    obtain ⟨rfl, rfl⟩ := Prod.mk.inj (Option.some.inj h)
    exact hr _ _ dX5_lock_24

theorem m_X5_lock (G : Gm) (l : Launch) {σ σ' : St} {x0 : Nat} {x1 : Int32} (hx0 : kd x0 = 6) {r : Int32} (h : f_X5_lock σ x0 x1 = some (r, σ')) : Ctr G l yX5_lock cX5_lock 3 (some .int) 4 92 [.ref (G.1 x0), .int x1] σ (some (.int r)) True σ' := by
  refine Ctr.i (by decide) (Nat.le_of_ble_eq_true rfl) ?_
  intro X hG C hr
  subst hG
  exact w_X5_lock_b0 C hr _ _ _ hx0 h
-- X5_isLock
set_option maxHeartbeats 4000000 in
set_option maxRecDepth 100000 in
theorem w_X5_isLock_b0 {X : CX} (C : Cok X RX5 cX5_isLock 2 1 22) {σ : St} {r : Int32} (hr : RtZ X cX5_isLock r σ) (x0 : Nat) (x1 : Int32) (hx0 : kd x0 = 6) (h : f_X5_isLock σ x0 x1 = some r) : V X σ 0 [(0, .ref ((xG X).1 x0)), (1, .int x1)] [] := by
  unfold f_X5_isLock at h
  refine r_iload_n C 1 (q := 1) dX5_isLock_0 rfl rfl ?_
  refine r_iconst C (v := 0) (q := 2) dX5_isLock_1 (by decide) rfl ?_
  refine r_aload_n C 0 (q := 3) dX5_isLock_2 rfl rfl ?_
  refine g_X5_0 C (q := 6) dX5_isLock_3 q_203 hx0 rfl ?_
  refine g_X0_6 C (q := 9) dX5_isLock_6 q_84 (kf_X5_0 hx0) rfl ?_
  refine r_iconst C (v := 1) (q := 10) dX5_isLock_9 (by decide) rfl ?_
  refine r_isub C (q := 11) dX5_isLock_10 rfl ?_
  obtain ⟨v_11, e_11, h⟩ := bs h
  refine r_callS C (st := []) (st2 := [.int v_11]) (q := 14) (m_X5_isWithin (xG X) (xl X) e_11) ok_X5_isWithin q_239 rfl ⟨Nat.le_of_ble_eq_true rfl, Nat.le_of_ble_eq_true rfl⟩ rfl rfl (Nat.le_of_ble_eq_true rfl) dX5_isLock_11 rfl (fun hp_11 => ?_)
  obtain rfl := Option.some.inj h
  exact hr _ _ dX5_isLock_14 hp_11

theorem m_X5_isLock (G : Gm) (l : Launch) {σ : St} {x0 : Nat} {x1 : Int32} (hx0 : kd x0 = 6) {r : Int32} (h : f_X5_isLock σ x0 x1 = some r) : Ctr G l yX5_isLock cX5_isLock 2 (some .boolean) 1 22 [.ref (G.1 x0), .int x1] σ (some (.int r)) (r = 0 ∨ r = 1) σ := by
  refine Ctr.z (by decide) (Nat.le_of_ble_eq_true rfl) ?_
  intro X hG C hr
  subst hG
  exact w_X5_isLock_b0 C hr _ _ hx0 h
-- X5_isPlace
set_option maxHeartbeats 4000000 in
set_option maxRecDepth 100000 in
theorem w_X5_isPlace_b0 {X : CX} (C : Cok X RX5 cX5_isPlace 2 1 22) {σ : St} {r : Int32} (hr : RtZ X cX5_isPlace r σ) (x0 : Nat) (x1 : Int32) (hx0 : kd x0 = 6) (h : f_X5_isPlace σ x0 x1 = some r) : V X σ 0 [(0, .ref ((xG X).1 x0)), (1, .int x1)] [] := by
  unfold f_X5_isPlace at h
  refine r_iload_n C 1 (q := 1) dX5_isPlace_0 rfl rfl ?_
  refine r_iconst C (v := 0) (q := 2) dX5_isPlace_1 (by decide) rfl ?_
  refine r_aload_n C 0 (q := 3) dX5_isPlace_2 rfl rfl ?_
  refine g_X5_0 C (q := 6) dX5_isPlace_3 q_203 hx0 rfl ?_
  refine g_X0_0 C (q := 9) dX5_isPlace_6 q_65 (kf_X5_0 hx0) rfl ?_
  refine r_iconst C (v := 1) (q := 10) dX5_isPlace_9 (by decide) rfl ?_
  refine r_isub C (q := 11) dX5_isPlace_10 rfl ?_
  obtain ⟨v_11, e_11, h⟩ := bs h
  refine r_callS C (st := []) (st2 := [.int v_11]) (q := 14) (m_X5_isWithin (xG X) (xl X) e_11) ok_X5_isWithin q_239 rfl ⟨Nat.le_of_ble_eq_true rfl, Nat.le_of_ble_eq_true rfl⟩ rfl rfl (Nat.le_of_ble_eq_true rfl) dX5_isPlace_11 rfl (fun hp_11 => ?_)
  obtain rfl := Option.some.inj h
  exact hr _ _ dX5_isPlace_14 hp_11

theorem m_X5_isPlace (G : Gm) (l : Launch) {σ : St} {x0 : Nat} {x1 : Int32} (hx0 : kd x0 = 6) {r : Int32} (h : f_X5_isPlace σ x0 x1 = some r) : Ctr G l yX5_isPlace cX5_isPlace 2 (some .boolean) 1 22 [.ref (G.1 x0), .int x1] σ (some (.int r)) (r = 0 ∨ r = 1) σ := by
  refine Ctr.z (by decide) (Nat.le_of_ble_eq_true rfl) ?_
  intro X hG C hr
  subst hG
  exact w_X5_isPlace_b0 C hr _ _ hx0 h
-- X5_asks
set_option maxHeartbeats 4000000 in
set_option maxRecDepth 100000 in
theorem w_X5_asks_b31 {X : CX} (C : Cok X RX5 cX5_asks 5 3 69) {σ' : St} {r : Int32} (hr : RtI X cX5_asks r σ') (σ : St) (x0 : Nat) (hx0 : kd x0 = 6) (h : f_X5_asks_b31 σ x0 = some (r, σ')) : V X σ 31 [(0, .ref ((xG X).1 x0))] [] := by
  unfold f_X5_asks_b31 at h
  refine r_aload_n C 0 (q := 32) dX5_asks_31 rfl rfl ?_
  refine r_bipush C (v := (-2)) (q := 34) dX5_asks_32 (by decide) rfl ?_
  obtain ⟨v_34, s_34, e_34, h⟩ := bs2 h
  refine r_callV C (ci := 5) (st := []) (st2 := [.int v_34]) (q := 37) (m_X5_refuse (xG X) (xl X) hx0 e_34) ok_X5_refuse hx0 rfl ⟨_, rfl⟩ q_242 rfl ⟨Nat.le_of_ble_eq_true rfl, Nat.le_of_ble_eq_true rfl⟩ rfl rfl (Nat.le_of_ble_eq_true rfl) dX5_asks_34 rfl (fun hp_34 => ?_)
  obtain ⟨rfl, rfl⟩ := Prod.mk.inj (Option.some.inj h)
  exact hr _ _ dX5_asks_37

set_option maxHeartbeats 4000000 in
set_option maxRecDepth 100000 in
theorem w_X5_asks_b0 {X : CX} (C : Cok X RX5 cX5_asks 5 3 69) {σ' : St} {r : Int32} (hr : RtI X cX5_asks r σ') (σ : St) (x0 : Nat) (x1 : Int32) (x2 : Int32) (x3 : Int32) (hx0 : kd x0 = 6) (h : f_X5_asks σ x0 x1 x2 x3 = some (r, σ')) : V X σ 0 [(0, .ref ((xG X).1 x0)), (1, .int x1), (2, .int x2), (3, .int x3)] [] := by
  unfold f_X5_asks at h
  refine r_aload_n C 0 (q := 1) dX5_asks_0 rfl rfl ?_
  refine r_iload_n C 1 (q := 2) dX5_asks_1 rfl rfl ?_
  obtain ⟨v_2, e_2, h⟩ := bs h
  refine r_callV C (ci := 5) (st := []) (st2 := [.int v_2]) (q := 5) (m_X5_isLock (xG X) (xl X) hx0 e_2) ok_X5_isLock hx0 rfl ⟨_, rfl⟩ q_453 rfl ⟨Nat.le_of_ble_eq_true rfl, Nat.le_of_ble_eq_true rfl⟩ rfl rfl (Nat.le_of_ble_eq_true rfl) dX5_asks_2 rfl (fun hp_2 => ?_)
  refine r_if_eq C (tgt := 31) (q := 8) dX5_asks_5 (by decide) rfl (fun c_5 => ?_) (fun c_5 => ?_)
  · replace h := (if_pos c_5).symm.trans h
    refine r_sub (lv' := [(0, .ref ((xG X).1 x0))]) [0] rfl ?_
    exact w_X5_asks_b31 C hr  _ _ hx0 h
  · replace h := (if_neg c_5).symm.trans h
    refine r_aload_n C 0 (q := 9) dX5_asks_8 rfl rfl ?_
    refine r_iload_n C 2 (q := 10) dX5_asks_9 rfl rfl ?_
    obtain ⟨v_10, e_10, h⟩ := bs h
    refine r_callV C (ci := 5) (st := []) (st2 := [.int v_10]) (q := 13) (m_X5_isPlace (xG X) (xl X) hx0 e_10) ok_X5_isPlace hx0 rfl ⟨_, rfl⟩ q_457 rfl ⟨Nat.le_of_ble_eq_true rfl, Nat.le_of_ble_eq_true rfl⟩ rfl rfl (Nat.le_of_ble_eq_true rfl) dX5_asks_10 rfl (fun hp_10 => ?_)
    refine r_if_eq C (tgt := 31) (q := 16) dX5_asks_13 (by decide) rfl (fun c_13 => ?_) (fun c_13 => ?_)
    · replace h := (if_pos c_13).symm.trans h
      refine r_sub (lv' := [(0, .ref ((xG X).1 x0))]) [0] rfl ?_
      exact w_X5_asks_b31 C hr  _ _ hx0 h
    · replace h := (if_neg c_13).symm.trans h
      refine r_iload_n C 3 (q := 17) dX5_asks_16 rfl rfl ?_
      refine r_iconst C (v := 0) (q := 18) dX5_asks_17 (by decide) rfl ?_
      refine r_aload_n C 0 (q := 19) dX5_asks_18 rfl rfl ?_
      refine g_X5_0 C (q := 22) dX5_asks_19 q_203 hx0 rfl ?_
      refine g_X0_1 C (q := 25) dX5_asks_22 q_68 (kf_X5_0 hx0) rfl ?_
      obtain ⟨v_25, e_25, h⟩ := bs h
      refine r_callS C (st := []) (st2 := [.int v_25]) (q := 28) (m_X5_isWithin (xG X) (xl X) e_25) ok_X5_isWithin q_239 rfl ⟨Nat.le_of_ble_eq_true rfl, Nat.le_of_ble_eq_true rfl⟩ rfl rfl (Nat.le_of_ble_eq_true rfl) dX5_asks_25 rfl (fun hp_25 => ?_)
      refine r_if_ne C (tgt := 38) (q := 31) dX5_asks_28 (by decide) rfl (fun c_28 => ?_) (fun c_28 => ?_)
      · replace h := (if_neg c_28).symm.trans h
        refine r_aload_n C 0 (q := 39) dX5_asks_38 rfl rfl ?_
        refine g_X5_0 C (q := 42) dX5_asks_39 q_203 hx0 rfl ?_
        refine r_iload_n C 1 (q := 43) dX5_asks_42 rfl rfl ?_
        refine r_iload_n C 2 (q := 44) dX5_asks_43 rfl rfl ?_
        obtain ⟨v_44, e_44, h⟩ := bs h
        refine r_callV C (ci := 0) (st := []) (st2 := [.int v_44]) (q := 47) (m_X0_asksAt (xG X) (xl X) (kf_X5_0 hx0) e_44) ok_X0_asksAt (kf_X5_0 hx0) rfl ⟨_, rfl⟩ q_461 rfl ⟨Nat.le_of_ble_eq_true rfl, Nat.le_of_ble_eq_true rfl⟩ rfl rfl (Nat.le_of_ble_eq_true rfl) dX5_asks_44 rfl (fun hp_44 => ?_)
        refine r_istore C (lv' := [(4, .int v_44), (0, .ref ((xG X).1 x0)), (1, .int x1), (2, .int x2), (3, .int x3)]) (q := 49) dX5_asks_47 (by decide) rfl rfl ?_
        refine r_aload_n C 1 (q := 50) dX5_asks_49 rfl rfl ?_
        refine g_X5_0 C (q := 53) dX5_asks_50 q_203 hx0 rfl ?_
        refine r_iload_n C 2 (q := 54) dX5_asks_53 rfl rfl ?_
        refine r_iload_n C 3 (q := 55) dX5_asks_54 rfl rfl ?_
        refine r_iload_n C 4 (q := 56) dX5_asks_55 rfl rfl ?_
        obtain ⟨s_56, e_56, h⟩ := bs h
        refine r_callV C (ci := 0) (st := []) (st2 := []) (q := 59) (m_X0_putAsks (xG X) (xl X) (kf_X5_0 hx0) e_56) ok_X0_putAsks (kf_X5_0 hx0) rfl ⟨_, rfl⟩ q_465 rfl ⟨Nat.le_of_ble_eq_true rfl, Nat.le_of_ble_eq_true rfl⟩ rfl rfl (Nat.le_of_ble_eq_true rfl) dX5_asks_56 rfl (fun hp_56 => ?_)
        refine r_iload C 0 (q := 61) dX5_asks_59 rfl rfl ?_
        obtain ⟨rfl, rfl⟩ := Prod.mk.inj (Option.some.inj h)
        exact hr _ _ dX5_asks_61
      · replace h := (if_pos c_28).symm.trans h
        refine r_sub (lv' := [(0, .ref ((xG X).1 x0))]) [0] rfl ?_
        exact w_X5_asks_b31 C hr  _ _ hx0 h

theorem m_X5_asks (G : Gm) (l : Launch) {σ σ' : St} {x0 : Nat} {x1 : Int32} {x2 : Int32} {x3 : Int32} (hx0 : kd x0 = 6) {r : Int32} (h : f_X5_asks σ x0 x1 x2 x3 = some (r, σ')) : Ctr G l yX5_asks cX5_asks 5 (some .int) 3 69 [.ref (G.1 x0), .int x1, .int x2, .int x3] σ (some (.int r)) True σ' := by
  refine Ctr.i (by decide) (Nat.le_of_ble_eq_true rfl) ?_
  intro X hG C hr
  subst hG
  exact w_X5_asks_b0 C hr _ _ _ _ _ hx0 h
-- X5_may
set_option maxHeartbeats 4000000 in
set_option maxRecDepth 100000 in
theorem w_X5_may_b16 {X : CX} (C : Cok X RX5 cX5_may 4 2 44) {σ' : St} {r : Int32} (hr : RtI X cX5_may r σ') (σ : St) (x0 : Nat) (hx0 : kd x0 = 6) (h : f_X5_may_b16 σ x0 = some (r, σ')) : V X σ 16 [(0, .ref ((xG X).1 x0))] [] := by
  unfold f_X5_may_b16 at h
  refine r_aload_n C 0 (q := 17) dX5_may_16 rfl rfl ?_
  refine r_bipush C (v := (-2)) (q := 19) dX5_may_17 (by decide) rfl ?_
  obtain ⟨v_19, s_19, e_19, h⟩ := bs2 h
  refine r_callV C (ci := 5) (st := []) (st2 := [.int v_19]) (q := 22) (m_X5_refuse (xG X) (xl X) hx0 e_19) ok_X5_refuse hx0 rfl ⟨_, rfl⟩ q_242 rfl ⟨Nat.le_of_ble_eq_true rfl, Nat.le_of_ble_eq_true rfl⟩ rfl rfl (Nat.le_of_ble_eq_true rfl) dX5_may_19 rfl (fun hp_19 => ?_)
  obtain ⟨rfl, rfl⟩ := Prod.mk.inj (Option.some.inj h)
  exact hr _ _ dX5_may_22

set_option maxHeartbeats 4000000 in
set_option maxRecDepth 100000 in
theorem w_X5_may_b0 {X : CX} (C : Cok X RX5 cX5_may 4 2 44) {σ' : St} {r : Int32} (hr : RtI X cX5_may r σ') (σ : St) (x0 : Nat) (x1 : Int32) (x2 : Int32) (x3 : Int32) (hx0 : kd x0 = 6) (h : f_X5_may σ x0 x1 x2 x3 = some (r, σ')) : V X σ 0 [(0, .ref ((xG X).1 x0)), (1, .int x1), (2, .int x2), (3, .int x3)] [] := by
  unfold f_X5_may at h
  refine r_aload_n C 0 (q := 1) dX5_may_0 rfl rfl ?_
  refine r_iload_n C 1 (q := 2) dX5_may_1 rfl rfl ?_
  obtain ⟨v_2, e_2, h⟩ := bs h
  refine r_callV C (ci := 5) (st := []) (st2 := [.int v_2]) (q := 5) (m_X5_isKey (xG X) (xl X) hx0 e_2) ok_X5_isKey hx0 rfl ⟨_, rfl⟩ q_321 rfl ⟨Nat.le_of_ble_eq_true rfl, Nat.le_of_ble_eq_true rfl⟩ rfl rfl (Nat.le_of_ble_eq_true rfl) dX5_may_2 rfl (fun hp_2 => ?_)
  refine r_if_eq C (tgt := 16) (q := 8) dX5_may_5 (by decide) rfl (fun c_5 => ?_) (fun c_5 => ?_)
  · replace h := (if_pos c_5).symm.trans h
    refine r_sub (lv' := [(0, .ref ((xG X).1 x0))]) [0] rfl ?_
    exact w_X5_may_b16 C hr  _ _ hx0 h
  · replace h := (if_neg c_5).symm.trans h
    refine r_aload_n C 0 (q := 9) dX5_may_8 rfl rfl ?_
    refine r_iload_n C 2 (q := 10) dX5_may_9 rfl rfl ?_
    obtain ⟨v_10, e_10, h⟩ := bs h
    refine r_callV C (ci := 5) (st := []) (st2 := [.int v_10]) (q := 13) (m_X5_isLock (xG X) (xl X) hx0 e_10) ok_X5_isLock hx0 rfl ⟨_, rfl⟩ q_453 rfl ⟨Nat.le_of_ble_eq_true rfl, Nat.le_of_ble_eq_true rfl⟩ rfl rfl (Nat.le_of_ble_eq_true rfl) dX5_may_10 rfl (fun hp_10 => ?_)
    refine r_if_ne C (tgt := 23) (q := 16) dX5_may_13 (by decide) rfl (fun c_13 => ?_) (fun c_13 => ?_)
    · replace h := (if_neg c_13).symm.trans h
      refine r_aload_n C 0 (q := 24) dX5_may_23 rfl rfl ?_
      refine g_X5_0 C (q := 27) dX5_may_24 q_203 hx0 rfl ?_
      refine r_iload_n C 1 (q := 28) dX5_may_27 rfl rfl ?_
      obtain ⟨v_28, e_28, h⟩ := bs h
      refine r_callV C (ci := 0) (st := []) (st2 := [.ref ((xG X).1 v_28)]) (q := 31) (m_X0_keyAt (xG X) (xl X) (kf_X5_0 hx0) e_28) ok_X0_keyAt (kf_X5_0 hx0) rfl ⟨_, rfl⟩ q_329 rfl ⟨Nat.le_of_ble_eq_true rfl, Nat.le_of_ble_eq_true rfl⟩ rfl rfl (Nat.le_of_ble_eq_true rfl) dX5_may_28 rfl (fun hp_28 => ?_)
      refine r_iload_n C 2 (q := 32) dX5_may_31 rfl rfl ?_
      refine r_iload_n C 3 (q := 33) dX5_may_32 rfl rfl ?_
      obtain ⟨v_33, s_33, e_33, h⟩ := bs2 h
      refine r_callV C (ci := 1) (st := []) (st2 := [.int v_33]) (q := 36) (m_X1_allow (xG X) (xl X) hp_28 e_33) ok_X1_allow hp_28 rfl ⟨_, rfl⟩ q_470 rfl ⟨Nat.le_of_ble_eq_true rfl, Nat.le_of_ble_eq_true rfl⟩ rfl rfl (Nat.le_of_ble_eq_true rfl) dX5_may_33 rfl (fun hp_33 => ?_)
      refine r_if_eq C (tgt := 43) (q := 39) dX5_may_36 (by decide) rfl (fun c_36 => ?_) (fun c_36 => ?_)
      · replace h := (if_pos c_36).symm.trans h
        refine r_iconst C (v := 0) (q := 44) dX5_may_43 (by decide) rfl ?_
        obtain ⟨rfl, rfl⟩ := Prod.mk.inj (Option.some.inj h)
        exact hr _ _ dX5_may_44
      · replace h := (if_neg c_36).symm.trans h
        refine r_iconst C (v := 1) (q := 40) dX5_may_39 (by decide) rfl ?_
        refine r_goto C (tgt := 44) dX5_may_40 (by decide) ?_
        obtain ⟨rfl, rfl⟩ := Prod.mk.inj (Option.some.inj h)
        exact hr _ _ dX5_may_44
    · replace h := (if_pos c_13).symm.trans h
      refine r_sub (lv' := [(0, .ref ((xG X).1 x0))]) [0] rfl ?_
      exact w_X5_may_b16 C hr  _ _ hx0 h

theorem m_X5_may (G : Gm) (l : Launch) {σ σ' : St} {x0 : Nat} {x1 : Int32} {x2 : Int32} {x3 : Int32} (hx0 : kd x0 = 6) {r : Int32} (h : f_X5_may σ x0 x1 x2 x3 = some (r, σ')) : Ctr G l yX5_may cX5_may 4 (some .int) 2 44 [.ref (G.1 x0), .int x1, .int x2, .int x3] σ (some (.int r)) True σ' := by
  refine Ctr.i (by decide) (Nat.le_of_ble_eq_true rfl) ?_
  intro X hG C hr
  subst hG
  exact w_X5_may_b0 C hr _ _ _ _ _ hx0 h
-- X5_file
set_option maxHeartbeats 4000000 in
set_option maxRecDepth 100000 in
theorem w_X5_file_b52 {X : CX} (C : Cok X RX5 cX5_file 5 2 45) {σ' : St} {r : Int32} (hr : RtI X cX5_file r σ') (σ : St) (x0 : Nat) (hx0 : kd x0 = 6) (h : f_X5_file_b52 σ x0 = some (r, σ')) : V X σ 52 [(0, .ref ((xG X).1 x0))] [] := by
  unfold f_X5_file_b52 at h
  refine r_aload_n C 0 (q := 53) dX5_file_52 rfl rfl ?_
  refine r_bipush C (v := (-5)) (q := 55) dX5_file_53 (by decide) rfl ?_
  obtain ⟨v_55, s_55, e_55, h⟩ := bs2 h
  refine r_callV C (ci := 5) (st := []) (st2 := [.int v_55]) (q := 58) (m_X5_refuse (xG X) (xl X) hx0 e_55) ok_X5_refuse hx0 rfl ⟨_, rfl⟩ q_242 rfl ⟨Nat.le_of_ble_eq_true rfl, Nat.le_of_ble_eq_true rfl⟩ rfl rfl (Nat.le_of_ble_eq_true rfl) dX5_file_55 rfl (fun hp_55 => ?_)
  obtain ⟨rfl, rfl⟩ := Prod.mk.inj (Option.some.inj h)
  exact hr _ _ dX5_file_58

set_option maxHeartbeats 4000000 in
set_option maxRecDepth 100000 in
theorem w_X5_file_b16 {X : CX} (C : Cok X RX5 cX5_file 5 2 45) {σ' : St} {r : Int32} (hr : RtI X cX5_file r σ') (σ : St) (x0 : Nat) (hx0 : kd x0 = 6) (h : f_X5_file_b16 σ x0 = some (r, σ')) : V X σ 16 [(0, .ref ((xG X).1 x0))] [] := by
  unfold f_X5_file_b16 at h
  refine r_aload_n C 0 (q := 17) dX5_file_16 rfl rfl ?_
  refine r_bipush C (v := (-2)) (q := 19) dX5_file_17 (by decide) rfl ?_
  obtain ⟨v_19, s_19, e_19, h⟩ := bs2 h
  refine r_callV C (ci := 5) (st := []) (st2 := [.int v_19]) (q := 22) (m_X5_refuse (xG X) (xl X) hx0 e_19) ok_X5_refuse hx0 rfl ⟨_, rfl⟩ q_242 rfl ⟨Nat.le_of_ble_eq_true rfl, Nat.le_of_ble_eq_true rfl⟩ rfl rfl (Nat.le_of_ble_eq_true rfl) dX5_file_19 rfl (fun hp_19 => ?_)
  obtain ⟨rfl, rfl⟩ := Prod.mk.inj (Option.some.inj h)
  exact hr _ _ dX5_file_22

set_option maxHeartbeats 4000000 in
set_option maxRecDepth 100000 in
theorem w_X5_file_b0 {X : CX} (C : Cok X RX5 cX5_file 5 2 45) {σ' : St} {r : Int32} (hr : RtI X cX5_file r σ') (σ : St) (x0 : Nat) (x1 : Int32) (x2 : Int32) (hx0 : kd x0 = 6) (h : f_X5_file σ x0 x1 x2 = some (r, σ')) : V X σ 0 [(0, .ref ((xG X).1 x0)), (1, .int x1), (2, .int x2)] [] := by
  unfold f_X5_file at h
  refine r_aload_n C 0 (q := 1) dX5_file_0 rfl rfl ?_
  refine r_iload_n C 1 (q := 2) dX5_file_1 rfl rfl ?_
  obtain ⟨v_2, e_2, h⟩ := bs h
  refine r_callV C (ci := 5) (st := []) (st2 := [.int v_2]) (q := 5) (m_X5_isKey (xG X) (xl X) hx0 e_2) ok_X5_isKey hx0 rfl ⟨_, rfl⟩ q_321 rfl ⟨Nat.le_of_ble_eq_true rfl, Nat.le_of_ble_eq_true rfl⟩ rfl rfl (Nat.le_of_ble_eq_true rfl) dX5_file_2 rfl (fun hp_2 => ?_)
  refine r_if_eq C (tgt := 16) (q := 8) dX5_file_5 (by decide) rfl (fun c_5 => ?_) (fun c_5 => ?_)
  · replace h := (if_pos c_5).symm.trans h
    refine r_sub (lv' := [(0, .ref ((xG X).1 x0))]) [0] rfl ?_
    exact w_X5_file_b16 C hr  _ _ hx0 h
  · replace h := (if_neg c_5).symm.trans h
    refine r_aload_n C 0 (q := 9) dX5_file_8 rfl rfl ?_
    refine r_iload_n C 2 (q := 10) dX5_file_9 rfl rfl ?_
    obtain ⟨v_10, e_10, h⟩ := bs h
    refine r_callV C (ci := 5) (st := []) (st2 := [.int v_10]) (q := 13) (m_X5_isPlace (xG X) (xl X) hx0 e_10) ok_X5_isPlace hx0 rfl ⟨_, rfl⟩ q_457 rfl ⟨Nat.le_of_ble_eq_true rfl, Nat.le_of_ble_eq_true rfl⟩ rfl rfl (Nat.le_of_ble_eq_true rfl) dX5_file_10 rfl (fun hp_10 => ?_)
    refine r_if_ne C (tgt := 23) (q := 16) dX5_file_13 (by decide) rfl (fun c_13 => ?_) (fun c_13 => ?_)
    · replace h := (if_neg c_13).symm.trans h
      refine r_aload_n C 0 (q := 24) dX5_file_23 rfl rfl ?_
      refine g_X5_0 C (q := 27) dX5_file_24 q_203 hx0 rfl ?_
      refine r_iload_n C 1 (q := 28) dX5_file_27 rfl rfl ?_
      obtain ⟨v_28, e_28, h⟩ := bs h
      refine r_callV C (ci := 0) (st := []) (st2 := [.ref ((xG X).1 v_28)]) (q := 31) (m_X0_keyAt (xG X) (xl X) (kf_X5_0 hx0) e_28) ok_X0_keyAt (kf_X5_0 hx0) rfl ⟨_, rfl⟩ q_329 rfl ⟨Nat.le_of_ble_eq_true rfl, Nat.le_of_ble_eq_true rfl⟩ rfl rfl (Nat.le_of_ble_eq_true rfl) dX5_file_28 rfl (fun hp_28 => ?_)
      refine r_astore_n C (lv' := [(3, .ref ((xG X).1 v_28)), (0, .ref ((xG X).1 x0)), (1, .int x1), (2, .int x2)]) (q := 32) dX5_file_31 rfl (by decide) rfl rfl ?_
      refine r_aload_n C 0 (q := 33) dX5_file_32 rfl rfl ?_
      refine g_X1_0 C (q := 36) dX5_file_33 q_40 hp_28 rfl ?_
      refine r_iconst C (v := 4) (q := 37) dX5_file_36 (by decide) rfl ?_
      refine r_icmp_eq C (tgt := 52) (q := 40) dX5_file_37 (by decide) rfl (fun c_37 => ?_) (fun c_37 => ?_)
      · replace h := (if_pos c_37).symm.trans h
        refine r_sub (lv' := [(0, .ref ((xG X).1 x0))]) [1] rfl ?_
        exact w_X5_file_b52 C hr  _ _ hx0 h
      · replace h := (if_neg c_37).symm.trans h
        refine r_aload_n C 1 (q := 41) dX5_file_40 rfl rfl ?_
        refine g_X5_0 C (q := 44) dX5_file_41 q_203 hx0 rfl ?_
        refine r_aload_n C 0 (q := 45) dX5_file_44 rfl rfl ?_
        refine r_iload_n C 3 (q := 46) dX5_file_45 rfl rfl ?_
        obtain ⟨v_46, s_46, e_46, h⟩ := bs2 h
        refine r_callV C (ci := 0) (st := []) (st2 := [.int v_46]) (q := 49) (m_X0_deepen (xG X) (xl X) (kf_X5_0 hx0) hp_28 e_46) ok_X0_deepen (kf_X5_0 hx0) rfl ⟨_, rfl⟩ q_478 rfl ⟨Nat.le_of_ble_eq_true rfl, Nat.le_of_ble_eq_true rfl⟩ rfl rfl (Nat.le_of_ble_eq_true rfl) dX5_file_46 rfl (fun hp_46 => ?_)
        refine r_if_ne C (tgt := 59) (q := 52) dX5_file_49 (by decide) rfl (fun c_49 => ?_) (fun c_49 => ?_)
        · replace h := (if_neg c_49).symm.trans h
          refine r_aload_n C 0 (q := 60) dX5_file_59 rfl rfl ?_
          refine g_X1_3 C (q := 63) dX5_file_60 q_50 hp_28 rfl ?_
          refine r_iload_n C 3 (q := 64) dX5_file_63 rfl rfl ?_
          obtain ⟨v_64, e_64, h⟩ := bs h
          refine r_callS C (st := []) (st2 := [.int v_64]) (q := 67) (m_X5_at (xG X) (xl X) (kf_X1_3 hp_28) e_64) ok_X5_at q_246 rfl ⟨Nat.le_of_ble_eq_true rfl, Nat.le_of_ble_eq_true rfl⟩ rfl rfl (Nat.le_of_ble_eq_true rfl) dX5_file_64 rfl (fun hp_64 => ?_)
          refine r_istore C (lv' := [(4, .int v_64), (3, .ref ((xG X).1 v_28)), (0, .ref ((xG X).1 x0)), (1, .int x1), (2, .int x2)]) (q := 69) dX5_file_67 (by decide) rfl rfl ?_
          refine r_aload_n C 2 (q := 70) dX5_file_69 rfl rfl ?_
          refine g_X5_0 C (q := 73) dX5_file_70 q_203 hx0 rfl ?_
          refine r_dup C (q := 74) dX5_file_73 rfl rfl ?_
          refine g_X0_3 C (q := 77) dX5_file_74 q_74 (kf_X5_0 hx0) rfl ?_
          refine r_iload C 0 (q := 79) dX5_file_77 rfl rfl ?_
          refine r_iadd C (q := 80) dX5_file_79 rfl ?_
          obtain ⟨s_80, e_80, h⟩ := bs h
          refine p_X0_3 C (q := 83) dX5_file_80 q_74 (kf_X5_0 hx0) e_80 rfl ?_
          refine r_iload C 0 (q := 85) dX5_file_83 rfl rfl ?_
          obtain ⟨rfl, rfl⟩ := Prod.mk.inj (Option.some.inj h)
          exact hr _ _ dX5_file_85
        · replace h := (if_pos c_49).symm.trans h
          refine r_sub (lv' := [(0, .ref ((xG X).1 x0))]) [1] rfl ?_
          exact w_X5_file_b52 C hr  _ _ hx0 h
    · replace h := (if_pos c_13).symm.trans h
      refine r_sub (lv' := [(0, .ref ((xG X).1 x0))]) [0] rfl ?_
      exact w_X5_file_b16 C hr  _ _ hx0 h

theorem m_X5_file (G : Gm) (l : Launch) {σ σ' : St} {x0 : Nat} {x1 : Int32} {x2 : Int32} (hx0 : kd x0 = 6) {r : Int32} (h : f_X5_file σ x0 x1 x2 = some (r, σ')) : Ctr G l yX5_file cX5_file 5 (some .int) 2 45 [.ref (G.1 x0), .int x1, .int x2] σ (some (.int r)) True σ' := by
  refine Ctr.i (by decide) (Nat.le_of_ble_eq_true rfl) ?_
  intro X hG C hr
  subst hG
  exact w_X5_file_b0 C hr _ _ _ _ hx0 h
-- X5_feed
set_option maxHeartbeats 4000000 in
set_option maxRecDepth 100000 in
theorem w_X5_feed_b0 {X : CX} (C : Cok X RX5 cX5_feed 2 2 44) {σ' : St} {r : Int32} (hr : RtI X cX5_feed r σ') (σ : St) (x0 : Nat) (x1 : Int32) (hx0 : kd x0 = 6) (h : f_X5_feed σ x0 x1 = some (r, σ')) : V X σ 0 [(0, .ref ((xG X).1 x0)), (1, .int x1)] [] := by
  unfold f_X5_feed at h
  refine r_iload_n C 1 (q := 1) dX5_feed_0 rfl rfl ?_
  refine r_iconst C (v := 0) (q := 2) dX5_feed_1 (by decide) rfl ?_
  refine r_sipush C (v := 255) (q := 5) dX5_feed_2 (by decide) rfl ?_
  obtain ⟨v_5, e_5, h⟩ := bs h
  refine r_callS C (st := []) (st2 := [.int v_5]) (q := 8) (m_X5_isWithin (xG X) (xl X) e_5) ok_X5_isWithin q_239 rfl ⟨Nat.le_of_ble_eq_true rfl, Nat.le_of_ble_eq_true rfl⟩ rfl rfl (Nat.le_of_ble_eq_true rfl) dX5_feed_5 rfl (fun hp_5 => ?_)
  refine r_if_ne C (tgt := 18) (q := 11) dX5_feed_8 (by decide) rfl (fun c_8 => ?_) (fun c_8 => ?_)
  · replace h := (if_neg c_8).symm.trans h
    refine r_aload_n C 0 (q := 19) dX5_feed_18 rfl rfl ?_
    refine g_X5_4 C (q := 22) dX5_feed_19 q_207 hx0 rfl ?_
    refine r_iload_n C 1 (q := 23) dX5_feed_22 rfl rfl ?_
    obtain ⟨v_23, s_23, e_23, h⟩ := bs2 h
    refine r_callV C (ci := 3) (st := []) (st2 := [.int v_23]) (q := 26) (m_X3_add (xG X) (xl X) (kf_X5_4 hx0) e_23) ok_X3_add (kf_X5_4 hx0) rfl ⟨_, rfl⟩ q_486 rfl ⟨Nat.le_of_ble_eq_true rfl, Nat.le_of_ble_eq_true rfl⟩ rfl rfl (Nat.le_of_ble_eq_true rfl) dX5_feed_23 rfl (fun hp_23 => ?_)
    refine r_if_eq C (tgt := 39) (q := 29) dX5_feed_26 (by decide) rfl (fun c_26 => ?_) (fun c_26 => ?_)
    · replace h := (if_pos c_26).symm.trans h
      refine r_aload_n C 0 (q := 40) dX5_feed_39 rfl rfl ?_
      refine r_bipush C (v := (-6)) (q := 42) dX5_feed_40 (by decide) rfl ?_
      obtain ⟨v_42, s_42, e_42, h⟩ := bs2 h
      refine r_callV C (ci := 5) (st := []) (st2 := [.int v_42]) (q := 45) (m_X5_refuse (xG X) (xl X) hx0 e_42) ok_X5_refuse hx0 rfl ⟨_, rfl⟩ q_242 rfl ⟨Nat.le_of_ble_eq_true rfl, Nat.le_of_ble_eq_true rfl⟩ rfl rfl (Nat.le_of_ble_eq_true rfl) dX5_feed_42 rfl (fun hp_42 => ?_)
      obtain ⟨rfl, rfl⟩ := Prod.mk.inj (Option.some.inj h)
      exact hr _ _ dX5_feed_45
    · replace h := (if_neg c_26).symm.trans h
      refine r_aload_n C 0 (q := 30) dX5_feed_29 rfl rfl ?_
      refine g_X5_4 C (q := 33) dX5_feed_30 q_207 hx0 rfl ?_
      refine g_X3_1 C (q := 36) dX5_feed_33 q_166 (kf_X5_4 hx0) rfl ?_
      refine r_goto C (tgt := 45) dX5_feed_36 (by decide) ?_
      obtain ⟨rfl, rfl⟩ := Prod.mk.inj (Option.some.inj h)
      exact hr _ _ dX5_feed_45
  · replace h := (if_pos c_8).symm.trans h
    refine r_aload_n C 0 (q := 12) dX5_feed_11 rfl rfl ?_
    refine r_bipush C (v := (-2)) (q := 14) dX5_feed_12 (by decide) rfl ?_
    obtain ⟨v_14, s_14, e_14, h⟩ := bs2 h
    refine r_callV C (ci := 5) (st := []) (st2 := [.int v_14]) (q := 17) (m_X5_refuse (xG X) (xl X) hx0 e_14) ok_X5_refuse hx0 rfl ⟨_, rfl⟩ q_242 rfl ⟨Nat.le_of_ble_eq_true rfl, Nat.le_of_ble_eq_true rfl⟩ rfl rfl (Nat.le_of_ble_eq_true rfl) dX5_feed_14 rfl (fun hp_14 => ?_)
    obtain ⟨rfl, rfl⟩ := Prod.mk.inj (Option.some.inj h)
    exact hr _ _ dX5_feed_17

theorem m_X5_feed (G : Gm) (l : Launch) {σ σ' : St} {x0 : Nat} {x1 : Int32} (hx0 : kd x0 = 6) {r : Int32} (h : f_X5_feed σ x0 x1 = some (r, σ')) : Ctr G l yX5_feed cX5_feed 2 (some .int) 2 44 [.ref (G.1 x0), .int x1] σ (some (.int r)) True σ' := by
  refine Ctr.i (by decide) (Nat.le_of_ble_eq_true rfl) ?_
  intro X hG C hr
  subst hG
  exact w_X5_feed_b0 C hr _ _ _ hx0 h
-- X5_wipe
set_option maxHeartbeats 4000000 in
set_option maxRecDepth 100000 in
theorem w_X5_wipe_b0 {X : CX} (C : Cok X RX5 cX5_wipe 2 0 0) {σ' : St} {r : Int32} (hr : RtI X cX5_wipe r σ') (σ : St) (x0 : Nat) (hx0 : kd x0 = 6) (h : f_X5_wipe σ x0 = some (r, σ')) : V X σ 0 [(0, .ref ((xG X).1 x0))] [] := by
  unfold f_X5_wipe at h
  refine r_aload_n C 0 (q := 1) dX5_wipe_0 rfl rfl ?_
  refine g_X5_4 C (q := 4) dX5_wipe_1 q_207 hx0 rfl ?_
  refine g_X3_1 C (q := 7) dX5_wipe_4 q_166 (kf_X5_4 hx0) rfl ?_
  obtain ⟨y_7, e_7, h⟩ := bs h
  refine r_topI (Option.some.inj e_7) ?_
  refine r_istore_n C (lv' := [(1, .int y_7), (0, .ref ((xG X).1 x0))]) (q := 8) dX5_wipe_7 rfl (by decide) rfl rfl ?_
  refine r_aload_n C 1 (q := 9) dX5_wipe_8 rfl rfl ?_
  refine g_X5_4 C (q := 12) dX5_wipe_9 q_207 hx0 rfl ?_
  refine r_iconst C (v := 0) (q := 13) dX5_wipe_12 (by decide) rfl ?_
  obtain ⟨s_13, e_13, h⟩ := bs h
  refine p_X3_1 C (q := 16) dX5_wipe_13 q_166 (kf_X5_4 hx0) e_13 rfl ?_
  refine r_iload_n C 0 (q := 17) dX5_wipe_16 rfl rfl ?_
  obtain ⟨rfl, rfl⟩ := Prod.mk.inj (Option.some.inj h)
  exact hr _ _ dX5_wipe_17

theorem m_X5_wipe (G : Gm) (l : Launch) {σ σ' : St} {x0 : Nat} (hx0 : kd x0 = 6) {r : Int32} (h : f_X5_wipe σ x0 = some (r, σ')) : Ctr G l yX5_wipe cX5_wipe 2 (some .int) 0 0 [.ref (G.1 x0)] σ (some (.int r)) True σ' := by
  refine Ctr.i (by decide) (Nat.le_of_ble_eq_true rfl) ?_
  intro X hG C hr
  subst hG
  exact w_X5_wipe_b0 C hr _ _ hx0 h
-- X5_house
set_option maxHeartbeats 4000000 in
set_option maxRecDepth 100000 in
theorem w_X5_house_b0 {X : CX} (C : Cok X RX5 cX5_house 2 9 195) {σ' : St} {r : Int32} (hr : RtI X cX5_house r σ') (σ : St) (x0 : Nat) (hx0 : kd x0 = 6) (h : f_X5_house σ x0 = some (r, σ')) : V X σ 0 [(0, .ref ((xG X).1 x0))] [] := by
  unfold f_X5_house at h
  refine r_aload_n C 0 (q := 1) dX5_house_0 rfl rfl ?_
  refine g_X5_2 C (q := 4) dX5_house_1 q_205 hx0 rfl ?_
  refine r_aload_n C 0 (q := 5) dX5_house_4 rfl rfl ?_
  refine g_X5_0 C (q := 8) dX5_house_5 q_203 hx0 rfl ?_
  obtain ⟨s_8, e_8, h⟩ := bs h
  refine r_callV C (ci := 0) (st := []) (st2 := []) (q := 11) (m_X0_take (xG X) (xl X) (kf_X5_2 hx0) (kf_X5_0 hx0) e_8) ok_X0_take (kf_X5_2 hx0) rfl ⟨_, rfl⟩ q_499 rfl ⟨Nat.le_of_ble_eq_true rfl, Nat.le_of_ble_eq_true rfl⟩ rfl rfl (Nat.le_of_ble_eq_true rfl) dX5_house_8 rfl (fun hp_8 => ?_)
  refine r_aload_n C 0 (q := 12) dX5_house_11 rfl rfl ?_
  refine g_X5_4 C (q := 15) dX5_house_12 q_207 hx0 rfl ?_
  refine r_aload_n C 0 (q := 16) dX5_house_15 rfl rfl ?_
  refine g_X5_2 C (q := 19) dX5_house_16 q_205 hx0 rfl ?_
  obtain ⟨v_19, s_19, e_19, h⟩ := bs2 h
  refine r_callV C (ci := 3) (st := []) (st2 := [.int v_19]) (q := 22) (m_X3_readInto (xG X) (xl X) (kf_X5_4 hx0) (kf_X5_2 hx0) e_19) ok_X3_readInto (kf_X5_4 hx0) rfl ⟨_, rfl⟩ q_509 rfl ⟨Nat.le_of_ble_eq_true rfl, Nat.le_of_ble_eq_true rfl⟩ rfl rfl (Nat.le_of_ble_eq_true rfl) dX5_house_19 rfl (fun hp_19 => ?_)
  refine r_istore_n C (lv' := [(1, .int v_19), (0, .ref ((xG X).1 x0))]) (q := 23) dX5_house_22 rfl (by decide) rfl rfl ?_
  refine r_aload_n C 1 (q := 24) dX5_house_23 rfl rfl ?_
  refine g_X5_4 C (q := 27) dX5_house_24 q_207 hx0 rfl ?_
  refine r_iconst C (v := 0) (q := 28) dX5_house_27 (by decide) rfl ?_
  obtain ⟨s_28, e_28, h⟩ := bs h
  refine p_X3_1 C (q := 31) dX5_house_28 q_166 (kf_X5_4 hx0) e_28 rfl ?_
  refine r_iload_n C 0 (q := 32) dX5_house_31 rfl rfl ?_
  refine r_iconst C (v := (-1)) (q := 33) dX5_house_32 (by decide) rfl ?_
  refine r_icmp_ne C (tgt := 54) (q := 36) dX5_house_33 (by decide) rfl (fun c_33 => ?_) (fun c_33 => ?_)
  · replace h := (if_neg c_33).symm.trans h
    refine r_aload_n C 1 (q := 55) dX5_house_54 rfl rfl ?_
    refine g_X5_0 C (q := 58) dX5_house_55 q_203 hx0 rfl ?_
    refine r_aload_n C 1 (q := 59) dX5_house_58 rfl rfl ?_
    refine g_X5_2 C (q := 62) dX5_house_59 q_205 hx0 rfl ?_
    obtain ⟨s_62, e_62, h⟩ := bs h
    refine r_callV C (ci := 0) (st := []) (st2 := []) (q := 65) (m_X0_take (xG X) (xl X) (kf_X5_0 hx0) (kf_X5_2 hx0) e_62) ok_X0_take (kf_X5_0 hx0) rfl ⟨_, rfl⟩ q_499 rfl ⟨Nat.le_of_ble_eq_true rfl, Nat.le_of_ble_eq_true rfl⟩ rfl rfl (Nat.le_of_ble_eq_true rfl) dX5_house_62 rfl (fun hp_62 => ?_)
    refine r_iload_n C 0 (q := 66) dX5_house_65 rfl rfl ?_
    obtain ⟨rfl, rfl⟩ := Prod.mk.inj (Option.some.inj h)
    exact hr _ _ dX5_house_66
  · replace h := (if_pos c_33).symm.trans h
    refine r_aload_n C 1 (q := 37) dX5_house_36 rfl rfl ?_
    refine r_bipush C (v := (-2)) (q := 39) dX5_house_37 (by decide) rfl ?_
    obtain ⟨v_39, s_39, e_39, h⟩ := bs2 h
    refine r_callV C (ci := 5) (st := []) (st2 := [.int v_39]) (q := 42) (m_X5_refuse (xG X) (xl X) hx0 e_39) ok_X5_refuse hx0 rfl ⟨_, rfl⟩ q_242 rfl ⟨Nat.le_of_ble_eq_true rfl, Nat.le_of_ble_eq_true rfl⟩ rfl rfl (Nat.le_of_ble_eq_true rfl) dX5_house_39 rfl (fun hp_39 => ?_)
    refine r_pop C (q := 43) dX5_house_42 rfl rfl ?_
    refine r_bipush C (v := (-20)) (q := 45) dX5_house_43 (by decide) rfl ?_
    refine r_aload_n C 1 (q := 46) dX5_house_45 rfl rfl ?_
    refine g_X5_4 C (q := 49) dX5_house_46 q_207 hx0 rfl ?_
    refine g_X3_3 C (q := 52) dX5_house_49 q_169 (kf_X5_4 hx0) rfl ?_
    refine r_isub C (q := 53) dX5_house_52 rfl ?_
    obtain ⟨rfl, rfl⟩ := Prod.mk.inj (Option.some.inj h)
    exact hr _ _ dX5_house_53

theorem m_X5_house (G : Gm) (l : Launch) {σ σ' : St} {x0 : Nat} (hx0 : kd x0 = 6) {r : Int32} (h : f_X5_house σ x0 = some (r, σ')) : Ctr G l yX5_house cX5_house 2 (some .int) 9 195 [.ref (G.1 x0)] σ (some (.int r)) True σ' := by
  refine Ctr.i (by decide) (Nat.le_of_ble_eq_true rfl) ?_
  intro X hG C hr
  subst hG
  exact w_X5_house_b0 C hr _ _ hx0 h
-- X5_keyOf
set_option maxHeartbeats 4000000 in
set_option maxRecDepth 100000 in
theorem w_X5_keyOf_b0 {X : CX} (C : Cok X RX5 cX5_keyOf 4 2 45) {σ' : St} {r : Int32} (hr : RtI X cX5_keyOf r σ') (σ : St) (x0 : Nat) (x1 : Int32) (x2 : Int32) (hx0 : kd x0 = 6) (h : f_X5_keyOf σ x0 x1 x2 = some (r, σ')) : V X σ 0 [(0, .ref ((xG X).1 x0)), (1, .int x1), (2, .int x2)] [] := by
  unfold f_X5_keyOf at h
  refine r_aload_n C 0 (q := 1) dX5_keyOf_0 rfl rfl ?_
  refine r_iload_n C 1 (q := 2) dX5_keyOf_1 rfl rfl ?_
  obtain ⟨v_2, e_2, h⟩ := bs h
  refine r_callV C (ci := 5) (st := []) (st2 := [.int v_2]) (q := 5) (m_X5_isKey (xG X) (xl X) hx0 e_2) ok_X5_isKey hx0 rfl ⟨_, rfl⟩ q_321 rfl ⟨Nat.le_of_ble_eq_true rfl, Nat.le_of_ble_eq_true rfl⟩ rfl rfl (Nat.le_of_ble_eq_true rfl) dX5_keyOf_2 rfl (fun hp_2 => ?_)
  refine r_if_ne C (tgt := 15) (q := 8) dX5_keyOf_5 (by decide) rfl (fun c_5 => ?_) (fun c_5 => ?_)
  · replace h := (if_neg c_5).symm.trans h
    refine r_aload_n C 0 (q := 16) dX5_keyOf_15 rfl rfl ?_
    refine g_X5_0 C (q := 19) dX5_keyOf_16 q_203 hx0 rfl ?_
    refine r_iload_n C 1 (q := 20) dX5_keyOf_19 rfl rfl ?_
    obtain ⟨v_20, e_20, h⟩ := bs h
    refine r_callV C (ci := 0) (st := []) (st2 := [.ref ((xG X).1 v_20)]) (q := 23) (m_X0_keyAt (xG X) (xl X) (kf_X5_0 hx0) e_20) ok_X0_keyAt (kf_X5_0 hx0) rfl ⟨_, rfl⟩ q_329 rfl ⟨Nat.le_of_ble_eq_true rfl, Nat.le_of_ble_eq_true rfl⟩ rfl rfl (Nat.le_of_ble_eq_true rfl) dX5_keyOf_20 rfl (fun hp_20 => ?_)
    refine r_astore_n C (lv' := [(3, .ref ((xG X).1 v_20)), (0, .ref ((xG X).1 x0)), (1, .int x1), (2, .int x2)]) (q := 24) dX5_keyOf_23 rfl (by decide) rfl rfl ?_
    refine r_aload_n C 1 (q := 25) dX5_keyOf_24 rfl rfl ?_
    refine r_iload_n C 3 (q := 26) dX5_keyOf_25 rfl rfl ?_
    refine r_bipush C (v := 10) (q := 28) dX5_keyOf_26 (by decide) rfl ?_
    refine r_isub C (q := 29) dX5_keyOf_28 rfl ?_
    obtain ⟨v_29, e_29, h⟩ := bs h
    refine r_callV C (ci := 5) (st := []) (st2 := [.int v_29]) (q := 32) (m_X5_isPlace (xG X) (xl X) hx0 e_29) ok_X5_isPlace hx0 rfl ⟨_, rfl⟩ q_457 rfl ⟨Nat.le_of_ble_eq_true rfl, Nat.le_of_ble_eq_true rfl⟩ rfl rfl (Nat.le_of_ble_eq_true rfl) dX5_keyOf_29 rfl (fun hp_29 => ?_)
    refine r_if_eq C (tgt := 47) (q := 35) dX5_keyOf_32 (by decide) rfl (fun c_32 => ?_) (fun c_32 => ?_)
    · replace h := (if_pos c_32).symm.trans h
      refine r_aload_n C 1 (q := 48) dX5_keyOf_47 rfl rfl ?_
      refine r_iload_n C 3 (q := 49) dX5_keyOf_48 rfl rfl ?_
      refine r_bipush C (v := 20) (q := 51) dX5_keyOf_49 (by decide) rfl ?_
      refine r_isub C (q := 52) dX5_keyOf_51 rfl ?_
      obtain ⟨v_52, e_52, h⟩ := bs h
      refine r_callV C (ci := 5) (st := []) (st2 := [.int v_52]) (q := 55) (m_X5_isPlace (xG X) (xl X) hx0 e_52) ok_X5_isPlace hx0 rfl ⟨_, rfl⟩ q_457 rfl ⟨Nat.le_of_ble_eq_true rfl, Nat.le_of_ble_eq_true rfl⟩ rfl rfl (Nat.le_of_ble_eq_true rfl) dX5_keyOf_52 rfl (fun hp_52 => ?_)
      refine r_if_eq C (tgt := 75) (q := 58) dX5_keyOf_55 (by decide) rfl (fun c_55 => ?_) (fun c_55 => ?_)
      · replace h := (if_pos c_55).symm.trans h
        refine r_iload_n C 3 (q := 76) dX5_keyOf_75 rfl rfl ?_
        by_cases c_76_0 : x2 = 0
        · replace h := (if_pos c_76_0).symm.trans h
          refine r_tabIn C (tgt := 112) (off := 36) dX5_keyOf_76 (by rw [c_76_0]; decide) (by rw [c_76_0]; decide) (by rw [c_76_0]; rfl) (by decide) ?_
          refine r_aload_n C 0 (q := 113) dX5_keyOf_112 rfl rfl ?_
          refine g_X1_0 C (q := 116) dX5_keyOf_113 q_40 hp_20 rfl ?_
          obtain ⟨rfl, rfl⟩ := Prod.mk.inj (Option.some.inj h)
          exact hr _ _ dX5_keyOf_116
        · replace h := (if_neg c_76_0).symm.trans h
          by_cases c_76_1 : x2 = 1
          · replace h := (if_pos c_76_1).symm.trans h
            refine r_tabIn C (tgt := 117) (off := 41) dX5_keyOf_76 (by rw [c_76_1]; decide) (by rw [c_76_1]; decide) (by rw [c_76_1]; rfl) (by decide) ?_
            refine r_aload_n C 0 (q := 118) dX5_keyOf_117 rfl rfl ?_
            refine g_X1_1 C (q := 121) dX5_keyOf_118 q_43 hp_20 rfl ?_
            obtain ⟨rfl, rfl⟩ := Prod.mk.inj (Option.some.inj h)
            exact hr _ _ dX5_keyOf_121
          · replace h := (if_neg c_76_1).symm.trans h
            by_cases c_76_2 : x2 = 2
            · replace h := (if_pos c_76_2).symm.trans h
              refine r_tabIn C (tgt := 122) (off := 46) dX5_keyOf_76 (by rw [c_76_2]; decide) (by rw [c_76_2]; decide) (by rw [c_76_2]; rfl) (by decide) ?_
              refine r_aload_n C 1 (q := 123) dX5_keyOf_122 rfl rfl ?_
              refine g_X5_0 C (q := 126) dX5_keyOf_123 q_203 hx0 rfl ?_
              refine r_aload_n C 0 (q := 127) dX5_keyOf_126 rfl rfl ?_
              refine g_X1_3 C (q := 130) dX5_keyOf_127 q_50 hp_20 rfl ?_
              obtain ⟨v_130, e_130, h⟩ := bs h
              refine r_callV C (ci := 0) (st := []) (st2 := [.int v_130]) (q := 133) (m_X0_sum (xG X) (xl X) (kf_X5_0 hx0) (kf_X1_3 hp_20) e_130) ok_X0_sum (kf_X5_0 hx0) rfl ⟨_, rfl⟩ q_341 rfl ⟨Nat.le_of_ble_eq_true rfl, Nat.le_of_ble_eq_true rfl⟩ rfl rfl (Nat.le_of_ble_eq_true rfl) dX5_keyOf_130 rfl (fun hp_130 => ?_)
              obtain ⟨rfl, rfl⟩ := Prod.mk.inj (Option.some.inj h)
              exact hr _ _ dX5_keyOf_133
            · replace h := (if_neg c_76_2).symm.trans h
              by_cases c_76_3 : x2 = 3
              · replace h := (if_pos c_76_3).symm.trans h
                refine r_tabIn C (tgt := 134) (off := 58) dX5_keyOf_76 (by rw [c_76_3]; decide) (by rw [c_76_3]; decide) (by rw [c_76_3]; rfl) (by decide) ?_
                refine r_aload_n C 1 (q := 135) dX5_keyOf_134 rfl rfl ?_
                refine g_X5_0 C (q := 138) dX5_keyOf_135 q_203 hx0 rfl ?_
                refine r_aload_n C 0 (q := 139) dX5_keyOf_138 rfl rfl ?_
                refine r_aload_n C 0 (q := 140) dX5_keyOf_139 rfl rfl ?_
                refine g_X1_3 C (q := 143) dX5_keyOf_140 q_50 hp_20 rfl ?_
                obtain ⟨v_143, e_143, h⟩ := bs h
                refine r_callV C (ci := 0) (st := []) (st2 := [.int v_143]) (q := 146) (m_X0_breaks (xG X) (xl X) (kf_X5_0 hx0) hp_20 (kf_X1_3 hp_20) e_143) ok_X0_breaks (kf_X5_0 hx0) rfl ⟨_, rfl⟩ q_643 rfl ⟨Nat.le_of_ble_eq_true rfl, Nat.le_of_ble_eq_true rfl⟩ rfl rfl (Nat.le_of_ble_eq_true rfl) dX5_keyOf_143 rfl (fun hp_143 => ?_)
                refine r_if_eq C (tgt := 153) (q := 149) dX5_keyOf_146 (by decide) rfl (fun c_146 => ?_) (fun c_146 => ?_)
                · replace h := (if_pos c_146).symm.trans h
                  refine r_iconst C (v := 0) (q := 154) dX5_keyOf_153 (by decide) rfl ?_
                  obtain ⟨rfl, rfl⟩ := Prod.mk.inj (Option.some.inj h)
                  exact hr _ _ dX5_keyOf_154
                · replace h := (if_neg c_146).symm.trans h
                  refine r_iconst C (v := 1) (q := 150) dX5_keyOf_149 (by decide) rfl ?_
                  refine r_goto C (tgt := 154) dX5_keyOf_150 (by decide) ?_
                  obtain ⟨rfl, rfl⟩ := Prod.mk.inj (Option.some.inj h)
                  exact hr _ _ dX5_keyOf_154
              · replace h := (if_neg c_76_3).symm.trans h
                by_cases c_76_4 : x2 = 4
                · replace h := (if_pos c_76_4).symm.trans h
                  refine r_tabIn C (tgt := 155) (off := 79) dX5_keyOf_76 (by rw [c_76_4]; decide) (by rw [c_76_4]; decide) (by rw [c_76_4]; rfl) (by decide) ?_
                  refine r_aload_n C 0 (q := 156) dX5_keyOf_155 rfl rfl ?_
                  refine g_X1_2 C (q := 159) dX5_keyOf_156 q_46 hp_20 rfl ?_
                  obtain ⟨rfl, rfl⟩ := Prod.mk.inj (Option.some.inj h)
                  exact hr _ _ dX5_keyOf_159
                · replace h := (if_neg c_76_4).symm.trans h
                  refine r_tabOut C (tgt := 160) dX5_keyOf_76 (tab_out (lt_s (lt_s (lt_s (lt_s (lt_s lt_0 c_76_0) c_76_1) c_76_2) c_76_3) c_76_4) (by decide)) (by decide) ?_
                  refine r_aload_n C 1 (q := 161) dX5_keyOf_160 rfl rfl ?_
                  refine r_bipush C (v := (-2)) (q := 163) dX5_keyOf_161 (by decide) rfl ?_
                  obtain ⟨v_163, s_163, e_163, h⟩ := bs2 h
                  refine r_callV C (ci := 5) (st := []) (st2 := [.int v_163]) (q := 166) (m_X5_refuse (xG X) (xl X) hx0 e_163) ok_X5_refuse hx0 rfl ⟨_, rfl⟩ q_242 rfl ⟨Nat.le_of_ble_eq_true rfl, Nat.le_of_ble_eq_true rfl⟩ rfl rfl (Nat.le_of_ble_eq_true rfl) dX5_keyOf_163 rfl (fun hp_163 => ?_)
                  obtain ⟨rfl, rfl⟩ := Prod.mk.inj (Option.some.inj h)
                  exact hr _ _ dX5_keyOf_166
      · replace h := (if_neg c_55).symm.trans h
        refine r_aload_n C 1 (q := 59) dX5_keyOf_58 rfl rfl ?_
        refine g_X5_0 C (q := 62) dX5_keyOf_59 q_203 hx0 rfl ?_
        refine r_aload_n C 0 (q := 63) dX5_keyOf_62 rfl rfl ?_
        refine r_aload_n C 0 (q := 64) dX5_keyOf_63 rfl rfl ?_
        refine g_X1_3 C (q := 67) dX5_keyOf_64 q_50 hp_20 rfl ?_
        refine r_iload_n C 3 (q := 68) dX5_keyOf_67 rfl rfl ?_
        refine r_bipush C (v := 20) (q := 70) dX5_keyOf_68 (by decide) rfl ?_
        refine r_isub C (q := 71) dX5_keyOf_70 rfl ?_
        obtain ⟨v_71, e_71, h⟩ := bs h
        refine r_callV C (ci := 0) (st := []) (st2 := [.int v_71]) (q := 74) (m_X0_depth (xG X) (xl X) (kf_X5_0 hx0) hp_20 (kf_X1_3 hp_20) e_71) ok_X0_depth (kf_X5_0 hx0) rfl ⟨_, rfl⟩ q_639 rfl ⟨Nat.le_of_ble_eq_true rfl, Nat.le_of_ble_eq_true rfl⟩ rfl rfl (Nat.le_of_ble_eq_true rfl) dX5_keyOf_71 rfl (fun hp_71 => ?_)
        obtain ⟨rfl, rfl⟩ := Prod.mk.inj (Option.some.inj h)
        exact hr _ _ dX5_keyOf_74
    · replace h := (if_neg c_32).symm.trans h
      refine r_aload_n C 0 (q := 36) dX5_keyOf_35 rfl rfl ?_
      refine g_X1_3 C (q := 39) dX5_keyOf_36 q_50 hp_20 rfl ?_
      refine r_iload_n C 3 (q := 40) dX5_keyOf_39 rfl rfl ?_
      refine r_bipush C (v := 10) (q := 42) dX5_keyOf_40 (by decide) rfl ?_
      refine r_isub C (q := 43) dX5_keyOf_42 rfl ?_
      obtain ⟨v_43, e_43, h⟩ := bs h
      refine r_callS C (st := []) (st2 := [.int v_43]) (q := 46) (m_X5_at (xG X) (xl X) (kf_X1_3 hp_20) e_43) ok_X5_at q_246 rfl ⟨Nat.le_of_ble_eq_true rfl, Nat.le_of_ble_eq_true rfl⟩ rfl rfl (Nat.le_of_ble_eq_true rfl) dX5_keyOf_43 rfl (fun hp_43 => ?_)
      obtain ⟨rfl, rfl⟩ := Prod.mk.inj (Option.some.inj h)
      exact hr _ _ dX5_keyOf_46
  · replace h := (if_pos c_5).symm.trans h
    refine r_aload_n C 0 (q := 9) dX5_keyOf_8 rfl rfl ?_
    refine r_bipush C (v := (-2)) (q := 11) dX5_keyOf_9 (by decide) rfl ?_
    obtain ⟨v_11, s_11, e_11, h⟩ := bs2 h
    refine r_callV C (ci := 5) (st := []) (st2 := [.int v_11]) (q := 14) (m_X5_refuse (xG X) (xl X) hx0 e_11) ok_X5_refuse hx0 rfl ⟨_, rfl⟩ q_242 rfl ⟨Nat.le_of_ble_eq_true rfl, Nat.le_of_ble_eq_true rfl⟩ rfl rfl (Nat.le_of_ble_eq_true rfl) dX5_keyOf_11 rfl (fun hp_11 => ?_)
    obtain ⟨rfl, rfl⟩ := Prod.mk.inj (Option.some.inj h)
    exact hr _ _ dX5_keyOf_14

theorem m_X5_keyOf (G : Gm) (l : Launch) {σ σ' : St} {x0 : Nat} {x1 : Int32} {x2 : Int32} (hx0 : kd x0 = 6) {r : Int32} (h : f_X5_keyOf σ x0 x1 x2 = some (r, σ')) : Ctr G l yX5_keyOf cX5_keyOf 4 (some .int) 2 45 [.ref (G.1 x0), .int x1, .int x2] σ (some (.int r)) True σ' := by
  refine Ctr.i (by decide) (Nat.le_of_ble_eq_true rfl) ?_
  intro X hG C hr
  subst hG
  exact w_X5_keyOf_b0 C hr _ _ _ _ hx0 h
-- X5_lockOf
set_option maxHeartbeats 4000000 in
set_option maxRecDepth 100000 in
theorem w_X5_lockOf_b0 {X : CX} (C : Cok X RX5 cX5_lockOf 3 3 66) {σ' : St} {r : Int32} (hr : RtI X cX5_lockOf r σ') (σ : St) (x0 : Nat) (x1 : Int32) (x2 : Int32) (hx0 : kd x0 = 6) (h : f_X5_lockOf σ x0 x1 x2 = some (r, σ')) : V X σ 0 [(0, .ref ((xG X).1 x0)), (1, .int x1), (2, .int x2)] [] := by
  unfold f_X5_lockOf at h
  refine r_aload_n C 0 (q := 1) dX5_lockOf_0 rfl rfl ?_
  refine r_iload_n C 1 (q := 2) dX5_lockOf_1 rfl rfl ?_
  obtain ⟨v_2, e_2, h⟩ := bs h
  refine r_callV C (ci := 5) (st := []) (st2 := [.int v_2]) (q := 5) (m_X5_isLock (xG X) (xl X) hx0 e_2) ok_X5_isLock hx0 rfl ⟨_, rfl⟩ q_453 rfl ⟨Nat.le_of_ble_eq_true rfl, Nat.le_of_ble_eq_true rfl⟩ rfl rfl (Nat.le_of_ble_eq_true rfl) dX5_lockOf_2 rfl (fun hp_2 => ?_)
  refine r_if_ne C (tgt := 15) (q := 8) dX5_lockOf_5 (by decide) rfl (fun c_5 => ?_) (fun c_5 => ?_)
  · replace h := (if_neg c_5).symm.trans h
    refine r_aload_n C 0 (q := 16) dX5_lockOf_15 rfl rfl ?_
    refine r_iload_n C 2 (q := 17) dX5_lockOf_16 rfl rfl ?_
    refine r_bipush C (v := 10) (q := 19) dX5_lockOf_17 (by decide) rfl ?_
    refine r_isub C (q := 20) dX5_lockOf_19 rfl ?_
    obtain ⟨v_20, e_20, h⟩ := bs h
    refine r_callV C (ci := 5) (st := []) (st2 := [.int v_20]) (q := 23) (m_X5_isPlace (xG X) (xl X) hx0 e_20) ok_X5_isPlace hx0 rfl ⟨_, rfl⟩ q_457 rfl ⟨Nat.le_of_ble_eq_true rfl, Nat.le_of_ble_eq_true rfl⟩ rfl rfl (Nat.le_of_ble_eq_true rfl) dX5_lockOf_20 rfl (fun hp_20 => ?_)
    refine r_if_eq C (tgt := 39) (q := 26) dX5_lockOf_23 (by decide) rfl (fun c_23 => ?_) (fun c_23 => ?_)
    · replace h := (if_pos c_23).symm.trans h
      refine r_iload_n C 2 (q := 40) dX5_lockOf_39 rfl rfl ?_
      by_cases c_40_0 : x2 = 0
      · replace h := (if_pos c_40_0).symm.trans h
        refine r_lookup C (tgt := 68) (off := 28) dX5_lockOf_40 (by decide) (by rw [c_40_0]; rfl) (by decide) ?_
        refine r_aload_n C 0 (q := 69) dX5_lockOf_68 rfl rfl ?_
        refine g_X5_0 C (q := 72) dX5_lockOf_69 q_203 hx0 rfl ?_
        refine r_iload_n C 1 (q := 73) dX5_lockOf_72 rfl rfl ?_
        obtain ⟨v_73, e_73, h⟩ := bs h
        refine r_callV C (ci := 0) (st := []) (st2 := [.int v_73]) (q := 76) (m_X0_hasWard (xG X) (xl X) (kf_X5_0 hx0) e_73) ok_X0_hasWard (kf_X5_0 hx0) rfl ⟨_, rfl⟩ q_648 rfl ⟨Nat.le_of_ble_eq_true rfl, Nat.le_of_ble_eq_true rfl⟩ rfl rfl (Nat.le_of_ble_eq_true rfl) dX5_lockOf_73 rfl (fun hp_73 => ?_)
        refine r_if_eq C (tgt := 83) (q := 79) dX5_lockOf_76 (by decide) rfl (fun c_76 => ?_) (fun c_76 => ?_)
        · replace h := (if_pos c_76).symm.trans h
          refine r_iconst C (v := 0) (q := 84) dX5_lockOf_83 (by decide) rfl ?_
          obtain ⟨rfl, rfl⟩ := Prod.mk.inj (Option.some.inj h)
          exact hr _ _ dX5_lockOf_84
        · replace h := (if_neg c_76).symm.trans h
          refine r_iconst C (v := 1) (q := 80) dX5_lockOf_79 (by decide) rfl ?_
          refine r_goto C (tgt := 84) dX5_lockOf_80 (by decide) ?_
          obtain ⟨rfl, rfl⟩ := Prod.mk.inj (Option.some.inj h)
          exact hr _ _ dX5_lockOf_84
      · replace h := (if_neg c_40_0).symm.trans h
        by_cases c_40_1 : x2 = 1
        · replace h := (if_pos c_40_1).symm.trans h
          refine r_lookup C (tgt := 85) (off := 45) dX5_lockOf_40 (by decide) (by rw [c_40_1]; rfl) (by decide) ?_
          refine r_aload_n C 0 (q := 86) dX5_lockOf_85 rfl rfl ?_
          refine g_X5_0 C (q := 89) dX5_lockOf_86 q_203 hx0 rfl ?_
          refine r_iload_n C 1 (q := 90) dX5_lockOf_89 rfl rfl ?_
          obtain ⟨v_90, e_90, h⟩ := bs h
          refine r_callV C (ci := 0) (st := []) (st2 := [.int v_90]) (q := 93) (m_X0_asksTogether (xG X) (xl X) (kf_X5_0 hx0) e_90) ok_X0_asksTogether (kf_X5_0 hx0) rfl ⟨_, rfl⟩ q_655 rfl ⟨Nat.le_of_ble_eq_true rfl, Nat.le_of_ble_eq_true rfl⟩ rfl rfl (Nat.le_of_ble_eq_true rfl) dX5_lockOf_90 rfl (fun hp_90 => ?_)
          obtain ⟨rfl, rfl⟩ := Prod.mk.inj (Option.some.inj h)
          exact hr _ _ dX5_lockOf_93
        · replace h := (if_neg c_40_1).symm.trans h
          refine r_lookup C (tgt := 94) (off := 54) dX5_lockOf_40 (by decide) (show Op.lookupswitch.offset [(0, 28), (1, 45)] 54 (Int32.toInt x2) = 54 from ((lv_osw c_40_0 rfl).trans ((lv_osw c_40_1 rfl).trans (rfl)))) (by decide) ?_
          refine r_aload_n C 0 (q := 95) dX5_lockOf_94 rfl rfl ?_
          refine r_bipush C (v := (-2)) (q := 97) dX5_lockOf_95 (by decide) rfl ?_
          obtain ⟨v_97, s_97, e_97, h⟩ := bs2 h
          refine r_callV C (ci := 5) (st := []) (st2 := [.int v_97]) (q := 100) (m_X5_refuse (xG X) (xl X) hx0 e_97) ok_X5_refuse hx0 rfl ⟨_, rfl⟩ q_242 rfl ⟨Nat.le_of_ble_eq_true rfl, Nat.le_of_ble_eq_true rfl⟩ rfl rfl (Nat.le_of_ble_eq_true rfl) dX5_lockOf_97 rfl (fun hp_97 => ?_)
          obtain ⟨rfl, rfl⟩ := Prod.mk.inj (Option.some.inj h)
          exact hr _ _ dX5_lockOf_100
    · replace h := (if_neg c_23).symm.trans h
      refine r_aload_n C 0 (q := 27) dX5_lockOf_26 rfl rfl ?_
      refine g_X5_0 C (q := 30) dX5_lockOf_27 q_203 hx0 rfl ?_
      refine r_iload_n C 1 (q := 31) dX5_lockOf_30 rfl rfl ?_
      refine r_iload_n C 2 (q := 32) dX5_lockOf_31 rfl rfl ?_
      refine r_bipush C (v := 10) (q := 34) dX5_lockOf_32 (by decide) rfl ?_
      refine r_isub C (q := 35) dX5_lockOf_34 rfl ?_
      obtain ⟨v_35, e_35, h⟩ := bs h
      refine r_callV C (ci := 0) (st := []) (st2 := [.int v_35]) (q := 38) (m_X0_asksAt (xG X) (xl X) (kf_X5_0 hx0) e_35) ok_X0_asksAt (kf_X5_0 hx0) rfl ⟨_, rfl⟩ q_461 rfl ⟨Nat.le_of_ble_eq_true rfl, Nat.le_of_ble_eq_true rfl⟩ rfl rfl (Nat.le_of_ble_eq_true rfl) dX5_lockOf_35 rfl (fun hp_35 => ?_)
      obtain ⟨rfl, rfl⟩ := Prod.mk.inj (Option.some.inj h)
      exact hr _ _ dX5_lockOf_38
  · replace h := (if_pos c_5).symm.trans h
    refine r_aload_n C 0 (q := 9) dX5_lockOf_8 rfl rfl ?_
    refine r_bipush C (v := (-2)) (q := 11) dX5_lockOf_9 (by decide) rfl ?_
    obtain ⟨v_11, s_11, e_11, h⟩ := bs2 h
    refine r_callV C (ci := 5) (st := []) (st2 := [.int v_11]) (q := 14) (m_X5_refuse (xG X) (xl X) hx0 e_11) ok_X5_refuse hx0 rfl ⟨_, rfl⟩ q_242 rfl ⟨Nat.le_of_ble_eq_true rfl, Nat.le_of_ble_eq_true rfl⟩ rfl rfl (Nat.le_of_ble_eq_true rfl) dX5_lockOf_11 rfl (fun hp_11 => ?_)
    obtain ⟨rfl, rfl⟩ := Prod.mk.inj (Option.some.inj h)
    exact hr _ _ dX5_lockOf_14

theorem m_X5_lockOf (G : Gm) (l : Launch) {σ σ' : St} {x0 : Nat} {x1 : Int32} {x2 : Int32} (hx0 : kd x0 = 6) {r : Int32} (h : f_X5_lockOf σ x0 x1 x2 = some (r, σ')) : Ctr G l yX5_lockOf cX5_lockOf 3 (some .int) 3 66 [.ref (G.1 x0), .int x1, .int x2] σ (some (.int r)) True σ' := by
  refine Ctr.i (by decide) (Nat.le_of_ble_eq_true rfl) ?_
  intro X hG C hr
  subst hG
  exact w_X5_lockOf_b0 C hr _ _ _ _ hx0 h
-- X5_opens
set_option maxHeartbeats 4000000 in
set_option maxRecDepth 100000 in
theorem w_X5_opens_b71 {X : CX} (C : Cok X RX5 cX5_opens 6 5 117) {σ' : St} {r : Int32} (hr : RtI X cX5_opens r σ') (σ : St) (x2 : Int32) (t0 : Int32) (h : f_X5_opens_b71 σ x2 t0 = some (r, σ')) : V X σ 71 [(2, .int x2)] [.int t0] := by
  unfold f_X5_opens_b71 at h
  refine r_istore C (lv' := [(5, .int t0), (2, .int x2)]) (q := 73) dX5_opens_71 (by decide) rfl rfl ?_
  refine r_iload C 0 (q := 75) dX5_opens_73 rfl rfl ?_
  refine r_iload_n C 1 (q := 76) dX5_opens_75 rfl rfl ?_
  obtain ⟨v_76, e_76, h⟩ := bs h
  refine r_callS C (st := []) (st2 := [.int v_76]) (q := 79) (m_X5_hasBit (xG X) (xl X) e_76) ok_X5_hasBit q_665 rfl ⟨Nat.le_of_ble_eq_true rfl, Nat.le_of_ble_eq_true rfl⟩ rfl rfl (Nat.le_of_ble_eq_true rfl) dX5_opens_76 rfl (fun hp_76 => ?_)
  refine r_if_eq C (tgt := 86) (q := 82) dX5_opens_79 (by decide) rfl (fun c_79 => ?_) (fun c_79 => ?_)
  · replace h := (if_pos c_79).symm.trans h
    refine r_iconst C (v := 0) (q := 87) dX5_opens_86 (by decide) rfl ?_
    obtain ⟨rfl, rfl⟩ := Prod.mk.inj (Option.some.inj h)
    exact hr _ _ dX5_opens_87
  · replace h := (if_neg c_79).symm.trans h
    refine r_iconst C (v := 1) (q := 83) dX5_opens_82 (by decide) rfl ?_
    refine r_goto C (tgt := 87) dX5_opens_83 (by decide) ?_
    obtain ⟨rfl, rfl⟩ := Prod.mk.inj (Option.some.inj h)
    exact hr _ _ dX5_opens_87

set_option maxHeartbeats 4000000 in
set_option maxRecDepth 100000 in
theorem w_X5_opens_b25 {X : CX} (C : Cok X RX5 cX5_opens 6 5 117) {σ' : St} {r : Int32} (hr : RtI X cX5_opens r σ') (σ : St) (x0 : Nat) (hx0 : kd x0 = 6) (h : f_X5_opens_b25 σ x0 = some (r, σ')) : V X σ 25 [(0, .ref ((xG X).1 x0))] [] := by
  unfold f_X5_opens_b25 at h
  refine r_aload_n C 0 (q := 26) dX5_opens_25 rfl rfl ?_
  refine r_bipush C (v := (-2)) (q := 28) dX5_opens_26 (by decide) rfl ?_
  obtain ⟨v_28, s_28, e_28, h⟩ := bs2 h
  refine r_callV C (ci := 5) (st := []) (st2 := [.int v_28]) (q := 31) (m_X5_refuse (xG X) (xl X) hx0 e_28) ok_X5_refuse hx0 rfl ⟨_, rfl⟩ q_242 rfl ⟨Nat.le_of_ble_eq_true rfl, Nat.le_of_ble_eq_true rfl⟩ rfl rfl (Nat.le_of_ble_eq_true rfl) dX5_opens_28 rfl (fun hp_28 => ?_)
  obtain ⟨rfl, rfl⟩ := Prod.mk.inj (Option.some.inj h)
  exact hr _ _ dX5_opens_31

set_option maxHeartbeats 4000000 in
set_option maxRecDepth 100000 in
theorem w_X5_opens_b0 {X : CX} (C : Cok X RX5 cX5_opens 6 5 117) {σ' : St} {r : Int32} (hr : RtI X cX5_opens r σ') (σ : St) (x0 : Nat) (x1 : Int32) (x2 : Int32) (x3 : Int32) (hx0 : kd x0 = 6) (h : f_X5_opens σ x0 x1 x2 x3 = some (r, σ')) : V X σ 0 [(0, .ref ((xG X).1 x0)), (1, .int x1), (2, .int x2), (3, .int x3)] [] := by
  unfold f_X5_opens at h
  refine r_aload_n C 0 (q := 1) dX5_opens_0 rfl rfl ?_
  refine r_iload_n C 1 (q := 2) dX5_opens_1 rfl rfl ?_
  obtain ⟨v_2, e_2, h⟩ := bs h
  refine r_callV C (ci := 5) (st := []) (st2 := [.int v_2]) (q := 5) (m_X5_isKey (xG X) (xl X) hx0 e_2) ok_X5_isKey hx0 rfl ⟨_, rfl⟩ q_321 rfl ⟨Nat.le_of_ble_eq_true rfl, Nat.le_of_ble_eq_true rfl⟩ rfl rfl (Nat.le_of_ble_eq_true rfl) dX5_opens_2 rfl (fun hp_2 => ?_)
  refine r_if_eq C (tgt := 25) (q := 8) dX5_opens_5 (by decide) rfl (fun c_5 => ?_) (fun c_5 => ?_)
  · replace h := (if_pos c_5).symm.trans h
    refine r_sub (lv' := [(0, .ref ((xG X).1 x0))]) [0] rfl ?_
    exact w_X5_opens_b25 C hr  _ _ hx0 h
  · replace h := (if_neg c_5).symm.trans h
    refine r_aload_n C 0 (q := 9) dX5_opens_8 rfl rfl ?_
    refine r_iload_n C 2 (q := 10) dX5_opens_9 rfl rfl ?_
    obtain ⟨v_10, e_10, h⟩ := bs h
    refine r_callV C (ci := 5) (st := []) (st2 := [.int v_10]) (q := 13) (m_X5_isLock (xG X) (xl X) hx0 e_10) ok_X5_isLock hx0 rfl ⟨_, rfl⟩ q_453 rfl ⟨Nat.le_of_ble_eq_true rfl, Nat.le_of_ble_eq_true rfl⟩ rfl rfl (Nat.le_of_ble_eq_true rfl) dX5_opens_10 rfl (fun hp_10 => ?_)
    refine r_if_eq C (tgt := 25) (q := 16) dX5_opens_13 (by decide) rfl (fun c_13 => ?_) (fun c_13 => ?_)
    · replace h := (if_pos c_13).symm.trans h
      refine r_sub (lv' := [(0, .ref ((xG X).1 x0))]) [0] rfl ?_
      exact w_X5_opens_b25 C hr  _ _ hx0 h
    · replace h := (if_neg c_13).symm.trans h
      refine r_iload_n C 3 (q := 17) dX5_opens_16 rfl rfl ?_
      refine r_iconst C (v := 0) (q := 18) dX5_opens_17 (by decide) rfl ?_
      refine r_iconst C (v := 1) (q := 19) dX5_opens_18 (by decide) rfl ?_
      obtain ⟨v_19, e_19, h⟩ := bs h
      refine r_callS C (st := []) (st2 := [.int v_19]) (q := 22) (m_X5_isWithin (xG X) (xl X) e_19) ok_X5_isWithin q_239 rfl ⟨Nat.le_of_ble_eq_true rfl, Nat.le_of_ble_eq_true rfl⟩ rfl rfl (Nat.le_of_ble_eq_true rfl) dX5_opens_19 rfl (fun hp_19 => ?_)
      refine r_if_ne C (tgt := 32) (q := 25) dX5_opens_22 (by decide) rfl (fun c_22 => ?_) (fun c_22 => ?_)
      · replace h := (if_neg c_22).symm.trans h
        refine r_aload_n C 0 (q := 33) dX5_opens_32 rfl rfl ?_
        refine g_X5_0 C (q := 36) dX5_opens_33 q_203 hx0 rfl ?_
        refine r_iload_n C 1 (q := 37) dX5_opens_36 rfl rfl ?_
        obtain ⟨v_37, e_37, h⟩ := bs h
        refine r_callV C (ci := 0) (st := []) (st2 := [.ref ((xG X).1 v_37)]) (q := 40) (m_X0_keyAt (xG X) (xl X) (kf_X5_0 hx0) e_37) ok_X0_keyAt (kf_X5_0 hx0) rfl ⟨_, rfl⟩ q_329 rfl ⟨Nat.le_of_ble_eq_true rfl, Nat.le_of_ble_eq_true rfl⟩ rfl rfl (Nat.le_of_ble_eq_true rfl) dX5_opens_37 rfl (fun hp_37 => ?_)
        refine r_astore C (lv' := [(4, .ref ((xG X).1 v_37)), (0, .ref ((xG X).1 x0)), (1, .int x1), (2, .int x2), (3, .int x3)]) (q := 42) dX5_opens_40 (by decide) rfl rfl ?_
        refine r_iload_n C 4 (q := 43) dX5_opens_42 rfl rfl ?_
        refine r_if_ne C (tgt := 63) (q := 46) dX5_opens_43 (by decide) rfl (fun c_43 => ?_) (fun c_43 => ?_)
        · replace h := (if_neg c_43).symm.trans h
          refine r_aload_n C 1 (q := 64) dX5_opens_63 rfl rfl ?_
          refine g_X5_0 C (q := 67) dX5_opens_64 q_203 hx0 rfl ?_
          refine r_iload_n C 2 (q := 68) dX5_opens_67 rfl rfl ?_
          obtain ⟨v_68, e_68, h⟩ := bs h
          refine r_callV C (ci := 0) (st := []) (st2 := [.int v_68]) (q := 71) (m_X0_openedBy (xG X) (xl X) (kf_X5_0 hx0) e_68) ok_X0_openedBy (kf_X5_0 hx0) rfl ⟨_, rfl⟩ q_349 rfl ⟨Nat.le_of_ble_eq_true rfl, Nat.le_of_ble_eq_true rfl⟩ rfl rfl (Nat.le_of_ble_eq_true rfl) dX5_opens_68 rfl (fun hp_68 => ?_)
          refine r_sub (lv' := [(2, .int x2)]) [3] rfl ?_
          exact w_X5_opens_b71 C hr  _ _ _  h
        · replace h := (if_pos c_43).symm.trans h
          refine r_aload_n C 1 (q := 47) dX5_opens_46 rfl rfl ?_
          refine g_X5_0 C (q := 50) dX5_opens_47 q_203 hx0 rfl ?_
          refine r_aload C 0 (q := 52) dX5_opens_50 rfl rfl ?_
          refine r_aload C 0 (q := 54) dX5_opens_52 rfl rfl ?_
          refine g_X1_3 C (q := 57) dX5_opens_54 q_50 hp_37 rfl ?_
          obtain ⟨v_57, e_57, h⟩ := bs h
          refine r_callV C (ci := 0) (st := []) (st2 := [.int v_57]) (q := 60) (m_X0_fitted (xG X) (xl X) (kf_X5_0 hx0) hp_37 (kf_X1_3 hp_37) e_57) ok_X0_fitted (kf_X5_0 hx0) rfl ⟨_, rfl⟩ q_664 rfl ⟨Nat.le_of_ble_eq_true rfl, Nat.le_of_ble_eq_true rfl⟩ rfl rfl (Nat.le_of_ble_eq_true rfl) dX5_opens_57 rfl (fun hp_57 => ?_)
          refine r_goto C (tgt := 71) dX5_opens_60 (by decide) ?_
          refine r_sub (lv' := [(2, .int x2)]) [3] rfl ?_
          exact w_X5_opens_b71 C hr  _ _ _  h
      · replace h := (if_pos c_22).symm.trans h
        refine r_sub (lv' := [(0, .ref ((xG X).1 x0))]) [0] rfl ?_
        exact w_X5_opens_b25 C hr  _ _ hx0 h

theorem m_X5_opens (G : Gm) (l : Launch) {σ σ' : St} {x0 : Nat} {x1 : Int32} {x2 : Int32} {x3 : Int32} (hx0 : kd x0 = 6) {r : Int32} (h : f_X5_opens σ x0 x1 x2 x3 = some (r, σ')) : Ctr G l yX5_opens cX5_opens 6 (some .int) 5 117 [.ref (G.1 x0), .int x1, .int x2, .int x3] σ (some (.int r)) True σ' := by
  refine Ctr.i (by decide) (Nat.le_of_ble_eq_true rfl) ?_
  intro X hG C hr
  subst hG
  exact w_X5_opens_b0 C hr _ _ _ _ _ hx0 h
-- X5_opened
set_option maxHeartbeats 4000000 in
set_option maxRecDepth 100000 in
theorem w_X5_opened_b0 {X : CX} (C : Cok X RX5 cX5_opened 2 5 117) {σ' : St} {r : Int32} (hr : RtI X cX5_opened r σ') (σ : St) (x0 : Nat) (x1 : Int32) (hx0 : kd x0 = 6) (h : f_X5_opened σ x0 x1 = some (r, σ')) : V X σ 0 [(0, .ref ((xG X).1 x0)), (1, .int x1)] [] := by
  unfold f_X5_opened at h
  refine r_aload_n C 0 (q := 1) dX5_opened_0 rfl rfl ?_
  refine r_iload_n C 1 (q := 2) dX5_opened_1 rfl rfl ?_
  obtain ⟨v_2, e_2, h⟩ := bs h
  refine r_callV C (ci := 5) (st := []) (st2 := [.int v_2]) (q := 5) (m_X5_isKey (xG X) (xl X) hx0 e_2) ok_X5_isKey hx0 rfl ⟨_, rfl⟩ q_321 rfl ⟨Nat.le_of_ble_eq_true rfl, Nat.le_of_ble_eq_true rfl⟩ rfl rfl (Nat.le_of_ble_eq_true rfl) dX5_opened_2 rfl (fun hp_2 => ?_)
  refine r_if_eq C (tgt := 19) (q := 8) dX5_opened_5 (by decide) rfl (fun c_5 => ?_) (fun c_5 => ?_)
  · replace h := (if_pos c_5).symm.trans h
    refine r_aload_n C 0 (q := 20) dX5_opened_19 rfl rfl ?_
    refine r_bipush C (v := (-2)) (q := 22) dX5_opened_20 (by decide) rfl ?_
    obtain ⟨v_22, s_22, e_22, h⟩ := bs2 h
    refine r_callV C (ci := 5) (st := []) (st2 := [.int v_22]) (q := 25) (m_X5_refuse (xG X) (xl X) hx0 e_22) ok_X5_refuse hx0 rfl ⟨_, rfl⟩ q_242 rfl ⟨Nat.le_of_ble_eq_true rfl, Nat.le_of_ble_eq_true rfl⟩ rfl rfl (Nat.le_of_ble_eq_true rfl) dX5_opened_22 rfl (fun hp_22 => ?_)
    obtain ⟨rfl, rfl⟩ := Prod.mk.inj (Option.some.inj h)
    exact hr _ _ dX5_opened_25
  · replace h := (if_neg c_5).symm.trans h
    refine r_aload_n C 0 (q := 9) dX5_opened_8 rfl rfl ?_
    refine g_X5_0 C (q := 12) dX5_opened_9 q_203 hx0 rfl ?_
    refine r_iload_n C 1 (q := 13) dX5_opened_12 rfl rfl ?_
    obtain ⟨v_13, e_13, h⟩ := bs h
    refine r_callV C (ci := 0) (st := []) (st2 := [.int v_13]) (q := 16) (m_X0_openedBy (xG X) (xl X) (kf_X5_0 hx0) e_13) ok_X0_openedBy (kf_X5_0 hx0) rfl ⟨_, rfl⟩ q_349 rfl ⟨Nat.le_of_ble_eq_true rfl, Nat.le_of_ble_eq_true rfl⟩ rfl rfl (Nat.le_of_ble_eq_true rfl) dX5_opened_13 rfl (fun hp_13 => ?_)
    refine r_goto C (tgt := 25) dX5_opened_16 (by decide) ?_
    obtain ⟨rfl, rfl⟩ := Prod.mk.inj (Option.some.inj h)
    exact hr _ _ dX5_opened_25

theorem m_X5_opened (G : Gm) (l : Launch) {σ σ' : St} {x0 : Nat} {x1 : Int32} (hx0 : kd x0 = 6) {r : Int32} (h : f_X5_opened σ x0 x1 = some (r, σ')) : Ctr G l yX5_opened cX5_opened 2 (some .int) 5 117 [.ref (G.1 x0), .int x1] σ (some (.int r)) True σ' := by
  refine Ctr.i (by decide) (Nat.le_of_ble_eq_true rfl) ?_
  intro X hG C hr
  subst hG
  exact w_X5_opened_b0 C hr _ _ _ hx0 h
-- X5_who
set_option maxHeartbeats 4000000 in
set_option maxRecDepth 100000 in
theorem w_X5_who_b0 {X : CX} (C : Cok X RX5 cX5_who 2 6 140) {σ' : St} {r : Int32} (hr : RtI X cX5_who r σ') (σ : St) (x0 : Nat) (x1 : Int32) (hx0 : kd x0 = 6) (h : f_X5_who σ x0 x1 = some (r, σ')) : V X σ 0 [(0, .ref ((xG X).1 x0)), (1, .int x1)] [] := by
  unfold f_X5_who at h
  refine r_aload_n C 0 (q := 1) dX5_who_0 rfl rfl ?_
  refine r_iload_n C 1 (q := 2) dX5_who_1 rfl rfl ?_
  obtain ⟨v_2, e_2, h⟩ := bs h
  refine r_callV C (ci := 5) (st := []) (st2 := [.int v_2]) (q := 5) (m_X5_isLock (xG X) (xl X) hx0 e_2) ok_X5_isLock hx0 rfl ⟨_, rfl⟩ q_453 rfl ⟨Nat.le_of_ble_eq_true rfl, Nat.le_of_ble_eq_true rfl⟩ rfl rfl (Nat.le_of_ble_eq_true rfl) dX5_who_2 rfl (fun hp_2 => ?_)
  refine r_if_eq C (tgt := 19) (q := 8) dX5_who_5 (by decide) rfl (fun c_5 => ?_) (fun c_5 => ?_)
  · replace h := (if_pos c_5).symm.trans h
    refine r_aload_n C 0 (q := 20) dX5_who_19 rfl rfl ?_
    refine r_bipush C (v := (-2)) (q := 22) dX5_who_20 (by decide) rfl ?_
    obtain ⟨v_22, s_22, e_22, h⟩ := bs2 h
    refine r_callV C (ci := 5) (st := []) (st2 := [.int v_22]) (q := 25) (m_X5_refuse (xG X) (xl X) hx0 e_22) ok_X5_refuse hx0 rfl ⟨_, rfl⟩ q_242 rfl ⟨Nat.le_of_ble_eq_true rfl, Nat.le_of_ble_eq_true rfl⟩ rfl rfl (Nat.le_of_ble_eq_true rfl) dX5_who_22 rfl (fun hp_22 => ?_)
    obtain ⟨rfl, rfl⟩ := Prod.mk.inj (Option.some.inj h)
    exact hr _ _ dX5_who_25
  · replace h := (if_neg c_5).symm.trans h
    refine r_aload_n C 0 (q := 9) dX5_who_8 rfl rfl ?_
    refine g_X5_0 C (q := 12) dX5_who_9 q_203 hx0 rfl ?_
    refine r_iload_n C 1 (q := 13) dX5_who_12 rfl rfl ?_
    obtain ⟨v_13, e_13, h⟩ := bs h
    refine r_callV C (ci := 0) (st := []) (st2 := [.int v_13]) (q := 16) (m_X0_openersOf (xG X) (xl X) (kf_X5_0 hx0) e_13) ok_X0_openersOf (kf_X5_0 hx0) rfl ⟨_, rfl⟩ q_674 rfl ⟨Nat.le_of_ble_eq_true rfl, Nat.le_of_ble_eq_true rfl⟩ rfl rfl (Nat.le_of_ble_eq_true rfl) dX5_who_13 rfl (fun hp_13 => ?_)
    refine r_goto C (tgt := 25) dX5_who_16 (by decide) ?_
    obtain ⟨rfl, rfl⟩ := Prod.mk.inj (Option.some.inj h)
    exact hr _ _ dX5_who_25

theorem m_X5_who (G : Gm) (l : Launch) {σ σ' : St} {x0 : Nat} {x1 : Int32} (hx0 : kd x0 = 6) {r : Int32} (h : f_X5_who σ x0 x1 = some (r, σ')) : Ctr G l yX5_who cX5_who 2 (some .int) 6 140 [.ref (G.1 x0), .int x1] σ (some (.int r)) True σ' := by
  refine Ctr.i (by decide) (Nat.le_of_ble_eq_true rfl) ?_
  intro X hG C hr
  subst hG
  exact w_X5_who_b0 C hr _ _ _ hx0 h
-- X5_wrong
set_option maxHeartbeats 4000000 in
set_option maxRecDepth 100000 in
theorem w_X5_wrong_b36 {X : CX} (C : Cok X RX5 cX5_wrong 4 5 117) {σ : St} {r : Int32} (hr : RtI X cX5_wrong r σ) (k_2 : Nat → Int32 → Option Int32) (hk_2 : ∀ (x0 : Nat) (x1 : Int32), kd x0 = 6 → k_2 x0 x1 = some r → V X σ 2 [(0, .ref ((xG X).1 x0)), (1, .int x1)] []) (k_36 : Nat → Int32 → Int32 → Int32 → Option Int32) (hk_36 : ∀ (x0 : Nat) (x1 : Int32) (x2 : Int32) (x3 : Int32), kd x0 = 6 → k_36 x0 x1 x2 x3 = some r → V X σ 36 [(0, .ref ((xG X).1 x0)), (1, .int x1), (2, .int x2), (3, .int x3)] []) (x0 : Nat) (x1 : Int32) (x2 : Int32) (x3 : Int32) (hx0 : kd x0 = 6) (h : f_X5_wrong_b36 σ k_2 k_36 x0 x1 x2 x3 = some r) : V X σ 36 [(0, .ref ((xG X).1 x0)), (1, .int x1), (2, .int x2), (3, .int x3)] [] := by
  unfold f_X5_wrong_b36 at h
  refine r_iload_n C 3 (q := 37) dX5_wrong_36 rfl rfl ?_
  refine r_aload_n C 0 (q := 38) dX5_wrong_37 rfl rfl ?_
  refine g_X5_0 C (q := 41) dX5_wrong_38 q_203 hx0 rfl ?_
  refine g_X0_6 C (q := 44) dX5_wrong_41 q_84 (kf_X5_0 hx0) rfl ?_
  refine r_icmp_ge C (tgt := 68) (q := 47) dX5_wrong_44 (by decide) rfl (fun c_44 => ?_) (fun c_44 => ?_)
  · replace h := (if_pos c_44).symm.trans h
    obtain ⟨y_68, e_68, h⟩ := bs h
    refine r_iinc C (v := y_68) (lv' := [(1, .int y_68), (0, .ref ((xG X).1 x0)), (2, .int x2), (3, .int x3)]) (q := 71) 1 dX5_wrong_68 rfl (Option.some.inj e_68) (by decide) rfl rfl ?_
    refine r_goto C (tgt := 2) dX5_wrong_71 (by decide) ?_
    refine r_sub (lv' := [(0, .ref ((xG X).1 x0)), (1, .int y_68)]) [1, 0] rfl ?_
    exact hk_2 _ _ hx0 h
  · replace h := (if_neg c_44).symm.trans h
    refine r_iload_n C 2 (q := 48) dX5_wrong_47 rfl rfl ?_
    refine r_iload_n C 3 (q := 49) dX5_wrong_48 rfl rfl ?_
    obtain ⟨v_49, e_49, h⟩ := bs h
    refine r_callS C (st := []) (st2 := [.int v_49]) (q := 52) (m_X5_hasBit (xG X) (xl X) e_49) ok_X5_hasBit q_665 rfl ⟨Nat.le_of_ble_eq_true rfl, Nat.le_of_ble_eq_true rfl⟩ rfl rfl (Nat.le_of_ble_eq_true rfl) dX5_wrong_49 rfl (fun hp_49 => ?_)
    refine r_if_eq C (tgt := 62) (q := 55) dX5_wrong_52 (by decide) rfl (fun c_52 => ?_) (fun c_52 => ?_)
    · replace h := (if_pos c_52).symm.trans h
      obtain ⟨y_62, e_62, h⟩ := bs h
      refine r_iinc C (v := y_62) (lv' := [(3, .int y_62), (0, .ref ((xG X).1 x0)), (1, .int x1), (2, .int x2)]) (q := 65) 3 dX5_wrong_62 rfl (Option.some.inj e_62) (by decide) rfl rfl ?_
      refine r_goto C (tgt := 36) dX5_wrong_65 (by decide) ?_
      refine r_sub (lv' := [(0, .ref ((xG X).1 x0)), (1, .int x1), (2, .int x2), (3, .int y_62)]) [1, 2, 3, 0] rfl ?_
      exact hk_36 _ _ _ _ hx0 h
    · replace h := (if_neg c_52).symm.trans h
      refine r_bipush C (v := 10) (q := 57) dX5_wrong_55 (by decide) rfl ?_
      refine r_iload_n C 1 (q := 58) dX5_wrong_57 rfl rfl ?_
      refine r_imul C (q := 59) dX5_wrong_58 rfl ?_
      refine r_iload_n C 3 (q := 60) dX5_wrong_59 rfl rfl ?_
      refine r_iadd C (q := 61) dX5_wrong_60 rfl ?_
      obtain rfl := Option.some.inj h
      exact hr _ _ dX5_wrong_61

theorem w_X5_wrong_l36 {X : CX} (C : Cok X RX5 cX5_wrong 4 5 117) {σ : St} {r : Int32} (hr : RtI X cX5_wrong r σ) (k_2 : Nat → Int32 → Option Int32) (hk_2 : ∀ (x0 : Nat) (x1 : Int32), kd x0 = 6 → k_2 x0 x1 = some r → V X σ 2 [(0, .ref ((xG X).1 x0)), (1, .int x1)] []) (n : Nat) : ∀ (x0 : Nat) (x1 : Int32) (x2 : Int32) (x3 : Int32), kd x0 = 6 → f_X5_wrong_l36 σ k_2 n x0 x1 x2 x3 = some r → V X σ 36 [(0, .ref ((xG X).1 x0)), (1, .int x1), (2, .int x2), (3, .int x3)] [] := by
  induction n with
  | zero =>
    intro x0 x1 x2 x3 hx0 h
    exact nomatch (show (none : Option Int32) = some r from h)
  | succ n ih =>
    intro x0 x1 x2 x3 hx0 h
    exact w_X5_wrong_b36 C hr k_2 hk_2 _ ih x0 x1 x2 x3 hx0 h
set_option maxHeartbeats 4000000 in
set_option maxRecDepth 100000 in
theorem w_X5_wrong_b2 {X : CX} (C : Cok X RX5 cX5_wrong 4 5 117) {σ : St} {r : Int32} (hr : RtI X cX5_wrong r σ) (k_2 : Nat → Int32 → Option Int32) (hk_2 : ∀ (x0 : Nat) (x1 : Int32), kd x0 = 6 → k_2 x0 x1 = some r → V X σ 2 [(0, .ref ((xG X).1 x0)), (1, .int x1)] []) (x0 : Nat) (x1 : Int32) (hx0 : kd x0 = 6) (h : f_X5_wrong_b2 σ k_2 x0 x1 = some r) : V X σ 2 [(0, .ref ((xG X).1 x0)), (1, .int x1)] [] := by
  unfold f_X5_wrong_b2 at h
  refine r_iload_n C 1 (q := 3) dX5_wrong_2 rfl rfl ?_
  refine r_aload_n C 0 (q := 4) dX5_wrong_3 rfl rfl ?_
  refine g_X5_0 C (q := 7) dX5_wrong_4 q_203 hx0 rfl ?_
  refine g_X0_5 C (q := 10) dX5_wrong_7 q_80 (kf_X5_0 hx0) rfl ?_
  refine r_icmp_ge C (tgt := 74) (q := 13) dX5_wrong_10 (by decide) rfl (fun c_10 => ?_) (fun c_10 => ?_)
  · replace h := (if_pos c_10).symm.trans h
    refine r_iconst C (v := (-1)) (q := 75) dX5_wrong_74 (by decide) rfl ?_
    obtain rfl := Option.some.inj h
    exact hr _ _ dX5_wrong_75
  · replace h := (if_neg c_10).symm.trans h
    refine r_aload_n C 0 (q := 14) dX5_wrong_13 rfl rfl ?_
    refine g_X5_0 C (q := 17) dX5_wrong_14 q_203 hx0 rfl ?_
    refine r_iload_n C 1 (q := 18) dX5_wrong_17 rfl rfl ?_
    obtain ⟨v_18, e_18, h⟩ := bs h
    refine r_callV C (ci := 0) (st := []) (st2 := [.int v_18]) (q := 21) (m_X0_openedBy (xG X) (xl X) (kf_X5_0 hx0) e_18) ok_X0_openedBy (kf_X5_0 hx0) rfl ⟨_, rfl⟩ q_349 rfl ⟨Nat.le_of_ble_eq_true rfl, Nat.le_of_ble_eq_true rfl⟩ rfl rfl (Nat.le_of_ble_eq_true rfl) dX5_wrong_18 rfl (fun hp_18 => ?_)
    refine r_aload_n C 0 (q := 22) dX5_wrong_21 rfl rfl ?_
    refine g_X5_0 C (q := 25) dX5_wrong_22 q_203 hx0 rfl ?_
    refine r_iload_n C 1 (q := 26) dX5_wrong_25 rfl rfl ?_
    obtain ⟨v_26, e_26, h⟩ := bs h
    refine r_callV C (ci := 0) (st := [.int v_18]) (st2 := [.ref ((xG X).1 v_26), .int v_18]) (q := 29) (m_X0_keyAt (xG X) (xl X) (kf_X5_0 hx0) e_26) ok_X0_keyAt (kf_X5_0 hx0) rfl ⟨_, rfl⟩ q_329 rfl ⟨Nat.le_of_ble_eq_true rfl, Nat.le_of_ble_eq_true rfl⟩ rfl rfl (Nat.le_of_ble_eq_true rfl) dX5_wrong_26 rfl (fun hp_26 => ?_)
    refine g_X1_2 C (q := 32) dX5_wrong_29 q_46 hp_26 rfl ?_
    refine r_ixor C (q := 33) dX5_wrong_32 rfl ?_
    obtain ⟨y_33, e_33, h⟩ := bs h
    refine r_topI (Option.some.inj e_33) ?_
    refine r_istore_n C (lv' := [(2, .int y_33), (0, .ref ((xG X).1 x0)), (1, .int x1)]) (q := 34) dX5_wrong_33 rfl (by decide) rfl rfl ?_
    refine r_iconst C (v := 0) (q := 35) dX5_wrong_34 (by decide) rfl ?_
    refine r_istore_n C (lv' := [(3, .int 0), (2, .int y_33), (0, .ref ((xG X).1 x0)), (1, .int x1)]) (q := 36) dX5_wrong_35 rfl (by decide) rfl rfl ?_
    refine r_sub (lv' := [(0, .ref ((xG X).1 x0)), (1, .int x1), (2, .int y_33), (3, .int 0)]) [2, 3, 1, 0] rfl ?_
    exact w_X5_wrong_l36 C hr _ hk_2 FU _ _ _ _ hx0 h

theorem w_X5_wrong_l2 {X : CX} (C : Cok X RX5 cX5_wrong 4 5 117) {σ : St} {r : Int32} (hr : RtI X cX5_wrong r σ) (n : Nat) : ∀ (x0 : Nat) (x1 : Int32), kd x0 = 6 → f_X5_wrong_l2 σ n x0 x1 = some r → V X σ 2 [(0, .ref ((xG X).1 x0)), (1, .int x1)] [] := by
  induction n with
  | zero =>
    intro x0 x1 hx0 h
    exact nomatch (show (none : Option Int32) = some r from h)
  | succ n ih =>
    intro x0 x1 hx0 h
    exact w_X5_wrong_b2 C hr _ ih x0 x1 hx0 h
set_option maxHeartbeats 4000000 in
set_option maxRecDepth 100000 in
theorem w_X5_wrong_b0 {X : CX} (C : Cok X RX5 cX5_wrong 4 5 117) {σ : St} {r : Int32} (hr : RtI X cX5_wrong r σ) (x0 : Nat) (hx0 : kd x0 = 6) (h : f_X5_wrong σ x0 = some r) : V X σ 0 [(0, .ref ((xG X).1 x0))] [] := by
  unfold f_X5_wrong at h
  refine r_iconst C (v := 0) (q := 1) dX5_wrong_0 (by decide) rfl ?_
  refine r_istore_n C (lv' := [(1, .int 0), (0, .ref ((xG X).1 x0))]) (q := 2) dX5_wrong_1 rfl (by decide) rfl rfl ?_
  refine r_sub (lv' := [(0, .ref ((xG X).1 x0)), (1, .int 0)]) [1, 0] rfl ?_
  exact w_X5_wrong_l2 C hr  FU _ _ hx0 h

theorem m_X5_wrong (G : Gm) (l : Launch) {σ : St} {x0 : Nat} (hx0 : kd x0 = 6) {r : Int32} (h : f_X5_wrong σ x0 = some r) : Ctr G l yX5_wrong cX5_wrong 4 (some .int) 5 117 [.ref (G.1 x0)] σ (some (.int r)) True σ := by
  refine Ctr.i (by decide) (Nat.le_of_ble_eq_true rfl) ?_
  intro X hG C hr
  subst hG
  exact w_X5_wrong_b0 C hr _ hx0 h
-- X5_wrongs
set_option maxHeartbeats 4000000 in
set_option maxRecDepth 100000 in
theorem w_X5_wrongs_b4 {X : CX} (C : Cok X RX5 cX5_wrongs 3 5 117) {σ : St} {r : Int32} (hr : RtI X cX5_wrongs r σ) (k_4 : Nat → Int32 → Int32 → Option Int32) (hk_4 : ∀ (x0 : Nat) (x1 : Int32) (x2 : Int32), kd x0 = 6 → k_4 x0 x1 x2 = some r → V X σ 4 [(0, .ref ((xG X).1 x0)), (1, .int x1), (2, .int x2)] []) (x0 : Nat) (x1 : Int32) (x2 : Int32) (hx0 : kd x0 = 6) (h : f_X5_wrongs_b4 σ k_4 x0 x1 x2 = some r) : V X σ 4 [(0, .ref ((xG X).1 x0)), (1, .int x1), (2, .int x2)] [] := by
  unfold f_X5_wrongs_b4 at h
  refine r_iload_n C 2 (q := 5) dX5_wrongs_4 rfl rfl ?_
  refine r_aload_n C 0 (q := 6) dX5_wrongs_5 rfl rfl ?_
  refine g_X5_0 C (q := 9) dX5_wrongs_6 q_203 hx0 rfl ?_
  refine g_X0_5 C (q := 12) dX5_wrongs_9 q_80 (kf_X5_0 hx0) rfl ?_
  refine r_icmp_ge C (tgt := 47) (q := 15) dX5_wrongs_12 (by decide) rfl (fun c_12 => ?_) (fun c_12 => ?_)
  · replace h := (if_pos c_12).symm.trans h
    refine r_iload_n C 1 (q := 48) dX5_wrongs_47 rfl rfl ?_
    obtain rfl := Option.some.inj h
    exact hr _ _ dX5_wrongs_48
  · replace h := (if_neg c_12).symm.trans h
    refine r_iload_n C 1 (q := 16) dX5_wrongs_15 rfl rfl ?_
    refine r_aload_n C 0 (q := 17) dX5_wrongs_16 rfl rfl ?_
    refine g_X5_0 C (q := 20) dX5_wrongs_17 q_203 hx0 rfl ?_
    refine r_iload_n C 2 (q := 21) dX5_wrongs_20 rfl rfl ?_
    obtain ⟨v_21, e_21, h⟩ := bs h
    refine r_callV C (ci := 0) (st := [.int x1]) (st2 := [.int v_21, .int x1]) (q := 24) (m_X0_openedBy (xG X) (xl X) (kf_X5_0 hx0) e_21) ok_X0_openedBy (kf_X5_0 hx0) rfl ⟨_, rfl⟩ q_349 rfl ⟨Nat.le_of_ble_eq_true rfl, Nat.le_of_ble_eq_true rfl⟩ rfl rfl (Nat.le_of_ble_eq_true rfl) dX5_wrongs_21 rfl (fun hp_21 => ?_)
    refine r_aload_n C 0 (q := 25) dX5_wrongs_24 rfl rfl ?_
    refine g_X5_0 C (q := 28) dX5_wrongs_25 q_203 hx0 rfl ?_
    refine r_iload_n C 2 (q := 29) dX5_wrongs_28 rfl rfl ?_
    obtain ⟨v_29, e_29, h⟩ := bs h
    refine r_callV C (ci := 0) (st := [.int v_21, .int x1]) (st2 := [.ref ((xG X).1 v_29), .int v_21, .int x1]) (q := 32) (m_X0_keyAt (xG X) (xl X) (kf_X5_0 hx0) e_29) ok_X0_keyAt (kf_X5_0 hx0) rfl ⟨_, rfl⟩ q_329 rfl ⟨Nat.le_of_ble_eq_true rfl, Nat.le_of_ble_eq_true rfl⟩ rfl rfl (Nat.le_of_ble_eq_true rfl) dX5_wrongs_29 rfl (fun hp_29 => ?_)
    refine g_X1_2 C (q := 35) dX5_wrongs_32 q_46 hp_29 rfl ?_
    refine r_ixor C (q := 36) dX5_wrongs_35 rfl ?_
    obtain ⟨v_36, e_36, h⟩ := bs h
    refine r_callS C (st := [.int x1]) (st2 := [.int v_36, .int x1]) (q := 39) (m_J6_bitCount_0f7a4 (xG X) (xl X) e_36) ok_J6_bitCount_0f7a4 q_385 rfl ⟨Nat.le_of_ble_eq_true rfl, Nat.le_of_ble_eq_true rfl⟩ rfl rfl (Nat.le_of_ble_eq_true rfl) dX5_wrongs_36 rfl (fun hp_36 => ?_)
    refine r_iadd C (q := 40) dX5_wrongs_39 rfl ?_
    obtain ⟨y_40, e_40, h⟩ := bs h
    refine r_topI (Option.some.inj e_40) ?_
    refine r_istore_n C (lv' := [(1, .int y_40), (0, .ref ((xG X).1 x0)), (2, .int x2)]) (q := 41) dX5_wrongs_40 rfl (by decide) rfl rfl ?_
    obtain ⟨y_41, e_41, h⟩ := bs h
    refine r_iinc C (v := y_41) (lv' := [(2, .int y_41), (1, .int y_40), (0, .ref ((xG X).1 x0))]) (q := 44) 2 dX5_wrongs_41 rfl (Option.some.inj e_41) (by decide) rfl rfl ?_
    refine r_goto C (tgt := 4) dX5_wrongs_44 (by decide) ?_
    refine r_sub (lv' := [(0, .ref ((xG X).1 x0)), (1, .int y_40), (2, .int y_41)]) [2, 1, 0] rfl ?_
    exact hk_4 _ _ _ hx0 h

theorem w_X5_wrongs_l4 {X : CX} (C : Cok X RX5 cX5_wrongs 3 5 117) {σ : St} {r : Int32} (hr : RtI X cX5_wrongs r σ) (n : Nat) : ∀ (x0 : Nat) (x1 : Int32) (x2 : Int32), kd x0 = 6 → f_X5_wrongs_l4 σ n x0 x1 x2 = some r → V X σ 4 [(0, .ref ((xG X).1 x0)), (1, .int x1), (2, .int x2)] [] := by
  induction n with
  | zero =>
    intro x0 x1 x2 hx0 h
    exact nomatch (show (none : Option Int32) = some r from h)
  | succ n ih =>
    intro x0 x1 x2 hx0 h
    exact w_X5_wrongs_b4 C hr _ ih x0 x1 x2 hx0 h
set_option maxHeartbeats 4000000 in
set_option maxRecDepth 100000 in
theorem w_X5_wrongs_b0 {X : CX} (C : Cok X RX5 cX5_wrongs 3 5 117) {σ : St} {r : Int32} (hr : RtI X cX5_wrongs r σ) (x0 : Nat) (hx0 : kd x0 = 6) (h : f_X5_wrongs σ x0 = some r) : V X σ 0 [(0, .ref ((xG X).1 x0))] [] := by
  unfold f_X5_wrongs at h
  refine r_iconst C (v := 0) (q := 1) dX5_wrongs_0 (by decide) rfl ?_
  refine r_istore_n C (lv' := [(1, .int 0), (0, .ref ((xG X).1 x0))]) (q := 2) dX5_wrongs_1 rfl (by decide) rfl rfl ?_
  refine r_iconst C (v := 0) (q := 3) dX5_wrongs_2 (by decide) rfl ?_
  refine r_istore_n C (lv' := [(2, .int 0), (1, .int 0), (0, .ref ((xG X).1 x0))]) (q := 4) dX5_wrongs_3 rfl (by decide) rfl rfl ?_
  refine r_sub (lv' := [(0, .ref ((xG X).1 x0)), (1, .int 0), (2, .int 0)]) [2, 1, 0] rfl ?_
  exact w_X5_wrongs_l4 C hr  FU _ _ _ hx0 h

theorem m_X5_wrongs (G : Gm) (l : Launch) {σ : St} {x0 : Nat} (hx0 : kd x0 = 6) {r : Int32} (h : f_X5_wrongs σ x0 = some r) : Ctr G l yX5_wrongs cX5_wrongs 3 (some .int) 5 117 [.ref (G.1 x0)] σ (some (.int r)) True σ := by
  refine Ctr.i (by decide) (Nat.le_of_ble_eq_true rfl) ?_
  intro X hG C hr
  subst hG
  exact w_X5_wrongs_b0 C hr _ hx0 h
-- X5_listTrouble
set_option maxHeartbeats 4000000 in
set_option maxRecDepth 100000 in
theorem w_X5_listTrouble_b0 {X : CX} (C : Cok X RX5 cX5_listTrouble 3 2 43) {σ : St} {r : Int32} (hr : RtI X cX5_listTrouble r σ) (x0 : Nat) (x1 : Int32) (hx0 : kd x0 = 6) (h : f_X5_listTrouble σ x0 x1 = some r) : V X σ 0 [(0, .ref ((xG X).1 x0)), (1, .int x1)] [] := by
  unfold f_X5_listTrouble at h
  refine r_aload_n C 0 (q := 1) dX5_listTrouble_0 rfl rfl ?_
  refine r_iload_n C 1 (q := 2) dX5_listTrouble_1 rfl rfl ?_
  obtain ⟨v_2, e_2, h⟩ := bs h
  refine r_callV C (ci := 5) (st := []) (st2 := [.int v_2]) (q := 5) (m_X5_isShelf (xG X) (xl X) hx0 e_2) ok_X5_isShelf hx0 rfl ⟨_, rfl⟩ q_235 rfl ⟨Nat.le_of_ble_eq_true rfl, Nat.le_of_ble_eq_true rfl⟩ rfl rfl (Nat.le_of_ble_eq_true rfl) dX5_listTrouble_2 rfl (fun hp_2 => ?_)
  refine r_if_ne C (tgt := 11) (q := 8) dX5_listTrouble_5 (by decide) rfl (fun c_5 => ?_) (fun c_5 => ?_)
  · replace h := (if_neg c_5).symm.trans h
    refine r_aload_n C 0 (q := 12) dX5_listTrouble_11 rfl rfl ?_
    refine r_iload_n C 1 (q := 13) dX5_listTrouble_12 rfl rfl ?_
    obtain ⟨v_13, e_13, h⟩ := bs h
    refine r_callV C (ci := 5) (st := []) (st2 := [.ref ((xG X).1 v_13)]) (q := 16) (m_X5_shelfAt (xG X) (xl X) hx0 e_13) ok_X5_shelfAt hx0 rfl ⟨_, rfl⟩ q_252 rfl ⟨Nat.le_of_ble_eq_true rfl, Nat.le_of_ble_eq_true rfl⟩ rfl rfl (Nat.le_of_ble_eq_true rfl) dX5_listTrouble_13 rfl (fun hp_13 => ?_)
    refine r_astore_n C (lv' := [(2, .ref ((xG X).1 v_13)), (0, .ref ((xG X).1 x0)), (1, .int x1)]) (q := 17) dX5_listTrouble_16 rfl (by decide) rfl rfl ?_
    refine r_aload_n C 0 (q := 18) dX5_listTrouble_17 rfl rfl ?_
    obtain ⟨v_18, e_18, h⟩ := bs h
    refine r_callV C (ci := 2) (st := []) (st2 := [.int v_18]) (q := 21) (m_X2_isRow (xG X) (xl X) hp_13 e_18) ok_X2_isRow hp_13 rfl ⟨_, rfl⟩ q_267 rfl ⟨Nat.le_of_ble_eq_true rfl, Nat.le_of_ble_eq_true rfl⟩ rfl rfl (Nat.le_of_ble_eq_true rfl) dX5_listTrouble_18 rfl (fun hp_18 => ?_)
    refine r_if_ne C (tgt := 29) (q := 24) dX5_listTrouble_21 (by decide) rfl (fun c_21 => ?_) (fun c_21 => ?_)
    · replace h := (if_neg c_21).symm.trans h
      refine r_aload_n C 0 (q := 30) dX5_listTrouble_29 rfl rfl ?_
      refine g_X2_1 C (q := 33) dX5_listTrouble_30 q_192 hp_13 rfl ?_
      refine r_aload_n C 1 (q := 34) dX5_listTrouble_33 rfl rfl ?_
      refine g_X5_0 C (q := 37) dX5_listTrouble_34 q_203 hx0 rfl ?_
      refine g_X0_5 C (q := 40) dX5_listTrouble_37 q_80 (kf_X5_0 hx0) rfl ?_
      refine r_icmp_ge C (tgt := 48) (q := 43) dX5_listTrouble_40 (by decide) rfl (fun c_40 => ?_) (fun c_40 => ?_)
      · replace h := (if_pos c_40).symm.trans h
        refine r_iconst C (v := 0) (q := 49) dX5_listTrouble_48 (by decide) rfl ?_
        obtain rfl := Option.some.inj h
        exact hr _ _ dX5_listTrouble_49
      · replace h := (if_neg c_40).symm.trans h
        refine r_bipush C (v := (-2)) (q := 45) dX5_listTrouble_43 (by decide) rfl ?_
        refine r_goto C (tgt := 49) dX5_listTrouble_45 (by decide) ?_
        obtain rfl := Option.some.inj h
        exact hr _ _ dX5_listTrouble_49
    · replace h := (if_pos c_21).symm.trans h
      refine r_aload_n C 0 (q := 25) dX5_listTrouble_24 rfl rfl ?_
      obtain ⟨v_25, e_25, h⟩ := bs h
      refine r_callV C (ci := 2) (st := []) (st2 := [.int v_25]) (q := 28) (m_X2_whyNoRow (xG X) (xl X) hp_13 e_25) ok_X2_whyNoRow hp_13 rfl ⟨_, rfl⟩ q_272 rfl ⟨Nat.le_of_ble_eq_true rfl, Nat.le_of_ble_eq_true rfl⟩ rfl rfl (Nat.le_of_ble_eq_true rfl) dX5_listTrouble_25 rfl (fun hp_25 => ?_)
      obtain rfl := Option.some.inj h
      exact hr _ _ dX5_listTrouble_28
  · replace h := (if_pos c_5).symm.trans h
    refine r_bipush C (v := (-2)) (q := 10) dX5_listTrouble_8 (by decide) rfl ?_
    obtain rfl := Option.some.inj h
    exact hr _ _ dX5_listTrouble_10

theorem m_X5_listTrouble (G : Gm) (l : Launch) {σ : St} {x0 : Nat} {x1 : Int32} (hx0 : kd x0 = 6) {r : Int32} (h : f_X5_listTrouble σ x0 x1 = some r) : Ctr G l yX5_listTrouble cX5_listTrouble 3 (some .int) 2 43 [.ref (G.1 x0), .int x1] σ (some (.int r)) True σ := by
  refine Ctr.i (by decide) (Nat.le_of_ble_eq_true rfl) ?_
  intro X hG C hr
  subst hG
  exact w_X5_listTrouble_b0 C hr _ _ hx0 h
-- X5_toldLocks
set_option maxHeartbeats 4000000 in
set_option maxRecDepth 100000 in
theorem w_X5_toldLocks_b0 {X : CX} (C : Cok X RX5 cX5_toldLocks 3 4 84) {σ : St} {r : Int32} (hr : RtI X cX5_toldLocks r σ) (x0 : Nat) (x1 : Int32) (x2 : Int32) (hx0 : kd x0 = 6) (h : f_X5_toldLocks σ x0 x1 x2 = some r) : V X σ 0 [(0, .ref ((xG X).1 x0)), (1, .int x1), (2, .int x2)] [] := by
  unfold f_X5_toldLocks at h
  refine r_aload_n C 0 (q := 1) dX5_toldLocks_0 rfl rfl ?_
  refine r_iload_n C 1 (q := 2) dX5_toldLocks_1 rfl rfl ?_
  obtain ⟨v_2, e_2, h⟩ := bs h
  refine r_callV C (ci := 5) (st := []) (st2 := [.ref ((xG X).1 v_2)]) (q := 5) (m_X5_shelfAt (xG X) (xl X) hx0 e_2) ok_X5_shelfAt hx0 rfl ⟨_, rfl⟩ q_252 rfl ⟨Nat.le_of_ble_eq_true rfl, Nat.le_of_ble_eq_true rfl⟩ rfl rfl (Nat.le_of_ble_eq_true rfl) dX5_toldLocks_2 rfl (fun hp_2 => ?_)
  refine r_iload_n C 2 (q := 6) dX5_toldLocks_5 rfl rfl ?_
  obtain ⟨v_6, e_6, h⟩ := bs h
  refine r_callV C (ci := 2) (st := []) (st2 := [.long v_6]) (q := 9) (m_X2_elementAt (xG X) (xl X) hp_2 e_6) ok_X2_elementAt hp_2 rfl ⟨_, rfl⟩ q_309 rfl ⟨Nat.le_of_ble_eq_true rfl, Nat.le_of_ble_eq_true rfl⟩ rfl rfl (Nat.le_of_ble_eq_true rfl) dX5_toldLocks_6 rfl (fun hp_6 => ?_)
  refine r_l2i C (q := 10) dX5_toldLocks_9 rfl ?_
  refine r_aload_n C 0 (q := 11) dX5_toldLocks_10 rfl rfl ?_
  refine g_X5_0 C (q := 14) dX5_toldLocks_11 q_203 hx0 rfl ?_
  refine g_X0_6 C (q := 17) dX5_toldLocks_14 q_84 (kf_X5_0 hx0) rfl ?_
  obtain ⟨v_17, e_17, h⟩ := bs h
  refine r_callS C (st := [.int (Int64.toInt32 v_6)]) (st2 := [.int v_17, .int (Int64.toInt32 v_6)]) (q := 20) (m_X5_firstBits (xG X) (xl X) e_17) ok_X5_firstBits q_699 rfl ⟨Nat.le_of_ble_eq_true rfl, Nat.le_of_ble_eq_true rfl⟩ rfl rfl (Nat.le_of_ble_eq_true rfl) dX5_toldLocks_17 rfl (fun hp_17 => ?_)
  refine r_iand C (q := 21) dX5_toldLocks_20 rfl ?_
  obtain rfl := Option.some.inj h
  exact hr _ _ dX5_toldLocks_21

theorem m_X5_toldLocks (G : Gm) (l : Launch) {σ : St} {x0 : Nat} {x1 : Int32} {x2 : Int32} (hx0 : kd x0 = 6) {r : Int32} (h : f_X5_toldLocks σ x0 x1 x2 = some r) : Ctr G l yX5_toldLocks cX5_toldLocks 3 (some .int) 4 84 [.ref (G.1 x0), .int x1, .int x2] σ (some (.int r)) True σ := by
  refine Ctr.i (by decide) (Nat.le_of_ble_eq_true rfl) ?_
  intro X hG C hr
  subst hG
  exact w_X5_toldLocks_b0 C hr _ _ _ hx0 h
-- X5_judge
set_option maxHeartbeats 4000000 in
set_option maxRecDepth 100000 in
theorem w_X5_judge_b18 {X : CX} (C : Cok X RX5 cX5_judge 4 5 117) {σ' : St} {r : Int32} (hr : RtI X cX5_judge r σ') (k_18 : St → Nat → Int32 → Int32 → Option (Int32 × St)) (hk_18 : ∀ (σ : St) (x0 : Nat) (x1 : Int32) (x3 : Int32), kd x0 = 6 → k_18 σ x0 x1 x3 = some (r, σ') → V X σ 18 [(0, .ref ((xG X).1 x0)), (1, .int x1), (3, .int x3)] []) (σ : St) (x0 : Nat) (x1 : Int32) (x3 : Int32) (hx0 : kd x0 = 6) (h : f_X5_judge_b18 k_18 σ x0 x1 x3 = some (r, σ')) : V X σ 18 [(0, .ref ((xG X).1 x0)), (1, .int x1), (3, .int x3)] [] := by
  unfold f_X5_judge_b18 at h
  refine r_iload_n C 2 (q := 19) dX5_judge_18 rfl rfl ?_
  refine r_aload_n C 0 (q := 20) dX5_judge_19 rfl rfl ?_
  refine g_X5_0 C (q := 23) dX5_judge_20 q_203 hx0 rfl ?_
  refine g_X0_5 C (q := 26) dX5_judge_23 q_80 (kf_X5_0 hx0) rfl ?_
  refine r_icmp_ge C (tgt := 54) (q := 29) dX5_judge_26 (by decide) rfl (fun c_26 => ?_) (fun c_26 => ?_)
  · replace h := (if_pos c_26).symm.trans h
    refine r_iconst C (v := (-1)) (q := 55) dX5_judge_54 (by decide) rfl ?_
    obtain ⟨rfl, rfl⟩ := Prod.mk.inj (Option.some.inj h)
    exact hr _ _ dX5_judge_55
  · replace h := (if_neg c_26).symm.trans h
    refine r_aload_n C 0 (q := 30) dX5_judge_29 rfl rfl ?_
    refine g_X5_0 C (q := 33) dX5_judge_30 q_203 hx0 rfl ?_
    refine r_iload_n C 2 (q := 34) dX5_judge_33 rfl rfl ?_
    obtain ⟨v_34, e_34, h⟩ := bs h
    refine r_callV C (ci := 0) (st := []) (st2 := [.int v_34]) (q := 37) (m_X0_openedBy (xG X) (xl X) (kf_X5_0 hx0) e_34) ok_X0_openedBy (kf_X5_0 hx0) rfl ⟨_, rfl⟩ q_349 rfl ⟨Nat.le_of_ble_eq_true rfl, Nat.le_of_ble_eq_true rfl⟩ rfl rfl (Nat.le_of_ble_eq_true rfl) dX5_judge_34 rfl (fun hp_34 => ?_)
    refine r_aload_n C 0 (q := 38) dX5_judge_37 rfl rfl ?_
    refine r_iload_n C 1 (q := 39) dX5_judge_38 rfl rfl ?_
    refine r_iload_n C 2 (q := 40) dX5_judge_39 rfl rfl ?_
    obtain ⟨v_40, e_40, h⟩ := bs h
    refine r_callV C (ci := 5) (st := [.int v_34]) (st2 := [.int v_40, .int v_34]) (q := 43) (m_X5_toldLocks (xG X) (xl X) hx0 e_40) ok_X5_toldLocks hx0 rfl ⟨_, rfl⟩ q_695 rfl ⟨Nat.le_of_ble_eq_true rfl, Nat.le_of_ble_eq_true rfl⟩ rfl rfl (Nat.le_of_ble_eq_true rfl) dX5_judge_40 rfl (fun hp_40 => ?_)
    refine r_icmp_eq C (tgt := 48) (q := 46) dX5_judge_43 (by decide) rfl (fun c_43 => ?_) (fun c_43 => ?_)
    · replace h := (if_pos c_43).symm.trans h
      obtain ⟨y_48, e_48, h⟩ := bs h
      refine r_iinc C (v := y_48) (lv' := [(3, .int y_48), (0, .ref ((xG X).1 x0)), (1, .int x1)]) (q := 51) 2 dX5_judge_48 rfl (Option.some.inj e_48) (by decide) rfl rfl ?_
      refine r_goto C (tgt := 18) dX5_judge_51 (by decide) ?_
      refine r_sub (lv' := [(0, .ref ((xG X).1 x0)), (1, .int x1), (3, .int y_48)]) [1, 2, 0] rfl ?_
      exact hk_18 _ _ _ _ hx0 h
    · replace h := (if_neg c_43).symm.trans h
      refine r_iload_n C 2 (q := 47) dX5_judge_46 rfl rfl ?_
      obtain ⟨rfl, rfl⟩ := Prod.mk.inj (Option.some.inj h)
      exact hr _ _ dX5_judge_47

theorem w_X5_judge_l18 {X : CX} (C : Cok X RX5 cX5_judge 4 5 117) {σ' : St} {r : Int32} (hr : RtI X cX5_judge r σ') (n : Nat) : ∀ (σ : St) (x0 : Nat) (x1 : Int32) (x3 : Int32), kd x0 = 6 → f_X5_judge_l18 n σ x0 x1 x3 = some (r, σ') → V X σ 18 [(0, .ref ((xG X).1 x0)), (1, .int x1), (3, .int x3)] [] := by
  induction n with
  | zero =>
    intro σ x0 x1 x3 hx0 h
    exact nomatch (show (none : Option (Int32 × St)) = some (r, σ') from h)
  | succ n ih =>
    intro σ x0 x1 x3 hx0 h
    exact w_X5_judge_b18 C hr _ ih σ x0 x1 x3 hx0 h
set_option maxHeartbeats 4000000 in
set_option maxRecDepth 100000 in
theorem w_X5_judge_b0 {X : CX} (C : Cok X RX5 cX5_judge 4 5 117) {σ' : St} {r : Int32} (hr : RtI X cX5_judge r σ') (σ : St) (x0 : Nat) (x1 : Int32) (hx0 : kd x0 = 6) (h : f_X5_judge σ x0 x1 = some (r, σ')) : V X σ 0 [(0, .ref ((xG X).1 x0)), (1, .int x1)] [] := by
  unfold f_X5_judge at h
  refine r_aload_n C 0 (q := 1) dX5_judge_0 rfl rfl ?_
  refine r_iload_n C 1 (q := 2) dX5_judge_1 rfl rfl ?_
  obtain ⟨v_2, e_2, h⟩ := bs h
  refine r_callV C (ci := 5) (st := []) (st2 := [.int v_2]) (q := 5) (m_X5_listTrouble (xG X) (xl X) hx0 e_2) ok_X5_listTrouble hx0 rfl ⟨_, rfl⟩ q_691 rfl ⟨Nat.le_of_ble_eq_true rfl, Nat.le_of_ble_eq_true rfl⟩ rfl rfl (Nat.le_of_ble_eq_true rfl) dX5_judge_2 rfl (fun hp_2 => ?_)
  refine r_istore_n C (lv' := [(2, .int v_2), (0, .ref ((xG X).1 x0)), (1, .int x1)]) (q := 6) dX5_judge_5 rfl (by decide) rfl rfl ?_
  refine r_iload_n C 0 (q := 7) dX5_judge_6 rfl rfl ?_
  refine r_if_eq C (tgt := 16) (q := 10) dX5_judge_7 (by decide) rfl (fun c_7 => ?_) (fun c_7 => ?_)
  · replace h := (if_pos c_7).symm.trans h
    refine r_iconst C (v := 0) (q := 17) dX5_judge_16 (by decide) rfl ?_
    refine r_istore_n C (lv' := [(3, .int 0), (2, .int v_2), (0, .ref ((xG X).1 x0)), (1, .int x1)]) (q := 18) dX5_judge_17 rfl (by decide) rfl rfl ?_
    refine r_sub (lv' := [(0, .ref ((xG X).1 x0)), (1, .int x1), (3, .int 0)]) [2, 3, 0] rfl ?_
    exact w_X5_judge_l18 C hr  FU _ _ _ _ hx0 h
  · replace h := (if_neg c_7).symm.trans h
    refine r_aload_n C 1 (q := 11) dX5_judge_10 rfl rfl ?_
    refine r_iload_n C 0 (q := 12) dX5_judge_11 rfl rfl ?_
    obtain ⟨v_12, s_12, e_12, h⟩ := bs2 h
    refine r_callV C (ci := 5) (st := []) (st2 := [.int v_12]) (q := 15) (m_X5_refuse (xG X) (xl X) hx0 e_12) ok_X5_refuse hx0 rfl ⟨_, rfl⟩ q_242 rfl ⟨Nat.le_of_ble_eq_true rfl, Nat.le_of_ble_eq_true rfl⟩ rfl rfl (Nat.le_of_ble_eq_true rfl) dX5_judge_12 rfl (fun hp_12 => ?_)
    obtain ⟨rfl, rfl⟩ := Prod.mk.inj (Option.some.inj h)
    exact hr _ _ dX5_judge_15

theorem m_X5_judge (G : Gm) (l : Launch) {σ σ' : St} {x0 : Nat} {x1 : Int32} (hx0 : kd x0 = 6) {r : Int32} (h : f_X5_judge σ x0 x1 = some (r, σ')) : Ctr G l yX5_judge cX5_judge 4 (some .int) 5 117 [.ref (G.1 x0), .int x1] σ (some (.int r)) True σ' := by
  refine Ctr.i (by decide) (Nat.le_of_ble_eq_true rfl) ?_
  intro X hG C hr
  subst hG
  exact w_X5_judge_b0 C hr _ _ _ hx0 h
-- X5_list
set_option maxHeartbeats 4000000 in
set_option maxRecDepth 100000 in
theorem w_X5_list_b18 {X : CX} (C : Cok X RX5 cX5_list 4 5 106) {σ' : St} {r : Int32} (hr : RtI X cX5_list r σ') (k_18 : St → Nat → Int32 → Int32 → Option (Int32 × St)) (hk_18 : ∀ (σ : St) (x0 : Nat) (x1 : Int32) (x3 : Int32), kd x0 = 6 → k_18 σ x0 x1 x3 = some (r, σ') → V X σ 18 [(0, .ref ((xG X).1 x0)), (1, .int x1), (3, .int x3)] []) (σ : St) (x0 : Nat) (x1 : Int32) (x3 : Int32) (hx0 : kd x0 = 6) (h : f_X5_list_b18 k_18 σ x0 x1 x3 = some (r, σ')) : V X σ 18 [(0, .ref ((xG X).1 x0)), (1, .int x1), (3, .int x3)] [] := by
  unfold f_X5_list_b18 at h
  refine r_iload_n C 2 (q := 19) dX5_list_18 rfl rfl ?_
  refine r_aload_n C 0 (q := 20) dX5_list_19 rfl rfl ?_
  refine g_X5_0 C (q := 23) dX5_list_20 q_203 hx0 rfl ?_
  refine g_X0_5 C (q := 26) dX5_list_23 q_80 (kf_X5_0 hx0) rfl ?_
  refine r_icmp_ge C (tgt := 52) (q := 29) dX5_list_26 (by decide) rfl (fun c_26 => ?_) (fun c_26 => ?_)
  · replace h := (if_pos c_26).symm.trans h
    refine r_aload_n C 0 (q := 53) dX5_list_52 rfl rfl ?_
    refine g_X5_0 C (q := 56) dX5_list_53 q_203 hx0 rfl ?_
    refine g_X0_5 C (q := 59) dX5_list_56 q_80 (kf_X5_0 hx0) rfl ?_
    obtain ⟨rfl, rfl⟩ := Prod.mk.inj (Option.some.inj h)
    exact hr _ _ dX5_list_59
  · replace h := (if_neg c_26).symm.trans h
    refine r_aload_n C 0 (q := 30) dX5_list_29 rfl rfl ?_
    refine g_X5_0 C (q := 33) dX5_list_30 q_203 hx0 rfl ?_
    refine r_iload_n C 2 (q := 34) dX5_list_33 rfl rfl ?_
    obtain ⟨v_34, e_34, h⟩ := bs h
    refine r_callV C (ci := 0) (st := []) (st2 := [.ref ((xG X).1 v_34)]) (q := 37) (m_X0_keyAt (xG X) (xl X) (kf_X5_0 hx0) e_34) ok_X0_keyAt (kf_X5_0 hx0) rfl ⟨_, rfl⟩ q_329 rfl ⟨Nat.le_of_ble_eq_true rfl, Nat.le_of_ble_eq_true rfl⟩ rfl rfl (Nat.le_of_ble_eq_true rfl) dX5_list_34 rfl (fun hp_34 => ?_)
    refine r_aload_n C 0 (q := 38) dX5_list_37 rfl rfl ?_
    refine r_iload_n C 1 (q := 39) dX5_list_38 rfl rfl ?_
    refine r_iload_n C 2 (q := 40) dX5_list_39 rfl rfl ?_
    obtain ⟨v_40, e_40, h⟩ := bs h
    refine r_callV C (ci := 5) (st := [.ref ((xG X).1 v_34)]) (st2 := [.int v_40, .ref ((xG X).1 v_34)]) (q := 43) (m_X5_toldLocks (xG X) (xl X) hx0 e_40) ok_X5_toldLocks hx0 rfl ⟨_, rfl⟩ q_695 rfl ⟨Nat.le_of_ble_eq_true rfl, Nat.le_of_ble_eq_true rfl⟩ rfl rfl (Nat.le_of_ble_eq_true rfl) dX5_list_40 rfl (fun hp_40 => ?_)
    obtain ⟨s_43, e_43, h⟩ := bs h
    refine p_X1_2 C (q := 46) dX5_list_43 q_46 hp_34 e_43 rfl ?_
    obtain ⟨y_46, e_46, h⟩ := bs h
    refine r_iinc C (v := y_46) (lv' := [(3, .int y_46), (0, .ref ((xG X).1 x0)), (1, .int x1)]) (q := 49) 2 dX5_list_46 rfl (Option.some.inj e_46) (by decide) rfl rfl ?_
    refine r_goto C (tgt := 18) dX5_list_49 (by decide) ?_
    refine r_sub (lv' := [(0, .ref ((xG X).1 x0)), (1, .int x1), (3, .int y_46)]) [1, 2, 0] rfl ?_
    exact hk_18 _ _ _ _ hx0 h

theorem w_X5_list_l18 {X : CX} (C : Cok X RX5 cX5_list 4 5 106) {σ' : St} {r : Int32} (hr : RtI X cX5_list r σ') (n : Nat) : ∀ (σ : St) (x0 : Nat) (x1 : Int32) (x3 : Int32), kd x0 = 6 → f_X5_list_l18 n σ x0 x1 x3 = some (r, σ') → V X σ 18 [(0, .ref ((xG X).1 x0)), (1, .int x1), (3, .int x3)] [] := by
  induction n with
  | zero =>
    intro σ x0 x1 x3 hx0 h
    exact nomatch (show (none : Option (Int32 × St)) = some (r, σ') from h)
  | succ n ih =>
    intro σ x0 x1 x3 hx0 h
    exact w_X5_list_b18 C hr _ ih σ x0 x1 x3 hx0 h
set_option maxHeartbeats 4000000 in
set_option maxRecDepth 100000 in
theorem w_X5_list_b0 {X : CX} (C : Cok X RX5 cX5_list 4 5 106) {σ' : St} {r : Int32} (hr : RtI X cX5_list r σ') (σ : St) (x0 : Nat) (x1 : Int32) (hx0 : kd x0 = 6) (h : f_X5_list σ x0 x1 = some (r, σ')) : V X σ 0 [(0, .ref ((xG X).1 x0)), (1, .int x1)] [] := by
  unfold f_X5_list at h
  refine r_aload_n C 0 (q := 1) dX5_list_0 rfl rfl ?_
  refine r_iload_n C 1 (q := 2) dX5_list_1 rfl rfl ?_
  obtain ⟨v_2, e_2, h⟩ := bs h
  refine r_callV C (ci := 5) (st := []) (st2 := [.int v_2]) (q := 5) (m_X5_listTrouble (xG X) (xl X) hx0 e_2) ok_X5_listTrouble hx0 rfl ⟨_, rfl⟩ q_691 rfl ⟨Nat.le_of_ble_eq_true rfl, Nat.le_of_ble_eq_true rfl⟩ rfl rfl (Nat.le_of_ble_eq_true rfl) dX5_list_2 rfl (fun hp_2 => ?_)
  refine r_istore_n C (lv' := [(2, .int v_2), (0, .ref ((xG X).1 x0)), (1, .int x1)]) (q := 6) dX5_list_5 rfl (by decide) rfl rfl ?_
  refine r_iload_n C 0 (q := 7) dX5_list_6 rfl rfl ?_
  refine r_if_eq C (tgt := 16) (q := 10) dX5_list_7 (by decide) rfl (fun c_7 => ?_) (fun c_7 => ?_)
  · replace h := (if_pos c_7).symm.trans h
    refine r_iconst C (v := 0) (q := 17) dX5_list_16 (by decide) rfl ?_
    refine r_istore_n C (lv' := [(3, .int 0), (2, .int v_2), (0, .ref ((xG X).1 x0)), (1, .int x1)]) (q := 18) dX5_list_17 rfl (by decide) rfl rfl ?_
    refine r_sub (lv' := [(0, .ref ((xG X).1 x0)), (1, .int x1), (3, .int 0)]) [2, 3, 0] rfl ?_
    exact w_X5_list_l18 C hr  FU _ _ _ _ hx0 h
  · replace h := (if_neg c_7).symm.trans h
    refine r_aload_n C 1 (q := 11) dX5_list_10 rfl rfl ?_
    refine r_iload_n C 0 (q := 12) dX5_list_11 rfl rfl ?_
    obtain ⟨v_12, s_12, e_12, h⟩ := bs2 h
    refine r_callV C (ci := 5) (st := []) (st2 := [.int v_12]) (q := 15) (m_X5_refuse (xG X) (xl X) hx0 e_12) ok_X5_refuse hx0 rfl ⟨_, rfl⟩ q_242 rfl ⟨Nat.le_of_ble_eq_true rfl, Nat.le_of_ble_eq_true rfl⟩ rfl rfl (Nat.le_of_ble_eq_true rfl) dX5_list_12 rfl (fun hp_12 => ?_)
    obtain ⟨rfl, rfl⟩ := Prod.mk.inj (Option.some.inj h)
    exact hr _ _ dX5_list_15

theorem m_X5_list (G : Gm) (l : Launch) {σ σ' : St} {x0 : Nat} {x1 : Int32} (hx0 : kd x0 = 6) {r : Int32} (h : f_X5_list σ x0 x1 = some (r, σ')) : Ctr G l yX5_list cX5_list 4 (some .int) 5 106 [.ref (G.1 x0), .int x1] σ (some (.int r)) True σ' := by
  refine Ctr.i (by decide) (Nat.le_of_ble_eq_true rfl) ?_
  intro X hG C hr
  subst hG
  exact w_X5_list_b0 C hr _ _ _ hx0 h
-- X5_isLocks
set_option maxHeartbeats 4000000 in
set_option maxRecDepth 100000 in
theorem w_X5_isLocks_b0 {X : CX} (C : Cok X RX5 cX5_isLocks 2 1 22) {σ : St} {r : Int32} (hr : RtZ X cX5_isLocks r σ) (x0 : Nat) (x1 : Int32) (hx0 : kd x0 = 6) (h : f_X5_isLocks σ x0 x1 = some r) : V X σ 0 [(0, .ref ((xG X).1 x0)), (1, .int x1)] [] := by
  unfold f_X5_isLocks at h
  refine r_iload_n C 1 (q := 1) dX5_isLocks_0 rfl rfl ?_
  refine r_iconst C (v := 0) (q := 2) dX5_isLocks_1 (by decide) rfl ?_
  refine r_aload_n C 0 (q := 3) dX5_isLocks_2 rfl rfl ?_
  refine g_X5_0 C (q := 6) dX5_isLocks_3 q_203 hx0 rfl ?_
  refine g_X0_6 C (q := 9) dX5_isLocks_6 q_84 (kf_X5_0 hx0) rfl ?_
  obtain ⟨v_9, e_9, h⟩ := bs h
  refine r_callS C (st := [.int 0, .int x1]) (st2 := [.int v_9, .int 0, .int x1]) (q := 12) (m_X5_firstBits (xG X) (xl X) e_9) ok_X5_firstBits q_699 rfl ⟨Nat.le_of_ble_eq_true rfl, Nat.le_of_ble_eq_true rfl⟩ rfl rfl (Nat.le_of_ble_eq_true rfl) dX5_isLocks_9 rfl (fun hp_9 => ?_)
  obtain ⟨v_12, e_12, h⟩ := bs h
  refine r_callS C (st := []) (st2 := [.int v_12]) (q := 15) (m_X5_isWithin (xG X) (xl X) e_12) ok_X5_isWithin q_239 rfl ⟨Nat.le_of_ble_eq_true rfl, Nat.le_of_ble_eq_true rfl⟩ rfl rfl (Nat.le_of_ble_eq_true rfl) dX5_isLocks_12 rfl (fun hp_12 => ?_)
  obtain rfl := Option.some.inj h
  exact hr _ _ dX5_isLocks_15 hp_12

theorem m_X5_isLocks (G : Gm) (l : Launch) {σ : St} {x0 : Nat} {x1 : Int32} (hx0 : kd x0 = 6) {r : Int32} (h : f_X5_isLocks σ x0 x1 = some r) : Ctr G l yX5_isLocks cX5_isLocks 2 (some .boolean) 1 22 [.ref (G.1 x0), .int x1] σ (some (.int r)) (r = 0 ∨ r = 1) σ := by
  refine Ctr.z (by decide) (Nat.le_of_ble_eq_true rfl) ?_
  intro X hG C hr
  subst hG
  exact w_X5_isLocks_b0 C hr _ _ hx0 h
-- X5_cuts
set_option maxHeartbeats 4000000 in
set_option maxRecDepth 100000 in
theorem w_X5_cuts_b47 {X : CX} (C : Cok X RX5 cX5_cuts 4 4 92) {σ' : St} {r : Int32} (hr : RtI X cX5_cuts r σ') (σ : St) (x3 : Int32) (h : f_X5_cuts_b47 σ x3 = some (r, σ')) : V X σ 47 [(3, .int x3)] [] := by
  unfold f_X5_cuts_b47 at h
  refine r_iload_n C 0 (q := 48) dX5_cuts_47 rfl rfl ?_
  refine r_goto C (tgt := 59) dX5_cuts_48 (by decide) ?_
  obtain ⟨rfl, rfl⟩ := Prod.mk.inj (Option.some.inj h)
  exact hr _ _ dX5_cuts_59

set_option maxHeartbeats 4000000 in
set_option maxRecDepth 100000 in
theorem w_X5_cuts_b28 {X : CX} (C : Cok X RX5 cX5_cuts 4 4 92) {σ' : St} {r : Int32} (hr : RtI X cX5_cuts r σ') (σ : St) (x0 : Nat) (x1 : Int32) (x2 : Int32) (hx0 : kd x0 = 6) (h : f_X5_cuts_b28 σ x0 x1 x2 = some (r, σ')) : V X σ 28 [(0, .ref ((xG X).1 x0)), (1, .int x1), (2, .int x2)] [] := by
  unfold f_X5_cuts_b28 at h
  refine r_aload_n C 0 (q := 29) dX5_cuts_28 rfl rfl ?_
  refine g_X5_3 C (q := 32) dX5_cuts_29 q_206 hx0 rfl ?_
  refine r_iload_n C 1 (q := 33) dX5_cuts_32 rfl rfl ?_
  obtain ⟨v_33, s_33, e_33, h⟩ := bs2 h
  refine r_callV C (ci := 4) (st := []) (st2 := [.int v_33]) (q := 36) (m_X4_leastCuts (xG X) (xl X) (kf_X5_3 hx0) e_33) ok_X4_leastCuts (kf_X5_3 hx0) rfl ⟨_, rfl⟩ q_712 rfl ⟨Nat.le_of_ble_eq_true rfl, Nat.le_of_ble_eq_true rfl⟩ rfl rfl (Nat.le_of_ble_eq_true rfl) dX5_cuts_33 rfl (fun hp_33 => ?_)
  refine r_istore_n C (lv' := [(3, .int v_33), (0, .ref ((xG X).1 x0)), (1, .int x1), (2, .int x2)]) (q := 37) dX5_cuts_36 rfl (by decide) rfl rfl ?_
  refine r_iload_n C 0 (q := 38) dX5_cuts_37 rfl rfl ?_
  refine r_iconst C (v := (-1)) (q := 39) dX5_cuts_38 (by decide) rfl ?_
  refine r_icmp_eq C (tgt := 47) (q := 42) dX5_cuts_39 (by decide) rfl (fun c_39 => ?_) (fun c_39 => ?_)
  · replace h := (if_pos c_39).symm.trans h
    refine r_sub (lv' := [(3, .int v_33)]) [0] rfl ?_
    exact w_X5_cuts_b47 C hr  _ _  h
  · replace h := (if_neg c_39).symm.trans h
    refine r_iload_n C 3 (q := 43) dX5_cuts_42 rfl rfl ?_
    refine r_iconst C (v := (-1)) (q := 44) dX5_cuts_43 (by decide) rfl ?_
    refine r_icmp_ne C (tgt := 51) (q := 47) dX5_cuts_44 (by decide) rfl (fun c_44 => ?_) (fun c_44 => ?_)
    · replace h := (if_neg c_44).symm.trans h
      refine r_aload_n C 1 (q := 52) dX5_cuts_51 rfl rfl ?_
      refine g_X5_3 C (q := 55) dX5_cuts_52 q_206 hx0 rfl ?_
      refine r_iload_n C 3 (q := 56) dX5_cuts_55 rfl rfl ?_
      obtain ⟨v_56, e_56, h⟩ := bs h
      refine r_callV C (ci := 4) (st := []) (st2 := [.int v_56]) (q := 59) (m_X4_foundAt (xG X) (xl X) (kf_X5_3 hx0) e_56) ok_X4_foundAt (kf_X5_3 hx0) rfl ⟨_, rfl⟩ q_733 rfl ⟨Nat.le_of_ble_eq_true rfl, Nat.le_of_ble_eq_true rfl⟩ rfl rfl (Nat.le_of_ble_eq_true rfl) dX5_cuts_56 rfl (fun hp_56 => ?_)
      obtain ⟨rfl, rfl⟩ := Prod.mk.inj (Option.some.inj h)
      exact hr _ _ dX5_cuts_59
    · replace h := (if_pos c_44).symm.trans h
      refine r_sub (lv' := [(3, .int v_33)]) [0] rfl ?_
      exact w_X5_cuts_b47 C hr  _ _  h

set_option maxHeartbeats 4000000 in
set_option maxRecDepth 100000 in
theorem w_X5_cuts_b21 {X : CX} (C : Cok X RX5 cX5_cuts 4 4 92) {σ' : St} {r : Int32} (hr : RtI X cX5_cuts r σ') (σ : St) (x0 : Nat) (hx0 : kd x0 = 6) (h : f_X5_cuts_b21 σ x0 = some (r, σ')) : V X σ 21 [(0, .ref ((xG X).1 x0))] [] := by
  unfold f_X5_cuts_b21 at h
  refine r_aload_n C 0 (q := 22) dX5_cuts_21 rfl rfl ?_
  refine r_bipush C (v := (-2)) (q := 24) dX5_cuts_22 (by decide) rfl ?_
  obtain ⟨v_24, s_24, e_24, h⟩ := bs2 h
  refine r_callV C (ci := 5) (st := []) (st2 := [.int v_24]) (q := 27) (m_X5_refuse (xG X) (xl X) hx0 e_24) ok_X5_refuse hx0 rfl ⟨_, rfl⟩ q_242 rfl ⟨Nat.le_of_ble_eq_true rfl, Nat.le_of_ble_eq_true rfl⟩ rfl rfl (Nat.le_of_ble_eq_true rfl) dX5_cuts_24 rfl (fun hp_24 => ?_)
  obtain ⟨rfl, rfl⟩ := Prod.mk.inj (Option.some.inj h)
  exact hr _ _ dX5_cuts_27

set_option maxHeartbeats 4000000 in
set_option maxRecDepth 100000 in
theorem w_X5_cuts_b0 {X : CX} (C : Cok X RX5 cX5_cuts 4 4 92) {σ' : St} {r : Int32} (hr : RtI X cX5_cuts r σ') (σ : St) (x0 : Nat) (x1 : Int32) (x2 : Int32) (hx0 : kd x0 = 6) (h : f_X5_cuts σ x0 x1 x2 = some (r, σ')) : V X σ 0 [(0, .ref ((xG X).1 x0)), (1, .int x1), (2, .int x2)] [] := by
  unfold f_X5_cuts at h
  refine r_aload_n C 0 (q := 1) dX5_cuts_0 rfl rfl ?_
  refine r_iload_n C 1 (q := 2) dX5_cuts_1 rfl rfl ?_
  obtain ⟨v_2, e_2, h⟩ := bs h
  refine r_callV C (ci := 5) (st := []) (st2 := [.int v_2]) (q := 5) (m_X5_isLocks (xG X) (xl X) hx0 e_2) ok_X5_isLocks hx0 rfl ⟨_, rfl⟩ q_708 rfl ⟨Nat.le_of_ble_eq_true rfl, Nat.le_of_ble_eq_true rfl⟩ rfl rfl (Nat.le_of_ble_eq_true rfl) dX5_cuts_2 rfl (fun hp_2 => ?_)
  refine r_if_eq C (tgt := 21) (q := 8) dX5_cuts_5 (by decide) rfl (fun c_5 => ?_) (fun c_5 => ?_)
  · replace h := (if_pos c_5).symm.trans h
    refine r_sub (lv' := [(0, .ref ((xG X).1 x0))]) [0] rfl ?_
    exact w_X5_cuts_b21 C hr  _ _ hx0 h
  · replace h := (if_neg c_5).symm.trans h
    refine r_iload_n C 2 (q := 9) dX5_cuts_8 rfl rfl ?_
    refine r_iconst C (v := (-1)) (q := 10) dX5_cuts_9 (by decide) rfl ?_
    refine r_icmp_eq C (tgt := 28) (q := 13) dX5_cuts_10 (by decide) rfl (fun c_10 => ?_) (fun c_10 => ?_)
    · replace h := (if_pos c_10).symm.trans h
      exact w_X5_cuts_b28 C hr  _ _ _ _ hx0 h
    · replace h := (if_neg c_10).symm.trans h
      refine r_aload_n C 0 (q := 14) dX5_cuts_13 rfl rfl ?_
      refine r_iload_n C 2 (q := 15) dX5_cuts_14 rfl rfl ?_
      obtain ⟨v_15, e_15, h⟩ := bs h
      refine r_callV C (ci := 5) (st := []) (st2 := [.int v_15]) (q := 18) (m_X5_isPlace (xG X) (xl X) hx0 e_15) ok_X5_isPlace hx0 rfl ⟨_, rfl⟩ q_457 rfl ⟨Nat.le_of_ble_eq_true rfl, Nat.le_of_ble_eq_true rfl⟩ rfl rfl (Nat.le_of_ble_eq_true rfl) dX5_cuts_15 rfl (fun hp_15 => ?_)
      refine r_if_ne C (tgt := 28) (q := 21) dX5_cuts_18 (by decide) rfl (fun c_18 => ?_) (fun c_18 => ?_)
      · replace h := (if_neg c_18).symm.trans h
        exact w_X5_cuts_b28 C hr  _ _ _ _ hx0 h
      · replace h := (if_pos c_18).symm.trans h
        refine r_sub (lv' := [(0, .ref ((xG X).1 x0))]) [0] rfl ?_
        exact w_X5_cuts_b21 C hr  _ _ hx0 h

theorem m_X5_cuts (G : Gm) (l : Launch) {σ σ' : St} {x0 : Nat} {x1 : Int32} {x2 : Int32} (hx0 : kd x0 = 6) {r : Int32} (h : f_X5_cuts σ x0 x1 x2 = some (r, σ')) : Ctr G l yX5_cuts cX5_cuts 4 (some .int) 4 92 [.ref (G.1 x0), .int x1, .int x2] σ (some (.int r)) True σ' := by
  refine Ctr.i (by decide) (Nat.le_of_ble_eq_true rfl) ?_
  intro X hG C hr
  subst hG
  exact w_X5_cuts_b0 C hr _ _ _ _ hx0 h
-- X5_isKeys
set_option maxHeartbeats 4000000 in
set_option maxRecDepth 100000 in
theorem w_X5_isKeys_b0 {X : CX} (C : Cok X RX5 cX5_isKeys 2 1 22) {σ : St} {r : Int32} (hr : RtZ X cX5_isKeys r σ) (x0 : Nat) (x1 : Int32) (hx0 : kd x0 = 6) (h : f_X5_isKeys σ x0 x1 = some r) : V X σ 0 [(0, .ref ((xG X).1 x0)), (1, .int x1)] [] := by
  unfold f_X5_isKeys at h
  refine r_iload_n C 1 (q := 1) dX5_isKeys_0 rfl rfl ?_
  refine r_iconst C (v := 0) (q := 2) dX5_isKeys_1 (by decide) rfl ?_
  refine r_aload_n C 0 (q := 3) dX5_isKeys_2 rfl rfl ?_
  refine g_X5_0 C (q := 6) dX5_isKeys_3 q_203 hx0 rfl ?_
  refine g_X0_5 C (q := 9) dX5_isKeys_6 q_80 (kf_X5_0 hx0) rfl ?_
  obtain ⟨v_9, e_9, h⟩ := bs h
  refine r_callS C (st := [.int 0, .int x1]) (st2 := [.int v_9, .int 0, .int x1]) (q := 12) (m_X5_firstBits (xG X) (xl X) e_9) ok_X5_firstBits q_699 rfl ⟨Nat.le_of_ble_eq_true rfl, Nat.le_of_ble_eq_true rfl⟩ rfl rfl (Nat.le_of_ble_eq_true rfl) dX5_isKeys_9 rfl (fun hp_9 => ?_)
  obtain ⟨v_12, e_12, h⟩ := bs h
  refine r_callS C (st := []) (st2 := [.int v_12]) (q := 15) (m_X5_isWithin (xG X) (xl X) e_12) ok_X5_isWithin q_239 rfl ⟨Nat.le_of_ble_eq_true rfl, Nat.le_of_ble_eq_true rfl⟩ rfl rfl (Nat.le_of_ble_eq_true rfl) dX5_isKeys_12 rfl (fun hp_12 => ?_)
  obtain rfl := Option.some.inj h
  exact hr _ _ dX5_isKeys_15 hp_12

theorem m_X5_isKeys (G : Gm) (l : Launch) {σ : St} {x0 : Nat} {x1 : Int32} (hx0 : kd x0 = 6) {r : Int32} (h : f_X5_isKeys σ x0 x1 = some r) : Ctr G l yX5_isKeys cX5_isKeys 2 (some .boolean) 1 22 [.ref (G.1 x0), .int x1] σ (some (.int r)) (r = 0 ∨ r = 1) σ := by
  refine Ctr.z (by decide) (Nat.le_of_ble_eq_true rfl) ?_
  intro X hG C hr
  subst hG
  exact w_X5_isKeys_b0 C hr _ _ hx0 h
-- X5_asked
set_option maxHeartbeats 4000000 in
set_option maxRecDepth 100000 in
theorem w_X5_asked_b47 {X : CX} (C : Cok X RX5 cX5_asked 4 4 94) {σ' : St} {r : Int32} (hr : RtI X cX5_asked r σ') (σ : St) (x3 : Int32) (h : f_X5_asked_b47 σ x3 = some (r, σ')) : V X σ 47 [(3, .int x3)] [] := by
  unfold f_X5_asked_b47 at h
  refine r_iload_n C 0 (q := 48) dX5_asked_47 rfl rfl ?_
  refine r_goto C (tgt := 59) dX5_asked_48 (by decide) ?_
  obtain ⟨rfl, rfl⟩ := Prod.mk.inj (Option.some.inj h)
  exact hr _ _ dX5_asked_59

set_option maxHeartbeats 4000000 in
set_option maxRecDepth 100000 in
theorem w_X5_asked_b28 {X : CX} (C : Cok X RX5 cX5_asked 4 4 94) {σ' : St} {r : Int32} (hr : RtI X cX5_asked r σ') (σ : St) (x0 : Nat) (x1 : Int32) (x2 : Int32) (hx0 : kd x0 = 6) (h : f_X5_asked_b28 σ x0 x1 x2 = some (r, σ')) : V X σ 28 [(0, .ref ((xG X).1 x0)), (1, .int x1), (2, .int x2)] [] := by
  unfold f_X5_asked_b28 at h
  refine r_aload_n C 0 (q := 29) dX5_asked_28 rfl rfl ?_
  refine g_X5_3 C (q := 32) dX5_asked_29 q_206 hx0 rfl ?_
  refine r_iload_n C 1 (q := 33) dX5_asked_32 rfl rfl ?_
  obtain ⟨v_33, s_33, e_33, h⟩ := bs2 h
  refine r_callV C (ci := 4) (st := []) (st2 := [.int v_33]) (q := 36) (m_X4_leastAsks (xG X) (xl X) (kf_X5_3 hx0) e_33) ok_X4_leastAsks (kf_X5_3 hx0) rfl ⟨_, rfl⟩ q_745 rfl ⟨Nat.le_of_ble_eq_true rfl, Nat.le_of_ble_eq_true rfl⟩ rfl rfl (Nat.le_of_ble_eq_true rfl) dX5_asked_33 rfl (fun hp_33 => ?_)
  refine r_istore_n C (lv' := [(3, .int v_33), (0, .ref ((xG X).1 x0)), (1, .int x1), (2, .int x2)]) (q := 37) dX5_asked_36 rfl (by decide) rfl rfl ?_
  refine r_iload_n C 0 (q := 38) dX5_asked_37 rfl rfl ?_
  refine r_iconst C (v := (-1)) (q := 39) dX5_asked_38 (by decide) rfl ?_
  refine r_icmp_eq C (tgt := 47) (q := 42) dX5_asked_39 (by decide) rfl (fun c_39 => ?_) (fun c_39 => ?_)
  · replace h := (if_pos c_39).symm.trans h
    refine r_sub (lv' := [(3, .int v_33)]) [0] rfl ?_
    exact w_X5_asked_b47 C hr  _ _  h
  · replace h := (if_neg c_39).symm.trans h
    refine r_iload_n C 3 (q := 43) dX5_asked_42 rfl rfl ?_
    refine r_iconst C (v := (-1)) (q := 44) dX5_asked_43 (by decide) rfl ?_
    refine r_icmp_ne C (tgt := 51) (q := 47) dX5_asked_44 (by decide) rfl (fun c_44 => ?_) (fun c_44 => ?_)
    · replace h := (if_neg c_44).symm.trans h
      refine r_aload_n C 1 (q := 52) dX5_asked_51 rfl rfl ?_
      refine g_X5_3 C (q := 55) dX5_asked_52 q_206 hx0 rfl ?_
      refine r_iload_n C 3 (q := 56) dX5_asked_55 rfl rfl ?_
      obtain ⟨v_56, e_56, h⟩ := bs h
      refine r_callV C (ci := 4) (st := []) (st2 := [.int v_56]) (q := 59) (m_X4_foundAt (xG X) (xl X) (kf_X5_3 hx0) e_56) ok_X4_foundAt (kf_X5_3 hx0) rfl ⟨_, rfl⟩ q_733 rfl ⟨Nat.le_of_ble_eq_true rfl, Nat.le_of_ble_eq_true rfl⟩ rfl rfl (Nat.le_of_ble_eq_true rfl) dX5_asked_56 rfl (fun hp_56 => ?_)
      obtain ⟨rfl, rfl⟩ := Prod.mk.inj (Option.some.inj h)
      exact hr _ _ dX5_asked_59
    · replace h := (if_pos c_44).symm.trans h
      refine r_sub (lv' := [(3, .int v_33)]) [0] rfl ?_
      exact w_X5_asked_b47 C hr  _ _  h

set_option maxHeartbeats 4000000 in
set_option maxRecDepth 100000 in
theorem w_X5_asked_b21 {X : CX} (C : Cok X RX5 cX5_asked 4 4 94) {σ' : St} {r : Int32} (hr : RtI X cX5_asked r σ') (σ : St) (x0 : Nat) (hx0 : kd x0 = 6) (h : f_X5_asked_b21 σ x0 = some (r, σ')) : V X σ 21 [(0, .ref ((xG X).1 x0))] [] := by
  unfold f_X5_asked_b21 at h
  refine r_aload_n C 0 (q := 22) dX5_asked_21 rfl rfl ?_
  refine r_bipush C (v := (-2)) (q := 24) dX5_asked_22 (by decide) rfl ?_
  obtain ⟨v_24, s_24, e_24, h⟩ := bs2 h
  refine r_callV C (ci := 5) (st := []) (st2 := [.int v_24]) (q := 27) (m_X5_refuse (xG X) (xl X) hx0 e_24) ok_X5_refuse hx0 rfl ⟨_, rfl⟩ q_242 rfl ⟨Nat.le_of_ble_eq_true rfl, Nat.le_of_ble_eq_true rfl⟩ rfl rfl (Nat.le_of_ble_eq_true rfl) dX5_asked_24 rfl (fun hp_24 => ?_)
  obtain ⟨rfl, rfl⟩ := Prod.mk.inj (Option.some.inj h)
  exact hr _ _ dX5_asked_27

set_option maxHeartbeats 4000000 in
set_option maxRecDepth 100000 in
theorem w_X5_asked_b0 {X : CX} (C : Cok X RX5 cX5_asked 4 4 94) {σ' : St} {r : Int32} (hr : RtI X cX5_asked r σ') (σ : St) (x0 : Nat) (x1 : Int32) (x2 : Int32) (hx0 : kd x0 = 6) (h : f_X5_asked σ x0 x1 x2 = some (r, σ')) : V X σ 0 [(0, .ref ((xG X).1 x0)), (1, .int x1), (2, .int x2)] [] := by
  unfold f_X5_asked at h
  refine r_aload_n C 0 (q := 1) dX5_asked_0 rfl rfl ?_
  refine r_iload_n C 1 (q := 2) dX5_asked_1 rfl rfl ?_
  obtain ⟨v_2, e_2, h⟩ := bs h
  refine r_callV C (ci := 5) (st := []) (st2 := [.int v_2]) (q := 5) (m_X5_isKeys (xG X) (xl X) hx0 e_2) ok_X5_isKeys hx0 rfl ⟨_, rfl⟩ q_741 rfl ⟨Nat.le_of_ble_eq_true rfl, Nat.le_of_ble_eq_true rfl⟩ rfl rfl (Nat.le_of_ble_eq_true rfl) dX5_asked_2 rfl (fun hp_2 => ?_)
  refine r_if_eq C (tgt := 21) (q := 8) dX5_asked_5 (by decide) rfl (fun c_5 => ?_) (fun c_5 => ?_)
  · replace h := (if_pos c_5).symm.trans h
    refine r_sub (lv' := [(0, .ref ((xG X).1 x0))]) [0] rfl ?_
    exact w_X5_asked_b21 C hr  _ _ hx0 h
  · replace h := (if_neg c_5).symm.trans h
    refine r_iload_n C 2 (q := 9) dX5_asked_8 rfl rfl ?_
    refine r_iconst C (v := (-1)) (q := 10) dX5_asked_9 (by decide) rfl ?_
    refine r_icmp_eq C (tgt := 28) (q := 13) dX5_asked_10 (by decide) rfl (fun c_10 => ?_) (fun c_10 => ?_)
    · replace h := (if_pos c_10).symm.trans h
      exact w_X5_asked_b28 C hr  _ _ _ _ hx0 h
    · replace h := (if_neg c_10).symm.trans h
      refine r_aload_n C 0 (q := 14) dX5_asked_13 rfl rfl ?_
      refine r_iload_n C 2 (q := 15) dX5_asked_14 rfl rfl ?_
      obtain ⟨v_15, e_15, h⟩ := bs h
      refine r_callV C (ci := 5) (st := []) (st2 := [.int v_15]) (q := 18) (m_X5_isPlace (xG X) (xl X) hx0 e_15) ok_X5_isPlace hx0 rfl ⟨_, rfl⟩ q_457 rfl ⟨Nat.le_of_ble_eq_true rfl, Nat.le_of_ble_eq_true rfl⟩ rfl rfl (Nat.le_of_ble_eq_true rfl) dX5_asked_15 rfl (fun hp_15 => ?_)
      refine r_if_ne C (tgt := 28) (q := 21) dX5_asked_18 (by decide) rfl (fun c_18 => ?_) (fun c_18 => ?_)
      · replace h := (if_neg c_18).symm.trans h
        exact w_X5_asked_b28 C hr  _ _ _ _ hx0 h
      · replace h := (if_pos c_18).symm.trans h
        refine r_sub (lv' := [(0, .ref ((xG X).1 x0))]) [0] rfl ?_
        exact w_X5_asked_b21 C hr  _ _ hx0 h

theorem m_X5_asked (G : Gm) (l : Launch) {σ σ' : St} {x0 : Nat} {x1 : Int32} {x2 : Int32} (hx0 : kd x0 = 6) {r : Int32} (h : f_X5_asked σ x0 x1 x2 = some (r, σ')) : Ctr G l yX5_asked cX5_asked 4 (some .int) 4 94 [.ref (G.1 x0), .int x1, .int x2] σ (some (.int r)) True σ' := by
  refine Ctr.i (by decide) (Nat.le_of_ble_eq_true rfl) ?_
  intro X hG C hr
  subst hG
  exact w_X5_asked_b0 C hr _ _ _ _ hx0 h
-- X5_toOpen
set_option maxHeartbeats 4000000 in
set_option maxRecDepth 100000 in
theorem w_X5_toOpen_b28 {X : CX} (C : Cok X RX5 cX5_toOpen 3 6 143) {σ' : St} {r : Int32} (hr : RtI X cX5_toOpen r σ') (σ : St) (x0 : Nat) (hx0 : kd x0 = 6) (h : f_X5_toOpen_b28 σ x0 = some (r, σ')) : V X σ 28 [(0, .ref ((xG X).1 x0))] [] := by
  unfold f_X5_toOpen_b28 at h
  refine r_aload_n C 0 (q := 29) dX5_toOpen_28 rfl rfl ?_
  refine r_bipush C (v := (-2)) (q := 31) dX5_toOpen_29 (by decide) rfl ?_
  obtain ⟨v_31, s_31, e_31, h⟩ := bs2 h
  refine r_callV C (ci := 5) (st := []) (st2 := [.int v_31]) (q := 34) (m_X5_refuse (xG X) (xl X) hx0 e_31) ok_X5_refuse hx0 rfl ⟨_, rfl⟩ q_242 rfl ⟨Nat.le_of_ble_eq_true rfl, Nat.le_of_ble_eq_true rfl⟩ rfl rfl (Nat.le_of_ble_eq_true rfl) dX5_toOpen_31 rfl (fun hp_31 => ?_)
  obtain ⟨rfl, rfl⟩ := Prod.mk.inj (Option.some.inj h)
  exact hr _ _ dX5_toOpen_34

set_option maxHeartbeats 4000000 in
set_option maxRecDepth 100000 in
theorem w_X5_toOpen_b0 {X : CX} (C : Cok X RX5 cX5_toOpen 3 6 143) {σ' : St} {r : Int32} (hr : RtI X cX5_toOpen r σ') (σ : St) (x0 : Nat) (x1 : Int32) (x2 : Int32) (hx0 : kd x0 = 6) (h : f_X5_toOpen σ x0 x1 x2 = some (r, σ')) : V X σ 0 [(0, .ref ((xG X).1 x0)), (1, .int x1), (2, .int x2)] [] := by
  unfold f_X5_toOpen at h
  refine r_aload_n C 0 (q := 1) dX5_toOpen_0 rfl rfl ?_
  refine r_iload_n C 1 (q := 2) dX5_toOpen_1 rfl rfl ?_
  obtain ⟨v_2, e_2, h⟩ := bs h
  refine r_callV C (ci := 5) (st := []) (st2 := [.int v_2]) (q := 5) (m_X5_isKey (xG X) (xl X) hx0 e_2) ok_X5_isKey hx0 rfl ⟨_, rfl⟩ q_321 rfl ⟨Nat.le_of_ble_eq_true rfl, Nat.le_of_ble_eq_true rfl⟩ rfl rfl (Nat.le_of_ble_eq_true rfl) dX5_toOpen_2 rfl (fun hp_2 => ?_)
  refine r_if_eq C (tgt := 28) (q := 8) dX5_toOpen_5 (by decide) rfl (fun c_5 => ?_) (fun c_5 => ?_)
  · replace h := (if_pos c_5).symm.trans h
    refine r_sub (lv' := [(0, .ref ((xG X).1 x0))]) [0] rfl ?_
    exact w_X5_toOpen_b28 C hr  _ _ hx0 h
  · replace h := (if_neg c_5).symm.trans h
    refine r_aload_n C 0 (q := 9) dX5_toOpen_8 rfl rfl ?_
    refine r_iload_n C 2 (q := 10) dX5_toOpen_9 rfl rfl ?_
    obtain ⟨v_10, e_10, h⟩ := bs h
    refine r_callV C (ci := 5) (st := []) (st2 := [.int v_10]) (q := 13) (m_X5_isLock (xG X) (xl X) hx0 e_10) ok_X5_isLock hx0 rfl ⟨_, rfl⟩ q_453 rfl ⟨Nat.le_of_ble_eq_true rfl, Nat.le_of_ble_eq_true rfl⟩ rfl rfl (Nat.le_of_ble_eq_true rfl) dX5_toOpen_10 rfl (fun hp_10 => ?_)
    refine r_if_eq C (tgt := 28) (q := 16) dX5_toOpen_13 (by decide) rfl (fun c_13 => ?_) (fun c_13 => ?_)
    · replace h := (if_pos c_13).symm.trans h
      refine r_sub (lv' := [(0, .ref ((xG X).1 x0))]) [0] rfl ?_
      exact w_X5_toOpen_b28 C hr  _ _ hx0 h
    · replace h := (if_neg c_13).symm.trans h
      refine r_aload_n C 0 (q := 17) dX5_toOpen_16 rfl rfl ?_
      refine g_X5_3 C (q := 20) dX5_toOpen_17 q_206 hx0 rfl ?_
      refine r_iload_n C 1 (q := 21) dX5_toOpen_20 rfl rfl ?_
      refine r_iload_n C 2 (q := 22) dX5_toOpen_21 rfl rfl ?_
      obtain ⟨v_22, s_22, e_22, h⟩ := bs2 h
      refine r_callV C (ci := 4) (st := []) (st2 := [.int v_22]) (q := 25) (m_X4_coinsToOpen (xG X) (xl X) (kf_X5_3 hx0) e_22) ok_X4_coinsToOpen (kf_X5_3 hx0) rfl ⟨_, rfl⟩ q_760 rfl ⟨Nat.le_of_ble_eq_true rfl, Nat.le_of_ble_eq_true rfl⟩ rfl rfl (Nat.le_of_ble_eq_true rfl) dX5_toOpen_22 rfl (fun hp_22 => ?_)
      refine r_goto C (tgt := 34) dX5_toOpen_25 (by decide) ?_
      obtain ⟨rfl, rfl⟩ := Prod.mk.inj (Option.some.inj h)
      exact hr _ _ dX5_toOpen_34

theorem m_X5_toOpen (G : Gm) (l : Launch) {σ σ' : St} {x0 : Nat} {x1 : Int32} {x2 : Int32} (hx0 : kd x0 = 6) {r : Int32} (h : f_X5_toOpen σ x0 x1 x2 = some (r, σ')) : Ctr G l yX5_toOpen cX5_toOpen 3 (some .int) 6 143 [.ref (G.1 x0), .int x1, .int x2] σ (some (.int r)) True σ' := by
  refine Ctr.i (by decide) (Nat.le_of_ble_eq_true rfl) ?_
  intro X hG C hr
  subst hG
  exact w_X5_toOpen_b0 C hr _ _ _ _ hx0 h
