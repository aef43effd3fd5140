-- X0_keyAt
set_option maxHeartbeats 4000000 in
set_option maxRecDepth 100000 in
theorem w_X0_keyAt_b22 {X : CX} (C : Cok X RX0 cX0_keyAt 2 0 0) {σ : St} {r : Nat} (hr : RtA X cX0_keyAt 2 r σ) (x0 : Nat) (hx0 : kd x0 = 1) (h : f_X0_keyAt_b22 σ x0 = some r) : V X σ 22 [(0, .ref ((xG X).1 x0))] [] := by
  unfold f_X0_keyAt_b22 at h
  refine r_aload_n C 0 (q := 23) dX0_keyAt_22 rfl rfl ?_
  refine g_X0_9 C (q := 26) dX0_keyAt_23 q_89 hx0 rfl ?_
  obtain rfl := Option.some.inj h
  exact hr _ _ dX0_keyAt_26 (kf_X0_9 hx0)

set_option maxHeartbeats 4000000 in
set_option maxRecDepth 100000 in
theorem w_X0_keyAt_b0 {X : CX} (C : Cok X RX0 cX0_keyAt 2 0 0) {σ : St} {r : Nat} (hr : RtA X cX0_keyAt 2 r σ) (x0 : Nat) (x1 : Int32) (hx0 : kd x0 = 1) (h : f_X0_keyAt σ x0 x1 = some r) : V X σ 0 [(0, .ref ((xG X).1 x0)), (1, .int x1)] [] := by
  unfold f_X0_keyAt at h
  refine r_iload_n C 1 (q := 1) dX0_keyAt_0 rfl rfl ?_
  refine r_if_lt C (tgt := 22) (q := 4) dX0_keyAt_1 (by decide) rfl (fun c_1 => ?_) (fun c_1 => ?_)
  · replace h := (if_pos c_1).symm.trans h
    refine r_sub (lv' := [(0, .ref ((xG X).1 x0))]) [0] rfl ?_
    exact w_X0_keyAt_b22 C hr  _ hx0 h
  · replace h := (if_neg c_1).symm.trans h
    refine r_iload_n C 1 (q := 5) dX0_keyAt_4 rfl rfl ?_
    refine r_aload_n C 0 (q := 6) dX0_keyAt_5 rfl rfl ?_
    refine g_X0_8 C (q := 9) dX0_keyAt_6 q_88 hx0 rfl ?_
    refine r_alen10 C (q := 10) dX0_keyAt_9 (kf_X0_8 hx0) rfl ?_
    refine r_icmp_ge C (tgt := 22) (q := 13) dX0_keyAt_10 (by decide) rfl (fun c_10 => ?_) (fun c_10 => ?_)
    · replace h := (if_pos c_10).symm.trans h
      refine r_sub (lv' := [(0, .ref ((xG X).1 x0))]) [0] rfl ?_
      exact w_X0_keyAt_b22 C hr  _ hx0 h
    · replace h := (if_neg c_10).symm.trans h
      refine r_aload_n C 0 (q := 14) dX0_keyAt_13 rfl rfl ?_
      refine g_X0_8 C (q := 17) dX0_keyAt_14 q_88 hx0 rfl ?_
      refine r_iload_n C 1 (q := 18) dX0_keyAt_17 rfl rfl ?_
      obtain ⟨v_18, e_18, h⟩ := bs h
      refine r_aaldK C (q := 19) dX0_keyAt_18 (kf_X0_8 hx0) e_18 rfl ?_
      refine r_goto C (tgt := 26) dX0_keyAt_19 (by decide) ?_
      obtain rfl := Option.some.inj h
      exact hr _ _ dX0_keyAt_26 (kK (kf_X0_8 hx0) e_18)

theorem m_X0_keyAt (G : Gm) (l : Launch) {σ : St} {x0 : Nat} {x1 : Int32} (hx0 : kd x0 = 1) {r : Nat} (h : f_X0_keyAt σ x0 x1 = some r) : Ctr G l yX0_keyAt cX0_keyAt 2 (some (.object "CutDeeper$Key")) 0 0 [.ref (G.1 x0), .int x1] σ (some (.ref (G.1 r))) (kd r = 2) σ := by
  refine Ctr.a (by first | exact Or.inl ⟨_, rfl⟩ | exact Or.inr ⟨_, rfl⟩) (by decide) (Nat.le_of_ble_eq_true rfl) ?_
  intro X hG C hr
  subst hG
  exact w_X0_keyAt_b0 C hr _ _ hx0 h
-- X1_take
set_option maxHeartbeats 4000000 in
set_option maxRecDepth 100000 in
theorem w_X1_take_b0 {X : CX} (C : Cok X RX1 cX1_take 2 1 26) {σ' : St} (hr : RtV X cX1_take σ') (σ : St) (x0 : Nat) (x1 : Nat) (hx0 : kd x0 = 2) (hx1 : kd x1 = 2) (h : f_X1_take σ x0 x1 = some σ') : V X σ 0 [(0, .ref ((xG X).1 x0)), (1, .ref ((xG X).1 x1))] [] := by
  unfold f_X1_take at h
  refine r_aload_n C 0 (q := 1) dX1_take_0 rfl rfl ?_
  refine r_aload_n C 1 (q := 2) dX1_take_1 rfl rfl ?_
  refine g_X1_0 C (q := 5) dX1_take_2 q_37 hx1 rfl ?_
  obtain ⟨s_5, e_5, h⟩ := bs h
  refine p_X1_0 C (q := 8) dX1_take_5 q_37 hx0 e_5 rfl ?_
  refine r_aload_n C 0 (q := 9) dX1_take_8 rfl rfl ?_
  refine r_aload_n C 1 (q := 10) dX1_take_9 rfl rfl ?_
  refine g_X1_1 C (q := 13) dX1_take_10 q_41 hx1 rfl ?_
  obtain ⟨s_13, e_13, h⟩ := bs h
  refine p_X1_1 C (q := 16) dX1_take_13 q_41 hx0 e_13 rfl ?_
  refine r_aload_n C 0 (q := 17) dX1_take_16 rfl rfl ?_
  refine r_aload_n C 1 (q := 18) dX1_take_17 rfl rfl ?_
  refine g_X1_2 C (q := 21) dX1_take_18 q_44 hx1 rfl ?_
  obtain ⟨s_21, e_21, h⟩ := bs h
  refine p_X1_2 C (q := 24) dX1_take_21 q_44 hx0 e_21 rfl ?_
  refine r_aload_n C 1 (q := 25) dX1_take_24 rfl rfl ?_
  refine g_X1_3 C (q := 28) dX1_take_25 q_47 hx1 rfl ?_
  refine r_iconst C (v := 0) (q := 29) dX1_take_28 (by decide) rfl ?_
  refine r_aload_n C 0 (q := 30) dX1_take_29 rfl rfl ?_
  refine g_X1_3 C (q := 33) dX1_take_30 q_47 hx0 rfl ?_
  refine r_iconst C (v := 0) (q := 34) dX1_take_33 (by decide) rfl ?_
  refine r_iconst C (v := 5) (q := 35) dX1_take_34 (by decide) rfl ?_
  obtain ⟨s_35, e_35, h⟩ := bs h
  refine r_copyI C (st := []) (q := 38) dX1_take_35 q_507 ok_copy (kf_X1_3 hx1) (kf_X1_3 hx0) e_35 ⟨Nat.le_of_ble_eq_true rfl, Nat.le_of_ble_eq_true rfl⟩ rfl ?_
  obtain rfl := Option.some.inj h
  exact hr _ _ dX1_take_38

theorem m_X1_take (G : Gm) (l : Launch) {σ σ' : St} {x0 : Nat} {x1 : Nat} (hx0 : kd x0 = 2) (hx1 : kd x1 = 2) (h : f_X1_take σ x0 x1 = some σ') : Ctr G l yX1_take cX1_take 2 none 1 26 [.ref (G.1 x0), .ref (G.1 x1)] σ none True σ' := by
  refine Ctr.v (by decide) (Nat.le_of_ble_eq_true rfl) ?_
  intro X hG C hr
  subst hG
  exact w_X1_take_b0 C hr _ _ _ hx0 hx1 h
-- X0_take
set_option maxHeartbeats 4000000 in
set_option maxRecDepth 100000 in
theorem w_X0_take_b66 {X : CX} (C : Cok X RX0 cX0_take 3 2 47) {σ' : St} (hr : RtV X cX0_take σ') (k_66 : St → Nat → Nat → Int32 → Option St) (hk_66 : ∀ (σ : St) (x0 : Nat) (x1 : Nat) (x2 : Int32), kd x0 = 1 → kd x1 = 1 → k_66 σ x0 x1 x2 = some σ' → V X σ 66 [(0, .ref ((xG X).1 x0)), (1, .ref ((xG X).1 x1)), (2, .int x2)] []) (σ : St) (x0 : Nat) (x1 : Nat) (x2 : Int32) (hx0 : kd x0 = 1) (hx1 : kd x1 = 1) (h : f_X0_take_b66 k_66 σ x0 x1 x2 = some σ') : V X σ 66 [(0, .ref ((xG X).1 x0)), (1, .ref ((xG X).1 x1)), (2, .int x2)] [] := by
  unfold f_X0_take_b66 at h
  refine r_iload_n C 2 (q := 67) dX0_take_66 rfl rfl ?_
  refine r_bipush C (v := 6) (q := 69) dX0_take_67 (by decide) rfl ?_
  refine r_icmp_ge C (tgt := 91) (q := 72) dX0_take_69 (by decide) rfl (fun c_69 => ?_) (fun c_69 => ?_)
  · replace h := (if_pos c_69).symm.trans h
    refine r_aload_n C 1 (q := 92) dX0_take_91 rfl rfl ?_
    refine g_X0_10 C (q := 95) dX0_take_92 q_91 hx1 rfl ?_
    refine r_iconst C (v := 0) (q := 96) dX0_take_95 (by decide) rfl ?_
    refine r_aload_n C 0 (q := 97) dX0_take_96 rfl rfl ?_
    refine g_X0_10 C (q := 100) dX0_take_97 q_91 hx0 rfl ?_
    refine r_iconst C (v := 0) (q := 101) dX0_take_100 (by decide) rfl ?_
    refine r_aload_n C 0 (q := 102) dX0_take_101 rfl rfl ?_
    refine g_X0_10 C (q := 105) dX0_take_102 q_91 hx0 rfl ?_
    refine r_alen8 C (q := 106) dX0_take_105 (kf_X0_10 hx0) rfl ?_
    obtain ⟨s_106, e_106, h⟩ := bs h
    refine r_copyI C (st := []) (q := 109) dX0_take_106 q_508 ok_copy (kf_X0_10 hx1) (kf_X0_10 hx0) e_106 ⟨Nat.le_of_ble_eq_true rfl, Nat.le_of_ble_eq_true rfl⟩ rfl ?_
    refine r_aload_n C 1 (q := 110) dX0_take_109 rfl rfl ?_
    refine g_X0_11 C (q := 113) dX0_take_110 q_92 hx1 rfl ?_
    refine r_iconst C (v := 0) (q := 114) dX0_take_113 (by decide) rfl ?_
    refine r_aload_n C 0 (q := 115) dX0_take_114 rfl rfl ?_
    refine g_X0_11 C (q := 118) dX0_take_115 q_92 hx0 rfl ?_
    refine r_iconst C (v := 0) (q := 119) dX0_take_118 (by decide) rfl ?_
    refine r_aload_n C 0 (q := 120) dX0_take_119 rfl rfl ?_
    refine g_X0_11 C (q := 123) dX0_take_120 q_92 hx0 rfl ?_
    refine r_alen8 C (q := 124) dX0_take_123 (kf_X0_11 hx0) rfl ?_
    obtain ⟨s_124, e_124, h⟩ := bs h
    refine r_copyI C (st := []) (q := 127) dX0_take_124 q_508 ok_copy (kf_X0_11 hx1) (kf_X0_11 hx0) e_124 ⟨Nat.le_of_ble_eq_true rfl, Nat.le_of_ble_eq_true rfl⟩ rfl ?_
    obtain rfl := Option.some.inj h
    exact hr _ _ dX0_take_127
  · replace h := (if_neg c_69).symm.trans h
    refine r_aload_n C 0 (q := 73) dX0_take_72 rfl rfl ?_
    refine r_iload_n C 2 (q := 74) dX0_take_73 rfl rfl ?_
    obtain ⟨v_74, e_74, h⟩ := bs h
    refine r_callV C (ci := 0) (st := []) (st2 := [.ref ((xG X).1 v_74)]) (q := 77) (m_X0_keyAt (xG X) (xl X) hx0 e_74) ok_X0_keyAt hx0 rfl ⟨_, rfl⟩ q_353 rfl ⟨Nat.le_of_ble_eq_true rfl, Nat.le_of_ble_eq_true rfl⟩ rfl rfl (Nat.le_of_ble_eq_true rfl) dX0_take_74 rfl (fun hp_74 => ?_)
    refine r_aload_n C 1 (q := 78) dX0_take_77 rfl rfl ?_
    refine r_iload_n C 2 (q := 79) dX0_take_78 rfl rfl ?_
    obtain ⟨v_79, e_79, h⟩ := bs h
    refine r_callV C (ci := 0) (st := [.ref ((xG X).1 v_74)]) (st2 := [.ref ((xG X).1 v_79), .ref ((xG X).1 v_74)]) (q := 82) (m_X0_keyAt (xG X) (xl X) hx1 e_79) ok_X0_keyAt hx1 rfl ⟨_, rfl⟩ q_353 rfl ⟨Nat.le_of_ble_eq_true rfl, Nat.le_of_ble_eq_true rfl⟩ rfl rfl (Nat.le_of_ble_eq_true rfl) dX0_take_79 rfl (fun hp_79 => ?_)
    obtain ⟨s_82, e_82, h⟩ := bs h
    refine r_callV C (ci := 1) (st := []) (st2 := []) (q := 85) (m_X1_take (xG X) (xl X) hp_74 hp_79 e_82) ok_X1_take hp_74 rfl ⟨_, rfl⟩ q_503 rfl ⟨Nat.le_of_ble_eq_true rfl, Nat.le_of_ble_eq_true rfl⟩ rfl rfl (Nat.le_of_ble_eq_true rfl) dX0_take_82 rfl (fun hp_82 => ?_)
    obtain ⟨y_85, e_85, h⟩ := bs h
    refine r_iinc C (v := y_85) (lv' := [(2, .int y_85), (0, .ref ((xG X).1 x0)), (1, .ref ((xG X).1 x1))]) (q := 88) 2 dX0_take_85 rfl (Option.some.inj e_85) (by decide) rfl rfl ?_
    refine r_goto C (tgt := 66) dX0_take_88 (by decide) ?_
    refine r_sub (lv' := [(0, .ref ((xG X).1 x0)), (1, .ref ((xG X).1 x1)), (2, .int y_85)]) [1, 2, 0] rfl ?_
    exact hk_66 _ _ _ _ hx0 hx1 h

theorem w_X0_take_l66 {X : CX} (C : Cok X RX0 cX0_take 3 2 47) {σ' : St} (hr : RtV X cX0_take σ') (n : Nat) : ∀ (σ : St) (x0 : Nat) (x1 : Nat) (x2 : Int32), kd x0 = 1 → kd x1 = 1 → f_X0_take_l66 n σ x0 x1 x2 = some σ' → V X σ 66 [(0, .ref ((xG X).1 x0)), (1, .ref ((xG X).1 x1)), (2, .int x2)] [] := by
  induction n with
  | zero =>
    intro σ x0 x1 x2 hx0 hx1 h
    exact nomatch (show (none : Option St) = some σ' from h)
  | succ n ih =>
    intro σ x0 x1 x2 hx0 hx1 h
    exact w_X0_take_b66 C hr _ ih σ x0 x1 x2 hx0 hx1 h
set_option maxHeartbeats 4000000 in
set_option maxRecDepth 100000 in
theorem w_X0_take_b0 {X : CX} (C : Cok X RX0 cX0_take 3 2 47) {σ' : St} (hr : RtV X cX0_take σ') (σ : St) (x0 : Nat) (x1 : Nat) (hx0 : kd x0 = 1) (hx1 : kd x1 = 1) (h : f_X0_take σ x0 x1 = some σ') : V X σ 0 [(0, .ref ((xG X).1 x0)), (1, .ref ((xG X).1 x1))] [] := by
  unfold f_X0_take at h
  refine r_aload_n C 0 (q := 1) dX0_take_0 rfl rfl ?_
  refine r_aload_n C 1 (q := 2) dX0_take_1 rfl rfl ?_
  refine g_X0_0 C (q := 5) dX0_take_2 q_62 hx1 rfl ?_
  obtain ⟨s_5, e_5, h⟩ := bs h
  refine p_X0_0 C (q := 8) dX0_take_5 q_62 hx0 e_5 rfl ?_
  refine r_aload_n C 0 (q := 9) dX0_take_8 rfl rfl ?_
  refine r_aload_n C 1 (q := 10) dX0_take_9 rfl rfl ?_
  refine g_X0_1 C (q := 13) dX0_take_10 q_66 hx1 rfl ?_
  obtain ⟨s_13, e_13, h⟩ := bs h
  refine p_X0_1 C (q := 16) dX0_take_13 q_66 hx0 e_13 rfl ?_
  refine r_aload_n C 0 (q := 17) dX0_take_16 rfl rfl ?_
  refine r_aload_n C 1 (q := 18) dX0_take_17 rfl rfl ?_
  refine g_X0_2 C (q := 21) dX0_take_18 q_70 hx1 rfl ?_
  obtain ⟨s_21, e_21, h⟩ := bs h
  refine p_X0_2 C (q := 24) dX0_take_21 q_70 hx0 e_21 rfl ?_
  refine r_aload_n C 0 (q := 25) dX0_take_24 rfl rfl ?_
  refine r_aload_n C 1 (q := 26) dX0_take_25 rfl rfl ?_
  refine g_X0_3 C (q := 29) dX0_take_26 q_73 hx1 rfl ?_
  obtain ⟨s_29, e_29, h⟩ := bs h
  refine p_X0_3 C (q := 32) dX0_take_29 q_73 hx0 e_29 rfl ?_
  refine r_aload_n C 0 (q := 33) dX0_take_32 rfl rfl ?_
  refine r_aload_n C 1 (q := 34) dX0_take_33 rfl rfl ?_
  refine g_X0_4 C (q := 37) dX0_take_34 q_75 hx1 rfl ?_
  obtain ⟨s_37, e_37, h⟩ := bs h
  refine p_X0_4 C (q := 40) dX0_take_37 q_75 hx0 e_37 rfl ?_
  refine r_aload_n C 0 (q := 41) dX0_take_40 rfl rfl ?_
  refine r_aload_n C 1 (q := 42) dX0_take_41 rfl rfl ?_
  refine g_X0_5 C (q := 45) dX0_take_42 q_77 hx1 rfl ?_
  obtain ⟨s_45, e_45, h⟩ := bs h
  refine p_X0_5 C (q := 48) dX0_take_45 q_77 hx0 e_45 rfl ?_
  refine r_aload_n C 0 (q := 49) dX0_take_48 rfl rfl ?_
  refine r_aload_n C 1 (q := 50) dX0_take_49 rfl rfl ?_
  refine g_X0_6 C (q := 53) dX0_take_50 q_81 hx1 rfl ?_
  obtain ⟨s_53, e_53, h⟩ := bs h
  refine p_X0_6 C (q := 56) dX0_take_53 q_81 hx0 e_53 rfl ?_
  refine r_aload_n C 0 (q := 57) dX0_take_56 rfl rfl ?_
  refine r_aload_n C 1 (q := 58) dX0_take_57 rfl rfl ?_
  refine g_X0_7 C (q := 61) dX0_take_58 q_85 hx1 rfl ?_
  obtain ⟨s_61, e_61, h⟩ := bs h
  refine p_X0_7 C (q := 64) dX0_take_61 q_85 hx0 e_61 rfl ?_
  refine r_iconst C (v := 0) (q := 65) dX0_take_64 (by decide) rfl ?_
  refine r_istore_n C (lv' := [(2, .int 0), (0, .ref ((xG X).1 x0)), (1, .ref ((xG X).1 x1))]) (q := 66) dX0_take_65 rfl (by decide) rfl rfl ?_
  refine r_sub (lv' := [(0, .ref ((xG X).1 x0)), (1, .ref ((xG X).1 x1)), (2, .int 0)]) [1, 2, 0] rfl ?_
  exact w_X0_take_l66 C hr  FU _ _ _ _ hx0 hx1 h

theorem m_X0_take (G : Gm) (l : Launch) {σ σ' : St} {x0 : Nat} {x1 : Nat} (hx0 : kd x0 = 1) (hx1 : kd x1 = 1) (h : f_X0_take σ x0 x1 = some σ') : Ctr G l yX0_take cX0_take 3 none 2 47 [.ref (G.1 x0), .ref (G.1 x1)] σ none True σ' := by
  refine Ctr.v (by decide) (Nat.le_of_ble_eq_true rfl) ?_
  intro X hG C hr
  subst hG
  exact w_X0_take_b0 C hr _ _ _ hx0 hx1 h
-- X0_isEmpty
set_option maxHeartbeats 4000000 in
set_option maxRecDepth 100000 in
theorem w_X0_isEmpty_b0 {X : CX} (C : Cok X RX0 cX0_isEmpty 1 0 0) {σ : St} {r : Int32} (hr : RtZ X cX0_isEmpty r σ) (x0 : Nat) (hx0 : kd x0 = 1) (h : f_X0_isEmpty σ x0 = some r) : V X σ 0 [(0, .ref ((xG X).1 x0))] [] := by
  unfold f_X0_isEmpty at h
  refine r_aload_n C 0 (q := 1) dX0_isEmpty_0 rfl rfl ?_
  refine g_X0_5 C (q := 4) dX0_isEmpty_1 q_77 hx0 rfl ?_
  refine r_if_ne C (tgt := 18) (q := 7) dX0_isEmpty_4 (by decide) rfl (fun c_4 => ?_) (fun c_4 => ?_)
  · replace h := (if_neg c_4).symm.trans h
    refine r_iconst C (v := 0) (q := 19) dX0_isEmpty_18 (by decide) rfl ?_
    obtain rfl := Option.some.inj h
    exact hr _ _ dX0_isEmpty_19 (Or.inl rfl)
  · replace h := (if_pos c_4).symm.trans h
    refine r_aload_n C 0 (q := 8) dX0_isEmpty_7 rfl rfl ?_
    refine g_X0_6 C (q := 11) dX0_isEmpty_8 q_81 hx0 rfl ?_
    refine r_if_ne C (tgt := 18) (q := 14) dX0_isEmpty_11 (by decide) rfl (fun c_11 => ?_) (fun c_11 => ?_)
    · replace h := (if_neg c_11).symm.trans h
      refine r_iconst C (v := 0) (q := 19) dX0_isEmpty_18 (by decide) rfl ?_
      obtain rfl := Option.some.inj h
      exact hr _ _ dX0_isEmpty_19 (Or.inl rfl)
    · replace h := (if_pos c_11).symm.trans h
      refine r_iconst C (v := 1) (q := 15) dX0_isEmpty_14 (by decide) rfl ?_
      refine r_goto C (tgt := 19) dX0_isEmpty_15 (by decide) ?_
      obtain rfl := Option.some.inj h
      exact hr _ _ dX0_isEmpty_19 (Or.inr rfl)

theorem m_X0_isEmpty (G : Gm) (l : Launch) {σ : St} {x0 : Nat} (hx0 : kd x0 = 1) {r : Int32} (h : f_X0_isEmpty σ x0 = some r) : Ctr G l yX0_isEmpty cX0_isEmpty 1 (some .boolean) 0 0 [.ref (G.1 x0)] σ (some (.int r)) (r = 0 ∨ r = 1) σ := by
  refine Ctr.z (by decide) (Nat.le_of_ble_eq_true rfl) ?_
  intro X hG C hr
  subst hG
  exact w_X0_isEmpty_b0 C hr _ hx0 h
-- J7_fill_53178
set_option maxHeartbeats 4000000 in
set_option maxRecDepth 100000 in
theorem w_J7_fill_53178_b5 {X : CX} (C : Cok X RJ7 cJ7_fill_53178 4 0 0) {σ' : St} (hr : RtV X cJ7_fill_53178 σ') (k_5 : St → Nat → Int32 → Int32 → Int32 → Option St) (hk_5 : ∀ (σ : St) (x0 : Nat) (x1 : Int32) (x2 : Int32) (x3 : Int32), kd x0 = 8 → k_5 σ x0 x1 x2 x3 = some σ' → V X σ 5 [(0, .ref ((xG X).1 x0)), (1, .int x1), (2, .int x2), (3, .int x3)] []) (σ : St) (x0 : Nat) (x1 : Int32) (x2 : Int32) (x3 : Int32) (hx0 : kd x0 = 8) (h : f_J7_fill_53178_b5 k_5 σ x0 x1 x2 x3 = some σ') : V X σ 5 [(0, .ref ((xG X).1 x0)), (1, .int x1), (2, .int x2), (3, .int x3)] [] := by
  unfold f_J7_fill_53178_b5 at h
  refine r_iload_n C 2 (q := 6) dJ7_fill_53178_5 rfl rfl ?_
  refine r_iload_n C 3 (q := 7) dJ7_fill_53178_6 rfl rfl ?_
  refine r_icmp_ge C (tgt := 20) (q := 10) dJ7_fill_53178_7 (by decide) rfl (fun c_7 => ?_) (fun c_7 => ?_)
  · replace h := (if_pos c_7).symm.trans h
    obtain rfl := Option.some.inj h
    exact hr _ _ dJ7_fill_53178_20
  · replace h := (if_neg c_7).symm.trans h
    refine r_aload_n C 0 (q := 11) dJ7_fill_53178_10 rfl rfl ?_
    refine r_iload_n C 2 (q := 12) dJ7_fill_53178_11 rfl rfl ?_
    refine r_iload_n C 1 (q := 13) dJ7_fill_53178_12 rfl rfl ?_
    obtain ⟨s_13, e_13, h⟩ := bs h
    refine r_iast C (q := 14) dJ7_fill_53178_13 hx0 e_13 rfl ?_
    obtain ⟨y_14, e_14, h⟩ := bs h
    refine r_iinc C (v := y_14) (lv' := [(2, .int y_14), (0, .ref ((xG X).1 x0)), (1, .int x1), (3, .int x3)]) (q := 17) 2 dJ7_fill_53178_14 rfl (Option.some.inj e_14) (by decide) rfl rfl ?_
    refine r_goto C (tgt := 5) dJ7_fill_53178_17 (by decide) ?_
    refine r_sub (lv' := [(0, .ref ((xG X).1 x0)), (1, .int x1), (2, .int y_14), (3, .int x3)]) [1, 2, 0, 3] rfl ?_
    exact hk_5 _ _ _ _ _ hx0 h

theorem w_J7_fill_53178_l5 {X : CX} (C : Cok X RJ7 cJ7_fill_53178 4 0 0) {σ' : St} (hr : RtV X cJ7_fill_53178 σ') (n : Nat) : ∀ (σ : St) (x0 : Nat) (x1 : Int32) (x2 : Int32) (x3 : Int32), kd x0 = 8 → f_J7_fill_53178_l5 n σ x0 x1 x2 x3 = some σ' → V X σ 5 [(0, .ref ((xG X).1 x0)), (1, .int x1), (2, .int x2), (3, .int x3)] [] := by
  induction n with
  | zero =>
    intro σ x0 x1 x2 x3 hx0 h
    exact nomatch (show (none : Option St) = some σ' from h)
  | succ n ih =>
    intro σ x0 x1 x2 x3 hx0 h
    exact w_J7_fill_53178_b5 C hr _ ih σ x0 x1 x2 x3 hx0 h
set_option maxHeartbeats 4000000 in
set_option maxRecDepth 100000 in
theorem w_J7_fill_53178_b0 {X : CX} (C : Cok X RJ7 cJ7_fill_53178 4 0 0) {σ' : St} (hr : RtV X cJ7_fill_53178 σ') (σ : St) (x0 : Nat) (x1 : Int32) (hx0 : kd x0 = 8) (h : f_J7_fill_53178 σ x0 x1 = some σ') : V X σ 0 [(0, .ref ((xG X).1 x0)), (1, .int x1)] [] := by
  unfold f_J7_fill_53178 at h
  refine r_iconst C (v := 0) (q := 1) dJ7_fill_53178_0 (by decide) rfl ?_
  refine r_istore_n C (lv' := [(2, .int 0), (0, .ref ((xG X).1 x0)), (1, .int x1)]) (q := 2) dJ7_fill_53178_1 rfl (by decide) rfl rfl ?_
  refine r_aload_n C 1 (q := 3) dJ7_fill_53178_2 rfl rfl ?_
  refine r_alen8 C (q := 4) dJ7_fill_53178_3 hx0 rfl ?_
  obtain ⟨y_4, e_4, h⟩ := bs h
  refine r_topI (Option.some.inj e_4) ?_
  refine r_istore_n C (lv' := [(3, .int y_4), (2, .int 0), (0, .ref ((xG X).1 x0)), (1, .int x1)]) (q := 5) dJ7_fill_53178_4 rfl (by decide) rfl rfl ?_
  refine r_sub (lv' := [(0, .ref ((xG X).1 x0)), (1, .int x1), (2, .int 0), (3, .int y_4)]) [2, 3, 1, 0] rfl ?_
  exact w_J7_fill_53178_l5 C hr  FU _ _ _ _ _ hx0 h

theorem m_J7_fill_53178 (G : Gm) (l : Launch) {σ σ' : St} {x0 : Nat} {x1 : Int32} (hx0 : kd x0 = 8) (h : f_J7_fill_53178 σ x0 x1 = some σ') : Ctr G l yJ7_fill_53178 cJ7_fill_53178 4 none 0 0 [.ref (G.1 x0), .int x1] σ none True σ' := by
  refine Ctr.v (by decide) (Nat.le_of_ble_eq_true rfl) ?_
  intro X hG C hr
  subst hG
  exact w_J7_fill_53178_b0 C hr _ _ _ hx0 h
-- X1_begin
set_option maxHeartbeats 4000000 in
set_option maxRecDepth 100000 in
theorem w_X1_begin_b0 {X : CX} (C : Cok X RX1 cX1_begin 3 1 23) {σ' : St} (hr : RtV X cX1_begin σ') (σ : St) (x0 : Nat) (x1 : Int32) (x2 : Int32) (hx0 : kd x0 = 2) (h : f_X1_begin σ x0 x1 x2 = some σ') : V X σ 0 [(0, .ref ((xG X).1 x0)), (1, .int x1), (2, .int x2)] [] := by
  unfold f_X1_begin at h
  refine r_aload_n C 0 (q := 1) dX1_begin_0 rfl rfl ?_
  refine r_iload_n C 1 (q := 2) dX1_begin_1 rfl rfl ?_
  obtain ⟨s_2, e_2, h⟩ := bs h
  refine p_X1_0 C (q := 5) dX1_begin_2 q_37 hx0 e_2 rfl ?_
  refine r_aload_n C 0 (q := 6) dX1_begin_5 rfl rfl ?_
  refine r_iload_n C 2 (q := 7) dX1_begin_6 rfl rfl ?_
  obtain ⟨s_7, e_7, h⟩ := bs h
  refine p_X1_1 C (q := 10) dX1_begin_7 q_41 hx0 e_7 rfl ?_
  refine r_aload_n C 0 (q := 11) dX1_begin_10 rfl rfl ?_
  refine r_iconst C (v := 0) (q := 12) dX1_begin_11 (by decide) rfl ?_
  obtain ⟨s_12, e_12, h⟩ := bs h
  refine p_X1_2 C (q := 15) dX1_begin_12 q_44 hx0 e_12 rfl ?_
  refine r_aload_n C 0 (q := 16) dX1_begin_15 rfl rfl ?_
  refine g_X1_3 C (q := 19) dX1_begin_16 q_47 hx0 rfl ?_
  refine r_iconst C (v := 0) (q := 20) dX1_begin_19 (by decide) rfl ?_
  obtain ⟨s_20, e_20, h⟩ := bs h
  refine r_callS C (st := []) (st2 := []) (q := 23) (m_J7_fill_53178 (xG X) (xl X) (kf_X1_3 hx0) e_20) ok_J7_fill_53178 q_429 rfl ⟨Nat.le_of_ble_eq_true rfl, Nat.le_of_ble_eq_true rfl⟩ rfl rfl (Nat.le_of_ble_eq_true rfl) dX1_begin_20 rfl (fun hp_20 => ?_)
  obtain rfl := Option.some.inj h
  exact hr _ _ dX1_begin_23

theorem m_X1_begin (G : Gm) (l : Launch) {σ σ' : St} {x0 : Nat} {x1 : Int32} {x2 : Int32} (hx0 : kd x0 = 2) (h : f_X1_begin σ x0 x1 x2 = some σ') : Ctr G l yX1_begin cX1_begin 3 none 1 23 [.ref (G.1 x0), .int x1, .int x2] σ none True σ' := by
  refine Ctr.v (by decide) (Nat.le_of_ble_eq_true rfl) ?_
  intro X hG C hr
  subst hG
  exact w_X1_begin_b0 C hr _ _ _ _ hx0 h
-- X0_addKey
set_option maxHeartbeats 4000000 in
set_option maxRecDepth 100000 in
theorem w_X0_addKey_b0 {X : CX} (C : Cok X RX0 cX0_addKey 3 2 45) {σ' : St} {r : Int32} (hr : RtI X cX0_addKey r σ') (σ : St) (x0 : Nat) (x1 : Int32) (x2 : Int32) (hx0 : kd x0 = 1) (h : f_X0_addKey σ x0 x1 x2 = some (r, σ')) : V X σ 0 [(0, .ref ((xG X).1 x0)), (1, .int x1), (2, .int x2)] [] := by
  unfold f_X0_addKey at h
  refine r_aload_n C 0 (q := 1) dX0_addKey_0 rfl rfl ?_
  refine g_X0_5 C (q := 4) dX0_addKey_1 q_77 hx0 rfl ?_
  refine r_bipush C (v := 6) (q := 6) dX0_addKey_4 (by decide) rfl ?_
  refine r_icmp_lt C (tgt := 11) (q := 9) dX0_addKey_6 (by decide) rfl (fun c_6 => ?_) (fun c_6 => ?_)
  · replace h := (if_pos c_6).symm.trans h
    refine r_aload_n C 0 (q := 12) dX0_addKey_11 rfl rfl ?_
    refine r_aload_n C 0 (q := 13) dX0_addKey_12 rfl rfl ?_
    refine g_X0_5 C (q := 16) dX0_addKey_13 q_77 hx0 rfl ?_
    obtain ⟨v_16, e_16, h⟩ := bs h
    refine r_callV C (ci := 0) (st := []) (st2 := [.ref ((xG X).1 v_16)]) (q := 19) (m_X0_keyAt (xG X) (xl X) hx0 e_16) ok_X0_keyAt hx0 rfl ⟨_, rfl⟩ q_353 rfl ⟨Nat.le_of_ble_eq_true rfl, Nat.le_of_ble_eq_true rfl⟩ rfl rfl (Nat.le_of_ble_eq_true rfl) dX0_addKey_16 rfl (fun hp_16 => ?_)
    refine r_iload_n C 1 (q := 20) dX0_addKey_19 rfl rfl ?_
    refine r_iload_n C 2 (q := 21) dX0_addKey_20 rfl rfl ?_
    obtain ⟨s_21, e_21, h⟩ := bs h
    refine r_callV C (ci := 1) (st := []) (st2 := []) (q := 24) (m_X1_begin (xG X) (xl X) hp_16 e_21) ok_X1_begin hp_16 rfl ⟨_, rfl⟩ q_425 rfl ⟨Nat.le_of_ble_eq_true rfl, Nat.le_of_ble_eq_true rfl⟩ rfl rfl (Nat.le_of_ble_eq_true rfl) dX0_addKey_21 rfl (fun hp_21 => ?_)
    refine r_aload_n C 0 (q := 25) dX0_addKey_24 rfl rfl ?_
    refine r_dup C (q := 26) dX0_addKey_25 rfl rfl ?_
    refine g_X0_5 C (q := 29) dX0_addKey_26 q_77 hx0 rfl ?_
    refine r_iconst C (v := 1) (q := 30) dX0_addKey_29 (by decide) rfl ?_
    refine r_iadd C (q := 31) dX0_addKey_30 rfl ?_
    obtain ⟨s_31, e_31, h⟩ := bs h
    refine p_X0_5 C (q := 34) dX0_addKey_31 q_77 hx0 e_31 rfl ?_
    refine r_aload_n C 0 (q := 35) dX0_addKey_34 rfl rfl ?_
    refine g_X0_5 C (q := 38) dX0_addKey_35 q_77 hx0 rfl ?_
    refine r_iconst C (v := 1) (q := 39) dX0_addKey_38 (by decide) rfl ?_
    refine r_isub C (q := 40) dX0_addKey_39 rfl ?_
    obtain ⟨rfl, rfl⟩ := Prod.mk.inj (Option.some.inj h)
    exact hr _ _ dX0_addKey_40
  · replace h := (if_neg c_6).symm.trans h
    refine r_iconst C (v := (-1)) (q := 10) dX0_addKey_9 (by decide) rfl ?_
    obtain ⟨rfl, rfl⟩ := Prod.mk.inj (Option.some.inj h)
    exact hr _ _ dX0_addKey_10

theorem m_X0_addKey (G : Gm) (l : Launch) {σ σ' : St} {x0 : Nat} {x1 : Int32} {x2 : Int32} (hx0 : kd x0 = 1) {r : Int32} (h : f_X0_addKey σ x0 x1 x2 = some (r, σ')) : Ctr G l yX0_addKey cX0_addKey 3 (some .int) 2 45 [.ref (G.1 x0), .int x1, .int x2] σ (some (.int r)) True σ' := by
  refine Ctr.i (by decide) (Nat.le_of_ble_eq_true rfl) ?_
  intro X hG C hr
  subst hG
  exact w_X0_addKey_b0 C hr _ _ _ _ hx0 h
-- X5_put
set_option maxHeartbeats 4000000 in
set_option maxRecDepth 100000 in
theorem w_X5_put_b0 {X : CX} (C : Cok X RX5 cX5_put 3 0 0) {σ' : St} (hr : RtV X cX5_put σ') (σ : St) (x0 : Nat) (x1 : Int32) (x2 : Int32) (hx0 : kd x0 = 8) (h : f_X5_put σ x0 x1 x2 = some σ') : V X σ 0 [(0, .ref ((xG X).1 x0)), (1, .int x1), (2, .int x2)] [] := by
  unfold f_X5_put at h
  refine r_iload_n C 1 (q := 1) dX5_put_0 rfl rfl ?_
  refine r_if_lt C (tgt := 14) (q := 4) dX5_put_1 (by decide) rfl (fun c_1 => ?_) (fun c_1 => ?_)
  · replace h := (if_pos c_1).symm.trans h
    obtain rfl := Option.some.inj h
    exact hr _ _ dX5_put_14
  · replace h := (if_neg c_1).symm.trans h
    refine r_iload_n C 1 (q := 5) dX5_put_4 rfl rfl ?_
    refine r_aload_n C 0 (q := 6) dX5_put_5 rfl rfl ?_
    refine r_alen8 C (q := 7) dX5_put_6 hx0 rfl ?_
    refine r_icmp_ge C (tgt := 14) (q := 10) dX5_put_7 (by decide) rfl (fun c_7 => ?_) (fun c_7 => ?_)
    · replace h := (if_pos c_7).symm.trans h
      obtain rfl := Option.some.inj h
      exact hr _ _ dX5_put_14
    · replace h := (if_neg c_7).symm.trans h
      refine r_aload_n C 0 (q := 11) dX5_put_10 rfl rfl ?_
      refine r_iload_n C 1 (q := 12) dX5_put_11 rfl rfl ?_
      refine r_iload_n C 2 (q := 13) dX5_put_12 rfl rfl ?_
      obtain ⟨s_13, e_13, h⟩ := bs h
      refine r_iast C (q := 14) dX5_put_13 hx0 e_13 rfl ?_
      obtain rfl := Option.some.inj h
      exact hr _ _ dX5_put_14

theorem m_X5_put (G : Gm) (l : Launch) {σ σ' : St} {x0 : Nat} {x1 : Int32} {x2 : Int32} (hx0 : kd x0 = 8) (h : f_X5_put σ x0 x1 x2 = some σ') : Ctr G l yX5_put cX5_put 3 none 0 0 [.ref (G.1 x0), .int x1, .int x2] σ none True σ' := by
  refine Ctr.v (by decide) (Nat.le_of_ble_eq_true rfl) ?_
  intro X hG C hr
  subst hG
  exact w_X5_put_b0 C hr _ _ _ _ hx0 h
-- X5_at
set_option maxHeartbeats 4000000 in
set_option maxRecDepth 100000 in
theorem w_X5_at_b0 {X : CX} (C : Cok X RX5 cX5_at 2 0 0) {σ : St} {r : Int32} (hr : RtI X cX5_at r σ) (x0 : Nat) (x1 : Int32) (hx0 : kd x0 = 8) (h : f_X5_at σ x0 x1 = some r) : V X σ 0 [(0, .ref ((xG X).1 x0)), (1, .int x1)] [] := by
  unfold f_X5_at at h
  refine r_iload_n C 1 (q := 1) dX5_at_0 rfl rfl ?_
  refine r_if_lt C (tgt := 16) (q := 4) dX5_at_1 (by decide) rfl (fun c_1 => ?_) (fun c_1 => ?_)
  · replace h := (if_pos c_1).symm.trans h
    refine r_iconst C (v := 0) (q := 17) dX5_at_16 (by decide) rfl ?_
    obtain rfl := Option.some.inj h
    exact hr _ _ dX5_at_17
  · replace h := (if_neg c_1).symm.trans h
    refine r_iload_n C 1 (q := 5) dX5_at_4 rfl rfl ?_
    refine r_aload_n C 0 (q := 6) dX5_at_5 rfl rfl ?_
    refine r_alen8 C (q := 7) dX5_at_6 hx0 rfl ?_
    refine r_icmp_ge C (tgt := 16) (q := 10) dX5_at_7 (by decide) rfl (fun c_7 => ?_) (fun c_7 => ?_)
    · replace h := (if_pos c_7).symm.trans h
      refine r_iconst C (v := 0) (q := 17) dX5_at_16 (by decide) rfl ?_
      obtain rfl := Option.some.inj h
      exact hr _ _ dX5_at_17
    · replace h := (if_neg c_7).symm.trans h
      refine r_aload_n C 0 (q := 11) dX5_at_10 rfl rfl ?_
      refine r_iload_n C 1 (q := 12) dX5_at_11 rfl rfl ?_
      obtain ⟨v_12, e_12, h⟩ := bs h
      refine r_iald C (q := 13) dX5_at_12 hx0 e_12 rfl ?_
      refine r_goto C (tgt := 17) dX5_at_13 (by decide) ?_
      obtain rfl := Option.some.inj h
      exact hr _ _ dX5_at_17

theorem m_X5_at (G : Gm) (l : Launch) {σ : St} {x0 : Nat} {x1 : Int32} (hx0 : kd x0 = 8) {r : Int32} (h : f_X5_at σ x0 x1 = some r) : Ctr G l yX5_at cX5_at 2 (some .int) 0 0 [.ref (G.1 x0), .int x1] σ (some (.int r)) True σ := by
  refine Ctr.i (by decide) (Nat.le_of_ble_eq_true rfl) ?_
  intro X hG C hr
  subst hG
  exact w_X5_at_b0 C hr _ _ hx0 h
-- X0_locksWithin
set_option maxHeartbeats 4000000 in
set_option maxRecDepth 100000 in
theorem w_X0_locksWithin_b0 {X : CX} (C : Cok X RX0 cX0_locksWithin 3 1 21) {σ : St} {r : Int32} (hr : RtI X cX0_locksWithin r σ) (x0 : Nat) (x1 : Int32) (x2 : Int32) (hx0 : kd x0 = 1) (h : f_X0_locksWithin σ x0 x1 x2 = some r) : V X σ 0 [(0, .ref ((xG X).1 x0)), (1, .int x1), (2, .int x2)] [] := by
  unfold f_X0_locksWithin at h
  refine r_aload_n C 0 (q := 1) dX0_locksWithin_0 rfl rfl ?_
  refine g_X0_11 C (q := 4) dX0_locksWithin_1 q_92 hx0 rfl ?_
  refine r_iload_n C 1 (q := 5) dX0_locksWithin_4 rfl rfl ?_
  refine r_iconst C (v := 5) (q := 6) dX0_locksWithin_5 (by decide) rfl ?_
  refine r_imul C (q := 7) dX0_locksWithin_6 rfl ?_
  refine r_iload_n C 2 (q := 8) dX0_locksWithin_7 rfl rfl ?_
  refine r_iadd C (q := 9) dX0_locksWithin_8 rfl ?_
  obtain ⟨v_9, e_9, h⟩ := bs h
  refine r_callN C (st := []) (st2 := [.int v_9]) (q := 12) (m_X5_at (xG X) (xl X) (kf_X0_11 hx0) e_9) ok_X5_at nst_5 rfl ⟨Nat.le_of_ble_eq_true rfl, Nat.le_of_ble_eq_true rfl⟩ rfl rfl (Nat.le_of_ble_eq_true rfl) dX0_locksWithin_9 rfl (fun hp_9 => ?_)
  obtain rfl := Option.some.inj h
  exact hr _ _ dX0_locksWithin_12

theorem m_X0_locksWithin (G : Gm) (l : Launch) {σ : St} {x0 : Nat} {x1 : Int32} {x2 : Int32} (hx0 : kd x0 = 1) {r : Int32} (h : f_X0_locksWithin σ x0 x1 x2 = some r) : Ctr G l yX0_locksWithin cX0_locksWithin 3 (some .int) 1 21 [.ref (G.1 x0), .int x1, .int x2] σ (some (.int r)) True σ := by
  refine Ctr.i (by decide) (Nat.le_of_ble_eq_true rfl) ?_
  intro X hG C hr
  subst hG
  exact w_X0_locksWithin_b0 C hr _ _ _ hx0 h
-- X0_putAsks
set_option maxHeartbeats 4000000 in
set_option maxRecDepth 100000 in
theorem w_X0_putAsks_b67 {X : CX} (C : Cok X RX0 cX0_putAsks 7 2 43) {σ' : St} (hr : RtV X cX0_putAsks σ') (k_21 : St → Nat → Int32 → Int32 → Int32 → Int32 → Option St) (hk_21 : ∀ (σ : St) (x0 : Nat) (x2 : Int32) (x3 : Int32) (x4 : Int32) (x5 : Int32), kd x0 = 1 → k_21 σ x0 x2 x3 x4 x5 = some σ' → V X σ 21 [(0, .ref ((xG X).1 x0)), (2, .int x2), (3, .int x3), (4, .int x4), (5, .int x5)] []) (σ : St) (x0 : Nat) (x2 : Int32) (x3 : Int32) (x4 : Int32) (x5 : Int32) (t0 : Nat) (t1 : Int32) (t2 : Int32) (hx0 : kd x0 = 1) (ht0 : kd t0 = 8) (h : f_X0_putAsks_b67 k_21 σ x0 x2 x3 x4 x5 t0 t1 t2 = some σ') : V X σ 67 [(0, .ref ((xG X).1 x0)), (2, .int x2), (3, .int x3), (4, .int x4), (5, .int x5)] [.int t2, .int t1, .ref ((xG X).1 t0)] := by
  unfold f_X0_putAsks_b67 at h
  obtain ⟨s_67, e_67, h⟩ := bs h
  refine r_callN C (st := []) (st2 := []) (q := 70) (m_X5_put (xG X) (xl X) ht0 e_67) ok_X5_put nst_6 rfl ⟨Nat.le_of_ble_eq_true rfl, Nat.le_of_ble_eq_true rfl⟩ rfl rfl (Nat.le_of_ble_eq_true rfl) dX0_putAsks_67 rfl (fun hp_67 => ?_)
  obtain ⟨y_70, e_70, h⟩ := bs h
  refine r_iinc C (v := y_70) (lv' := [(5, .int y_70), (0, .ref ((xG X).1 x0)), (2, .int x2), (3, .int x3), (4, .int x4)]) (q := 73) 4 dX0_putAsks_70 rfl (Option.some.inj e_70) (by decide) rfl rfl ?_
  refine r_goto C (tgt := 21) dX0_putAsks_73 (by decide) ?_
  refine r_sub (lv' := [(0, .ref ((xG X).1 x0)), (2, .int x2), (3, .int x3), (4, .int x4), (5, .int y_70)]) [1, 2, 3, 4, 0] rfl ?_
  exact hk_21 _ _ _ _ _ _ hx0 h

set_option maxHeartbeats 4000000 in
set_option maxRecDepth 100000 in
theorem w_X0_putAsks_b21 {X : CX} (C : Cok X RX0 cX0_putAsks 7 2 43) {σ' : St} (hr : RtV X cX0_putAsks σ') (k_21 : St → Nat → Int32 → Int32 → Int32 → Int32 → Option St) (hk_21 : ∀ (σ : St) (x0 : Nat) (x2 : Int32) (x3 : Int32) (x4 : Int32) (x5 : Int32), kd x0 = 1 → k_21 σ x0 x2 x3 x4 x5 = some σ' → V X σ 21 [(0, .ref ((xG X).1 x0)), (2, .int x2), (3, .int x3), (4, .int x4), (5, .int x5)] []) (σ : St) (x0 : Nat) (x2 : Int32) (x3 : Int32) (x4 : Int32) (x5 : Int32) (hx0 : kd x0 = 1) (h : f_X0_putAsks_b21 k_21 σ x0 x2 x3 x4 x5 = some σ') : V X σ 21 [(0, .ref ((xG X).1 x0)), (2, .int x2), (3, .int x3), (4, .int x4), (5, .int x5)] [] := by
  unfold f_X0_putAsks_b21 at h
  refine r_iload C 4 (q := 23) dX0_putAsks_21 rfl rfl ?_
  refine r_iconst C (v := 5) (q := 24) dX0_putAsks_23 (by decide) rfl ?_
  refine r_icmp_ge C (tgt := 76) (q := 27) dX0_putAsks_24 (by decide) rfl (fun c_24 => ?_) (fun c_24 => ?_)
  · replace h := (if_pos c_24).symm.trans h
    obtain rfl := Option.some.inj h
    exact hr _ _ dX0_putAsks_76
  · replace h := (if_neg c_24).symm.trans h
    refine r_aload_n C 0 (q := 28) dX0_putAsks_27 rfl rfl ?_
    refine r_iload_n C 1 (q := 29) dX0_putAsks_28 rfl rfl ?_
    refine r_iload C 4 (q := 31) dX0_putAsks_29 rfl rfl ?_
    obtain ⟨v_31, e_31, h⟩ := bs h
    refine r_callV C (ci := 0) (st := []) (st2 := [.int v_31]) (q := 34) (m_X0_locksWithin (xG X) (xl X) hx0 e_31) ok_X0_locksWithin hx0 rfl ⟨_, rfl⟩ q_445 rfl ⟨Nat.le_of_ble_eq_true rfl, Nat.le_of_ble_eq_true rfl⟩ rfl rfl (Nat.le_of_ble_eq_true rfl) dX0_putAsks_31 rfl (fun hp_31 => ?_)
    refine r_iload C 3 (q := 36) dX0_putAsks_34 rfl rfl ?_
    refine r_iconst C (v := (-1)) (q := 37) dX0_putAsks_36 (by decide) rfl ?_
    refine r_ixor C (q := 38) dX0_putAsks_37 rfl ?_
    refine r_iand C (q := 39) dX0_putAsks_38 rfl ?_
    obtain ⟨y_39, e_39, h⟩ := bs h
    refine r_topI (Option.some.inj e_39) ?_
    refine r_istore C (lv' := [(6, .int y_39), (0, .ref ((xG X).1 x0)), (2, .int x2), (3, .int x3), (4, .int x4), (5, .int x5)]) (q := 41) dX0_putAsks_39 (by decide) rfl rfl ?_
    refine r_aload_n C 1 (q := 42) dX0_putAsks_41 rfl rfl ?_
    refine g_X0_11 C (q := 45) dX0_putAsks_42 q_92 hx0 rfl ?_
    refine r_iload_n C 2 (q := 46) dX0_putAsks_45 rfl rfl ?_
    refine r_iconst C (v := 5) (q := 47) dX0_putAsks_46 (by decide) rfl ?_
    refine r_imul C (q := 48) dX0_putAsks_47 rfl ?_
    refine r_iload C 5 (q := 50) dX0_putAsks_48 rfl rfl ?_
    refine r_iadd C (q := 51) dX0_putAsks_50 rfl ?_
    refine r_iload C 5 (q := 53) dX0_putAsks_51 rfl rfl ?_
    refine r_iload_n C 3 (q := 54) dX0_putAsks_53 rfl rfl ?_
    refine r_icmp_lt C (tgt := 65) (q := 57) dX0_putAsks_54 (by decide) rfl (fun c_54 => ?_) (fun c_54 => ?_)
    · replace h := (if_pos c_54).symm.trans h
      refine r_iload C 0 (q := 67) dX0_putAsks_65 rfl rfl ?_
      refine r_sub (lv' := [(0, .ref ((xG X).1 x0)), (2, .int x2), (3, .int x3), (4, .int x4), (5, .int x5)]) [1, 2, 3, 4, 5] rfl ?_
      exact w_X0_putAsks_b67 C hr _ hk_21 _ _ _ _ _ _ _ _ _ hx0 (kf_X0_11 hx0) h
    · replace h := (if_neg c_54).symm.trans h
      refine r_iload C 0 (q := 59) dX0_putAsks_57 rfl rfl ?_
      refine r_iload C 4 (q := 61) dX0_putAsks_59 rfl rfl ?_
      refine r_ior C (q := 62) dX0_putAsks_61 rfl ?_
      refine r_goto C (tgt := 67) dX0_putAsks_62 (by decide) ?_
      refine r_sub (lv' := [(0, .ref ((xG X).1 x0)), (2, .int x2), (3, .int x3), (4, .int x4), (5, .int x5)]) [1, 2, 3, 4, 5] rfl ?_
      exact w_X0_putAsks_b67 C hr _ hk_21 _ _ _ _ _ _ _ _ _ hx0 (kf_X0_11 hx0) h

theorem w_X0_putAsks_l21 {X : CX} (C : Cok X RX0 cX0_putAsks 7 2 43) {σ' : St} (hr : RtV X cX0_putAsks σ') (n : Nat) : ∀ (σ : St) (x0 : Nat) (x2 : Int32) (x3 : Int32) (x4 : Int32) (x5 : Int32), kd x0 = 1 → f_X0_putAsks_l21 n σ x0 x2 x3 x4 x5 = some σ' → V X σ 21 [(0, .ref ((xG X).1 x0)), (2, .int x2), (3, .int x3), (4, .int x4), (5, .int x5)] [] := by
  induction n with
  | zero =>
    intro σ x0 x2 x3 x4 x5 hx0 h
    exact nomatch (show (none : Option St) = some σ' from h)
  | succ n ih =>
    intro σ x0 x2 x3 x4 x5 hx0 h
    exact w_X0_putAsks_b21 C hr _ ih σ x0 x2 x3 x4 x5 hx0 h
set_option maxHeartbeats 4000000 in
set_option maxRecDepth 100000 in
theorem w_X0_putAsks_b0 {X : CX} (C : Cok X RX0 cX0_putAsks 7 2 43) {σ' : St} (hr : RtV X cX0_putAsks σ') (σ : St) (x0 : Nat) (x1 : Int32) (x2 : Int32) (x3 : Int32) (hx0 : kd x0 = 1) (h : f_X0_putAsks σ x0 x1 x2 x3 = some σ') : V X σ 0 [(0, .ref ((xG X).1 x0)), (1, .int x1), (2, .int x2), (3, .int x3)] [] := by
  unfold f_X0_putAsks at h
  refine r_aload_n C 0 (q := 1) dX0_putAsks_0 rfl rfl ?_
  refine g_X0_10 C (q := 4) dX0_putAsks_1 q_91 hx0 rfl ?_
  refine r_iload_n C 1 (q := 5) dX0_putAsks_4 rfl rfl ?_
  refine r_iconst C (v := 5) (q := 6) dX0_putAsks_5 (by decide) rfl ?_
  refine r_imul C (q := 7) dX0_putAsks_6 rfl ?_
  refine r_iload_n C 2 (q := 8) dX0_putAsks_7 rfl rfl ?_
  refine r_iadd C (q := 9) dX0_putAsks_8 rfl ?_
  refine r_iload_n C 3 (q := 10) dX0_putAsks_9 rfl rfl ?_
  obtain ⟨s_10, e_10, h⟩ := bs h
  refine r_callN C (st := []) (st2 := []) (q := 13) (m_X5_put (xG X) (xl X) (kf_X0_10 hx0) e_10) ok_X5_put nst_6 rfl ⟨Nat.le_of_ble_eq_true rfl, Nat.le_of_ble_eq_true rfl⟩ rfl rfl (Nat.le_of_ble_eq_true rfl) dX0_putAsks_10 rfl (fun hp_10 => ?_)
  refine r_iconst C (v := 1) (q := 14) dX0_putAsks_13 (by decide) rfl ?_
  refine r_iload_n C 1 (q := 15) dX0_putAsks_14 rfl rfl ?_
  refine r_ishl C (q := 16) dX0_putAsks_15 rfl ?_
  obtain ⟨y_16, e_16, h⟩ := bs h
  refine r_topI (Option.some.inj e_16) ?_
  refine r_istore C (lv' := [(4, .int y_16), (0, .ref ((xG X).1 x0)), (1, .int x1), (2, .int x2), (3, .int x3)]) (q := 18) dX0_putAsks_16 (by decide) rfl rfl ?_
  refine r_iconst C (v := 0) (q := 19) dX0_putAsks_18 (by decide) rfl ?_
  refine r_istore C (lv' := [(5, .int 0), (4, .int y_16), (0, .ref ((xG X).1 x0)), (1, .int x1), (2, .int x2), (3, .int x3)]) (q := 21) dX0_putAsks_19 (by decide) rfl rfl ?_
  refine r_sub (lv' := [(0, .ref ((xG X).1 x0)), (2, .int x2), (3, .int x3), (4, .int y_16), (5, .int 0)]) [2, 4, 5, 1, 0] rfl ?_
  exact w_X0_putAsks_l21 C hr  FU _ _ _ _ _ _ hx0 h

theorem m_X0_putAsks (G : Gm) (l : Launch) {σ σ' : St} {x0 : Nat} {x1 : Int32} {x2 : Int32} {x3 : Int32} (hx0 : kd x0 = 1) (h : f_X0_putAsks σ x0 x1 x2 x3 = some σ') : Ctr G l yX0_putAsks cX0_putAsks 7 none 2 43 [.ref (G.1 x0), .int x1, .int x2, .int x3] σ none True σ' := by
  refine Ctr.v (by decide) (Nat.le_of_ble_eq_true rfl) ?_
  intro X hG C hr
  subst hG
  exact w_X0_putAsks_b0 C hr _ _ _ _ _ hx0 h
-- X0_addLock
set_option maxHeartbeats 4000000 in
set_option maxRecDepth 100000 in
theorem w_X0_addLock_b51 {X : CX} (C : Cok X RX0 cX0_addLock 4 3 69) {σ' : St} {r : Int32} (hr : RtI X cX0_addLock r σ') (k_51 : St → Nat → Int32 → Int32 → Option (Int32 × St)) (hk_51 : ∀ (σ : St) (x0 : Nat) (x2 : Int32) (x3 : Int32), kd x0 = 1 → k_51 σ x0 x2 x3 = some (r, σ') → V X σ 51 [(0, .ref ((xG X).1 x0)), (2, .int x2), (3, .int x3)] []) (σ : St) (x0 : Nat) (x2 : Int32) (x3 : Int32) (hx0 : kd x0 = 1) (h : f_X0_addLock_b51 k_51 σ x0 x2 x3 = some (r, σ')) : V X σ 51 [(0, .ref ((xG X).1 x0)), (2, .int x2), (3, .int x3)] [] := by
  unfold f_X0_addLock_b51 at h
  refine r_iload_n C 2 (q := 52) dX0_addLock_51 rfl rfl ?_
  refine r_iconst C (v := 5) (q := 53) dX0_addLock_52 (by decide) rfl ?_
  refine r_icmp_ge C (tgt := 69) (q := 56) dX0_addLock_53 (by decide) rfl (fun c_53 => ?_) (fun c_53 => ?_)
  · replace h := (if_pos c_53).symm.trans h
    refine r_iload_n C 1 (q := 70) dX0_addLock_69 rfl rfl ?_
    obtain ⟨rfl, rfl⟩ := Prod.mk.inj (Option.some.inj h)
    exact hr _ _ dX0_addLock_70
  · replace h := (if_neg c_53).symm.trans h
    refine r_aload_n C 0 (q := 57) dX0_addLock_56 rfl rfl ?_
    refine r_iload_n C 1 (q := 58) dX0_addLock_57 rfl rfl ?_
    refine r_iload_n C 2 (q := 59) dX0_addLock_58 rfl rfl ?_
    refine r_iconst C (v := 0) (q := 60) dX0_addLock_59 (by decide) rfl ?_
    obtain ⟨s_60, e_60, h⟩ := bs h
    refine r_callV C (ci := 0) (st := []) (st2 := []) (q := 63) (m_X0_putAsks (xG X) (xl X) hx0 e_60) ok_X0_putAsks hx0 rfl ⟨_, rfl⟩ q_440 rfl ⟨Nat.le_of_ble_eq_true rfl, Nat.le_of_ble_eq_true rfl⟩ rfl rfl (Nat.le_of_ble_eq_true rfl) dX0_addLock_60 rfl (fun hp_60 => ?_)
    obtain ⟨y_63, e_63, h⟩ := bs h
    refine r_iinc C (v := y_63) (lv' := [(3, .int y_63), (0, .ref ((xG X).1 x0)), (2, .int x2)]) (q := 66) 2 dX0_addLock_63 rfl (Option.some.inj e_63) (by decide) rfl rfl ?_
    refine r_goto C (tgt := 51) dX0_addLock_66 (by decide) ?_
    refine r_sub (lv' := [(0, .ref ((xG X).1 x0)), (2, .int x2), (3, .int y_63)]) [1, 2, 0] rfl ?_
    exact hk_51 _ _ _ _ hx0 h

theorem w_X0_addLock_l51 {X : CX} (C : Cok X RX0 cX0_addLock 4 3 69) {σ' : St} {r : Int32} (hr : RtI X cX0_addLock r σ') (n : Nat) : ∀ (σ : St) (x0 : Nat) (x2 : Int32) (x3 : Int32), kd x0 = 1 → f_X0_addLock_l51 n σ x0 x2 x3 = some (r, σ') → V X σ 51 [(0, .ref ((xG X).1 x0)), (2, .int x2), (3, .int x3)] [] := by
  induction n with
  | zero =>
    intro σ x0 x2 x3 hx0 h
    exact nomatch (show (none : Option (Int32 × St)) = some (r, σ') from h)
  | succ n ih =>
    intro σ x0 x2 x3 hx0 h
    exact w_X0_addLock_b51 C hr _ ih σ x0 x2 x3 hx0 h
set_option maxHeartbeats 4000000 in
set_option maxRecDepth 100000 in
theorem w_X0_addLock_b46 {X : CX} (C : Cok X RX0 cX0_addLock 4 3 69) {σ' : St} {r : Int32} (hr : RtI X cX0_addLock r σ') (σ : St) (x0 : Nat) (x2 : Int32) (t0 : Nat) (t1 : Int32) (hx0 : kd x0 = 1) (ht0 : kd t0 = 1) (h : f_X0_addLock_b46 σ x0 x2 t0 t1 = some (r, σ')) : V X σ 46 [(0, .ref ((xG X).1 x0)), (2, .int x2)] [.int t1, .ref ((xG X).1 t0)] := by
  unfold f_X0_addLock_b46 at h
  obtain ⟨s_46, e_46, h⟩ := bs h
  refine p_X0_7 C (q := 49) dX0_addLock_46 q_85 ht0 e_46 rfl ?_
  refine r_iconst C (v := 0) (q := 50) dX0_addLock_49 (by decide) rfl ?_
  refine r_istore_n C (lv' := [(3, .int 0), (0, .ref ((xG X).1 x0)), (2, .int x2)]) (q := 51) dX0_addLock_50 rfl (by decide) rfl rfl ?_
  refine r_sub (lv' := [(0, .ref ((xG X).1 x0)), (2, .int x2), (3, .int 0)]) [1, 2, 0] rfl ?_
  exact w_X0_addLock_l51 C hr  FU _ _ _ _ hx0 h

set_option maxHeartbeats 4000000 in
set_option maxRecDepth 100000 in
theorem w_X0_addLock_b0 {X : CX} (C : Cok X RX0 cX0_addLock 4 3 69) {σ' : St} {r : Int32} (hr : RtI X cX0_addLock r σ') (σ : St) (x0 : Nat) (x1 : Int32) (hx0 : kd x0 = 1) (h : f_X0_addLock σ x0 x1 = some (r, σ')) : V X σ 0 [(0, .ref ((xG X).1 x0)), (1, .int x1)] [] := by
  unfold f_X0_addLock at h
  refine r_aload_n C 0 (q := 1) dX0_addLock_0 rfl rfl ?_
  refine g_X0_6 C (q := 4) dX0_addLock_1 q_81 hx0 rfl ?_
  refine r_bipush C (v := 8) (q := 6) dX0_addLock_4 (by decide) rfl ?_
  refine r_icmp_lt C (tgt := 11) (q := 9) dX0_addLock_6 (by decide) rfl (fun c_6 => ?_) (fun c_6 => ?_)
  · replace h := (if_pos c_6).symm.trans h
    refine r_aload_n C 0 (q := 12) dX0_addLock_11 rfl rfl ?_
    refine g_X0_6 C (q := 15) dX0_addLock_12 q_81 hx0 rfl ?_
    obtain ⟨y_15, e_15, h⟩ := bs h
    refine r_topI (Option.some.inj e_15) ?_
    refine r_istore_n C (lv' := [(2, .int y_15), (0, .ref ((xG X).1 x0)), (1, .int x1)]) (q := 16) dX0_addLock_15 rfl (by decide) rfl rfl ?_
    refine r_aload_n C 1 (q := 17) dX0_addLock_16 rfl rfl ?_
    refine r_dup C (q := 18) dX0_addLock_17 rfl rfl ?_
    refine g_X0_6 C (q := 21) dX0_addLock_18 q_81 hx0 rfl ?_
    refine r_iconst C (v := 1) (q := 22) dX0_addLock_21 (by decide) rfl ?_
    refine r_iadd C (q := 23) dX0_addLock_22 rfl ?_
    obtain ⟨s_23, e_23, h⟩ := bs h
    refine p_X0_6 C (q := 26) dX0_addLock_23 q_81 hx0 e_23 rfl ?_
    refine r_aload_n C 1 (q := 27) dX0_addLock_26 rfl rfl ?_
    refine r_iload_n C 2 (q := 28) dX0_addLock_27 rfl rfl ?_
    refine r_if_eq C (tgt := 42) (q := 31) dX0_addLock_28 (by decide) rfl (fun c_28 => ?_) (fun c_28 => ?_)
    · replace h := (if_pos c_28).symm.trans h
      refine r_aload_n C 1 (q := 43) dX0_addLock_42 rfl rfl ?_
      refine g_X0_7 C (q := 46) dX0_addLock_43 q_85 hx0 rfl ?_
      refine r_sub (lv' := [(0, .ref ((xG X).1 x0)), (2, .int y_15)]) [1, 0] rfl ?_
      exact w_X0_addLock_b46 C hr  _ _ _ _ _ hx0 hx0 h
    · replace h := (if_neg c_28).symm.trans h
      refine r_aload_n C 1 (q := 32) dX0_addLock_31 rfl rfl ?_
      refine g_X0_7 C (q := 35) dX0_addLock_32 q_85 hx0 rfl ?_
      refine r_iconst C (v := 1) (q := 36) dX0_addLock_35 (by decide) rfl ?_
      refine r_iload_n C 0 (q := 37) dX0_addLock_36 rfl rfl ?_
      refine r_ishl C (q := 38) dX0_addLock_37 rfl ?_
      refine r_ior C (q := 39) dX0_addLock_38 rfl ?_
      refine r_goto C (tgt := 46) dX0_addLock_39 (by decide) ?_
      refine r_sub (lv' := [(0, .ref ((xG X).1 x0)), (2, .int y_15)]) [1, 0] rfl ?_
      exact w_X0_addLock_b46 C hr  _ _ _ _ _ hx0 hx0 h
  · replace h := (if_neg c_6).symm.trans h
    refine r_iconst C (v := (-1)) (q := 10) dX0_addLock_9 (by decide) rfl ?_
    obtain ⟨rfl, rfl⟩ := Prod.mk.inj (Option.some.inj h)
    exact hr _ _ dX0_addLock_10

theorem m_X0_addLock (G : Gm) (l : Launch) {σ σ' : St} {x0 : Nat} {x1 : Int32} (hx0 : kd x0 = 1) {r : Int32} (h : f_X0_addLock σ x0 x1 = some (r, σ')) : Ctr G l yX0_addLock cX0_addLock 4 (some .int) 3 69 [.ref (G.1 x0), .int x1] σ (some (.int r)) True σ' := by
  refine Ctr.i (by decide) (Nat.le_of_ble_eq_true rfl) ?_
  intro X hG C hr
  subst hG
  exact w_X0_addLock_b0 C hr _ _ _ hx0 h
-- X5_hasBit
set_option maxHeartbeats 4000000 in
set_option maxRecDepth 100000 in
theorem w_X5_hasBit_b0 {X : CX} (C : Cok X RX5 cX5_hasBit 2 0 0) {σ : St} {r : Int32} (hr : RtZ X cX5_hasBit r σ) (x0 : Int32) (x1 : Int32) (h : f_X5_hasBit x0 x1 = some r) : V X σ 0 [(0, .int x0), (1, .int x1)] [] := by
  unfold f_X5_hasBit at h
  refine r_iload_n C 0 (q := 1) dX5_hasBit_0 rfl rfl ?_
  refine r_iload_n C 1 (q := 2) dX5_hasBit_1 rfl rfl ?_
  refine r_ishr C (q := 3) dX5_hasBit_2 rfl ?_
  refine r_iconst C (v := 1) (q := 4) dX5_hasBit_3 (by decide) rfl ?_
  refine r_iand C (q := 5) dX5_hasBit_4 rfl ?_
  refine r_if_eq C (tgt := 12) (q := 8) dX5_hasBit_5 (by decide) rfl (fun c_5 => ?_) (fun c_5 => ?_)
  · replace h := (if_pos c_5).symm.trans h
    refine r_iconst C (v := 0) (q := 13) dX5_hasBit_12 (by decide) rfl ?_
    obtain rfl := Option.some.inj h
    exact hr _ _ dX5_hasBit_13 (Or.inl rfl)
  · replace h := (if_neg c_5).symm.trans h
    refine r_iconst C (v := 1) (q := 9) dX5_hasBit_8 (by decide) rfl ?_
    refine r_goto C (tgt := 13) dX5_hasBit_9 (by decide) ?_
    obtain rfl := Option.some.inj h
    exact hr _ _ dX5_hasBit_13 (Or.inr rfl)

theorem m_X5_hasBit (G : Gm) (l : Launch) {σ : St} {x0 : Int32} {x1 : Int32} {r : Int32} (h : f_X5_hasBit x0 x1 = some r) : Ctr G l yX5_hasBit cX5_hasBit 2 (some .boolean) 0 0 [.int x0, .int x1] σ (some (.int r)) (r = 0 ∨ r = 1) σ := by
  refine Ctr.z (by decide) (Nat.le_of_ble_eq_true rfl) ?_
  intro X hG C hr
  subst hG
  exact w_X5_hasBit_b0 C hr _ _ h
-- X0_hasWard
set_option maxHeartbeats 4000000 in
set_option maxRecDepth 100000 in
theorem w_X0_hasWard_b0 {X : CX} (C : Cok X RX0 cX0_hasWard 2 1 21) {σ : St} {r : Int32} (hr : RtZ X cX0_hasWard r σ) (x0 : Nat) (x1 : Int32) (hx0 : kd x0 = 1) (h : f_X0_hasWard σ x0 x1 = some r) : V X σ 0 [(0, .ref ((xG X).1 x0)), (1, .int x1)] [] := by
  unfold f_X0_hasWard at h
  refine r_aload_n C 0 (q := 1) dX0_hasWard_0 rfl rfl ?_
  refine g_X0_7 C (q := 4) dX0_hasWard_1 q_85 hx0 rfl ?_
  refine r_iload_n C 1 (q := 5) dX0_hasWard_4 rfl rfl ?_
  obtain ⟨v_5, e_5, h⟩ := bs h
  refine r_callN C (st := []) (st2 := [.int v_5]) (q := 8) (m_X5_hasBit (xG X) (xl X) e_5) ok_X5_hasBit nst_10 rfl ⟨Nat.le_of_ble_eq_true rfl, Nat.le_of_ble_eq_true rfl⟩ rfl rfl (Nat.le_of_ble_eq_true rfl) dX0_hasWard_5 rfl (fun hp_5 => ?_)
  obtain rfl := Option.some.inj h
  exact hr _ _ dX0_hasWard_8 hp_5

theorem m_X0_hasWard (G : Gm) (l : Launch) {σ : St} {x0 : Nat} {x1 : Int32} (hx0 : kd x0 = 1) {r : Int32} (h : f_X0_hasWard σ x0 x1 = some r) : Ctr G l yX0_hasWard cX0_hasWard 2 (some .boolean) 1 21 [.ref (G.1 x0), .int x1] σ (some (.int r)) (r = 0 ∨ r = 1) σ := by
  refine Ctr.z (by decide) (Nat.le_of_ble_eq_true rfl) ?_
  intro X hG C hr
  subst hG
  exact w_X0_hasWard_b0 C hr _ _ hx0 h
-- X0_asksAt
set_option maxHeartbeats 4000000 in
set_option maxRecDepth 100000 in
theorem w_X0_asksAt_b0 {X : CX} (C : Cok X RX0 cX0_asksAt 3 1 21) {σ : St} {r : Int32} (hr : RtI X cX0_asksAt r σ) (x0 : Nat) (x1 : Int32) (x2 : Int32) (hx0 : kd x0 = 1) (h : f_X0_asksAt σ x0 x1 x2 = some r) : V X σ 0 [(0, .ref ((xG X).1 x0)), (1, .int x1), (2, .int x2)] [] := by
  unfold f_X0_asksAt at h
  refine r_aload_n C 0 (q := 1) dX0_asksAt_0 rfl rfl ?_
  refine g_X0_10 C (q := 4) dX0_asksAt_1 q_91 hx0 rfl ?_
  refine r_iload_n C 1 (q := 5) dX0_asksAt_4 rfl rfl ?_
  refine r_iconst C (v := 5) (q := 6) dX0_asksAt_5 (by decide) rfl ?_
  refine r_imul C (q := 7) dX0_asksAt_6 rfl ?_
  refine r_iload_n C 2 (q := 8) dX0_asksAt_7 rfl rfl ?_
  refine r_iadd C (q := 9) dX0_asksAt_8 rfl ?_
  obtain ⟨v_9, e_9, h⟩ := bs h
  refine r_callN C (st := []) (st2 := [.int v_9]) (q := 12) (m_X5_at (xG X) (xl X) (kf_X0_10 hx0) e_9) ok_X5_at nst_5 rfl ⟨Nat.le_of_ble_eq_true rfl, Nat.le_of_ble_eq_true rfl⟩ rfl rfl (Nat.le_of_ble_eq_true rfl) dX0_asksAt_9 rfl (fun hp_9 => ?_)
  obtain rfl := Option.some.inj h
  exact hr _ _ dX0_asksAt_12

theorem m_X0_asksAt (G : Gm) (l : Launch) {σ : St} {x0 : Nat} {x1 : Int32} {x2 : Int32} (hx0 : kd x0 = 1) {r : Int32} (h : f_X0_asksAt σ x0 x1 x2 = some r) : Ctr G l yX0_asksAt cX0_asksAt 3 (some .int) 1 21 [.ref (G.1 x0), .int x1, .int x2] σ (some (.int r)) True σ := by
  refine Ctr.i (by decide) (Nat.le_of_ble_eq_true rfl) ?_
  intro X hG C hr
  subst hG
  exact w_X0_asksAt_b0 C hr _ _ _ hx0 h
-- X0_asksTogether
set_option maxHeartbeats 4000000 in
set_option maxRecDepth 100000 in
theorem w_X0_asksTogether_b4 {X : CX} (C : Cok X RX0 cX0_asksTogether 4 2 43) {σ : St} {r : Int32} (hr : RtI X cX0_asksTogether r σ) (k_4 : Nat → Int32 → Int32 → Int32 → Option Int32) (hk_4 : ∀ (x0 : Nat) (x1 : Int32) (x2 : Int32) (x3 : Int32), kd x0 = 1 → k_4 x0 x1 x2 x3 = some r → V X σ 4 [(0, .ref ((xG X).1 x0)), (1, .int x1), (2, .int x2), (3, .int x3)] []) (x0 : Nat) (x1 : Int32) (x2 : Int32) (x3 : Int32) (hx0 : kd x0 = 1) (h : f_X0_asksTogether_b4 σ k_4 x0 x1 x2 x3 = some r) : V X σ 4 [(0, .ref ((xG X).1 x0)), (1, .int x1), (2, .int x2), (3, .int x3)] [] := by
  unfold f_X0_asksTogether_b4 at h
  refine r_iload_n C 3 (q := 5) dX0_asksTogether_4 rfl rfl ?_
  refine r_aload_n C 0 (q := 6) dX0_asksTogether_5 rfl rfl ?_
  refine g_X0_0 C (q := 9) dX0_asksTogether_6 q_62 hx0 rfl ?_
  refine r_icmp_ge C (tgt := 27) (q := 12) dX0_asksTogether_9 (by decide) rfl (fun c_9 => ?_) (fun c_9 => ?_)
  · replace h := (if_pos c_9).symm.trans h
    refine r_iload_n C 2 (q := 28) dX0_asksTogether_27 rfl rfl ?_
    obtain rfl := Option.some.inj h
    exact hr _ _ dX0_asksTogether_28
  · replace h := (if_neg c_9).symm.trans h
    refine r_iload_n C 2 (q := 13) dX0_asksTogether_12 rfl rfl ?_
    refine r_aload_n C 0 (q := 14) dX0_asksTogether_13 rfl rfl ?_
    refine r_iload_n C 1 (q := 15) dX0_asksTogether_14 rfl rfl ?_
    refine r_iload_n C 3 (q := 16) dX0_asksTogether_15 rfl rfl ?_
    obtain ⟨v_16, e_16, h⟩ := bs h
    refine r_callV C (ci := 0) (st := [.int x2]) (st2 := [.int v_16, .int x2]) (q := 19) (m_X0_asksAt (xG X) (xl X) hx0 e_16) ok_X0_asksAt hx0 rfl ⟨_, rfl⟩ q_659 rfl ⟨Nat.le_of_ble_eq_true rfl, Nat.le_of_ble_eq_true rfl⟩ rfl rfl (Nat.le_of_ble_eq_true rfl) dX0_asksTogether_16 rfl (fun hp_16 => ?_)
    refine r_iadd C (q := 20) dX0_asksTogether_19 rfl ?_
    obtain ⟨y_20, e_20, h⟩ := bs h
    refine r_topI (Option.some.inj e_20) ?_
    refine r_istore_n C (lv' := [(2, .int y_20), (0, .ref ((xG X).1 x0)), (1, .int x1), (3, .int x3)]) (q := 21) dX0_asksTogether_20 rfl (by decide) rfl rfl ?_
    obtain ⟨y_21, e_21, h⟩ := bs h
    refine r_iinc C (v := y_21) (lv' := [(3, .int y_21), (2, .int y_20), (0, .ref ((xG X).1 x0)), (1, .int x1)]) (q := 24) 3 dX0_asksTogether_21 rfl (Option.some.inj e_21) (by decide) rfl rfl ?_
    refine r_goto C (tgt := 4) dX0_asksTogether_24 (by decide) ?_
    refine r_sub (lv' := [(0, .ref ((xG X).1 x0)), (1, .int x1), (2, .int y_20), (3, .int y_21)]) [2, 3, 1, 0] rfl ?_
    exact hk_4 _ _ _ _ hx0 h

theorem w_X0_asksTogether_l4 {X : CX} (C : Cok X RX0 cX0_asksTogether 4 2 43) {σ : St} {r : Int32} (hr : RtI X cX0_asksTogether r σ) (n : Nat) : ∀ (x0 : Nat) (x1 : Int32) (x2 : Int32) (x3 : Int32), kd x0 = 1 → f_X0_asksTogether_l4 σ n x0 x1 x2 x3 = some r → V X σ 4 [(0, .ref ((xG X).1 x0)), (1, .int x1), (2, .int x2), (3, .int x3)] [] := by
  induction n with
  | zero =>
    intro x0 x1 x2 x3 hx0 h
    exact nomatch (show (none : Option Int32) = some r from h)
  | succ n ih =>
    intro x0 x1 x2 x3 hx0 h
    exact w_X0_asksTogether_b4 C hr _ ih x0 x1 x2 x3 hx0 h
set_option maxHeartbeats 4000000 in
set_option maxRecDepth 100000 in
theorem w_X0_asksTogether_b0 {X : CX} (C : Cok X RX0 cX0_asksTogether 4 2 43) {σ : St} {r : Int32} (hr : RtI X cX0_asksTogether r σ) (x0 : Nat) (x1 : Int32) (hx0 : kd x0 = 1) (h : f_X0_asksTogether σ x0 x1 = some r) : V X σ 0 [(0, .ref ((xG X).1 x0)), (1, .int x1)] [] := by
  unfold f_X0_asksTogether at h
  refine r_iconst C (v := 0) (q := 1) dX0_asksTogether_0 (by decide) rfl ?_
  refine r_istore_n C (lv' := [(2, .int 0), (0, .ref ((xG X).1 x0)), (1, .int x1)]) (q := 2) dX0_asksTogether_1 rfl (by decide) rfl rfl ?_
  refine r_iconst C (v := 0) (q := 3) dX0_asksTogether_2 (by decide) rfl ?_
  refine r_istore_n C (lv' := [(3, .int 0), (2, .int 0), (0, .ref ((xG X).1 x0)), (1, .int x1)]) (q := 4) dX0_asksTogether_3 rfl (by decide) rfl rfl ?_
  refine r_sub (lv' := [(0, .ref ((xG X).1 x0)), (1, .int x1), (2, .int 0), (3, .int 0)]) [2, 3, 1, 0] rfl ?_
  exact w_X0_asksTogether_l4 C hr  FU _ _ _ _ hx0 h

theorem m_X0_asksTogether (G : Gm) (l : Launch) {σ : St} {x0 : Nat} {x1 : Int32} (hx0 : kd x0 = 1) {r : Int32} (h : f_X0_asksTogether σ x0 x1 = some r) : Ctr G l yX0_asksTogether cX0_asksTogether 4 (some .int) 2 43 [.ref (G.1 x0), .int x1] σ (some (.int r)) True σ := by
  refine Ctr.i (by decide) (Nat.le_of_ble_eq_true rfl) ?_
  intro X hG C hr
  subst hG
  exact w_X0_asksTogether_b0 C hr _ _ hx0 h
-- X0_asksAsMuch
set_option maxHeartbeats 4000000 in
set_option maxRecDepth 100000 in
theorem w_X0_asksAsMuch_b2 {X : CX} (C : Cok X RX0 cX0_asksAsMuch 4 2 43) {σ : St} {r : Int32} (hr : RtZ X cX0_asksAsMuch r σ) (k_2 : Nat → Int32 → Int32 → Int32 → Option Int32) (hk_2 : ∀ (x0 : Nat) (x1 : Int32) (x2 : Int32) (x3 : Int32), kd x0 = 1 → k_2 x0 x1 x2 x3 = some r → V X σ 2 [(0, .ref ((xG X).1 x0)), (1, .int x1), (2, .int x2), (3, .int x3)] []) (x0 : Nat) (x1 : Int32) (x2 : Int32) (x3 : Int32) (hx0 : kd x0 = 1) (h : f_X0_asksAsMuch_b2 σ k_2 x0 x1 x2 x3 = some r) : V X σ 2 [(0, .ref ((xG X).1 x0)), (1, .int x1), (2, .int x2), (3, .int x3)] [] := by
  unfold f_X0_asksAsMuch_b2 at h
  refine r_iload_n C 3 (q := 3) dX0_asksAsMuch_2 rfl rfl ?_
  refine r_aload_n C 0 (q := 4) dX0_asksAsMuch_3 rfl rfl ?_
  refine g_X0_0 C (q := 7) dX0_asksAsMuch_4 q_62 hx0 rfl ?_
  refine r_icmp_ge C (tgt := 33) (q := 10) dX0_asksAsMuch_7 (by decide) rfl (fun c_7 => ?_) (fun c_7 => ?_)
  · replace h := (if_pos c_7).symm.trans h
    refine r_iconst C (v := 1) (q := 34) dX0_asksAsMuch_33 (by decide) rfl ?_
    obtain rfl := Option.some.inj h
    exact hr _ _ dX0_asksAsMuch_34 (Or.inr rfl)
  · replace h := (if_neg c_7).symm.trans h
    refine r_aload_n C 0 (q := 11) dX0_asksAsMuch_10 rfl rfl ?_
    refine r_iload_n C 1 (q := 12) dX0_asksAsMuch_11 rfl rfl ?_
    refine r_iload_n C 3 (q := 13) dX0_asksAsMuch_12 rfl rfl ?_
    obtain ⟨v_13, e_13, h⟩ := bs h
    refine r_callV C (ci := 0) (st := []) (st2 := [.int v_13]) (q := 16) (m_X0_asksAt (xG X) (xl X) hx0 e_13) ok_X0_asksAt hx0 rfl ⟨_, rfl⟩ q_659 rfl ⟨Nat.le_of_ble_eq_true rfl, Nat.le_of_ble_eq_true rfl⟩ rfl rfl (Nat.le_of_ble_eq_true rfl) dX0_asksAsMuch_13 rfl (fun hp_13 => ?_)
    refine r_aload_n C 0 (q := 17) dX0_asksAsMuch_16 rfl rfl ?_
    refine r_iload_n C 2 (q := 18) dX0_asksAsMuch_17 rfl rfl ?_
    refine r_iload_n C 3 (q := 19) dX0_asksAsMuch_18 rfl rfl ?_
    obtain ⟨v_19, e_19, h⟩ := bs h
    refine r_callV C (ci := 0) (st := [.int v_13]) (st2 := [.int v_19, .int v_13]) (q := 22) (m_X0_asksAt (xG X) (xl X) hx0 e_19) ok_X0_asksAt hx0 rfl ⟨_, rfl⟩ q_659 rfl ⟨Nat.le_of_ble_eq_true rfl, Nat.le_of_ble_eq_true rfl⟩ rfl rfl (Nat.le_of_ble_eq_true rfl) dX0_asksAsMuch_19 rfl (fun hp_19 => ?_)
    refine r_icmp_ge C (tgt := 27) (q := 25) dX0_asksAsMuch_22 (by decide) rfl (fun c_22 => ?_) (fun c_22 => ?_)
    · replace h := (if_pos c_22).symm.trans h
      obtain ⟨y_27, e_27, h⟩ := bs h
      refine r_iinc C (v := y_27) (lv' := [(3, .int y_27), (0, .ref ((xG X).1 x0)), (1, .int x1), (2, .int x2)]) (q := 30) 3 dX0_asksAsMuch_27 rfl (Option.some.inj e_27) (by decide) rfl rfl ?_
      refine r_goto C (tgt := 2) dX0_asksAsMuch_30 (by decide) ?_
      refine r_sub (lv' := [(0, .ref ((xG X).1 x0)), (1, .int x1), (2, .int x2), (3, .int y_27)]) [1, 2, 3, 0] rfl ?_
      exact hk_2 _ _ _ _ hx0 h
    · replace h := (if_neg c_22).symm.trans h
      refine r_iconst C (v := 0) (q := 26) dX0_asksAsMuch_25 (by decide) rfl ?_
      obtain rfl := Option.some.inj h
      exact hr _ _ dX0_asksAsMuch_26 (Or.inl rfl)

theorem w_X0_asksAsMuch_l2 {X : CX} (C : Cok X RX0 cX0_asksAsMuch 4 2 43) {σ : St} {r : Int32} (hr : RtZ X cX0_asksAsMuch r σ) (n : Nat) : ∀ (x0 : Nat) (x1 : Int32) (x2 : Int32) (x3 : Int32), kd x0 = 1 → f_X0_asksAsMuch_l2 σ n x0 x1 x2 x3 = some r → V X σ 2 [(0, .ref ((xG X).1 x0)), (1, .int x1), (2, .int x2), (3, .int x3)] [] := by
  induction n with
  | zero =>
    intro x0 x1 x2 x3 hx0 h
    exact nomatch (show (none : Option Int32) = some r from h)
  | succ n ih =>
    intro x0 x1 x2 x3 hx0 h
    exact w_X0_asksAsMuch_b2 C hr _ ih x0 x1 x2 x3 hx0 h
set_option maxHeartbeats 4000000 in
set_option maxRecDepth 100000 in
theorem w_X0_asksAsMuch_b0 {X : CX} (C : Cok X RX0 cX0_asksAsMuch 4 2 43) {σ : St} {r : Int32} (hr : RtZ X cX0_asksAsMuch r σ) (x0 : Nat) (x1 : Int32) (x2 : Int32) (hx0 : kd x0 = 1) (h : f_X0_asksAsMuch σ x0 x1 x2 = some r) : V X σ 0 [(0, .ref ((xG X).1 x0)), (1, .int x1), (2, .int x2)] [] := by
  unfold f_X0_asksAsMuch at h
  refine r_iconst C (v := 0) (q := 1) dX0_asksAsMuch_0 (by decide) rfl ?_
  refine r_istore_n C (lv' := [(3, .int 0), (0, .ref ((xG X).1 x0)), (1, .int x1), (2, .int x2)]) (q := 2) dX0_asksAsMuch_1 rfl (by decide) rfl rfl ?_
  refine r_sub (lv' := [(0, .ref ((xG X).1 x0)), (1, .int x1), (2, .int x2), (3, .int 0)]) [1, 2, 3, 0] rfl ?_
  exact w_X0_asksAsMuch_l2 C hr  FU _ _ _ _ hx0 h

theorem m_X0_asksAsMuch (G : Gm) (l : Launch) {σ : St} {x0 : Nat} {x1 : Int32} {x2 : Int32} (hx0 : kd x0 = 1) {r : Int32} (h : f_X0_asksAsMuch σ x0 x1 x2 = some r) : Ctr G l yX0_asksAsMuch cX0_asksAsMuch 4 (some .boolean) 2 43 [.ref (G.1 x0), .int x1, .int x2] σ (some (.int r)) (r = 0 ∨ r = 1) σ := by
  refine Ctr.z (by decide) (Nat.le_of_ble_eq_true rfl) ?_
  intro X hG C hr
  subst hG
  exact w_X0_asksAsMuch_b0 C hr _ _ _ hx0 h
-- X0_sum
set_option maxHeartbeats 4000000 in
set_option maxRecDepth 100000 in
theorem w_X0_sum_b4 {X : CX} (C : Cok X RX0 cX0_sum 4 0 0) {σ : St} {r : Int32} (hr : RtI X cX0_sum r σ) (k_4 : Nat → Nat → Int32 → Int32 → Option Int32) (hk_4 : ∀ (x0 : Nat) (x1 : Nat) (x2 : Int32) (x3 : Int32), kd x0 = 1 → kd x1 = 8 → k_4 x0 x1 x2 x3 = some r → V X σ 4 [(0, .ref ((xG X).1 x0)), (1, .ref ((xG X).1 x1)), (2, .int x2), (3, .int x3)] []) (x0 : Nat) (x1 : Nat) (x2 : Int32) (x3 : Int32) (hx0 : kd x0 = 1) (hx1 : kd x1 = 8) (h : f_X0_sum_b4 σ k_4 x0 x1 x2 x3 = some r) : V X σ 4 [(0, .ref ((xG X).1 x0)), (1, .ref ((xG X).1 x1)), (2, .int x2), (3, .int x3)] [] := by
  unfold f_X0_sum_b4 at h
  refine r_iload_n C 3 (q := 5) dX0_sum_4 rfl rfl ?_
  refine r_aload_n C 0 (q := 6) dX0_sum_5 rfl rfl ?_
  refine g_X0_0 C (q := 9) dX0_sum_6 q_62 hx0 rfl ?_
  refine r_icmp_ge C (tgt := 30) (q := 12) dX0_sum_9 (by decide) rfl (fun c_9 => ?_) (fun c_9 => ?_)
  · replace h := (if_pos c_9).symm.trans h
    refine r_iload_n C 2 (q := 31) dX0_sum_30 rfl rfl ?_
    obtain rfl := Option.some.inj h
    exact hr _ _ dX0_sum_31
  · replace h := (if_neg c_9).symm.trans h
    refine r_iload_n C 3 (q := 13) dX0_sum_12 rfl rfl ?_
    refine r_aload_n C 1 (q := 14) dX0_sum_13 rfl rfl ?_
    refine r_alen8 C (q := 15) dX0_sum_14 hx1 rfl ?_
    refine r_icmp_ge C (tgt := 30) (q := 18) dX0_sum_15 (by decide) rfl (fun c_15 => ?_) (fun c_15 => ?_)
    · replace h := (if_pos c_15).symm.trans h
      refine r_iload_n C 2 (q := 31) dX0_sum_30 rfl rfl ?_
      obtain rfl := Option.some.inj h
      exact hr _ _ dX0_sum_31
    · replace h := (if_neg c_15).symm.trans h
      refine r_iload_n C 2 (q := 19) dX0_sum_18 rfl rfl ?_
      refine r_aload_n C 1 (q := 20) dX0_sum_19 rfl rfl ?_
      refine r_iload_n C 3 (q := 21) dX0_sum_20 rfl rfl ?_
      obtain ⟨v_21, e_21, h⟩ := bs h
      refine r_iald C (q := 22) dX0_sum_21 hx1 e_21 rfl ?_
      refine r_iadd C (q := 23) dX0_sum_22 rfl ?_
      obtain ⟨y_23, e_23, h⟩ := bs h
      refine r_topI (Option.some.inj e_23) ?_
      refine r_istore_n C (lv' := [(2, .int y_23), (0, .ref ((xG X).1 x0)), (1, .ref ((xG X).1 x1)), (3, .int x3)]) (q := 24) dX0_sum_23 rfl (by decide) rfl rfl ?_
      obtain ⟨y_24, e_24, h⟩ := bs h
      refine r_iinc C (v := y_24) (lv' := [(3, .int y_24), (2, .int y_23), (0, .ref ((xG X).1 x0)), (1, .ref ((xG X).1 x1))]) (q := 27) 3 dX0_sum_24 rfl (Option.some.inj e_24) (by decide) rfl rfl ?_
      refine r_goto C (tgt := 4) dX0_sum_27 (by decide) ?_
      refine r_sub (lv' := [(0, .ref ((xG X).1 x0)), (1, .ref ((xG X).1 x1)), (2, .int y_23), (3, .int y_24)]) [2, 3, 1, 0] rfl ?_
      exact hk_4 _ _ _ _ hx0 hx1 h

theorem w_X0_sum_l4 {X : CX} (C : Cok X RX0 cX0_sum 4 0 0) {σ : St} {r : Int32} (hr : RtI X cX0_sum r σ) (n : Nat) : ∀ (x0 : Nat) (x1 : Nat) (x2 : Int32) (x3 : Int32), kd x0 = 1 → kd x1 = 8 → f_X0_sum_l4 σ n x0 x1 x2 x3 = some r → V X σ 4 [(0, .ref ((xG X).1 x0)), (1, .ref ((xG X).1 x1)), (2, .int x2), (3, .int x3)] [] := by
  induction n with
  | zero =>
    intro x0 x1 x2 x3 hx0 hx1 h
    exact nomatch (show (none : Option Int32) = some r from h)
  | succ n ih =>
    intro x0 x1 x2 x3 hx0 hx1 h
    exact w_X0_sum_b4 C hr _ ih x0 x1 x2 x3 hx0 hx1 h
set_option maxHeartbeats 4000000 in
set_option maxRecDepth 100000 in
theorem w_X0_sum_b0 {X : CX} (C : Cok X RX0 cX0_sum 4 0 0) {σ : St} {r : Int32} (hr : RtI X cX0_sum r σ) (x0 : Nat) (x1 : Nat) (hx0 : kd x0 = 1) (hx1 : kd x1 = 8) (h : f_X0_sum σ x0 x1 = some r) : V X σ 0 [(0, .ref ((xG X).1 x0)), (1, .ref ((xG X).1 x1))] [] := by
  unfold f_X0_sum at h
  refine r_iconst C (v := 0) (q := 1) dX0_sum_0 (by decide) rfl ?_
  refine r_istore_n C (lv' := [(2, .int 0), (0, .ref ((xG X).1 x0)), (1, .ref ((xG X).1 x1))]) (q := 2) dX0_sum_1 rfl (by decide) rfl rfl ?_
  refine r_iconst C (v := 0) (q := 3) dX0_sum_2 (by decide) rfl ?_
  refine r_istore_n C (lv' := [(3, .int 0), (2, .int 0), (0, .ref ((xG X).1 x0)), (1, .ref ((xG X).1 x1))]) (q := 4) dX0_sum_3 rfl (by decide) rfl rfl ?_
  refine r_sub (lv' := [(0, .ref ((xG X).1 x0)), (1, .ref ((xG X).1 x1)), (2, .int 0), (3, .int 0)]) [2, 3, 1, 0] rfl ?_
  exact w_X0_sum_l4 C hr  FU _ _ _ _ hx0 hx1 h

theorem m_X0_sum (G : Gm) (l : Launch) {σ : St} {x0 : Nat} {x1 : Nat} (hx0 : kd x0 = 1) (hx1 : kd x1 = 8) {r : Int32} (h : f_X0_sum σ x0 x1 = some r) : Ctr G l yX0_sum cX0_sum 4 (some .int) 0 0 [.ref (G.1 x0), .ref (G.1 x1)] σ (some (.int r)) True σ := by
  refine Ctr.i (by decide) (Nat.le_of_ble_eq_true rfl) ?_
  intro X hG C hr
  subst hG
  exact w_X0_sum_b0 C hr _ _ hx0 hx1 h
-- X0_bears
set_option maxHeartbeats 4000000 in
set_option maxRecDepth 100000 in
theorem w_X0_bears_b21 {X : CX} (C : Cok X RX0 cX0_bears 2 0 0) {σ : St} {r : Int32} (hr : RtI X cX0_bears r σ) (x0 : Nat) (x1 : Nat) (hx0 : kd x0 = 1) (hx1 : kd x1 = 2) (h : f_X0_bears_b21 σ x0 x1 = some r) : V X σ 21 [(0, .ref ((xG X).1 x0)), (1, .ref ((xG X).1 x1))] [] := by
  unfold f_X0_bears_b21 at h
  refine r_aload_n C 0 (q := 22) dX0_bears_21 rfl rfl ?_
  refine g_X0_2 C (q := 25) dX0_bears_22 q_70 hx0 rfl ?_
  refine r_aload_n C 1 (q := 26) dX0_bears_25 rfl rfl ?_
  refine g_X1_1 C (q := 29) dX0_bears_26 q_42 hx1 rfl ?_
  refine r_icmp_le C (tgt := 44) (q := 32) dX0_bears_29 (by decide) rfl (fun c_29 => ?_) (fun c_29 => ?_)
  · replace h := (if_pos c_29).symm.trans h
    refine r_iconst C (v := 0) (q := 45) dX0_bears_44 (by decide) rfl ?_
    obtain rfl := Option.some.inj h
    exact hr _ _ dX0_bears_45
  · replace h := (if_neg c_29).symm.trans h
    refine r_aload_n C 0 (q := 33) dX0_bears_32 rfl rfl ?_
    refine g_X0_2 C (q := 36) dX0_bears_33 q_70 hx0 rfl ?_
    refine r_aload_n C 1 (q := 37) dX0_bears_36 rfl rfl ?_
    refine g_X1_1 C (q := 40) dX0_bears_37 q_42 hx1 rfl ?_
    refine r_isub C (q := 41) dX0_bears_40 rfl ?_
    refine r_goto C (tgt := 45) dX0_bears_41 (by decide) ?_
    obtain rfl := Option.some.inj h
    exact hr _ _ dX0_bears_45

set_option maxHeartbeats 4000000 in
set_option maxRecDepth 100000 in
theorem w_X0_bears_b0 {X : CX} (C : Cok X RX0 cX0_bears 2 0 0) {σ : St} {r : Int32} (hr : RtI X cX0_bears r σ) (x0 : Nat) (x1 : Nat) (hx0 : kd x0 = 1) (hx1 : kd x1 = 2) (h : f_X0_bears σ x0 x1 = some r) : V X σ 0 [(0, .ref ((xG X).1 x0)), (1, .ref ((xG X).1 x1))] [] := by
  unfold f_X0_bears at h
  refine r_aload_n C 1 (q := 1) dX0_bears_0 rfl rfl ?_
  refine g_X1_0 C (q := 4) dX0_bears_1 q_39 hx1 rfl ?_
  refine r_iconst C (v := 2) (q := 5) dX0_bears_4 (by decide) rfl ?_
  refine r_icmp_eq C (tgt := 21) (q := 8) dX0_bears_5 (by decide) rfl (fun c_5 => ?_) (fun c_5 => ?_)
  · replace h := (if_pos c_5).symm.trans h
    exact w_X0_bears_b21 C hr  _ _ hx0 hx1 h
  · replace h := (if_neg c_5).symm.trans h
    refine r_aload_n C 1 (q := 9) dX0_bears_8 rfl rfl ?_
    refine g_X1_0 C (q := 12) dX0_bears_9 q_39 hx1 rfl ?_
    refine r_iconst C (v := 4) (q := 13) dX0_bears_12 (by decide) rfl ?_
    refine r_icmp_eq C (tgt := 21) (q := 16) dX0_bears_13 (by decide) rfl (fun c_13 => ?_) (fun c_13 => ?_)
    · replace h := (if_pos c_13).symm.trans h
      exact w_X0_bears_b21 C hr  _ _ hx0 hx1 h
    · replace h := (if_neg c_13).symm.trans h
      refine r_aload_n C 0 (q := 17) dX0_bears_16 rfl rfl ?_
      refine g_X0_2 C (q := 20) dX0_bears_17 q_70 hx0 rfl ?_
      obtain rfl := Option.some.inj h
      exact hr _ _ dX0_bears_20

theorem m_X0_bears (G : Gm) (l : Launch) {σ : St} {x0 : Nat} {x1 : Nat} (hx0 : kd x0 = 1) (hx1 : kd x1 = 2) {r : Int32} (h : f_X0_bears σ x0 x1 = some r) : Ctr G l yX0_bears cX0_bears 2 (some .int) 0 0 [.ref (G.1 x0), .ref (G.1 x1)] σ (some (.int r)) True σ := by
  refine Ctr.i (by decide) (Nat.le_of_ble_eq_true rfl) ?_
  intro X hG C hr
  subst hG
  exact w_X0_bears_b0 C hr _ _ hx0 hx1 h
-- X0_breaks
set_option maxHeartbeats 4000000 in
set_option maxRecDepth 100000 in
theorem w_X0_breaks_b0 {X : CX} (C : Cok X RX0 cX0_breaks 3 1 23) {σ : St} {r : Int32} (hr : RtZ X cX0_breaks r σ) (x0 : Nat) (x1 : Nat) (x2 : Nat) (hx0 : kd x0 = 1) (hx1 : kd x1 = 2) (hx2 : kd x2 = 8) (h : f_X0_breaks σ x0 x1 x2 = some r) : V X σ 0 [(0, .ref ((xG X).1 x0)), (1, .ref ((xG X).1 x1)), (2, .ref ((xG X).1 x2))] [] := by
  unfold f_X0_breaks at h
  refine r_aload_n C 0 (q := 1) dX0_breaks_0 rfl rfl ?_
  refine r_aload_n C 2 (q := 2) dX0_breaks_1 rfl rfl ?_
  obtain ⟨v_2, e_2, h⟩ := bs h
  refine r_callV C (ci := 0) (st := []) (st2 := [.int v_2]) (q := 5) (m_X0_sum (xG X) (xl X) hx0 hx2 e_2) ok_X0_sum hx0 rfl ⟨_, rfl⟩ q_366 rfl ⟨Nat.le_of_ble_eq_true rfl, Nat.le_of_ble_eq_true rfl⟩ rfl rfl (Nat.le_of_ble_eq_true rfl) dX0_breaks_2 rfl (fun hp_2 => ?_)
  refine r_aload_n C 0 (q := 6) dX0_breaks_5 rfl rfl ?_
  refine r_aload_n C 1 (q := 7) dX0_breaks_6 rfl rfl ?_
  obtain ⟨v_7, e_7, h⟩ := bs h
  refine r_callV C (ci := 0) (st := [.int v_2]) (st2 := [.int v_7, .int v_2]) (q := 10) (m_X0_bears (xG X) (xl X) hx0 hx1 e_7) ok_X0_bears hx0 rfl ⟨_, rfl⟩ q_367 rfl ⟨Nat.le_of_ble_eq_true rfl, Nat.le_of_ble_eq_true rfl⟩ rfl rfl (Nat.le_of_ble_eq_true rfl) dX0_breaks_7 rfl (fun hp_7 => ?_)
  refine r_icmp_le C (tgt := 17) (q := 13) dX0_breaks_10 (by decide) rfl (fun c_10 => ?_) (fun c_10 => ?_)
  · replace h := (if_pos c_10).symm.trans h
    refine r_iconst C (v := 0) (q := 18) dX0_breaks_17 (by decide) rfl ?_
    obtain rfl := Option.some.inj h
    exact hr _ _ dX0_breaks_18 (Or.inl rfl)
  · replace h := (if_neg c_10).symm.trans h
    refine r_iconst C (v := 1) (q := 14) dX0_breaks_13 (by decide) rfl ?_
    refine r_goto C (tgt := 18) dX0_breaks_14 (by decide) ?_
    obtain rfl := Option.some.inj h
    exact hr _ _ dX0_breaks_18 (Or.inr rfl)

theorem m_X0_breaks (G : Gm) (l : Launch) {σ : St} {x0 : Nat} {x1 : Nat} {x2 : Nat} (hx0 : kd x0 = 1) (hx1 : kd x1 = 2) (hx2 : kd x2 = 8) {r : Int32} (h : f_X0_breaks σ x0 x1 x2 = some r) : Ctr G l yX0_breaks cX0_breaks 3 (some .boolean) 1 23 [.ref (G.1 x0), .ref (G.1 x1), .ref (G.1 x2)] σ (some (.int r)) (r = 0 ∨ r = 1) σ := by
  refine Ctr.z (by decide) (Nat.le_of_ble_eq_true rfl) ?_
  intro X hG C hr
  subst hG
  exact w_X0_breaks_b0 C hr _ _ _ hx0 hx1 hx2 h
-- X0_wornPlace
set_option maxHeartbeats 4000000 in
set_option maxRecDepth 100000 in
theorem w_X0_wornPlace_b0 {X : CX} (C : Cok X RX0 cX0_wornPlace 2 0 0) {σ : St} {r : Int32} (hr : RtI X cX0_wornPlace r σ) (x0 : Nat) (x1 : Nat) (hx0 : kd x0 = 1) (hx1 : kd x1 = 2) (h : f_X0_wornPlace σ x0 x1 = some r) : V X σ 0 [(0, .ref ((xG X).1 x0)), (1, .ref ((xG X).1 x1))] [] := by
  unfold f_X0_wornPlace at h
  refine r_aload_n C 1 (q := 1) dX0_wornPlace_0 rfl rfl ?_
  refine g_X1_0 C (q := 4) dX0_wornPlace_1 q_39 hx1 rfl ?_
  refine r_iconst C (v := 1) (q := 5) dX0_wornPlace_4 (by decide) rfl ?_
  refine r_icmp_ne C (tgt := 27) (q := 8) dX0_wornPlace_5 (by decide) rfl (fun c_5 => ?_) (fun c_5 => ?_)
  · replace h := (if_neg c_5).symm.trans h
    refine r_iconst C (v := (-1)) (q := 28) dX0_wornPlace_27 (by decide) rfl ?_
    obtain rfl := Option.some.inj h
    exact hr _ _ dX0_wornPlace_28
  · replace h := (if_pos c_5).symm.trans h
    refine r_aload_n C 0 (q := 9) dX0_wornPlace_8 rfl rfl ?_
    refine g_X0_0 C (q := 12) dX0_wornPlace_9 q_62 hx0 rfl ?_
    refine r_if_le C (tgt := 27) (q := 15) dX0_wornPlace_12 (by decide) rfl (fun c_12 => ?_) (fun c_12 => ?_)
    · replace h := (if_pos c_12).symm.trans h
      refine r_iconst C (v := (-1)) (q := 28) dX0_wornPlace_27 (by decide) rfl ?_
      obtain rfl := Option.some.inj h
      exact hr _ _ dX0_wornPlace_28
    · replace h := (if_neg c_12).symm.trans h
      refine r_aload_n C 1 (q := 16) dX0_wornPlace_15 rfl rfl ?_
      refine g_X1_1 C (q := 19) dX0_wornPlace_16 q_42 hx1 rfl ?_
      refine r_aload_n C 0 (q := 20) dX0_wornPlace_19 rfl rfl ?_
      refine g_X0_0 C (q := 23) dX0_wornPlace_20 q_62 hx0 rfl ?_
      obtain ⟨v_23, e_23, h⟩ := bs h
      refine r_irem C (q := 24) dX0_wornPlace_23 e_23 rfl ?_
      refine r_goto C (tgt := 28) dX0_wornPlace_24 (by decide) ?_
      obtain rfl := Option.some.inj h
      exact hr _ _ dX0_wornPlace_28

theorem m_X0_wornPlace (G : Gm) (l : Launch) {σ : St} {x0 : Nat} {x1 : Nat} (hx0 : kd x0 = 1) (hx1 : kd x1 = 2) {r : Int32} (h : f_X0_wornPlace σ x0 x1 = some r) : Ctr G l yX0_wornPlace cX0_wornPlace 2 (some .int) 0 0 [.ref (G.1 x0), .ref (G.1 x1)] σ (some (.int r)) True σ := by
  refine Ctr.i (by decide) (Nat.le_of_ble_eq_true rfl) ?_
  intro X hG C hr
  subst hG
  exact w_X0_wornPlace_b0 C hr _ _ hx0 hx1 h
-- X0_depth
set_option maxHeartbeats 4000000 in
set_option maxRecDepth 100000 in
theorem w_X0_depth_b0 {X : CX} (C : Cok X RX0 cX0_depth 5 1 21) {σ : St} {r : Int32} (hr : RtI X cX0_depth r σ) (x0 : Nat) (x1 : Nat) (x2 : Nat) (x3 : Int32) (hx0 : kd x0 = 1) (hx1 : kd x1 = 2) (hx2 : kd x2 = 8) (h : f_X0_depth σ x0 x1 x2 x3 = some r) : V X σ 0 [(0, .ref ((xG X).1 x0)), (1, .ref ((xG X).1 x1)), (2, .ref ((xG X).1 x2)), (3, .int x3)] [] := by
  unfold f_X0_depth at h
  refine r_aload_n C 2 (q := 1) dX0_depth_0 rfl rfl ?_
  refine r_iload_n C 3 (q := 2) dX0_depth_1 rfl rfl ?_
  obtain ⟨v_2, e_2, h⟩ := bs h
  refine r_callN C (st := []) (st2 := [.int v_2]) (q := 5) (m_X5_at (xG X) (xl X) hx2 e_2) ok_X5_at nst_5 rfl ⟨Nat.le_of_ble_eq_true rfl, Nat.le_of_ble_eq_true rfl⟩ rfl rfl (Nat.le_of_ble_eq_true rfl) dX0_depth_2 rfl (fun hp_2 => ?_)
  refine r_istore C (lv' := [(4, .int v_2), (0, .ref ((xG X).1 x0)), (1, .ref ((xG X).1 x1)), (2, .ref ((xG X).1 x2)), (3, .int x3)]) (q := 7) dX0_depth_5 (by decide) rfl rfl ?_
  refine r_iload C 0 (q := 9) dX0_depth_7 rfl rfl ?_
  refine r_aload_n C 1 (q := 10) dX0_depth_9 rfl rfl ?_
  refine g_X0_1 C (q := 13) dX0_depth_10 q_66 hx0 rfl ?_
  refine r_icmp_ge C (tgt := 32) (q := 16) dX0_depth_13 (by decide) rfl (fun c_13 => ?_) (fun c_13 => ?_)
  · replace h := (if_pos c_13).symm.trans h
    refine r_iload C 0 (q := 34) dX0_depth_32 rfl rfl ?_
    obtain rfl := Option.some.inj h
    exact hr _ _ dX0_depth_34
  · replace h := (if_neg c_13).symm.trans h
    refine r_iload_n C 4 (q := 17) dX0_depth_16 rfl rfl ?_
    refine r_aload_n C 1 (q := 18) dX0_depth_17 rfl rfl ?_
    refine r_aload_n C 2 (q := 19) dX0_depth_18 rfl rfl ?_
    obtain ⟨v_19, e_19, h⟩ := bs h
    refine r_callV C (ci := 0) (st := [.int x3]) (st2 := [.int v_19, .int x3]) (q := 22) (m_X0_wornPlace (xG X) (xl X) hx0 hx1 e_19) ok_X0_wornPlace hx0 rfl ⟨_, rfl⟩ q_378 rfl ⟨Nat.le_of_ble_eq_true rfl, Nat.le_of_ble_eq_true rfl⟩ rfl rfl (Nat.le_of_ble_eq_true rfl) dX0_depth_19 rfl (fun hp_19 => ?_)
    refine r_icmp_ne C (tgt := 32) (q := 25) dX0_depth_22 (by decide) rfl (fun c_22 => ?_) (fun c_22 => ?_)
    · replace h := (if_neg c_22).symm.trans h
      refine r_iload C 0 (q := 34) dX0_depth_32 rfl rfl ?_
      obtain rfl := Option.some.inj h
      exact hr _ _ dX0_depth_34
    · replace h := (if_pos c_22).symm.trans h
      refine r_iload C 0 (q := 27) dX0_depth_25 rfl rfl ?_
      refine r_iconst C (v := 1) (q := 28) dX0_depth_27 (by decide) rfl ?_
      refine r_iadd C (q := 29) dX0_depth_28 rfl ?_
      refine r_goto C (tgt := 34) dX0_depth_29 (by decide) ?_
      obtain rfl := Option.some.inj h
      exact hr _ _ dX0_depth_34

theorem m_X0_depth (G : Gm) (l : Launch) {σ : St} {x0 : Nat} {x1 : Nat} {x2 : Nat} {x3 : Int32} (hx0 : kd x0 = 1) (hx1 : kd x1 = 2) (hx2 : kd x2 = 8) {r : Int32} (h : f_X0_depth σ x0 x1 x2 x3 = some r) : Ctr G l yX0_depth cX0_depth 5 (some .int) 1 21 [.ref (G.1 x0), .ref (G.1 x1), .ref (G.1 x2), .int x3] σ (some (.int r)) True σ := by
  refine Ctr.i (by decide) (Nat.le_of_ble_eq_true rfl) ?_
  intro X hG C hr
  subst hG
  exact w_X0_depth_b0 C hr _ _ _ _ hx0 hx1 hx2 h
-- X5_firstBits
set_option maxHeartbeats 4000000 in
set_option maxRecDepth 100000 in
theorem w_X5_firstBits_b0 {X : CX} (C : Cok X RX5 cX5_firstBits 1 0 0) {σ : St} {r : Int32} (hr : RtI X cX5_firstBits r σ) (x0 : Int32) (h : f_X5_firstBits x0 = some r) : V X σ 0 [(0, .int x0)] [] := by
  unfold f_X5_firstBits at h
  refine r_iconst C (v := 1) (q := 1) dX5_firstBits_0 (by decide) rfl ?_
  refine r_iload_n C 0 (q := 2) dX5_firstBits_1 rfl rfl ?_
  refine r_ishl C (q := 3) dX5_firstBits_2 rfl ?_
  refine r_iconst C (v := 1) (q := 4) dX5_firstBits_3 (by decide) rfl ?_
  refine r_isub C (q := 5) dX5_firstBits_4 rfl ?_
  obtain rfl := Option.some.inj h
  exact hr _ _ dX5_firstBits_5

theorem m_X5_firstBits (G : Gm) (l : Launch) {σ : St} {x0 : Int32} {r : Int32} (h : f_X5_firstBits x0 = some r) : Ctr G l yX5_firstBits cX5_firstBits 1 (some .int) 0 0 [.int x0] σ (some (.int r)) True σ := by
  refine Ctr.i (by decide) (Nat.le_of_ble_eq_true rfl) ?_
  intro X hG C hr
  subst hG
  exact w_X5_firstBits_b0 C hr _ h
-- X0_fitted
set_option maxHeartbeats 4000000 in
set_option maxRecDepth 100000 in
theorem w_X0_fitted_b60 {X : CX} (C : Cok X RX0 cX0_fitted 8 1 21) {σ : St} {r : Int32} (hr : RtI X cX0_fitted r σ) (k_18 : Nat → Nat → Int32 → Int32 → Int32 → Option Int32) (hk_18 : ∀ (x0 : Nat) (x2 : Nat) (x3 : Int32) (x4 : Int32) (x5 : Int32), kd x0 = 1 → kd x2 = 8 → k_18 x0 x2 x3 x4 x5 = some r → V X σ 18 [(0, .ref ((xG X).1 x0)), (2, .ref ((xG X).1 x2)), (3, .int x3), (4, .int x4), (5, .int x5)] []) (x0 : Nat) (x2 : Nat) (x3 : Int32) (x4 : Int32) (x5 : Int32) (t0 : Int32) (hx0 : kd x0 = 1) (hx2 : kd x2 = 8) (h : f_X0_fitted_b60 σ k_18 x0 x2 x3 x4 x5 t0 = some r) : V X σ 60 [(0, .ref ((xG X).1 x0)), (2, .ref ((xG X).1 x2)), (3, .int x3), (4, .int x4), (5, .int x5)] [.int t0] := by
  unfold f_X0_fitted_b60 at h
  refine r_istore C (lv' := [(7, .int t0), (0, .ref ((xG X).1 x0)), (2, .ref ((xG X).1 x2)), (3, .int x3), (4, .int x4), (5, .int x5)]) (q := 62) dX0_fitted_60 (by decide) rfl rfl ?_
  refine r_iload_n C 3 (q := 63) dX0_fitted_62 rfl rfl ?_
  refine r_aload_n C 1 (q := 64) dX0_fitted_63 rfl rfl ?_
  refine g_X0_11 C (q := 67) dX0_fitted_64 q_92 hx0 rfl ?_
  refine r_iload C 5 (q := 69) dX0_fitted_67 rfl rfl ?_
  refine r_iconst C (v := 5) (q := 70) dX0_fitted_69 (by decide) rfl ?_
  refine r_imul C (q := 71) dX0_fitted_70 rfl ?_
  refine r_iload C 0 (q := 73) dX0_fitted_71 rfl rfl ?_
  refine r_iadd C (q := 74) dX0_fitted_73 rfl ?_
  obtain ⟨v_74, e_74, h⟩ := bs h
  refine r_callN C (st := [.int x3]) (st2 := [.int v_74, .int x3]) (q := 77) (m_X5_at (xG X) (xl X) (kf_X0_11 hx0) e_74) ok_X5_at nst_5 rfl ⟨Nat.le_of_ble_eq_true rfl, Nat.le_of_ble_eq_true rfl⟩ rfl rfl (Nat.le_of_ble_eq_true rfl) dX0_fitted_74 rfl (fun hp_74 => ?_)
  refine r_iand C (q := 78) dX0_fitted_77 rfl ?_
  obtain ⟨y_78, e_78, h⟩ := bs h
  refine r_topI (Option.some.inj e_78) ?_
  refine r_istore_n C (lv' := [(3, .int y_78), (7, .int t0), (0, .ref ((xG X).1 x0)), (2, .ref ((xG X).1 x2)), (4, .int x4), (5, .int x5)]) (q := 79) dX0_fitted_78 rfl (by decide) rfl rfl ?_
  obtain ⟨y_79, e_79, h⟩ := bs h
  refine r_iinc C (v := y_79) (lv' := [(5, .int y_79), (3, .int y_78), (7, .int t0), (0, .ref ((xG X).1 x0)), (2, .ref ((xG X).1 x2)), (4, .int x4)]) (q := 82) 5 dX0_fitted_79 rfl (Option.some.inj e_79) (by decide) rfl rfl ?_
  refine r_goto C (tgt := 18) dX0_fitted_82 (by decide) ?_
  refine r_sub (lv' := [(0, .ref ((xG X).1 x0)), (2, .ref ((xG X).1 x2)), (3, .int y_78), (4, .int x4), (5, .int y_79)]) [3, 4, 1, 5, 0] rfl ?_
  exact hk_18 _ _ _ _ _ hx0 hx2 h

set_option maxHeartbeats 4000000 in
set_option maxRecDepth 100000 in
theorem w_X0_fitted_b58 {X : CX} (C : Cok X RX0 cX0_fitted 8 1 21) {σ : St} {r : Int32} (hr : RtI X cX0_fitted r σ) (k_18 : Nat → Nat → Int32 → Int32 → Int32 → Option Int32) (hk_18 : ∀ (x0 : Nat) (x2 : Nat) (x3 : Int32) (x4 : Int32) (x5 : Int32), kd x0 = 1 → kd x2 = 8 → k_18 x0 x2 x3 x4 x5 = some r → V X σ 18 [(0, .ref ((xG X).1 x0)), (2, .ref ((xG X).1 x2)), (3, .int x3), (4, .int x4), (5, .int x5)] []) (x0 : Nat) (x2 : Nat) (x3 : Int32) (x4 : Int32) (x5 : Int32) (x6 : Int32) (hx0 : kd x0 = 1) (hx2 : kd x2 = 8) (h : f_X0_fitted_b58 σ k_18 x0 x2 x3 x4 x5 x6 = some r) : V X σ 58 [(0, .ref ((xG X).1 x0)), (2, .ref ((xG X).1 x2)), (3, .int x3), (4, .int x4), (5, .int x5), (6, .int x6)] [] := by
  unfold f_X0_fitted_b58 at h
  refine r_iload C 5 (q := 60) dX0_fitted_58 rfl rfl ?_
  refine r_sub (lv' := [(0, .ref ((xG X).1 x0)), (2, .ref ((xG X).1 x2)), (3, .int x3), (4, .int x4), (5, .int x5)]) [0, 1, 2, 3, 4] rfl ?_
  exact w_X0_fitted_b60 C hr _ hk_18 _ _ _ _ _ _ hx0 hx2 h

set_option maxHeartbeats 4000000 in
set_option maxRecDepth 100000 in
theorem w_X0_fitted_b18 {X : CX} (C : Cok X RX0 cX0_fitted 8 1 21) {σ : St} {r : Int32} (hr : RtI X cX0_fitted r σ) (k_18 : Nat → Nat → Int32 → Int32 → Int32 → Option Int32) (hk_18 : ∀ (x0 : Nat) (x2 : Nat) (x3 : Int32) (x4 : Int32) (x5 : Int32), kd x0 = 1 → kd x2 = 8 → k_18 x0 x2 x3 x4 x5 = some r → V X σ 18 [(0, .ref ((xG X).1 x0)), (2, .ref ((xG X).1 x2)), (3, .int x3), (4, .int x4), (5, .int x5)] []) (x0 : Nat) (x2 : Nat) (x3 : Int32) (x4 : Int32) (x5 : Int32) (hx0 : kd x0 = 1) (hx2 : kd x2 = 8) (h : f_X0_fitted_b18 σ k_18 x0 x2 x3 x4 x5 = some r) : V X σ 18 [(0, .ref ((xG X).1 x0)), (2, .ref ((xG X).1 x2)), (3, .int x3), (4, .int x4), (5, .int x5)] [] := by
  unfold f_X0_fitted_b18 at h
  refine r_iload C 4 (q := 20) dX0_fitted_18 rfl rfl ?_
  refine r_aload_n C 0 (q := 21) dX0_fitted_20 rfl rfl ?_
  refine g_X0_0 C (q := 24) dX0_fitted_21 q_62 hx0 rfl ?_
  refine r_icmp_ge C (tgt := 85) (q := 27) dX0_fitted_24 (by decide) rfl (fun c_24 => ?_) (fun c_24 => ?_)
  · replace h := (if_pos c_24).symm.trans h
    refine r_iload_n C 2 (q := 86) dX0_fitted_85 rfl rfl ?_
    obtain rfl := Option.some.inj h
    exact hr _ _ dX0_fitted_86
  · replace h := (if_neg c_24).symm.trans h
    refine r_aload_n C 1 (q := 28) dX0_fitted_27 rfl rfl ?_
    refine r_iload C 4 (q := 30) dX0_fitted_28 rfl rfl ?_
    obtain ⟨v_30, e_30, h⟩ := bs h
    refine r_callN C (st := []) (st2 := [.int v_30]) (q := 33) (m_X5_at (xG X) (xl X) hx2 e_30) ok_X5_at nst_5 rfl ⟨Nat.le_of_ble_eq_true rfl, Nat.le_of_ble_eq_true rfl⟩ rfl rfl (Nat.le_of_ble_eq_true rfl) dX0_fitted_30 rfl (fun hp_30 => ?_)
    refine r_istore C (lv' := [(6, .int v_30), (0, .ref ((xG X).1 x0)), (2, .ref ((xG X).1 x2)), (3, .int x3), (4, .int x4), (5, .int x5)]) (q := 35) dX0_fitted_33 (by decide) rfl rfl ?_
    refine r_iload C 0 (q := 37) dX0_fitted_35 rfl rfl ?_
    refine r_aload_n C 1 (q := 38) dX0_fitted_37 rfl rfl ?_
    refine g_X0_1 C (q := 41) dX0_fitted_38 q_66 hx0 rfl ?_
    refine r_icmp_ge C (tgt := 58) (q := 44) dX0_fitted_41 (by decide) rfl (fun c_41 => ?_) (fun c_41 => ?_)
    · replace h := (if_pos c_41).symm.trans h
      refine r_sub (lv' := [(0, .ref ((xG X).1 x0)), (2, .ref ((xG X).1 x2)), (3, .int x3), (4, .int x4), (5, .int x5), (6, .int v_30)]) [1, 2, 3, 4, 5, 0] rfl ?_
      exact w_X0_fitted_b58 C hr _ hk_18 _ _ _ _ _ _ hx0 hx2 h
    · replace h := (if_neg c_41).symm.trans h
      refine r_iload C 5 (q := 46) dX0_fitted_44 rfl rfl ?_
      refine r_iload C 4 (q := 48) dX0_fitted_46 rfl rfl ?_
      refine r_icmp_ne C (tgt := 58) (q := 51) dX0_fitted_48 (by decide) rfl (fun c_48 => ?_) (fun c_48 => ?_)
      · replace h := (if_neg c_48).symm.trans h
        refine r_sub (lv' := [(0, .ref ((xG X).1 x0)), (2, .ref ((xG X).1 x2)), (3, .int x3), (4, .int x4), (5, .int x5), (6, .int v_30)]) [1, 2, 3, 4, 5, 0] rfl ?_
        exact w_X0_fitted_b58 C hr _ hk_18 _ _ _ _ _ _ hx0 hx2 h
      · replace h := (if_pos c_48).symm.trans h
        refine r_iload C 0 (q := 53) dX0_fitted_51 rfl rfl ?_
        refine r_iconst C (v := 1) (q := 54) dX0_fitted_53 (by decide) rfl ?_
        refine r_iadd C (q := 55) dX0_fitted_54 rfl ?_
        refine r_goto C (tgt := 60) dX0_fitted_55 (by decide) ?_
        refine r_sub (lv' := [(0, .ref ((xG X).1 x0)), (2, .ref ((xG X).1 x2)), (3, .int x3), (4, .int x4), (5, .int x5)]) [1, 2, 3, 4, 5] rfl ?_
        exact w_X0_fitted_b60 C hr _ hk_18 _ _ _ _ _ _ hx0 hx2 h

theorem w_X0_fitted_l18 {X : CX} (C : Cok X RX0 cX0_fitted 8 1 21) {σ : St} {r : Int32} (hr : RtI X cX0_fitted r σ) (n : Nat) : ∀ (x0 : Nat) (x2 : Nat) (x3 : Int32) (x4 : Int32) (x5 : Int32), kd x0 = 1 → kd x2 = 8 → f_X0_fitted_l18 σ n x0 x2 x3 x4 x5 = some r → V X σ 18 [(0, .ref ((xG X).1 x0)), (2, .ref ((xG X).1 x2)), (3, .int x3), (4, .int x4), (5, .int x5)] [] := by
  induction n with
  | zero =>
    intro x0 x2 x3 x4 x5 hx0 hx2 h
    exact nomatch (show (none : Option Int32) = some r from h)
  | succ n ih =>
    intro x0 x2 x3 x4 x5 hx0 hx2 h
    exact w_X0_fitted_b18 C hr _ ih x0 x2 x3 x4 x5 hx0 hx2 h
set_option maxHeartbeats 4000000 in
set_option maxRecDepth 100000 in
theorem w_X0_fitted_b0 {X : CX} (C : Cok X RX0 cX0_fitted 8 1 21) {σ : St} {r : Int32} (hr : RtI X cX0_fitted r σ) (x0 : Nat) (x1 : Nat) (x2 : Nat) (hx0 : kd x0 = 1) (hx1 : kd x1 = 2) (hx2 : kd x2 = 8) (h : f_X0_fitted σ x0 x1 x2 = some r) : V X σ 0 [(0, .ref ((xG X).1 x0)), (1, .ref ((xG X).1 x1)), (2, .ref ((xG X).1 x2))] [] := by
  unfold f_X0_fitted at h
  refine r_aload_n C 0 (q := 1) dX0_fitted_0 rfl rfl ?_
  refine g_X0_6 C (q := 4) dX0_fitted_1 q_81 hx0 rfl ?_
  obtain ⟨v_4, e_4, h⟩ := bs h
  refine r_callN C (st := []) (st2 := [.int v_4]) (q := 7) (m_X5_firstBits (xG X) (xl X) e_4) ok_X5_firstBits nst_4 rfl ⟨Nat.le_of_ble_eq_true rfl, Nat.le_of_ble_eq_true rfl⟩ rfl rfl (Nat.le_of_ble_eq_true rfl) dX0_fitted_4 rfl (fun hp_4 => ?_)
  refine r_istore_n C (lv' := [(3, .int v_4), (0, .ref ((xG X).1 x0)), (1, .ref ((xG X).1 x1)), (2, .ref ((xG X).1 x2))]) (q := 8) dX0_fitted_7 rfl (by decide) rfl rfl ?_
  refine r_aload_n C 1 (q := 9) dX0_fitted_8 rfl rfl ?_
  refine r_aload_n C 2 (q := 10) dX0_fitted_9 rfl rfl ?_
  obtain ⟨v_10, e_10, h⟩ := bs h
  refine r_callV C (ci := 0) (st := []) (st2 := [.int v_10]) (q := 13) (m_X0_wornPlace (xG X) (xl X) hx0 hx1 e_10) ok_X0_wornPlace hx0 rfl ⟨_, rfl⟩ q_378 rfl ⟨Nat.le_of_ble_eq_true rfl, Nat.le_of_ble_eq_true rfl⟩ rfl rfl (Nat.le_of_ble_eq_true rfl) dX0_fitted_10 rfl (fun hp_10 => ?_)
  refine r_istore C (lv' := [(4, .int v_10), (3, .int v_4), (0, .ref ((xG X).1 x0)), (1, .ref ((xG X).1 x1)), (2, .ref ((xG X).1 x2))]) (q := 15) dX0_fitted_13 (by decide) rfl rfl ?_
  refine r_iconst C (v := 0) (q := 16) dX0_fitted_15 (by decide) rfl ?_
  refine r_istore C (lv' := [(5, .int 0), (4, .int v_10), (3, .int v_4), (0, .ref ((xG X).1 x0)), (1, .ref ((xG X).1 x1)), (2, .ref ((xG X).1 x2))]) (q := 18) dX0_fitted_16 (by decide) rfl rfl ?_
  refine r_sub (lv' := [(0, .ref ((xG X).1 x0)), (2, .ref ((xG X).1 x2)), (3, .int v_4), (4, .int v_10), (5, .int 0)]) [3, 5, 2, 1, 0] rfl ?_
  exact w_X0_fitted_l18 C hr  FU _ _ _ _ _ hx0 hx2 h

theorem m_X0_fitted (G : Gm) (l : Launch) {σ : St} {x0 : Nat} {x1 : Nat} {x2 : Nat} (hx0 : kd x0 = 1) (hx1 : kd x1 = 2) (hx2 : kd x2 = 8) {r : Int32} (h : f_X0_fitted σ x0 x1 x2 = some r) : Ctr G l yX0_fitted cX0_fitted 8 (some .int) 1 21 [.ref (G.1 x0), .ref (G.1 x1), .ref (G.1 x2)] σ (some (.int r)) True σ := by
  refine Ctr.i (by decide) (Nat.le_of_ble_eq_true rfl) ?_
  intro X hG C hr
  subst hG
  exact w_X0_fitted_b0 C hr _ _ _ hx0 hx1 hx2 h
-- X1_isOfKind
set_option maxHeartbeats 4000000 in
set_option maxRecDepth 100000 in
theorem w_X1_isOfKind_b40 {X : CX} (C : Cok X RX1 cX1_isOfKind 2 0 0) {σ : St} {r : Int32} (hr : RtZ X cX1_isOfKind r σ) (h : f_X1_isOfKind_b40 σ = some r) : V X σ 40 [] [] := by
  unfold f_X1_isOfKind_b40 at h
  refine r_iconst C (v := 1) (q := 41) dX1_isOfKind_40 (by decide) rfl ?_
  refine r_goto C (tgt := 45) dX1_isOfKind_41 (by decide) ?_
  obtain rfl := Option.some.inj h
  exact hr _ _ dX1_isOfKind_45 (Or.inr rfl)

set_option maxHeartbeats 4000000 in
set_option maxRecDepth 100000 in
theorem w_X1_isOfKind_b27 {X : CX} (C : Cok X RX1 cX1_isOfKind 2 0 0) {σ : St} {r : Int32} (hr : RtZ X cX1_isOfKind r σ) (x0 : Nat) (x1 : Int32) (hx0 : kd x0 = 2) (h : f_X1_isOfKind_b27 σ x0 x1 = some r) : V X σ 27 [(0, .ref ((xG X).1 x0)), (1, .int x1)] [] := by
  unfold f_X1_isOfKind_b27 at h
  refine r_iload_n C 1 (q := 28) dX1_isOfKind_27 rfl rfl ?_
  refine r_iconst C (v := 3) (q := 29) dX1_isOfKind_28 (by decide) rfl ?_
  refine r_icmp_ne C (tgt := 44) (q := 32) dX1_isOfKind_29 (by decide) rfl (fun c_29 => ?_) (fun c_29 => ?_)
  · replace h := (if_neg c_29).symm.trans h
    refine r_iconst C (v := 0) (q := 45) dX1_isOfKind_44 (by decide) rfl ?_
    obtain rfl := Option.some.inj h
    exact hr _ _ dX1_isOfKind_45 (Or.inl rfl)
  · replace h := (if_pos c_29).symm.trans h
    refine r_aload_n C 0 (q := 33) dX1_isOfKind_32 rfl rfl ?_
    refine g_X1_0 C (q := 36) dX1_isOfKind_33 q_37 hx0 rfl ?_
    refine r_iconst C (v := 5) (q := 37) dX1_isOfKind_36 (by decide) rfl ?_
    refine r_icmp_ne C (tgt := 44) (q := 40) dX1_isOfKind_37 (by decide) rfl (fun c_37 => ?_) (fun c_37 => ?_)
    · replace h := (if_neg c_37).symm.trans h
      refine r_iconst C (v := 0) (q := 45) dX1_isOfKind_44 (by decide) rfl ?_
      obtain rfl := Option.some.inj h
      exact hr _ _ dX1_isOfKind_45 (Or.inl rfl)
    · replace h := (if_pos c_37).symm.trans h
      refine r_sub (lv' := []) [] rfl ?_
      exact w_X1_isOfKind_b40 C hr    h

set_option maxHeartbeats 4000000 in
set_option maxRecDepth 100000 in
theorem w_X1_isOfKind_b0 {X : CX} (C : Cok X RX1 cX1_isOfKind 2 0 0) {σ : St} {r : Int32} (hr : RtZ X cX1_isOfKind r σ) (x0 : Nat) (x1 : Int32) (hx0 : kd x0 = 2) (h : f_X1_isOfKind σ x0 x1 = some r) : V X σ 0 [(0, .ref ((xG X).1 x0)), (1, .int x1)] [] := by
  unfold f_X1_isOfKind at h
  refine r_iload_n C 1 (q := 1) dX1_isOfKind_0 rfl rfl ?_
  refine r_if_eq C (tgt := 12) (q := 4) dX1_isOfKind_1 (by decide) rfl (fun c_1 => ?_) (fun c_1 => ?_)
  · replace h := (if_pos c_1).symm.trans h
    refine r_iconst C (v := 1) (q := 13) dX1_isOfKind_12 (by decide) rfl ?_
    obtain rfl := Option.some.inj h
    exact hr _ _ dX1_isOfKind_13 (Or.inr rfl)
  · replace h := (if_neg c_1).symm.trans h
    refine r_iload_n C 1 (q := 5) dX1_isOfKind_4 rfl rfl ?_
    refine r_aload_n C 0 (q := 6) dX1_isOfKind_5 rfl rfl ?_
    refine g_X1_0 C (q := 9) dX1_isOfKind_6 q_37 hx0 rfl ?_
    refine r_icmp_ne C (tgt := 14) (q := 12) dX1_isOfKind_9 (by decide) rfl (fun c_9 => ?_) (fun c_9 => ?_)
    · replace h := (if_neg c_9).symm.trans h
      refine r_iload_n C 1 (q := 15) dX1_isOfKind_14 rfl rfl ?_
      refine r_iconst C (v := 2) (q := 16) dX1_isOfKind_15 (by decide) rfl ?_
      refine r_icmp_ne C (tgt := 27) (q := 19) dX1_isOfKind_16 (by decide) rfl (fun c_16 => ?_) (fun c_16 => ?_)
      · replace h := (if_neg c_16).symm.trans h
        exact w_X1_isOfKind_b27 C hr  _ _ hx0 h
      · replace h := (if_pos c_16).symm.trans h
        refine r_aload_n C 0 (q := 20) dX1_isOfKind_19 rfl rfl ?_
        refine g_X1_0 C (q := 23) dX1_isOfKind_20 q_37 hx0 rfl ?_
        refine r_iconst C (v := 4) (q := 24) dX1_isOfKind_23 (by decide) rfl ?_
        refine r_icmp_eq C (tgt := 40) (q := 27) dX1_isOfKind_24 (by decide) rfl (fun c_24 => ?_) (fun c_24 => ?_)
        · replace h := (if_pos c_24).symm.trans h
          refine r_sub (lv' := []) [] rfl ?_
          exact w_X1_isOfKind_b40 C hr    h
        · replace h := (if_neg c_24).symm.trans h
          exact w_X1_isOfKind_b27 C hr  _ _ hx0 h
    · replace h := (if_pos c_9).symm.trans h
      refine r_iconst C (v := 1) (q := 13) dX1_isOfKind_12 (by decide) rfl ?_
      obtain rfl := Option.some.inj h
      exact hr _ _ dX1_isOfKind_13 (Or.inr rfl)

theorem m_X1_isOfKind (G : Gm) (l : Launch) {σ : St} {x0 : Nat} {x1 : Int32} (hx0 : kd x0 = 2) {r : Int32} (h : f_X1_isOfKind σ x0 x1 = some r) : Ctr G l yX1_isOfKind cX1_isOfKind 2 (some .boolean) 0 0 [.ref (G.1 x0), .int x1] σ (some (.int r)) (r = 0 ∨ r = 1) σ := by
  refine Ctr.z (by decide) (Nat.le_of_ble_eq_true rfl) ?_
  intro X hG C hr
  subst hG
  exact w_X1_isOfKind_b0 C hr _ _ hx0 h
-- X0_openedByCuts
set_option maxHeartbeats 4000000 in
set_option maxRecDepth 100000 in
theorem w_X0_openedByCuts_b0 {X : CX} (C : Cok X RX0 cX0_openedByCuts 4 2 48) {σ : St} {r : Int32} (hr : RtI X cX0_openedByCuts r σ) (x0 : Nat) (x1 : Nat) (x2 : Nat) (hx0 : kd x0 = 1) (hx1 : kd x1 = 2) (hx2 : kd x2 = 8) (h : f_X0_openedByCuts σ x0 x1 x2 = some r) : V X σ 0 [(0, .ref ((xG X).1 x0)), (1, .ref ((xG X).1 x1)), (2, .ref ((xG X).1 x2))] [] := by
  unfold f_X0_openedByCuts at h
  refine r_aload_n C 0 (q := 1) dX0_openedByCuts_0 rfl rfl ?_
  refine r_aload_n C 1 (q := 2) dX0_openedByCuts_1 rfl rfl ?_
  refine r_aload_n C 2 (q := 3) dX0_openedByCuts_2 rfl rfl ?_
  obtain ⟨v_3, e_3, h⟩ := bs h
  refine r_callV C (ci := 0) (st := []) (st2 := [.int v_3]) (q := 6) (m_X0_breaks (xG X) (xl X) hx0 hx1 hx2 e_3) ok_X0_breaks hx0 rfl ⟨_, rfl⟩ q_362 rfl ⟨Nat.le_of_ble_eq_true rfl, Nat.le_of_ble_eq_true rfl⟩ rfl rfl (Nat.le_of_ble_eq_true rfl) dX0_openedByCuts_3 rfl (fun hp_3 => ?_)
  refine r_if_eq C (tgt := 11) (q := 9) dX0_openedByCuts_6 (by decide) rfl (fun c_6 => ?_) (fun c_6 => ?_)
  · replace h := (if_pos c_6).symm.trans h
    refine r_aload_n C 0 (q := 12) dX0_openedByCuts_11 rfl rfl ?_
    refine r_aload_n C 1 (q := 13) dX0_openedByCuts_12 rfl rfl ?_
    refine r_aload_n C 2 (q := 14) dX0_openedByCuts_13 rfl rfl ?_
    obtain ⟨v_14, e_14, h⟩ := bs h
    refine r_callV C (ci := 0) (st := []) (st2 := [.int v_14]) (q := 17) (m_X0_fitted (xG X) (xl X) hx0 hx1 hx2 e_14) ok_X0_fitted hx0 rfl ⟨_, rfl⟩ q_371 rfl ⟨Nat.le_of_ble_eq_true rfl, Nat.le_of_ble_eq_true rfl⟩ rfl rfl (Nat.le_of_ble_eq_true rfl) dX0_openedByCuts_14 rfl (fun hp_14 => ?_)
    refine r_istore_n C (lv' := [(3, .int v_14), (0, .ref ((xG X).1 x0)), (1, .ref ((xG X).1 x1)), (2, .ref ((xG X).1 x2))]) (q := 18) dX0_openedByCuts_17 rfl (by decide) rfl rfl ?_
    refine r_aload_n C 2 (q := 19) dX0_openedByCuts_18 rfl rfl ?_
    refine r_iconst C (v := 3) (q := 20) dX0_openedByCuts_19 (by decide) rfl ?_
    obtain ⟨v_20, e_20, h⟩ := bs h
    refine r_callV C (ci := 1) (st := []) (st2 := [.int v_20]) (q := 23) (m_X1_isOfKind (xG X) (xl X) hx1 e_20) ok_X1_isOfKind hx1 rfl ⟨_, rfl⟩ q_380 rfl ⟨Nat.le_of_ble_eq_true rfl, Nat.le_of_ble_eq_true rfl⟩ rfl rfl (Nat.le_of_ble_eq_true rfl) dX0_openedByCuts_20 rfl (fun hp_20 => ?_)
    refine r_if_eq C (tgt := 30) (q := 26) dX0_openedByCuts_23 (by decide) rfl (fun c_23 => ?_) (fun c_23 => ?_)
    · replace h := (if_pos c_23).symm.trans h
      refine r_iload_n C 0 (q := 31) dX0_openedByCuts_30 rfl rfl ?_
      refine r_aload_n C 1 (q := 32) dX0_openedByCuts_31 rfl rfl ?_
      refine g_X0_7 C (q := 35) dX0_openedByCuts_32 q_85 hx0 rfl ?_
      refine r_iconst C (v := (-1)) (q := 36) dX0_openedByCuts_35 (by decide) rfl ?_
      refine r_ixor C (q := 37) dX0_openedByCuts_36 rfl ?_
      refine r_iand C (q := 38) dX0_openedByCuts_37 rfl ?_
      obtain rfl := Option.some.inj h
      exact hr _ _ dX0_openedByCuts_38
    · replace h := (if_neg c_23).symm.trans h
      refine r_iload_n C 0 (q := 27) dX0_openedByCuts_26 rfl rfl ?_
      refine r_goto C (tgt := 38) dX0_openedByCuts_27 (by decide) ?_
      obtain rfl := Option.some.inj h
      exact hr _ _ dX0_openedByCuts_38
  · replace h := (if_neg c_6).symm.trans h
    refine r_iconst C (v := 0) (q := 10) dX0_openedByCuts_9 (by decide) rfl ?_
    obtain rfl := Option.some.inj h
    exact hr _ _ dX0_openedByCuts_10

theorem m_X0_openedByCuts (G : Gm) (l : Launch) {σ : St} {x0 : Nat} {x1 : Nat} {x2 : Nat} (hx0 : kd x0 = 1) (hx1 : kd x1 = 2) (hx2 : kd x2 = 8) {r : Int32} (h : f_X0_openedByCuts σ x0 x1 x2 = some r) : Ctr G l yX0_openedByCuts cX0_openedByCuts 4 (some .int) 2 48 [.ref (G.1 x0), .ref (G.1 x1), .ref (G.1 x2)] σ (some (.int r)) True σ := by
  refine Ctr.i (by decide) (Nat.le_of_ble_eq_true rfl) ?_
  intro X hG C hr
  subst hG
  exact w_X0_openedByCuts_b0 C hr _ _ _ hx0 hx1 hx2 h
-- X0_openedBesides
set_option maxHeartbeats 4000000 in
set_option maxRecDepth 100000 in
theorem w_X0_openedBesides_b49 {X : CX} (C : Cok X RX0 cX0_openedBesides 5 3 71) {σ : St} {r : Int32} (hr : RtI X cX0_openedBesides r σ) (k_4 : Nat → Nat → Int32 → Int32 → Option Int32) (hk_4 : ∀ (x0 : Nat) (x1 : Nat) (x2 : Int32) (x3 : Int32), kd x0 = 1 → kd x1 = 2 → k_4 x0 x1 x2 x3 = some r → V X σ 4 [(0, .ref ((xG X).1 x0)), (1, .ref ((xG X).1 x1)), (2, .int x2), (3, .int x3)] []) (x0 : Nat) (x1 : Nat) (x2 : Int32) (x3 : Int32) (hx0 : kd x0 = 1) (hx1 : kd x1 = 2) (h : f_X0_openedBesides_b49 σ k_4 x0 x1 x2 x3 = some r) : V X σ 49 [(0, .ref ((xG X).1 x0)), (1, .ref ((xG X).1 x1)), (2, .int x2), (3, .int x3)] [] := by
  unfold f_X0_openedBesides_b49 at h
  obtain ⟨y_49, e_49, h⟩ := bs h
  refine r_iinc C (v := y_49) (lv' := [(3, .int y_49), (0, .ref ((xG X).1 x0)), (1, .ref ((xG X).1 x1)), (2, .int x2)]) (q := 52) 3 dX0_openedBesides_49 rfl (Option.some.inj e_49) (by decide) rfl rfl ?_
  refine r_goto C (tgt := 4) dX0_openedBesides_52 (by decide) ?_
  refine r_sub (lv' := [(0, .ref ((xG X).1 x0)), (1, .ref ((xG X).1 x1)), (2, .int x2), (3, .int y_49)]) [1, 2, 3, 0] rfl ?_
  exact hk_4 _ _ _ _ hx0 hx1 h

set_option maxHeartbeats 4000000 in
set_option maxRecDepth 100000 in
theorem w_X0_openedBesides_b4 {X : CX} (C : Cok X RX0 cX0_openedBesides 5 3 71) {σ : St} {r : Int32} (hr : RtI X cX0_openedBesides r σ) (k_4 : Nat → Nat → Int32 → Int32 → Option Int32) (hk_4 : ∀ (x0 : Nat) (x1 : Nat) (x2 : Int32) (x3 : Int32), kd x0 = 1 → kd x1 = 2 → k_4 x0 x1 x2 x3 = some r → V X σ 4 [(0, .ref ((xG X).1 x0)), (1, .ref ((xG X).1 x1)), (2, .int x2), (3, .int x3)] []) (x0 : Nat) (x1 : Nat) (x2 : Int32) (x3 : Int32) (hx0 : kd x0 = 1) (hx1 : kd x1 = 2) (h : f_X0_openedBesides_b4 σ k_4 x0 x1 x2 x3 = some r) : V X σ 4 [(0, .ref ((xG X).1 x0)), (1, .ref ((xG X).1 x1)), (2, .int x2), (3, .int x3)] [] := by
  unfold f_X0_openedBesides_b4 at h
  refine r_iload_n C 3 (q := 5) dX0_openedBesides_4 rfl rfl ?_
  refine r_aload_n C 0 (q := 6) dX0_openedBesides_5 rfl rfl ?_
  refine g_X0_5 C (q := 9) dX0_openedBesides_6 q_77 hx0 rfl ?_
  refine r_icmp_ge C (tgt := 55) (q := 12) dX0_openedBesides_9 (by decide) rfl (fun c_9 => ?_) (fun c_9 => ?_)
  · replace h := (if_pos c_9).symm.trans h
    refine r_iload_n C 2 (q := 56) dX0_openedBesides_55 rfl rfl ?_
    obtain rfl := Option.some.inj h
    exact hr _ _ dX0_openedBesides_56
  · replace h := (if_neg c_9).symm.trans h
    refine r_aload_n C 1 (q := 13) dX0_openedBesides_12 rfl rfl ?_
    refine g_X1_0 C (q := 16) dX0_openedBesides_13 q_39 hx1 rfl ?_
    refine r_iconst C (v := 5) (q := 17) dX0_openedBesides_16 (by decide) rfl ?_
    refine r_icmp_ne C (tgt := 55) (q := 20) dX0_openedBesides_17 (by decide) rfl (fun c_17 => ?_) (fun c_17 => ?_)
    · replace h := (if_neg c_17).symm.trans h
      refine r_iload_n C 2 (q := 56) dX0_openedBesides_55 rfl rfl ?_
      obtain rfl := Option.some.inj h
      exact hr _ _ dX0_openedBesides_56
    · replace h := (if_pos c_17).symm.trans h
      refine r_aload_n C 0 (q := 21) dX0_openedBesides_20 rfl rfl ?_
      refine r_iload_n C 3 (q := 22) dX0_openedBesides_21 rfl rfl ?_
      obtain ⟨v_22, e_22, h⟩ := bs h
      refine r_callV C (ci := 0) (st := []) (st2 := [.ref ((xG X).1 v_22)]) (q := 25) (m_X0_keyAt (xG X) (xl X) hx0 e_22) ok_X0_keyAt hx0 rfl ⟨_, rfl⟩ q_353 rfl ⟨Nat.le_of_ble_eq_true rfl, Nat.le_of_ble_eq_true rfl⟩ rfl rfl (Nat.le_of_ble_eq_true rfl) dX0_openedBesides_22 rfl (fun hp_22 => ?_)
      refine r_astore C (lv' := [(4, .ref ((xG X).1 v_22)), (0, .ref ((xG X).1 x0)), (1, .ref ((xG X).1 x1)), (2, .int x2), (3, .int x3)]) (q := 27) dX0_openedBesides_25 (by decide) rfl rfl ?_
      refine r_aload C 0 (q := 29) dX0_openedBesides_27 rfl rfl ?_
      refine g_X1_0 C (q := 32) dX0_openedBesides_29 q_39 hp_22 rfl ?_
      refine r_if_ne C (tgt := 49) (q := 35) dX0_openedBesides_32 (by decide) rfl (fun c_32 => ?_) (fun c_32 => ?_)
      · replace h := (if_neg c_32).symm.trans h
        refine r_sub (lv' := [(0, .ref ((xG X).1 x0)), (1, .ref ((xG X).1 x1)), (2, .int x2), (3, .int x3)]) [1, 2, 3, 4] rfl ?_
        exact w_X0_openedBesides_b49 C hr _ hk_4 _ _ _ _ hx0 hx1 h
      · replace h := (if_pos c_32).symm.trans h
        refine r_iload_n C 3 (q := 36) dX0_openedBesides_35 rfl rfl ?_
        refine r_aload_n C 1 (q := 37) dX0_openedBesides_36 rfl rfl ?_
        refine r_aload C 0 (q := 39) dX0_openedBesides_37 rfl rfl ?_
        refine r_aload C 0 (q := 41) dX0_openedBesides_39 rfl rfl ?_
        refine g_X1_3 C (q := 44) dX0_openedBesides_41 q_51 hp_22 rfl ?_
        obtain ⟨v_44, e_44, h⟩ := bs h
        refine r_callV C (ci := 0) (st := [.int x2]) (st2 := [.int v_44, .int x2]) (q := 47) (m_X0_openedByCuts (xG X) (xl X) hx0 hp_22 (kf_X1_3 hp_22) e_44) ok_X0_openedByCuts hx0 rfl ⟨_, rfl⟩ q_358 rfl ⟨Nat.le_of_ble_eq_true rfl, Nat.le_of_ble_eq_true rfl⟩ rfl rfl (Nat.le_of_ble_eq_true rfl) dX0_openedBesides_44 rfl (fun hp_44 => ?_)
        refine r_ior C (q := 48) dX0_openedBesides_47 rfl ?_
        obtain ⟨y_48, e_48, h⟩ := bs h
        refine r_topI (Option.some.inj e_48) ?_
        refine r_istore_n C (lv' := [(2, .int y_48), (4, .ref ((xG X).1 v_22)), (0, .ref ((xG X).1 x0)), (1, .ref ((xG X).1 x1)), (3, .int x3)]) (q := 49) dX0_openedBesides_48 rfl (by decide) rfl rfl ?_
        refine r_sub (lv' := [(0, .ref ((xG X).1 x0)), (1, .ref ((xG X).1 x1)), (2, .int y_48), (3, .int x3)]) [2, 3, 0, 4] rfl ?_
        exact w_X0_openedBesides_b49 C hr _ hk_4 _ _ _ _ hx0 hx1 h

theorem w_X0_openedBesides_l4 {X : CX} (C : Cok X RX0 cX0_openedBesides 5 3 71) {σ : St} {r : Int32} (hr : RtI X cX0_openedBesides r σ) (n : Nat) : ∀ (x0 : Nat) (x1 : Nat) (x2 : Int32) (x3 : Int32), kd x0 = 1 → kd x1 = 2 → f_X0_openedBesides_l4 σ n x0 x1 x2 x3 = some r → V X σ 4 [(0, .ref ((xG X).1 x0)), (1, .ref ((xG X).1 x1)), (2, .int x2), (3, .int x3)] [] := by
  induction n with
  | zero =>
    intro x0 x1 x2 x3 hx0 hx1 h
    exact nomatch (show (none : Option Int32) = some r from h)
  | succ n ih =>
    intro x0 x1 x2 x3 hx0 hx1 h
    exact w_X0_openedBesides_b4 C hr _ ih x0 x1 x2 x3 hx0 hx1 h
set_option maxHeartbeats 4000000 in
set_option maxRecDepth 100000 in
theorem w_X0_openedBesides_b0 {X : CX} (C : Cok X RX0 cX0_openedBesides 5 3 71) {σ : St} {r : Int32} (hr : RtI X cX0_openedBesides r σ) (x0 : Nat) (x1 : Nat) (hx0 : kd x0 = 1) (hx1 : kd x1 = 2) (h : f_X0_openedBesides σ x0 x1 = some r) : V X σ 0 [(0, .ref ((xG X).1 x0)), (1, .ref ((xG X).1 x1))] [] := by
  unfold f_X0_openedBesides at h
  refine r_iconst C (v := 0) (q := 1) dX0_openedBesides_0 (by decide) rfl ?_
  refine r_istore_n C (lv' := [(2, .int 0), (0, .ref ((xG X).1 x0)), (1, .ref ((xG X).1 x1))]) (q := 2) dX0_openedBesides_1 rfl (by decide) rfl rfl ?_
  refine r_iconst C (v := 0) (q := 3) dX0_openedBesides_2 (by decide) rfl ?_
  refine r_istore_n C (lv' := [(3, .int 0), (2, .int 0), (0, .ref ((xG X).1 x0)), (1, .ref ((xG X).1 x1))]) (q := 4) dX0_openedBesides_3 rfl (by decide) rfl rfl ?_
  refine r_sub (lv' := [(0, .ref ((xG X).1 x0)), (1, .ref ((xG X).1 x1)), (2, .int 0), (3, .int 0)]) [2, 3, 1, 0] rfl ?_
  exact w_X0_openedBesides_l4 C hr  FU _ _ _ _ hx0 hx1 h

theorem m_X0_openedBesides (G : Gm) (l : Launch) {σ : St} {x0 : Nat} {x1 : Nat} (hx0 : kd x0 = 1) (hx1 : kd x1 = 2) {r : Int32} (h : f_X0_openedBesides σ x0 x1 = some r) : Ctr G l yX0_openedBesides cX0_openedBesides 5 (some .int) 3 71 [.ref (G.1 x0), .ref (G.1 x1)] σ (some (.int r)) True σ := by
  refine Ctr.i (by decide) (Nat.le_of_ble_eq_true rfl) ?_
  intro X hG C hr
  subst hG
  exact w_X0_openedBesides_b0 C hr _ _ hx0 hx1 h
-- X0_openedAs
set_option maxHeartbeats 4000000 in
set_option maxRecDepth 100000 in
theorem w_X0_openedAs_b0 {X : CX} (C : Cok X RX0 cX0_openedAs 4 3 71) {σ : St} {r : Int32} (hr : RtI X cX0_openedAs r σ) (x0 : Nat) (x1 : Nat) (x2 : Nat) (x3 : Int32) (hx0 : kd x0 = 1) (hx1 : kd x1 = 2) (hx2 : kd x2 = 8) (h : f_X0_openedAs σ x0 x1 x2 x3 = some r) : V X σ 0 [(0, .ref ((xG X).1 x0)), (1, .ref ((xG X).1 x1)), (2, .ref ((xG X).1 x2)), (3, .int x3)] [] := by
  unfold f_X0_openedAs at h
  refine r_aload_n C 0 (q := 1) dX0_openedAs_0 rfl rfl ?_
  refine r_aload_n C 1 (q := 2) dX0_openedAs_1 rfl rfl ?_
  refine r_aload_n C 2 (q := 3) dX0_openedAs_2 rfl rfl ?_
  obtain ⟨v_3, e_3, h⟩ := bs h
  refine r_callV C (ci := 0) (st := []) (st2 := [.int v_3]) (q := 6) (m_X0_breaks (xG X) (xl X) hx0 hx1 hx2 e_3) ok_X0_breaks hx0 rfl ⟨_, rfl⟩ q_362 rfl ⟨Nat.le_of_ble_eq_true rfl, Nat.le_of_ble_eq_true rfl⟩ rfl rfl (Nat.le_of_ble_eq_true rfl) dX0_openedAs_3 rfl (fun hp_3 => ?_)
  refine r_if_eq C (tgt := 13) (q := 9) dX0_openedAs_6 (by decide) rfl (fun c_6 => ?_) (fun c_6 => ?_)
  · replace h := (if_pos c_6).symm.trans h
    refine r_aload_n C 0 (q := 14) dX0_openedAs_13 rfl rfl ?_
    refine r_aload_n C 1 (q := 15) dX0_openedAs_14 rfl rfl ?_
    refine r_aload_n C 2 (q := 16) dX0_openedAs_15 rfl rfl ?_
    obtain ⟨v_16, e_16, h⟩ := bs h
    refine r_callV C (ci := 0) (st := []) (st2 := [.int v_16]) (q := 19) (m_X0_openedByCuts (xG X) (xl X) hx0 hx1 hx2 e_16) ok_X0_openedByCuts hx0 rfl ⟨_, rfl⟩ q_358 rfl ⟨Nat.le_of_ble_eq_true rfl, Nat.le_of_ble_eq_true rfl⟩ rfl rfl (Nat.le_of_ble_eq_true rfl) dX0_openedAs_16 rfl (fun hp_16 => ?_)
    refine r_iload_n C 3 (q := 20) dX0_openedAs_19 rfl rfl ?_
    refine r_ior C (q := 21) dX0_openedAs_20 rfl ?_
    obtain rfl := Option.some.inj h
    exact hr _ _ dX0_openedAs_21
  · replace h := (if_neg c_6).symm.trans h
    refine r_iconst C (v := 0) (q := 10) dX0_openedAs_9 (by decide) rfl ?_
    refine r_goto C (tgt := 21) dX0_openedAs_10 (by decide) ?_
    obtain rfl := Option.some.inj h
    exact hr _ _ dX0_openedAs_21

theorem m_X0_openedAs (G : Gm) (l : Launch) {σ : St} {x0 : Nat} {x1 : Nat} {x2 : Nat} {x3 : Int32} (hx0 : kd x0 = 1) (hx1 : kd x1 = 2) (hx2 : kd x2 = 8) {r : Int32} (h : f_X0_openedAs σ x0 x1 x2 x3 = some r) : Ctr G l yX0_openedAs cX0_openedAs 4 (some .int) 3 71 [.ref (G.1 x0), .ref (G.1 x1), .ref (G.1 x2), .int x3] σ (some (.int r)) True σ := by
  refine Ctr.i (by decide) (Nat.le_of_ble_eq_true rfl) ?_
  intro X hG C hr
  subst hG
  exact w_X0_openedAs_b0 C hr _ _ _ _ hx0 hx1 hx2 h
-- X0_openedBy
set_option maxHeartbeats 4000000 in
set_option maxRecDepth 100000 in
theorem w_X0_openedBy_b0 {X : CX} (C : Cok X RX0 cX0_openedBy 3 4 95) {σ : St} {r : Int32} (hr : RtI X cX0_openedBy r σ) (x0 : Nat) (x1 : Int32) (hx0 : kd x0 = 1) (h : f_X0_openedBy σ x0 x1 = some r) : V X σ 0 [(0, .ref ((xG X).1 x0)), (1, .int x1)] [] := by
  unfold f_X0_openedBy at h
  refine r_aload_n C 0 (q := 1) dX0_openedBy_0 rfl rfl ?_
  refine r_iload_n C 1 (q := 2) dX0_openedBy_1 rfl rfl ?_
  obtain ⟨v_2, e_2, h⟩ := bs h
  refine r_callV C (ci := 0) (st := []) (st2 := [.ref ((xG X).1 v_2)]) (q := 5) (m_X0_keyAt (xG X) (xl X) hx0 e_2) ok_X0_keyAt hx0 rfl ⟨_, rfl⟩ q_353 rfl ⟨Nat.le_of_ble_eq_true rfl, Nat.le_of_ble_eq_true rfl⟩ rfl rfl (Nat.le_of_ble_eq_true rfl) dX0_openedBy_2 rfl (fun hp_2 => ?_)
  refine r_astore_n C (lv' := [(2, .ref ((xG X).1 v_2)), (0, .ref ((xG X).1 x0)), (1, .int x1)]) (q := 6) dX0_openedBy_5 rfl (by decide) rfl rfl ?_
  refine r_aload_n C 1 (q := 7) dX0_openedBy_6 rfl rfl ?_
  refine r_aload_n C 0 (q := 8) dX0_openedBy_7 rfl rfl ?_
  refine r_aload_n C 0 (q := 9) dX0_openedBy_8 rfl rfl ?_
  refine g_X1_3 C (q := 12) dX0_openedBy_9 q_51 hp_2 rfl ?_
  refine r_aload_n C 1 (q := 13) dX0_openedBy_12 rfl rfl ?_
  refine r_aload_n C 0 (q := 14) dX0_openedBy_13 rfl rfl ?_
  obtain ⟨v_14, e_14, h⟩ := bs h
  refine r_callV C (ci := 0) (st := [.ref ((xG X).1 (v_2 + 1)), .ref ((xG X).1 v_2), .ref ((xG X).1 x0)]) (st2 := [.int v_14, .ref ((xG X).1 (v_2 + 1)), .ref ((xG X).1 v_2), .ref ((xG X).1 x0)]) (q := 17) (m_X0_openedBesides (xG X) (xl X) hx0 hp_2 e_14) ok_X0_openedBesides hx0 rfl ⟨_, rfl⟩ q_354 rfl ⟨Nat.le_of_ble_eq_true rfl, Nat.le_of_ble_eq_true rfl⟩ rfl rfl (Nat.le_of_ble_eq_true rfl) dX0_openedBy_14 rfl (fun hp_14 => ?_)
  obtain ⟨v_17, e_17, h⟩ := bs h
  refine r_callV C (ci := 0) (st := []) (st2 := [.int v_17]) (q := 20) (m_X0_openedAs (xG X) (xl X) hx0 hp_2 (kf_X1_3 hp_2) e_17) ok_X0_openedAs hx0 rfl ⟨_, rfl⟩ q_381 rfl ⟨Nat.le_of_ble_eq_true rfl, Nat.le_of_ble_eq_true rfl⟩ rfl rfl (Nat.le_of_ble_eq_true rfl) dX0_openedBy_17 rfl (fun hp_17 => ?_)
  obtain rfl := Option.some.inj h
  exact hr _ _ dX0_openedBy_20

theorem m_X0_openedBy (G : Gm) (l : Launch) {σ : St} {x0 : Nat} {x1 : Int32} (hx0 : kd x0 = 1) {r : Int32} (h : f_X0_openedBy σ x0 x1 = some r) : Ctr G l yX0_openedBy cX0_openedBy 3 (some .int) 4 95 [.ref (G.1 x0), .int x1] σ (some (.int r)) True σ := by
  refine Ctr.i (by decide) (Nat.le_of_ble_eq_true rfl) ?_
  intro X hG C hr
  subst hG
  exact w_X0_openedBy_b0 C hr _ _ hx0 h
-- X0_openersOf
set_option maxHeartbeats 4000000 in
set_option maxRecDepth 100000 in
theorem w_X0_openersOf_b30 {X : CX} (C : Cok X RX0 cX0_openersOf 4 5 117) {σ : St} {r : Int32} (hr : RtI X cX0_openersOf r σ) (k_4 : Nat → Int32 → Int32 → Int32 → Option Int32) (hk_4 : ∀ (x0 : Nat) (x1 : Int32) (x2 : Int32) (x3 : Int32), kd x0 = 1 → k_4 x0 x1 x2 x3 = some r → V X σ 4 [(0, .ref ((xG X).1 x0)), (1, .int x1), (2, .int x2), (3, .int x3)] []) (x0 : Nat) (x1 : Int32) (x2 : Int32) (x3 : Int32) (hx0 : kd x0 = 1) (h : f_X0_openersOf_b30 σ k_4 x0 x1 x2 x3 = some r) : V X σ 30 [(0, .ref ((xG X).1 x0)), (1, .int x1), (2, .int x2), (3, .int x3)] [] := by
  unfold f_X0_openersOf_b30 at h
  obtain ⟨y_30, e_30, h⟩ := bs h
  refine r_iinc C (v := y_30) (lv' := [(3, .int y_30), (0, .ref ((xG X).1 x0)), (1, .int x1), (2, .int x2)]) (q := 33) 3 dX0_openersOf_30 rfl (Option.some.inj e_30) (by decide) rfl rfl ?_
  refine r_goto C (tgt := 4) dX0_openersOf_33 (by decide) ?_
  refine r_sub (lv' := [(0, .ref ((xG X).1 x0)), (1, .int x1), (2, .int x2), (3, .int y_30)]) [1, 2, 3, 0] rfl ?_
  exact hk_4 _ _ _ _ hx0 h

set_option maxHeartbeats 4000000 in
set_option maxRecDepth 100000 in
theorem w_X0_openersOf_b4 {X : CX} (C : Cok X RX0 cX0_openersOf 4 5 117) {σ : St} {r : Int32} (hr : RtI X cX0_openersOf r σ) (k_4 : Nat → Int32 → Int32 → Int32 → Option Int32) (hk_4 : ∀ (x0 : Nat) (x1 : Int32) (x2 : Int32) (x3 : Int32), kd x0 = 1 → k_4 x0 x1 x2 x3 = some r → V X σ 4 [(0, .ref ((xG X).1 x0)), (1, .int x1), (2, .int x2), (3, .int x3)] []) (x0 : Nat) (x1 : Int32) (x2 : Int32) (x3 : Int32) (hx0 : kd x0 = 1) (h : f_X0_openersOf_b4 σ k_4 x0 x1 x2 x3 = some r) : V X σ 4 [(0, .ref ((xG X).1 x0)), (1, .int x1), (2, .int x2), (3, .int x3)] [] := by
  unfold f_X0_openersOf_b4 at h
  refine r_iload_n C 3 (q := 5) dX0_openersOf_4 rfl rfl ?_
  refine r_aload_n C 0 (q := 6) dX0_openersOf_5 rfl rfl ?_
  refine g_X0_5 C (q := 9) dX0_openersOf_6 q_77 hx0 rfl ?_
  refine r_icmp_ge C (tgt := 36) (q := 12) dX0_openersOf_9 (by decide) rfl (fun c_9 => ?_) (fun c_9 => ?_)
  · replace h := (if_pos c_9).symm.trans h
    refine r_iload_n C 2 (q := 37) dX0_openersOf_36 rfl rfl ?_
    obtain rfl := Option.some.inj h
    exact hr _ _ dX0_openersOf_37
  · replace h := (if_neg c_9).symm.trans h
    refine r_aload_n C 0 (q := 13) dX0_openersOf_12 rfl rfl ?_
    refine r_iload_n C 3 (q := 14) dX0_openersOf_13 rfl rfl ?_
    obtain ⟨v_14, e_14, h⟩ := bs h
    refine r_callV C (ci := 0) (st := []) (st2 := [.int v_14]) (q := 17) (m_X0_openedBy (xG X) (xl X) hx0 e_14) ok_X0_openedBy hx0 rfl ⟨_, rfl⟩ q_678 rfl ⟨Nat.le_of_ble_eq_true rfl, Nat.le_of_ble_eq_true rfl⟩ rfl rfl (Nat.le_of_ble_eq_true rfl) dX0_openersOf_14 rfl (fun hp_14 => ?_)
    refine r_iload_n C 1 (q := 18) dX0_openersOf_17 rfl rfl ?_
    obtain ⟨v_18, e_18, h⟩ := bs h
    refine r_callN C (st := []) (st2 := [.int v_18]) (q := 21) (m_X5_hasBit (xG X) (xl X) e_18) ok_X5_hasBit nst_10 rfl ⟨Nat.le_of_ble_eq_true rfl, Nat.le_of_ble_eq_true rfl⟩ rfl rfl (Nat.le_of_ble_eq_true rfl) dX0_openersOf_18 rfl (fun hp_18 => ?_)
    refine r_if_eq C (tgt := 30) (q := 24) dX0_openersOf_21 (by decide) rfl (fun c_21 => ?_) (fun c_21 => ?_)
    · replace h := (if_pos c_21).symm.trans h
      exact w_X0_openersOf_b30 C hr _ hk_4 _ _ _ _ hx0 h
    · replace h := (if_neg c_21).symm.trans h
      refine r_iload_n C 2 (q := 25) dX0_openersOf_24 rfl rfl ?_
      refine r_iconst C (v := 1) (q := 26) dX0_openersOf_25 (by decide) rfl ?_
      refine r_iload_n C 3 (q := 27) dX0_openersOf_26 rfl rfl ?_
      refine r_ishl C (q := 28) dX0_openersOf_27 rfl ?_
      refine r_ior C (q := 29) dX0_openersOf_28 rfl ?_
      obtain ⟨y_29, e_29, h⟩ := bs h
      refine r_topI (Option.some.inj e_29) ?_
      refine r_istore_n C (lv' := [(2, .int y_29), (0, .ref ((xG X).1 x0)), (1, .int x1), (3, .int x3)]) (q := 30) dX0_openersOf_29 rfl (by decide) rfl rfl ?_
      refine r_sub (lv' := [(0, .ref ((xG X).1 x0)), (1, .int x1), (2, .int y_29), (3, .int x3)]) [1, 2, 0, 3] rfl ?_
      exact w_X0_openersOf_b30 C hr _ hk_4 _ _ _ _ hx0 h

theorem w_X0_openersOf_l4 {X : CX} (C : Cok X RX0 cX0_openersOf 4 5 117) {σ : St} {r : Int32} (hr : RtI X cX0_openersOf r σ) (n : Nat) : ∀ (x0 : Nat) (x1 : Int32) (x2 : Int32) (x3 : Int32), kd x0 = 1 → f_X0_openersOf_l4 σ n x0 x1 x2 x3 = some r → V X σ 4 [(0, .ref ((xG X).1 x0)), (1, .int x1), (2, .int x2), (3, .int x3)] [] := by
  induction n with
  | zero =>
    intro x0 x1 x2 x3 hx0 h
    exact nomatch (show (none : Option Int32) = some r from h)
  | succ n ih =>
    intro x0 x1 x2 x3 hx0 h
    exact w_X0_openersOf_b4 C hr _ ih x0 x1 x2 x3 hx0 h
set_option maxHeartbeats 4000000 in
set_option maxRecDepth 100000 in
theorem w_X0_openersOf_b0 {X : CX} (C : Cok X RX0 cX0_openersOf 4 5 117) {σ : St} {r : Int32} (hr : RtI X cX0_openersOf r σ) (x0 : Nat) (x1 : Int32) (hx0 : kd x0 = 1) (h : f_X0_openersOf σ x0 x1 = some r) : V X σ 0 [(0, .ref ((xG X).1 x0)), (1, .int x1)] [] := by
  unfold f_X0_openersOf at h
  refine r_iconst C (v := 0) (q := 1) dX0_openersOf_0 (by decide) rfl ?_
  refine r_istore_n C (lv' := [(2, .int 0), (0, .ref ((xG X).1 x0)), (1, .int x1)]) (q := 2) dX0_openersOf_1 rfl (by decide) rfl rfl ?_
  refine r_iconst C (v := 0) (q := 3) dX0_openersOf_2 (by decide) rfl ?_
  refine r_istore_n C (lv' := [(3, .int 0), (2, .int 0), (0, .ref ((xG X).1 x0)), (1, .int x1)]) (q := 4) dX0_openersOf_3 rfl (by decide) rfl rfl ?_
  refine r_sub (lv' := [(0, .ref ((xG X).1 x0)), (1, .int x1), (2, .int 0), (3, .int 0)]) [2, 3, 1, 0] rfl ?_
  exact w_X0_openersOf_l4 C hr  FU _ _ _ _ hx0 h

theorem m_X0_openersOf (G : Gm) (l : Launch) {σ : St} {x0 : Nat} {x1 : Int32} (hx0 : kd x0 = 1) {r : Int32} (h : f_X0_openersOf σ x0 x1 = some r) : Ctr G l yX0_openersOf cX0_openersOf 4 (some .int) 5 117 [.ref (G.1 x0), .int x1] σ (some (.int r)) True σ := by
  refine Ctr.i (by decide) (Nat.le_of_ble_eq_true rfl) ?_
  intro X hG C hr
  subst hG
  exact w_X0_openersOf_b0 C hr _ _ hx0 h
-- X0_brokenKeys
set_option maxHeartbeats 4000000 in
set_option maxRecDepth 100000 in
theorem w_X0_brokenKeys_b38 {X : CX} (C : Cok X RX0 cX0_brokenKeys 3 2 45) {σ : St} {r : Int32} (hr : RtI X cX0_brokenKeys r σ) (k_4 : Nat → Int32 → Int32 → Option Int32) (hk_4 : ∀ (x0 : Nat) (x1 : Int32) (x2 : Int32), kd x0 = 1 → k_4 x0 x1 x2 = some r → V X σ 4 [(0, .ref ((xG X).1 x0)), (1, .int x1), (2, .int x2)] []) (x0 : Nat) (x1 : Int32) (x2 : Int32) (hx0 : kd x0 = 1) (h : f_X0_brokenKeys_b38 σ k_4 x0 x1 x2 = some r) : V X σ 38 [(0, .ref ((xG X).1 x0)), (1, .int x1), (2, .int x2)] [] := by
  unfold f_X0_brokenKeys_b38 at h
  obtain ⟨y_38, e_38, h⟩ := bs h
  refine r_iinc C (v := y_38) (lv' := [(2, .int y_38), (0, .ref ((xG X).1 x0)), (1, .int x1)]) (q := 41) 2 dX0_brokenKeys_38 rfl (Option.some.inj e_38) (by decide) rfl rfl ?_
  refine r_goto C (tgt := 4) dX0_brokenKeys_41 (by decide) ?_
  refine r_sub (lv' := [(0, .ref ((xG X).1 x0)), (1, .int x1), (2, .int y_38)]) [1, 2, 0] rfl ?_
  exact hk_4 _ _ _ hx0 h

set_option maxHeartbeats 4000000 in
set_option maxRecDepth 100000 in
theorem w_X0_brokenKeys_b4 {X : CX} (C : Cok X RX0 cX0_brokenKeys 3 2 45) {σ : St} {r : Int32} (hr : RtI X cX0_brokenKeys r σ) (k_4 : Nat → Int32 → Int32 → Option Int32) (hk_4 : ∀ (x0 : Nat) (x1 : Int32) (x2 : Int32), kd x0 = 1 → k_4 x0 x1 x2 = some r → V X σ 4 [(0, .ref ((xG X).1 x0)), (1, .int x1), (2, .int x2)] []) (x0 : Nat) (x1 : Int32) (x2 : Int32) (hx0 : kd x0 = 1) (h : f_X0_brokenKeys_b4 σ k_4 x0 x1 x2 = some r) : V X σ 4 [(0, .ref ((xG X).1 x0)), (1, .int x1), (2, .int x2)] [] := by
  unfold f_X0_brokenKeys_b4 at h
  refine r_iload_n C 2 (q := 5) dX0_brokenKeys_4 rfl rfl ?_
  refine r_aload_n C 0 (q := 6) dX0_brokenKeys_5 rfl rfl ?_
  refine g_X0_5 C (q := 9) dX0_brokenKeys_6 q_77 hx0 rfl ?_
  refine r_icmp_ge C (tgt := 44) (q := 12) dX0_brokenKeys_9 (by decide) rfl (fun c_9 => ?_) (fun c_9 => ?_)
  · replace h := (if_pos c_9).symm.trans h
    refine r_iload_n C 1 (q := 45) dX0_brokenKeys_44 rfl rfl ?_
    obtain rfl := Option.some.inj h
    exact hr _ _ dX0_brokenKeys_45
  · replace h := (if_neg c_9).symm.trans h
    refine r_aload_n C 0 (q := 13) dX0_brokenKeys_12 rfl rfl ?_
    refine r_aload_n C 0 (q := 14) dX0_brokenKeys_13 rfl rfl ?_
    refine r_iload_n C 2 (q := 15) dX0_brokenKeys_14 rfl rfl ?_
    obtain ⟨v_15, e_15, h⟩ := bs h
    refine r_callV C (ci := 0) (st := [.ref ((xG X).1 x0)]) (st2 := [.ref ((xG X).1 v_15), .ref ((xG X).1 x0)]) (q := 18) (m_X0_keyAt (xG X) (xl X) hx0 e_15) ok_X0_keyAt hx0 rfl ⟨_, rfl⟩ q_353 rfl ⟨Nat.le_of_ble_eq_true rfl, Nat.le_of_ble_eq_true rfl⟩ rfl rfl (Nat.le_of_ble_eq_true rfl) dX0_brokenKeys_15 rfl (fun hp_15 => ?_)
    refine r_aload_n C 0 (q := 19) dX0_brokenKeys_18 rfl rfl ?_
    refine r_iload_n C 2 (q := 20) dX0_brokenKeys_19 rfl rfl ?_
    obtain ⟨v_20, e_20, h⟩ := bs h
    refine r_callV C (ci := 0) (st := [.ref ((xG X).1 v_15), .ref ((xG X).1 x0)]) (st2 := [.ref ((xG X).1 v_20), .ref ((xG X).1 v_15), .ref ((xG X).1 x0)]) (q := 23) (m_X0_keyAt (xG X) (xl X) hx0 e_20) ok_X0_keyAt hx0 rfl ⟨_, rfl⟩ q_353 rfl ⟨Nat.le_of_ble_eq_true rfl, Nat.le_of_ble_eq_true rfl⟩ rfl rfl (Nat.le_of_ble_eq_true rfl) dX0_brokenKeys_20 rfl (fun hp_20 => ?_)
    refine g_X1_3 C (q := 26) dX0_brokenKeys_23 q_51 hp_20 rfl ?_
    obtain ⟨v_26, e_26, h⟩ := bs h
    refine r_callV C (ci := 0) (st := []) (st2 := [.int v_26]) (q := 29) (m_X0_breaks (xG X) (xl X) hx0 hp_15 (kf_X1_3 hp_20) e_26) ok_X0_breaks hx0 rfl ⟨_, rfl⟩ q_362 rfl ⟨Nat.le_of_ble_eq_true rfl, Nat.le_of_ble_eq_true rfl⟩ rfl rfl (Nat.le_of_ble_eq_true rfl) dX0_brokenKeys_26 rfl (fun hp_26 => ?_)
    refine r_if_eq C (tgt := 38) (q := 32) dX0_brokenKeys_29 (by decide) rfl (fun c_29 => ?_) (fun c_29 => ?_)
    · replace h := (if_pos c_29).symm.trans h
      exact w_X0_brokenKeys_b38 C hr _ hk_4 _ _ _ hx0 h
    · replace h := (if_neg c_29).symm.trans h
      refine r_iload_n C 1 (q := 33) dX0_brokenKeys_32 rfl rfl ?_
      refine r_iconst C (v := 1) (q := 34) dX0_brokenKeys_33 (by decide) rfl ?_
      refine r_iload_n C 2 (q := 35) dX0_brokenKeys_34 rfl rfl ?_
      refine r_ishl C (q := 36) dX0_brokenKeys_35 rfl ?_
      refine r_ior C (q := 37) dX0_brokenKeys_36 rfl ?_
      obtain ⟨y_37, e_37, h⟩ := bs h
      refine r_topI (Option.some.inj e_37) ?_
      refine r_istore_n C (lv' := [(1, .int y_37), (0, .ref ((xG X).1 x0)), (2, .int x2)]) (q := 38) dX0_brokenKeys_37 rfl (by decide) rfl rfl ?_
      refine r_sub (lv' := [(0, .ref ((xG X).1 x0)), (1, .int y_37), (2, .int x2)]) [1, 0, 2] rfl ?_
      exact w_X0_brokenKeys_b38 C hr _ hk_4 _ _ _ hx0 h

theorem w_X0_brokenKeys_l4 {X : CX} (C : Cok X RX0 cX0_brokenKeys 3 2 45) {σ : St} {r : Int32} (hr : RtI X cX0_brokenKeys r σ) (n : Nat) : ∀ (x0 : Nat) (x1 : Int32) (x2 : Int32), kd x0 = 1 → f_X0_brokenKeys_l4 σ n x0 x1 x2 = some r → V X σ 4 [(0, .ref ((xG X).1 x0)), (1, .int x1), (2, .int x2)] [] := by
  induction n with
  | zero =>
    intro x0 x1 x2 hx0 h
    exact nomatch (show (none : Option Int32) = some r from h)
  | succ n ih =>
    intro x0 x1 x2 hx0 h
    exact w_X0_brokenKeys_b4 C hr _ ih x0 x1 x2 hx0 h
set_option maxHeartbeats 4000000 in
set_option maxRecDepth 100000 in
theorem w_X0_brokenKeys_b0 {X : CX} (C : Cok X RX0 cX0_brokenKeys 3 2 45) {σ : St} {r : Int32} (hr : RtI X cX0_brokenKeys r σ) (x0 : Nat) (hx0 : kd x0 = 1) (h : f_X0_brokenKeys σ x0 = some r) : V X σ 0 [(0, .ref ((xG X).1 x0))] [] := by
  unfold f_X0_brokenKeys at h
  refine r_iconst C (v := 0) (q := 1) dX0_brokenKeys_0 (by decide) rfl ?_
  refine r_istore_n C (lv' := [(1, .int 0), (0, .ref ((xG X).1 x0))]) (q := 2) dX0_brokenKeys_1 rfl (by decide) rfl rfl ?_
  refine r_iconst C (v := 0) (q := 3) dX0_brokenKeys_2 (by decide) rfl ?_
  refine r_istore_n C (lv' := [(2, .int 0), (1, .int 0), (0, .ref ((xG X).1 x0))]) (q := 4) dX0_brokenKeys_3 rfl (by decide) rfl rfl ?_
  refine r_sub (lv' := [(0, .ref ((xG X).1 x0)), (1, .int 0), (2, .int 0)]) [2, 1, 0] rfl ?_
  exact w_X0_brokenKeys_l4 C hr  FU _ _ _ hx0 h

theorem m_X0_brokenKeys (G : Gm) (l : Launch) {σ : St} {x0 : Nat} (hx0 : kd x0 = 1) {r : Int32} (h : f_X0_brokenKeys σ x0 = some r) : Ctr G l yX0_brokenKeys cX0_brokenKeys 3 (some .int) 2 45 [.ref (G.1 x0)] σ (some (.int r)) True σ := by
  refine Ctr.i (by decide) (Nat.le_of_ble_eq_true rfl) ?_
  intro X hG C hr
  subst hG
  exact w_X0_brokenKeys_b0 C hr _ hx0 h
-- X0_deepen
set_option maxHeartbeats 4000000 in
set_option maxRecDepth 100000 in
theorem w_X0_deepen_b0 {X : CX} (C : Cok X RX0 cX0_deepen 4 1 22) {σ' : St} {r : Int32} (hr : RtZ X cX0_deepen r σ') (σ : St) (x0 : Nat) (x1 : Nat) (x2 : Int32) (hx0 : kd x0 = 1) (hx1 : kd x1 = 2) (h : f_X0_deepen σ x0 x1 x2 = some (r, σ')) : V X σ 0 [(0, .ref ((xG X).1 x0)), (1, .ref ((xG X).1 x1)), (2, .int x2)] [] := by
  unfold f_X0_deepen at h
  refine r_aload_n C 1 (q := 1) dX0_deepen_0 rfl rfl ?_
  refine g_X1_3 C (q := 4) dX0_deepen_1 q_51 hx1 rfl ?_
  refine r_iload_n C 2 (q := 5) dX0_deepen_4 rfl rfl ?_
  obtain ⟨v_5, e_5, h⟩ := bs h
  refine r_callN C (st := []) (st2 := [.int v_5]) (q := 8) (m_X5_at (xG X) (xl X) (kf_X1_3 hx1) e_5) ok_X5_at nst_5 rfl ⟨Nat.le_of_ble_eq_true rfl, Nat.le_of_ble_eq_true rfl⟩ rfl rfl (Nat.le_of_ble_eq_true rfl) dX0_deepen_5 rfl (fun hp_5 => ?_)
  refine r_istore_n C (lv' := [(3, .int v_5), (0, .ref ((xG X).1 x0)), (1, .ref ((xG X).1 x1)), (2, .int x2)]) (q := 9) dX0_deepen_8 rfl (by decide) rfl rfl ?_
  refine r_iload_n C 0 (q := 10) dX0_deepen_9 rfl rfl ?_
  refine r_aload_n C 1 (q := 11) dX0_deepen_10 rfl rfl ?_
  refine g_X0_1 C (q := 14) dX0_deepen_11 q_66 hx0 rfl ?_
  refine r_icmp_lt C (tgt := 19) (q := 17) dX0_deepen_14 (by decide) rfl (fun c_14 => ?_) (fun c_14 => ?_)
  · replace h := (if_pos c_14).symm.trans h
    refine r_aload_n C 2 (q := 20) dX0_deepen_19 rfl rfl ?_
    refine g_X1_3 C (q := 23) dX0_deepen_20 q_51 hx1 rfl ?_
    refine r_iload_n C 3 (q := 24) dX0_deepen_23 rfl rfl ?_
    refine r_iload_n C 0 (q := 25) dX0_deepen_24 rfl rfl ?_
    refine r_iconst C (v := 1) (q := 26) dX0_deepen_25 (by decide) rfl ?_
    refine r_iadd C (q := 27) dX0_deepen_26 rfl ?_
    obtain ⟨s_27, e_27, h⟩ := bs h
    refine r_callN C (st := []) (st2 := []) (q := 30) (m_X5_put (xG X) (xl X) (kf_X1_3 hx1) e_27) ok_X5_put nst_6 rfl ⟨Nat.le_of_ble_eq_true rfl, Nat.le_of_ble_eq_true rfl⟩ rfl rfl (Nat.le_of_ble_eq_true rfl) dX0_deepen_27 rfl (fun hp_27 => ?_)
    refine r_iconst C (v := 1) (q := 31) dX0_deepen_30 (by decide) rfl ?_
    obtain ⟨rfl, rfl⟩ := Prod.mk.inj (Option.some.inj h)
    exact hr _ _ dX0_deepen_31 (Or.inr rfl)
  · replace h := (if_neg c_14).symm.trans h
    refine r_iconst C (v := 0) (q := 18) dX0_deepen_17 (by decide) rfl ?_
    obtain ⟨rfl, rfl⟩ := Prod.mk.inj (Option.some.inj h)
    exact hr _ _ dX0_deepen_18 (Or.inl rfl)

theorem m_X0_deepen (G : Gm) (l : Launch) {σ σ' : St} {x0 : Nat} {x1 : Nat} {x2 : Int32} (hx0 : kd x0 = 1) (hx1 : kd x1 = 2) {r : Int32} (h : f_X0_deepen σ x0 x1 x2 = some (r, σ')) : Ctr G l yX0_deepen cX0_deepen 4 (some .boolean) 1 22 [.ref (G.1 x0), .ref (G.1 x1), .int x2] σ (some (.int r)) (r = 0 ∨ r = 1) σ' := by
  refine Ctr.z (by decide) (Nat.le_of_ble_eq_true rfl) ?_
  intro X hG C hr
  subst hG
  exact w_X0_deepen_b0 C hr _ _ _ _ hx0 hx1 h
-- X0_cost
set_option maxHeartbeats 4000000 in
set_option maxRecDepth 100000 in
theorem w_X0_cost_b27 {X : CX} (C : Cok X RX0 cX0_cost 6 1 21) {σ : St} {r : Int32} (hr : RtI X cX0_cost r σ) (k_5 : Nat → Nat → Nat → Int32 → Int32 → Option Int32) (hk_5 : ∀ (x0 : Nat) (x1 : Nat) (x2 : Nat) (x3 : Int32) (x4 : Int32), kd x0 = 1 → kd x1 = 2 → kd x2 = 8 → k_5 x0 x1 x2 x3 x4 = some r → V X σ 5 [(0, .ref ((xG X).1 x0)), (1, .ref ((xG X).1 x1)), (2, .ref ((xG X).1 x2)), (3, .int x3), (4, .int x4)] []) (k_27 : Nat → Nat → Nat → Int32 → Int32 → Int32 → Option Int32) (hk_27 : ∀ (x0 : Nat) (x1 : Nat) (x2 : Nat) (x3 : Int32) (x4 : Int32) (x5 : Int32), kd x0 = 1 → kd x1 = 2 → kd x2 = 8 → k_27 x0 x1 x2 x3 x4 x5 = some r → V X σ 27 [(0, .ref ((xG X).1 x0)), (1, .ref ((xG X).1 x1)), (2, .ref ((xG X).1 x2)), (3, .int x3), (4, .int x4), (5, .int x5)] []) (x0 : Nat) (x1 : Nat) (x2 : Nat) (x3 : Int32) (x4 : Int32) (x5 : Int32) (hx0 : kd x0 = 1) (hx1 : kd x1 = 2) (hx2 : kd x2 = 8) (h : f_X0_cost_b27 σ k_5 k_27 x0 x1 x2 x3 x4 x5 = some r) : V X σ 27 [(0, .ref ((xG X).1 x0)), (1, .ref ((xG X).1 x1)), (2, .ref ((xG X).1 x2)), (3, .int x3), (4, .int x4), (5, .int x5)] [] := by
  unfold f_X0_cost_b27 at h
  refine r_iload C 5 (q := 29) dX0_cost_27 rfl rfl ?_
  refine r_aload_n C 2 (q := 30) dX0_cost_29 rfl rfl ?_
  refine r_iload C 4 (q := 32) dX0_cost_30 rfl rfl ?_
  obtain ⟨v_32, e_32, h⟩ := bs h
  refine r_callN C (st := [.int x5]) (st2 := [.int v_32, .int x5]) (q := 35) (m_X5_at (xG X) (xl X) hx2 e_32) ok_X5_at nst_5 rfl ⟨Nat.le_of_ble_eq_true rfl, Nat.le_of_ble_eq_true rfl⟩ rfl rfl (Nat.le_of_ble_eq_true rfl) dX0_cost_32 rfl (fun hp_32 => ?_)
  refine r_icmp_gt C (tgt := 49) (q := 38) dX0_cost_35 (by decide) rfl (fun c_35 => ?_) (fun c_35 => ?_)
  · replace h := (if_pos c_35).symm.trans h
    obtain ⟨y_49, e_49, h⟩ := bs h
    refine r_iinc C (v := y_49) (lv' := [(4, .int y_49), (0, .ref ((xG X).1 x0)), (1, .ref ((xG X).1 x1)), (2, .ref ((xG X).1 x2)), (3, .int x3), (5, .int x5)]) (q := 52) 4 dX0_cost_49 rfl (Option.some.inj e_49) (by decide) rfl rfl ?_
    refine r_goto C (tgt := 5) dX0_cost_52 (by decide) ?_
    refine r_sub (lv' := [(0, .ref ((xG X).1 x0)), (1, .ref ((xG X).1 x1)), (2, .ref ((xG X).1 x2)), (3, .int x3), (4, .int y_49)]) [1, 2, 3, 4, 0] rfl ?_
    exact hk_5 _ _ _ _ _ hx0 hx1 hx2 h
  · replace h := (if_neg c_35).symm.trans h
    refine r_iload_n C 3 (q := 39) dX0_cost_38 rfl rfl ?_
    refine r_iload C 5 (q := 41) dX0_cost_39 rfl rfl ?_
    refine r_iadd C (q := 42) dX0_cost_41 rfl ?_
    obtain ⟨y_42, e_42, h⟩ := bs h
    refine r_topI (Option.some.inj e_42) ?_
    refine r_istore_n C (lv' := [(3, .int y_42), (0, .ref ((xG X).1 x0)), (1, .ref ((xG X).1 x1)), (2, .ref ((xG X).1 x2)), (4, .int x4), (5, .int x5)]) (q := 43) dX0_cost_42 rfl (by decide) rfl rfl ?_
    obtain ⟨y_43, e_43, h⟩ := bs h
    refine r_iinc C (v := y_43) (lv' := [(5, .int y_43), (3, .int y_42), (0, .ref ((xG X).1 x0)), (1, .ref ((xG X).1 x1)), (2, .ref ((xG X).1 x2)), (4, .int x4)]) (q := 46) 5 dX0_cost_43 rfl (Option.some.inj e_43) (by decide) rfl rfl ?_
    refine r_goto C (tgt := 27) dX0_cost_46 (by decide) ?_
    refine r_sub (lv' := [(0, .ref ((xG X).1 x0)), (1, .ref ((xG X).1 x1)), (2, .ref ((xG X).1 x2)), (3, .int y_42), (4, .int x4), (5, .int y_43)]) [2, 3, 4, 1, 5, 0] rfl ?_
    exact hk_27 _ _ _ _ _ _ hx0 hx1 hx2 h

theorem w_X0_cost_l27 {X : CX} (C : Cok X RX0 cX0_cost 6 1 21) {σ : St} {r : Int32} (hr : RtI X cX0_cost r σ) (k_5 : Nat → Nat → Nat → Int32 → Int32 → Option Int32) (hk_5 : ∀ (x0 : Nat) (x1 : Nat) (x2 : Nat) (x3 : Int32) (x4 : Int32), kd x0 = 1 → kd x1 = 2 → kd x2 = 8 → k_5 x0 x1 x2 x3 x4 = some r → V X σ 5 [(0, .ref ((xG X).1 x0)), (1, .ref ((xG X).1 x1)), (2, .ref ((xG X).1 x2)), (3, .int x3), (4, .int x4)] []) (n : Nat) : ∀ (x0 : Nat) (x1 : Nat) (x2 : Nat) (x3 : Int32) (x4 : Int32) (x5 : Int32), kd x0 = 1 → kd x1 = 2 → kd x2 = 8 → f_X0_cost_l27 σ k_5 n x0 x1 x2 x3 x4 x5 = some r → V X σ 27 [(0, .ref ((xG X).1 x0)), (1, .ref ((xG X).1 x1)), (2, .ref ((xG X).1 x2)), (3, .int x3), (4, .int x4), (5, .int x5)] [] := by
  induction n with
  | zero =>
    intro x0 x1 x2 x3 x4 x5 hx0 hx1 hx2 h
    exact nomatch (show (none : Option Int32) = some r from h)
  | succ n ih =>
    intro x0 x1 x2 x3 x4 x5 hx0 hx1 hx2 h
    exact w_X0_cost_b27 C hr k_5 hk_5 _ ih x0 x1 x2 x3 x4 x5 hx0 hx1 hx2 h
set_option maxHeartbeats 4000000 in
set_option maxRecDepth 100000 in
theorem w_X0_cost_b5 {X : CX} (C : Cok X RX0 cX0_cost 6 1 21) {σ : St} {r : Int32} (hr : RtI X cX0_cost r σ) (k_5 : Nat → Nat → Nat → Int32 → Int32 → Option Int32) (hk_5 : ∀ (x0 : Nat) (x1 : Nat) (x2 : Nat) (x3 : Int32) (x4 : Int32), kd x0 = 1 → kd x1 = 2 → kd x2 = 8 → k_5 x0 x1 x2 x3 x4 = some r → V X σ 5 [(0, .ref ((xG X).1 x0)), (1, .ref ((xG X).1 x1)), (2, .ref ((xG X).1 x2)), (3, .int x3), (4, .int x4)] []) (x0 : Nat) (x1 : Nat) (x2 : Nat) (x3 : Int32) (x4 : Int32) (hx0 : kd x0 = 1) (hx1 : kd x1 = 2) (hx2 : kd x2 = 8) (h : f_X0_cost_b5 σ k_5 x0 x1 x2 x3 x4 = some r) : V X σ 5 [(0, .ref ((xG X).1 x0)), (1, .ref ((xG X).1 x1)), (2, .ref ((xG X).1 x2)), (3, .int x3), (4, .int x4)] [] := by
  unfold f_X0_cost_b5 at h
  refine r_iload C 4 (q := 7) dX0_cost_5 rfl rfl ?_
  refine r_aload_n C 0 (q := 8) dX0_cost_7 rfl rfl ?_
  refine g_X0_0 C (q := 11) dX0_cost_8 q_62 hx0 rfl ?_
  refine r_icmp_ge C (tgt := 55) (q := 14) dX0_cost_11 (by decide) rfl (fun c_11 => ?_) (fun c_11 => ?_)
  · replace h := (if_pos c_11).symm.trans h
    refine r_iload_n C 3 (q := 56) dX0_cost_55 rfl rfl ?_
    obtain rfl := Option.some.inj h
    exact hr _ _ dX0_cost_56
  · replace h := (if_neg c_11).symm.trans h
    refine r_aload_n C 1 (q := 15) dX0_cost_14 rfl rfl ?_
    refine g_X1_3 C (q := 18) dX0_cost_15 q_51 hx1 rfl ?_
    refine r_iload C 4 (q := 20) dX0_cost_18 rfl rfl ?_
    obtain ⟨v_20, e_20, h⟩ := bs h
    refine r_callN C (st := []) (st2 := [.int v_20]) (q := 23) (m_X5_at (xG X) (xl X) (kf_X1_3 hx1) e_20) ok_X5_at nst_5 rfl ⟨Nat.le_of_ble_eq_true rfl, Nat.le_of_ble_eq_true rfl⟩ rfl rfl (Nat.le_of_ble_eq_true rfl) dX0_cost_20 rfl (fun hp_20 => ?_)
    refine r_iconst C (v := 1) (q := 24) dX0_cost_23 (by decide) rfl ?_
    refine r_iadd C (q := 25) dX0_cost_24 rfl ?_
    obtain ⟨y_25, e_25, h⟩ := bs h
    refine r_topI (Option.some.inj e_25) ?_
    refine r_istore C (lv' := [(5, .int y_25), (0, .ref ((xG X).1 x0)), (1, .ref ((xG X).1 x1)), (2, .ref ((xG X).1 x2)), (3, .int x3), (4, .int x4)]) (q := 27) dX0_cost_25 (by decide) rfl rfl ?_
    refine r_sub (lv' := [(0, .ref ((xG X).1 x0)), (1, .ref ((xG X).1 x1)), (2, .ref ((xG X).1 x2)), (3, .int x3), (4, .int x4), (5, .int y_25)]) [1, 2, 3, 4, 5, 0] rfl ?_
    exact w_X0_cost_l27 C hr _ hk_5 FU _ _ _ _ _ _ hx0 hx1 hx2 h

theorem w_X0_cost_l5 {X : CX} (C : Cok X RX0 cX0_cost 6 1 21) {σ : St} {r : Int32} (hr : RtI X cX0_cost r σ) (n : Nat) : ∀ (x0 : Nat) (x1 : Nat) (x2 : Nat) (x3 : Int32) (x4 : Int32), kd x0 = 1 → kd x1 = 2 → kd x2 = 8 → f_X0_cost_l5 σ n x0 x1 x2 x3 x4 = some r → V X σ 5 [(0, .ref ((xG X).1 x0)), (1, .ref ((xG X).1 x1)), (2, .ref ((xG X).1 x2)), (3, .int x3), (4, .int x4)] [] := by
  induction n with
  | zero =>
    intro x0 x1 x2 x3 x4 hx0 hx1 hx2 h
    exact nomatch (show (none : Option Int32) = some r from h)
  | succ n ih =>
    intro x0 x1 x2 x3 x4 hx0 hx1 hx2 h
    exact w_X0_cost_b5 C hr _ ih x0 x1 x2 x3 x4 hx0 hx1 hx2 h
set_option maxHeartbeats 4000000 in
set_option maxRecDepth 100000 in
theorem w_X0_cost_b0 {X : CX} (C : Cok X RX0 cX0_cost 6 1 21) {σ : St} {r : Int32} (hr : RtI X cX0_cost r σ) (x0 : Nat) (x1 : Nat) (x2 : Nat) (hx0 : kd x0 = 1) (hx1 : kd x1 = 2) (hx2 : kd x2 = 8) (h : f_X0_cost σ x0 x1 x2 = some r) : V X σ 0 [(0, .ref ((xG X).1 x0)), (1, .ref ((xG X).1 x1)), (2, .ref ((xG X).1 x2))] [] := by
  unfold f_X0_cost at h
  refine r_iconst C (v := 0) (q := 1) dX0_cost_0 (by decide) rfl ?_
  refine r_istore_n C (lv' := [(3, .int 0), (0, .ref ((xG X).1 x0)), (1, .ref ((xG X).1 x1)), (2, .ref ((xG X).1 x2))]) (q := 2) dX0_cost_1 rfl (by decide) rfl rfl ?_
  refine r_iconst C (v := 0) (q := 3) dX0_cost_2 (by decide) rfl ?_
  refine r_istore C (lv' := [(4, .int 0), (3, .int 0), (0, .ref ((xG X).1 x0)), (1, .ref ((xG X).1 x1)), (2, .ref ((xG X).1 x2))]) (q := 5) dX0_cost_3 (by decide) rfl rfl ?_
  refine r_sub (lv' := [(0, .ref ((xG X).1 x0)), (1, .ref ((xG X).1 x1)), (2, .ref ((xG X).1 x2)), (3, .int 0), (4, .int 0)]) [2, 3, 4, 1, 0] rfl ?_
  exact w_X0_cost_l5 C hr  FU _ _ _ _ _ hx0 hx1 hx2 h

theorem m_X0_cost (G : Gm) (l : Launch) {σ : St} {x0 : Nat} {x1 : Nat} {x2 : Nat} (hx0 : kd x0 = 1) (hx1 : kd x1 = 2) (hx2 : kd x2 = 8) {r : Int32} (h : f_X0_cost σ x0 x1 x2 = some r) : Ctr G l yX0_cost cX0_cost 6 (some .int) 1 21 [.ref (G.1 x0), .ref (G.1 x1), .ref (G.1 x2)] σ (some (.int r)) True σ := by
  refine Ctr.i (by decide) (Nat.le_of_ble_eq_true rfl) ?_
  intro X hG C hr
  subst hG
  exact w_X0_cost_b0 C hr _ _ _ hx0 hx1 hx2 h
-- X0_advance
set_option maxHeartbeats 4000000 in
set_option maxRecDepth 100000 in
theorem w_X0_advance_b7 {X : CX} (C : Cok X RX0 cX0_advance 4 1 22) {σ' : St} {r : Int32} (hr : RtZ X cX0_advance r σ') (k_7 : St → Nat → Nat → Nat → Int32 → Option (Int32 × St)) (hk_7 : ∀ (σ : St) (x0 : Nat) (x1 : Nat) (x2 : Nat) (x3 : Int32), kd x0 = 1 → kd x1 = 8 → kd x2 = 8 → k_7 σ x0 x1 x2 x3 = some (r, σ') → V X σ 7 [(0, .ref ((xG X).1 x0)), (1, .ref ((xG X).1 x1)), (2, .ref ((xG X).1 x2)), (3, .int x3)] []) (σ : St) (x0 : Nat) (x1 : Nat) (x2 : Nat) (x3 : Int32) (hx0 : kd x0 = 1) (hx1 : kd x1 = 8) (hx2 : kd x2 = 8) (h : f_X0_advance_b7 k_7 σ x0 x1 x2 x3 = some (r, σ')) : V X σ 7 [(0, .ref ((xG X).1 x0)), (1, .ref ((xG X).1 x1)), (2, .ref ((xG X).1 x2)), (3, .int x3)] [] := by
  unfold f_X0_advance_b7 at h
  refine r_iload_n C 3 (q := 8) dX0_advance_7 rfl rfl ?_
  refine r_if_lt C (tgt := 53) (q := 11) dX0_advance_8 (by decide) rfl (fun c_8 => ?_) (fun c_8 => ?_)
  · replace h := (if_pos c_8).symm.trans h
    refine r_iconst C (v := 0) (q := 54) dX0_advance_53 (by decide) rfl ?_
    obtain ⟨rfl, rfl⟩ := Prod.mk.inj (Option.some.inj h)
    exact hr _ _ dX0_advance_54 (Or.inl rfl)
  · replace h := (if_neg c_8).symm.trans h
    refine r_aload_n C 1 (q := 12) dX0_advance_11 rfl rfl ?_
    refine r_iload_n C 3 (q := 13) dX0_advance_12 rfl rfl ?_
    obtain ⟨v_13, e_13, h⟩ := bs h
    refine r_callN C (st := []) (st2 := [.int v_13]) (q := 16) (m_X5_at (xG X) (xl X) hx1 e_13) ok_X5_at nst_5 rfl ⟨Nat.le_of_ble_eq_true rfl, Nat.le_of_ble_eq_true rfl⟩ rfl rfl (Nat.le_of_ble_eq_true rfl) dX0_advance_13 rfl (fun hp_13 => ?_)
    refine r_aload_n C 0 (q := 17) dX0_advance_16 rfl rfl ?_
    refine g_X0_1 C (q := 20) dX0_advance_17 q_66 hx0 rfl ?_
    refine r_icmp_ge C (tgt := 37) (q := 23) dX0_advance_20 (by decide) rfl (fun c_20 => ?_) (fun c_20 => ?_)
    · replace h := (if_pos c_20).symm.trans h
      refine r_aload_n C 1 (q := 38) dX0_advance_37 rfl rfl ?_
      refine r_iload_n C 3 (q := 39) dX0_advance_38 rfl rfl ?_
      refine r_aload_n C 2 (q := 40) dX0_advance_39 rfl rfl ?_
      refine r_iload_n C 3 (q := 41) dX0_advance_40 rfl rfl ?_
      obtain ⟨v_41, e_41, h⟩ := bs h
      refine r_callN C (st := [.int x3, .ref ((xG X).1 x1)]) (st2 := [.int v_41, .int x3, .ref ((xG X).1 x1)]) (q := 44) (m_X5_at (xG X) (xl X) hx2 e_41) ok_X5_at nst_5 rfl ⟨Nat.le_of_ble_eq_true rfl, Nat.le_of_ble_eq_true rfl⟩ rfl rfl (Nat.le_of_ble_eq_true rfl) dX0_advance_41 rfl (fun hp_41 => ?_)
      obtain ⟨s_44, e_44, h⟩ := bs h
      refine r_callN C (st := []) (st2 := []) (q := 47) (m_X5_put (xG X) (xl X) hx1 e_44) ok_X5_put nst_6 rfl ⟨Nat.le_of_ble_eq_true rfl, Nat.le_of_ble_eq_true rfl⟩ rfl rfl (Nat.le_of_ble_eq_true rfl) dX0_advance_44 rfl (fun hp_44 => ?_)
      obtain ⟨y_47, e_47, h⟩ := bs h
      refine r_iinc C (v := y_47) (lv' := [(3, .int y_47), (0, .ref ((xG X).1 x0)), (1, .ref ((xG X).1 x1)), (2, .ref ((xG X).1 x2))]) (q := 50) 3 dX0_advance_47 rfl (Option.some.inj e_47) (by decide) rfl rfl ?_
      refine r_goto C (tgt := 7) dX0_advance_50 (by decide) ?_
      refine r_sub (lv' := [(0, .ref ((xG X).1 x0)), (1, .ref ((xG X).1 x1)), (2, .ref ((xG X).1 x2)), (3, .int y_47)]) [1, 2, 3, 0] rfl ?_
      exact hk_7 _ _ _ _ _ hx0 hx1 hx2 h
    · replace h := (if_neg c_20).symm.trans h
      refine r_aload_n C 1 (q := 24) dX0_advance_23 rfl rfl ?_
      refine r_iload_n C 3 (q := 25) dX0_advance_24 rfl rfl ?_
      refine r_aload_n C 1 (q := 26) dX0_advance_25 rfl rfl ?_
      refine r_iload_n C 3 (q := 27) dX0_advance_26 rfl rfl ?_
      obtain ⟨v_27, e_27, h⟩ := bs h
      refine r_callN C (st := [.int x3, .ref ((xG X).1 x1)]) (st2 := [.int v_27, .int x3, .ref ((xG X).1 x1)]) (q := 30) (m_X5_at (xG X) (xl X) hx1 e_27) ok_X5_at nst_5 rfl ⟨Nat.le_of_ble_eq_true rfl, Nat.le_of_ble_eq_true rfl⟩ rfl rfl (Nat.le_of_ble_eq_true rfl) dX0_advance_27 rfl (fun hp_27 => ?_)
      refine r_iconst C (v := 1) (q := 31) dX0_advance_30 (by decide) rfl ?_
      refine r_iadd C (q := 32) dX0_advance_31 rfl ?_
      obtain ⟨s_32, e_32, h⟩ := bs h
      refine r_callN C (st := []) (st2 := []) (q := 35) (m_X5_put (xG X) (xl X) hx1 e_32) ok_X5_put nst_6 rfl ⟨Nat.le_of_ble_eq_true rfl, Nat.le_of_ble_eq_true rfl⟩ rfl rfl (Nat.le_of_ble_eq_true rfl) dX0_advance_32 rfl (fun hp_32 => ?_)
      refine r_iconst C (v := 1) (q := 36) dX0_advance_35 (by decide) rfl ?_
      obtain ⟨rfl, rfl⟩ := Prod.mk.inj (Option.some.inj h)
      exact hr _ _ dX0_advance_36 (Or.inr rfl)

theorem w_X0_advance_l7 {X : CX} (C : Cok X RX0 cX0_advance 4 1 22) {σ' : St} {r : Int32} (hr : RtZ X cX0_advance r σ') (n : Nat) : ∀ (σ : St) (x0 : Nat) (x1 : Nat) (x2 : Nat) (x3 : Int32), kd x0 = 1 → kd x1 = 8 → kd x2 = 8 → f_X0_advance_l7 n σ x0 x1 x2 x3 = some (r, σ') → V X σ 7 [(0, .ref ((xG X).1 x0)), (1, .ref ((xG X).1 x1)), (2, .ref ((xG X).1 x2)), (3, .int x3)] [] := by
  induction n with
  | zero =>
    intro σ x0 x1 x2 x3 hx0 hx1 hx2 h
    exact nomatch (show (none : Option (Int32 × St)) = some (r, σ') from h)
  | succ n ih =>
    intro σ x0 x1 x2 x3 hx0 hx1 hx2 h
    exact w_X0_advance_b7 C hr _ ih σ x0 x1 x2 x3 hx0 hx1 hx2 h
set_option maxHeartbeats 4000000 in
set_option maxRecDepth 100000 in
theorem w_X0_advance_b0 {X : CX} (C : Cok X RX0 cX0_advance 4 1 22) {σ' : St} {r : Int32} (hr : RtZ X cX0_advance r σ') (σ : St) (x0 : Nat) (x1 : Nat) (x2 : Nat) (hx0 : kd x0 = 1) (hx1 : kd x1 = 8) (hx2 : kd x2 = 8) (h : f_X0_advance σ x0 x1 x2 = some (r, σ')) : V X σ 0 [(0, .ref ((xG X).1 x0)), (1, .ref ((xG X).1 x1)), (2, .ref ((xG X).1 x2))] [] := by
  unfold f_X0_advance at h
  refine r_aload_n C 0 (q := 1) dX0_advance_0 rfl rfl ?_
  refine g_X0_0 C (q := 4) dX0_advance_1 q_62 hx0 rfl ?_
  refine r_iconst C (v := 1) (q := 5) dX0_advance_4 (by decide) rfl ?_
  refine r_isub C (q := 6) dX0_advance_5 rfl ?_
  obtain ⟨y_6, e_6, h⟩ := bs h
  refine r_topI (Option.some.inj e_6) ?_
  refine r_istore_n C (lv' := [(3, .int y_6), (0, .ref ((xG X).1 x0)), (1, .ref ((xG X).1 x1)), (2, .ref ((xG X).1 x2))]) (q := 7) dX0_advance_6 rfl (by decide) rfl rfl ?_
  refine r_sub (lv' := [(0, .ref ((xG X).1 x0)), (1, .ref ((xG X).1 x1)), (2, .ref ((xG X).1 x2)), (3, .int y_6)]) [1, 2, 3, 0] rfl ?_
  exact w_X0_advance_l7 C hr  FU _ _ _ _ _ hx0 hx1 hx2 h

theorem m_X0_advance (G : Gm) (l : Launch) {σ σ' : St} {x0 : Nat} {x1 : Nat} {x2 : Nat} (hx0 : kd x0 = 1) (hx1 : kd x1 = 8) (hx2 : kd x2 = 8) {r : Int32} (h : f_X0_advance σ x0 x1 x2 = some (r, σ')) : Ctr G l yX0_advance cX0_advance 4 (some .boolean) 1 22 [.ref (G.1 x0), .ref (G.1 x1), .ref (G.1 x2)] σ (some (.int r)) (r = 0 ∨ r = 1) σ' := by
  refine Ctr.z (by decide) (Nat.le_of_ble_eq_true rfl) ?_
  intro X hG C hr
  subst hG
  exact w_X0_advance_b0 C hr _ _ _ _ hx0 hx1 hx2 h
-- X0_draw
set_option maxHeartbeats 4000000 in
set_option maxRecDepth 100000 in
theorem w_X0_draw_b0 {X : CX} (C : Cok X RX0 cX0_draw 2 0 0) {σ' : St} {r : Int32} (hr : RtI X cX0_draw r σ') (σ : St) (x0 : Nat) (x1 : Int32) (hx0 : kd x0 = 1) (h : f_X0_draw σ x0 x1 = some (r, σ')) : V X σ 0 [(0, .ref ((xG X).1 x0)), (1, .int x1)] [] := by
  unfold f_X0_draw at h
  refine r_aload_n C 0 (q := 1) dX0_draw_0 rfl rfl ?_
  refine r_aload_n C 0 (q := 2) dX0_draw_1 rfl rfl ?_
  refine g_X0_4 C (q := 5) dX0_draw_2 q_75 hx0 rfl ?_
  refine r_ldc C (v := 1103515245) (q := 7) dX0_draw_5 q_931 rfl ?_
  refine r_imul C (q := 8) dX0_draw_7 rfl ?_
  refine r_sipush C (v := 12345) (q := 11) dX0_draw_8 (by decide) rfl ?_
  refine r_iadd C (q := 12) dX0_draw_11 rfl ?_
  obtain ⟨s_12, e_12, h⟩ := bs h
  refine p_X0_4 C (q := 15) dX0_draw_12 q_75 hx0 e_12 rfl ?_
  refine r_iload_n C 1 (q := 16) dX0_draw_15 rfl rfl ?_
  refine r_if_le C (tgt := 31) (q := 19) dX0_draw_16 (by decide) rfl (fun c_16 => ?_) (fun c_16 => ?_)
  · replace h := (if_pos c_16).symm.trans h
    refine r_iconst C (v := 0) (q := 32) dX0_draw_31 (by decide) rfl ?_
    obtain ⟨rfl, rfl⟩ := Prod.mk.inj (Option.some.inj h)
    exact hr _ _ dX0_draw_32
  · replace h := (if_neg c_16).symm.trans h
    refine r_aload_n C 0 (q := 20) dX0_draw_19 rfl rfl ?_
    refine g_X0_4 C (q := 23) dX0_draw_20 q_75 hx0 rfl ?_
    refine r_bipush C (v := 16) (q := 25) dX0_draw_23 (by decide) rfl ?_
    refine r_iushr C (q := 26) dX0_draw_25 rfl ?_
    refine r_iload_n C 1 (q := 27) dX0_draw_26 rfl rfl ?_
    obtain ⟨v_27, e_27, h⟩ := bs h
    refine r_irem C (q := 28) dX0_draw_27 e_27 rfl ?_
    refine r_goto C (tgt := 32) dX0_draw_28 (by decide) ?_
    obtain ⟨rfl, rfl⟩ := Prod.mk.inj (Option.some.inj h)
    exact hr _ _ dX0_draw_32

theorem m_X0_draw (G : Gm) (l : Launch) {σ σ' : St} {x0 : Nat} {x1 : Int32} (hx0 : kd x0 = 1) {r : Int32} (h : f_X0_draw σ x0 x1 = some (r, σ')) : Ctr G l yX0_draw cX0_draw 2 (some .int) 0 0 [.ref (G.1 x0), .int x1] σ (some (.int r)) True σ' := by
  refine Ctr.i (by decide) (Nat.le_of_ble_eq_true rfl) ?_
  intro X hG C hr
  subst hG
  exact w_X0_draw_b0 C hr _ _ _ hx0 h
-- X0_wear
set_option maxHeartbeats 4000000 in
set_option maxRecDepth 100000 in
theorem w_X0_wear_b0 {X : CX} (C : Cok X RX0 cX0_wear 2 2 45) {σ' : St} {r : Int32} (hr : RtZ X cX0_wear r σ') (σ : St) (x0 : Nat) (x1 : Nat) (hx0 : kd x0 = 1) (hx1 : kd x1 = 2) (h : f_X0_wear σ x0 x1 = some (r, σ')) : V X σ 0 [(0, .ref ((xG X).1 x0)), (1, .ref ((xG X).1 x1))] [] := by
  unfold f_X0_wear at h
  refine r_aload_n C 0 (q := 1) dX0_wear_0 rfl rfl ?_
  refine r_iconst C (v := 4) (q := 2) dX0_wear_1 (by decide) rfl ?_
  obtain ⟨v_2, s_2, e_2, h⟩ := bs2 h
  refine r_callV C (ci := 0) (st := []) (st2 := [.int v_2]) (q := 5) (m_X0_draw (xG X) (xl X) hx0 e_2) ok_X0_draw hx0 rfl ⟨_, rfl⟩ q_927 rfl ⟨Nat.le_of_ble_eq_true rfl, Nat.le_of_ble_eq_true rfl⟩ rfl rfl (Nat.le_of_ble_eq_true rfl) dX0_wear_2 rfl (fun hp_2 => ?_)
  refine r_if_ne C (tgt := 28) (q := 8) dX0_wear_5 (by decide) rfl (fun c_5 => ?_) (fun c_5 => ?_)
  · replace h := (if_neg c_5).symm.trans h
    refine r_iconst C (v := 0) (q := 29) dX0_wear_28 (by decide) rfl ?_
    obtain ⟨rfl, rfl⟩ := Prod.mk.inj (Option.some.inj h)
    exact hr _ _ dX0_wear_29 (Or.inl rfl)
  · replace h := (if_pos c_5).symm.trans h
    refine r_aload_n C 0 (q := 9) dX0_wear_8 rfl rfl ?_
    refine r_aload_n C 1 (q := 10) dX0_wear_9 rfl rfl ?_
    refine r_aload_n C 0 (q := 11) dX0_wear_10 rfl rfl ?_
    refine r_aload_n C 0 (q := 12) dX0_wear_11 rfl rfl ?_
    refine g_X0_0 C (q := 15) dX0_wear_12 q_62 hx0 rfl ?_
    obtain ⟨v_15, s_15, e_15, h⟩ := bs2 h
    refine r_callV C (ci := 0) (st := [.ref ((xG X).1 x1), .ref ((xG X).1 x0)]) (st2 := [.int v_15, .ref ((xG X).1 x1), .ref ((xG X).1 x0)]) (q := 18) (m_X0_draw (xG X) (xl X) hx0 e_15) ok_X0_draw hx0 rfl ⟨_, rfl⟩ q_927 rfl ⟨Nat.le_of_ble_eq_true rfl, Nat.le_of_ble_eq_true rfl⟩ rfl rfl (Nat.le_of_ble_eq_true rfl) dX0_wear_15 rfl (fun hp_15 => ?_)
    obtain ⟨v_18, s_18, e_18, h⟩ := bs2 h
    refine r_callV C (ci := 0) (st := []) (st2 := [.int v_18]) (q := 21) (m_X0_deepen (xG X) (xl X) hx0 hx1 e_18) ok_X0_deepen hx0 rfl ⟨_, rfl⟩ q_932 rfl ⟨Nat.le_of_ble_eq_true rfl, Nat.le_of_ble_eq_true rfl⟩ rfl rfl (Nat.le_of_ble_eq_true rfl) dX0_wear_18 rfl (fun hp_18 => ?_)
    refine r_if_eq C (tgt := 28) (q := 24) dX0_wear_21 (by decide) rfl (fun c_21 => ?_) (fun c_21 => ?_)
    · replace h := (if_pos c_21).symm.trans h
      refine r_iconst C (v := 0) (q := 29) dX0_wear_28 (by decide) rfl ?_
      obtain ⟨rfl, rfl⟩ := Prod.mk.inj (Option.some.inj h)
      exact hr _ _ dX0_wear_29 (Or.inl rfl)
    · replace h := (if_neg c_21).symm.trans h
      refine r_iconst C (v := 1) (q := 25) dX0_wear_24 (by decide) rfl ?_
      refine r_goto C (tgt := 29) dX0_wear_25 (by decide) ?_
      obtain ⟨rfl, rfl⟩ := Prod.mk.inj (Option.some.inj h)
      exact hr _ _ dX0_wear_29 (Or.inr rfl)

theorem m_X0_wear (G : Gm) (l : Launch) {σ σ' : St} {x0 : Nat} {x1 : Nat} (hx0 : kd x0 = 1) (hx1 : kd x1 = 2) {r : Int32} (h : f_X0_wear σ x0 x1 = some (r, σ')) : Ctr G l yX0_wear cX0_wear 2 (some .boolean) 2 45 [.ref (G.1 x0), .ref (G.1 x1)] σ (some (.int r)) (r = 0 ∨ r = 1) σ' := by
  refine Ctr.z (by decide) (Nat.le_of_ble_eq_true rfl) ?_
  intro X hG C hr
  subst hG
  exact w_X0_wear_b0 C hr _ _ _ hx0 hx1 h
-- X0_passDay
set_option maxHeartbeats 4000000 in
set_option maxRecDepth 100000 in
theorem w_X0_passDay_b0 {X : CX} (C : Cok X RX0 cX0_passDay 3 5 117) {σ' : St} {r : Int32} (hr : RtZ X cX0_passDay r σ') (σ : St) (x0 : Nat) (hx0 : kd x0 = 1) (h : f_X0_passDay σ x0 = some (r, σ')) : V X σ 0 [(0, .ref ((xG X).1 x0))] [] := by
  unfold f_X0_passDay at h
  refine r_aload_n C 0 (q := 1) dX0_passDay_0 rfl rfl ?_
  refine r_aload_n C 0 (q := 2) dX0_passDay_1 rfl rfl ?_
  refine g_X0_5 C (q := 5) dX0_passDay_2 q_77 hx0 rfl ?_
  obtain ⟨v_5, s_5, e_5, h⟩ := bs2 h
  refine r_callV C (ci := 0) (st := []) (st2 := [.int v_5]) (q := 8) (m_X0_draw (xG X) (xl X) hx0 e_5) ok_X0_draw hx0 rfl ⟨_, rfl⟩ q_927 rfl ⟨Nat.le_of_ble_eq_true rfl, Nat.le_of_ble_eq_true rfl⟩ rfl rfl (Nat.le_of_ble_eq_true rfl) dX0_passDay_5 rfl (fun hp_5 => ?_)
  refine r_istore_n C (lv' := [(1, .int v_5), (0, .ref ((xG X).1 x0))]) (q := 9) dX0_passDay_8 rfl (by decide) rfl rfl ?_
  refine r_aload_n C 1 (q := 10) dX0_passDay_9 rfl rfl ?_
  refine r_aload_n C 1 (q := 11) dX0_passDay_10 rfl rfl ?_
  refine g_X0_6 C (q := 14) dX0_passDay_11 q_81 hx0 rfl ?_
  obtain ⟨v_14, s_14, e_14, h⟩ := bs2 h
  refine r_callV C (ci := 0) (st := []) (st2 := [.int v_14]) (q := 17) (m_X0_draw (xG X) (xl X) hx0 e_14) ok_X0_draw hx0 rfl ⟨_, rfl⟩ q_927 rfl ⟨Nat.le_of_ble_eq_true rfl, Nat.le_of_ble_eq_true rfl⟩ rfl rfl (Nat.le_of_ble_eq_true rfl) dX0_passDay_14 rfl (fun hp_14 => ?_)
  refine r_istore_n C (lv' := [(2, .int v_14), (1, .int v_5), (0, .ref ((xG X).1 x0))]) (q := 18) dX0_passDay_17 rfl (by decide) rfl rfl ?_
  refine r_aload_n C 2 (q := 19) dX0_passDay_18 rfl rfl ?_
  refine r_iload_n C 1 (q := 20) dX0_passDay_19 rfl rfl ?_
  obtain ⟨v_20, e_20, h⟩ := bs h
  refine r_callV C (ci := 0) (st := []) (st2 := [.int v_20]) (q := 23) (m_X0_openedBy (xG X) (xl X) hx0 e_20) ok_X0_openedBy hx0 rfl ⟨_, rfl⟩ q_678 rfl ⟨Nat.le_of_ble_eq_true rfl, Nat.le_of_ble_eq_true rfl⟩ rfl rfl (Nat.le_of_ble_eq_true rfl) dX0_passDay_20 rfl (fun hp_20 => ?_)
  refine r_iload_n C 0 (q := 24) dX0_passDay_23 rfl rfl ?_
  obtain ⟨v_24, e_24, h⟩ := bs h
  refine r_callN C (st := []) (st2 := [.int v_24]) (q := 27) (m_X5_hasBit (xG X) (xl X) e_24) ok_X5_hasBit nst_10 rfl ⟨Nat.le_of_ble_eq_true rfl, Nat.le_of_ble_eq_true rfl⟩ rfl rfl (Nat.le_of_ble_eq_true rfl) dX0_passDay_24 rfl (fun hp_24 => ?_)
  refine r_if_ne C (tgt := 32) (q := 30) dX0_passDay_27 (by decide) rfl (fun c_27 => ?_) (fun c_27 => ?_)
  · replace h := (if_neg c_27).symm.trans h
    refine r_aload_n C 2 (q := 33) dX0_passDay_32 rfl rfl ?_
    refine r_aload_n C 2 (q := 34) dX0_passDay_33 rfl rfl ?_
    refine r_iload_n C 1 (q := 35) dX0_passDay_34 rfl rfl ?_
    obtain ⟨v_35, e_35, h⟩ := bs h
    refine r_callV C (ci := 0) (st := [.ref ((xG X).1 x0)]) (st2 := [.ref ((xG X).1 v_35), .ref ((xG X).1 x0)]) (q := 38) (m_X0_keyAt (xG X) (xl X) hx0 e_35) ok_X0_keyAt hx0 rfl ⟨_, rfl⟩ q_353 rfl ⟨Nat.le_of_ble_eq_true rfl, Nat.le_of_ble_eq_true rfl⟩ rfl rfl (Nat.le_of_ble_eq_true rfl) dX0_passDay_35 rfl (fun hp_35 => ?_)
    obtain ⟨v_38, s_38, e_38, h⟩ := bs2 h
    refine r_callV C (ci := 0) (st := []) (st2 := [.int v_38]) (q := 41) (m_X0_wear (xG X) (xl X) hx0 hp_35 e_38) ok_X0_wear hx0 rfl ⟨_, rfl⟩ q_941 rfl ⟨Nat.le_of_ble_eq_true rfl, Nat.le_of_ble_eq_true rfl⟩ rfl rfl (Nat.le_of_ble_eq_true rfl) dX0_passDay_38 rfl (fun hp_38 => ?_)
    refine r_pop C (q := 42) dX0_passDay_41 rfl rfl ?_
    refine r_iconst C (v := 1) (q := 43) dX0_passDay_42 (by decide) rfl ?_
    obtain ⟨rfl, rfl⟩ := Prod.mk.inj (Option.some.inj h)
    exact hr _ _ dX0_passDay_43 (Or.inr rfl)
  · replace h := (if_pos c_27).symm.trans h
    refine r_iconst C (v := 0) (q := 31) dX0_passDay_30 (by decide) rfl ?_
    obtain ⟨rfl, rfl⟩ := Prod.mk.inj (Option.some.inj h)
    exact hr _ _ dX0_passDay_31 (Or.inl rfl)

theorem m_X0_passDay (G : Gm) (l : Launch) {σ σ' : St} {x0 : Nat} (hx0 : kd x0 = 1) {r : Int32} (h : f_X0_passDay σ x0 = some (r, σ')) : Ctr G l yX0_passDay cX0_passDay 3 (some .boolean) 5 117 [.ref (G.1 x0)] σ (some (.int r)) (r = 0 ∨ r = 1) σ' := by
  refine Ctr.z (by decide) (Nat.le_of_ble_eq_true rfl) ?_
  intro X hG C hr
  subst hG
  exact w_X0_passDay_b0 C hr _ _ hx0 h
-- X1_allow
set_option maxHeartbeats 4000000 in
set_option maxRecDepth 100000 in
theorem w_X1_allow_b32 {X : CX} (C : Cok X RX1 cX1_allow 5 0 0) {σ' : St} {r : Int32} (hr : RtZ X cX1_allow r σ') (σ : St) (x0 : Nat) (x4 : Int32) (t0 : Nat) (t1 : Int32) (hx0 : kd x0 = 2) (ht0 : kd t0 = 2) (h : f_X1_allow_b32 σ x0 x4 t0 t1 = some (r, σ')) : V X σ 32 [(0, .ref ((xG X).1 x0)), (4, .int x4)] [.int t1, .ref ((xG X).1 t0)] := by
  unfold f_X1_allow_b32 at h
  obtain ⟨s_32, e_32, h⟩ := bs h
  refine p_X1_2 C (q := 35) dX1_allow_32 q_44 ht0 e_32 rfl ?_
  refine r_aload_n C 0 (q := 36) dX1_allow_35 rfl rfl ?_
  refine g_X1_2 C (q := 39) dX1_allow_36 q_44 hx0 rfl ?_
  refine r_iload C 1 (q := 41) dX1_allow_39 rfl rfl ?_
  refine r_icmp_eq C (tgt := 48) (q := 44) dX1_allow_41 (by decide) rfl (fun c_41 => ?_) (fun c_41 => ?_)
  · replace h := (if_pos c_41).symm.trans h
    refine r_iconst C (v := 0) (q := 49) dX1_allow_48 (by decide) rfl ?_
    obtain ⟨rfl, rfl⟩ := Prod.mk.inj (Option.some.inj h)
    exact hr _ _ dX1_allow_49 (Or.inl rfl)
  · replace h := (if_neg c_41).symm.trans h
    refine r_iconst C (v := 1) (q := 45) dX1_allow_44 (by decide) rfl ?_
    refine r_goto C (tgt := 49) dX1_allow_45 (by decide) ?_
    obtain ⟨rfl, rfl⟩ := Prod.mk.inj (Option.some.inj h)
    exact hr _ _ dX1_allow_49 (Or.inr rfl)

set_option maxHeartbeats 4000000 in
set_option maxRecDepth 100000 in
theorem w_X1_allow_b0 {X : CX} (C : Cok X RX1 cX1_allow 5 0 0) {σ' : St} {r : Int32} (hr : RtZ X cX1_allow r σ') (σ : St) (x0 : Nat) (x1 : Int32) (x2 : Int32) (hx0 : kd x0 = 2) (h : f_X1_allow σ x0 x1 x2 = some (r, σ')) : V X σ 0 [(0, .ref ((xG X).1 x0)), (1, .int x1), (2, .int x2)] [] := by
  unfold f_X1_allow at h
  refine r_iconst C (v := 1) (q := 1) dX1_allow_0 (by decide) rfl ?_
  refine r_iload_n C 1 (q := 2) dX1_allow_1 rfl rfl ?_
  refine r_ishl C (q := 3) dX1_allow_2 rfl ?_
  obtain ⟨y_3, e_3, h⟩ := bs h
  refine r_topI (Option.some.inj e_3) ?_
  refine r_istore_n C (lv' := [(3, .int y_3), (0, .ref ((xG X).1 x0)), (1, .int x1), (2, .int x2)]) (q := 4) dX1_allow_3 rfl (by decide) rfl rfl ?_
  refine r_aload_n C 1 (q := 5) dX1_allow_4 rfl rfl ?_
  refine g_X1_2 C (q := 8) dX1_allow_5 q_44 hx0 rfl ?_
  obtain ⟨y_8, e_8, h⟩ := bs h
  refine r_topI (Option.some.inj e_8) ?_
  refine r_istore C (lv' := [(4, .int y_8), (3, .int y_3), (0, .ref ((xG X).1 x0)), (1, .int x1), (2, .int x2)]) (q := 10) dX1_allow_8 (by decide) rfl rfl ?_
  refine r_aload_n C 2 (q := 11) dX1_allow_10 rfl rfl ?_
  refine r_iload_n C 4 (q := 12) dX1_allow_11 rfl rfl ?_
  refine r_if_eq C (tgt := 24) (q := 15) dX1_allow_12 (by decide) rfl (fun c_12 => ?_) (fun c_12 => ?_)
  · replace h := (if_pos c_12).symm.trans h
    refine r_aload_n C 2 (q := 25) dX1_allow_24 rfl rfl ?_
    refine g_X1_2 C (q := 28) dX1_allow_25 q_44 hx0 rfl ?_
    refine r_iload_n C 1 (q := 29) dX1_allow_28 rfl rfl ?_
    refine r_iconst C (v := (-1)) (q := 30) dX1_allow_29 (by decide) rfl ?_
    refine r_ixor C (q := 31) dX1_allow_30 rfl ?_
    refine r_iand C (q := 32) dX1_allow_31 rfl ?_
    refine r_sub (lv' := [(0, .ref ((xG X).1 x0)), (4, .int y_8)]) [2, 0] rfl ?_
    exact w_X1_allow_b32 C hr  _ _ _ _ _ hx0 hx0 h
  · replace h := (if_neg c_12).symm.trans h
    refine r_aload_n C 2 (q := 16) dX1_allow_15 rfl rfl ?_
    refine g_X1_2 C (q := 19) dX1_allow_16 q_44 hx0 rfl ?_
    refine r_iload_n C 1 (q := 20) dX1_allow_19 rfl rfl ?_
    refine r_ior C (q := 21) dX1_allow_20 rfl ?_
    refine r_goto C (tgt := 32) dX1_allow_21 (by decide) ?_
    refine r_sub (lv' := [(0, .ref ((xG X).1 x0)), (4, .int y_8)]) [2, 0] rfl ?_
    exact w_X1_allow_b32 C hr  _ _ _ _ _ hx0 hx0 h

theorem m_X1_allow (G : Gm) (l : Launch) {σ σ' : St} {x0 : Nat} {x1 : Int32} {x2 : Int32} (hx0 : kd x0 = 2) {r : Int32} (h : f_X1_allow σ x0 x1 x2 = some (r, σ')) : Ctr G l yX1_allow cX1_allow 5 (some .boolean) 0 0 [.ref (G.1 x0), .int x1, .int x2] σ (some (.int r)) (r = 0 ∨ r = 1) σ' := by
  refine Ctr.z (by decide) (Nat.le_of_ble_eq_true rfl) ?_
  intro X hG C hr
  subst hG
  exact w_X1_allow_b0 C hr _ _ _ _ hx0 h
-- X2_isKey
set_option maxHeartbeats 4000000 in
set_option maxRecDepth 100000 in
theorem w_X2_isKey_b0 {X : CX} (C : Cok X RX2 cX2_isKey 1 0 0) {σ : St} {r : Int32} (hr : RtZ X cX2_isKey r σ) (x0 : Nat) (hx0 : kd x0 = 3) (h : f_X2_isKey σ x0 = some r) : V X σ 0 [(0, .ref ((xG X).1 x0))] [] := by
  unfold f_X2_isKey at h
  refine r_aload_n C 0 (q := 1) dX2_isKey_0 rfl rfl ?_
  refine g_X2_0 C (q := 4) dX2_isKey_1 q_189 hx0 rfl ?_
  refine r_bipush C (v := 10) (q := 6) dX2_isKey_4 (by decide) rfl ?_
  refine r_icmp_lt C (tgt := 13) (q := 9) dX2_isKey_6 (by decide) rfl (fun c_6 => ?_) (fun c_6 => ?_)
  · replace h := (if_pos c_6).symm.trans h
    refine r_iconst C (v := 0) (q := 14) dX2_isKey_13 (by decide) rfl ?_
    obtain rfl := Option.some.inj h
    exact hr _ _ dX2_isKey_14 (Or.inl rfl)
  · replace h := (if_neg c_6).symm.trans h
    refine r_iconst C (v := 1) (q := 10) dX2_isKey_9 (by decide) rfl ?_
    refine r_goto C (tgt := 14) dX2_isKey_10 (by decide) ?_
    obtain rfl := Option.some.inj h
    exact hr _ _ dX2_isKey_14 (Or.inr rfl)

theorem m_X2_isKey (G : Gm) (l : Launch) {σ : St} {x0 : Nat} (hx0 : kd x0 = 3) {r : Int32} (h : f_X2_isKey σ x0 = some r) : Ctr G l yX2_isKey cX2_isKey 1 (some .boolean) 0 0 [.ref (G.1 x0)] σ (some (.int r)) (r = 0 ∨ r = 1) σ := by
  refine Ctr.z (by decide) (Nat.le_of_ble_eq_true rfl) ?_
  intro X hG C hr
  subst hG
  exact w_X2_isKey_b0 C hr _ hx0 h
-- X5_isWithin
set_option maxHeartbeats 4000000 in
set_option maxRecDepth 100000 in
theorem w_X5_isWithin_b0 {X : CX} (C : Cok X RX5 cX5_isWithin 3 0 0) {σ : St} {r : Int32} (hr : RtZ X cX5_isWithin r σ) (x0 : Int32) (x1 : Int32) (x2 : Int32) (h : f_X5_isWithin x0 x1 x2 = some r) : V X σ 0 [(0, .int x0), (1, .int x1), (2, .int x2)] [] := by
  unfold f_X5_isWithin at h
  refine r_iload_n C 0 (q := 1) dX5_isWithin_0 rfl rfl ?_
  refine r_iload_n C 1 (q := 2) dX5_isWithin_1 rfl rfl ?_
  refine r_icmp_lt C (tgt := 14) (q := 5) dX5_isWithin_2 (by decide) rfl (fun c_2 => ?_) (fun c_2 => ?_)
  · replace h := (if_pos c_2).symm.trans h
    refine r_iconst C (v := 0) (q := 15) dX5_isWithin_14 (by decide) rfl ?_
    obtain rfl := Option.some.inj h
    exact hr _ _ dX5_isWithin_15 (Or.inl rfl)
  · replace h := (if_neg c_2).symm.trans h
    refine r_iload_n C 0 (q := 6) dX5_isWithin_5 rfl rfl ?_
    refine r_iload_n C 2 (q := 7) dX5_isWithin_6 rfl rfl ?_
    refine r_icmp_gt C (tgt := 14) (q := 10) dX5_isWithin_7 (by decide) rfl (fun c_7 => ?_) (fun c_7 => ?_)
    · replace h := (if_pos c_7).symm.trans h
      refine r_iconst C (v := 0) (q := 15) dX5_isWithin_14 (by decide) rfl ?_
      obtain rfl := Option.some.inj h
      exact hr _ _ dX5_isWithin_15 (Or.inl rfl)
    · replace h := (if_neg c_7).symm.trans h
      refine r_iconst C (v := 1) (q := 11) dX5_isWithin_10 (by decide) rfl ?_
      refine r_goto C (tgt := 15) dX5_isWithin_11 (by decide) ?_
      obtain rfl := Option.some.inj h
      exact hr _ _ dX5_isWithin_15 (Or.inr rfl)

theorem m_X5_isWithin (G : Gm) (l : Launch) {σ : St} {x0 : Int32} {x1 : Int32} {x2 : Int32} {r : Int32} (h : f_X5_isWithin x0 x1 x2 = some r) : Ctr G l yX5_isWithin cX5_isWithin 3 (some .boolean) 0 0 [.int x0, .int x1, .int x2] σ (some (.int r)) (r = 0 ∨ r = 1) σ := by
  refine Ctr.z (by decide) (Nat.le_of_ble_eq_true rfl) ?_
  intro X hG C hr
  subst hG
  exact w_X5_isWithin_b0 C hr _ _ _ h
-- X2_isRow
set_option maxHeartbeats 4000000 in
set_option maxRecDepth 100000 in
theorem w_X2_isRow_b0 {X : CX} (C : Cok X RX2 cX2_isRow 1 1 22) {σ : St} {r : Int32} (hr : RtZ X cX2_isRow r σ) (x0 : Nat) (hx0 : kd x0 = 3) (h : f_X2_isRow σ x0 = some r) : V X σ 0 [(0, .ref ((xG X).1 x0))] [] := by
  unfold f_X2_isRow at h
  refine r_aload_n C 0 (q := 1) dX2_isRow_0 rfl rfl ?_
  refine g_X2_0 C (q := 4) dX2_isRow_1 q_189 hx0 rfl ?_
  refine r_iconst C (v := 0) (q := 5) dX2_isRow_4 (by decide) rfl ?_
  refine r_iconst C (v := 4) (q := 6) dX2_isRow_5 (by decide) rfl ?_
  obtain ⟨v_6, e_6, h⟩ := bs h
  refine r_callN C (st := []) (st2 := [.int v_6]) (q := 9) (m_X5_isWithin (xG X) (xl X) e_6) ok_X5_isWithin nst_3 rfl ⟨Nat.le_of_ble_eq_true rfl, Nat.le_of_ble_eq_true rfl⟩ rfl rfl (Nat.le_of_ble_eq_true rfl) dX2_isRow_6 rfl (fun hp_6 => ?_)
  obtain rfl := Option.some.inj h
  exact hr _ _ dX2_isRow_9 hp_6

theorem m_X2_isRow (G : Gm) (l : Launch) {σ : St} {x0 : Nat} (hx0 : kd x0 = 3) {r : Int32} (h : f_X2_isRow σ x0 = some r) : Ctr G l yX2_isRow cX2_isRow 1 (some .boolean) 1 22 [.ref (G.1 x0)] σ (some (.int r)) (r = 0 ∨ r = 1) σ := by
  refine Ctr.z (by decide) (Nat.le_of_ble_eq_true rfl) ?_
  intro X hG C hr
  subst hG
  exact w_X2_isRow_b0 C hr _ hx0 h
-- X2_whyNoRow
set_option maxHeartbeats 4000000 in
set_option maxRecDepth 100000 in
theorem w_X2_whyNoRow_b0 {X : CX} (C : Cok X RX2 cX2_whyNoRow 1 1 20) {σ : St} {r : Int32} (hr : RtI X cX2_whyNoRow r σ) (x0 : Nat) (hx0 : kd x0 = 3) (h : f_X2_whyNoRow σ x0 = some r) : V X σ 0 [(0, .ref ((xG X).1 x0))] [] := by
  unfold f_X2_whyNoRow at h
  refine r_aload_n C 0 (q := 1) dX2_whyNoRow_0 rfl rfl ?_
  obtain ⟨v_1, e_1, h⟩ := bs h
  refine r_callV C (ci := 2) (st := []) (st2 := [.int v_1]) (q := 4) (m_X2_isKey (xG X) (xl X) hx0 e_1) ok_X2_isKey hx0 rfl ⟨_, rfl⟩ q_276 rfl ⟨Nat.le_of_ble_eq_true rfl, Nat.le_of_ble_eq_true rfl⟩ rfl rfl (Nat.le_of_ble_eq_true rfl) dX2_whyNoRow_1 rfl (fun hp_1 => ?_)
  refine r_if_eq C (tgt := 12) (q := 7) dX2_whyNoRow_4 (by decide) rfl (fun c_4 => ?_) (fun c_4 => ?_)
  · replace h := (if_pos c_4).symm.trans h
    refine r_bipush C (v := (-4)) (q := 14) dX2_whyNoRow_12 (by decide) rfl ?_
    obtain rfl := Option.some.inj h
    exact hr _ _ dX2_whyNoRow_14
  · replace h := (if_neg c_4).symm.trans h
    refine r_bipush C (v := (-3)) (q := 9) dX2_whyNoRow_7 (by decide) rfl ?_
    refine r_goto C (tgt := 14) dX2_whyNoRow_9 (by decide) ?_
    obtain rfl := Option.some.inj h
    exact hr _ _ dX2_whyNoRow_14

theorem m_X2_whyNoRow (G : Gm) (l : Launch) {σ : St} {x0 : Nat} (hx0 : kd x0 = 3) {r : Int32} (h : f_X2_whyNoRow σ x0 = some r) : Ctr G l yX2_whyNoRow cX2_whyNoRow 1 (some .int) 1 20 [.ref (G.1 x0)] σ (some (.int r)) True σ := by
  refine Ctr.i (by decide) (Nat.le_of_ble_eq_true rfl) ?_
  intro X hG C hr
  subst hG
  exact w_X2_whyNoRow_b0 C hr _ hx0 h
-- J7_fill_d0a16
set_option maxHeartbeats 4000000 in
set_option maxRecDepth 100000 in
theorem w_J7_fill_d0a16_b6 {X : CX} (C : Cok X RJ7 cJ7_fill_d0a16 5 0 0) {σ' : St} (hr : RtV X cJ7_fill_d0a16 σ') (k_6 : St → Nat → Int64 → Int32 → Int32 → Option St) (hk_6 : ∀ (σ : St) (x0 : Nat) (x1 : Int64) (x3 : Int32) (x4 : Int32), kd x0 = 9 → k_6 σ x0 x1 x3 x4 = some σ' → V X σ 6 [(0, .ref ((xG X).1 x0)), (1, .long x1), (3, .int x3), (4, .int x4)] []) (σ : St) (x0 : Nat) (x1 : Int64) (x3 : Int32) (x4 : Int32) (hx0 : kd x0 = 9) (h : f_J7_fill_d0a16_b6 k_6 σ x0 x1 x3 x4 = some σ') : V X σ 6 [(0, .ref ((xG X).1 x0)), (1, .long x1), (3, .int x3), (4, .int x4)] [] := by
  unfold f_J7_fill_d0a16_b6 at h
  refine r_iload_n C 2 (q := 7) dJ7_fill_d0a16_6 rfl rfl ?_
  refine r_iload C 3 (q := 9) dJ7_fill_d0a16_7 rfl rfl ?_
  refine r_icmp_ge C (tgt := 22) (q := 12) dJ7_fill_d0a16_9 (by decide) rfl (fun c_9 => ?_) (fun c_9 => ?_)
  · replace h := (if_pos c_9).symm.trans h
    obtain rfl := Option.some.inj h
    exact hr _ _ dJ7_fill_d0a16_22
  · replace h := (if_neg c_9).symm.trans h
    refine r_aload_n C 0 (q := 13) dJ7_fill_d0a16_12 rfl rfl ?_
    refine r_iload_n C 2 (q := 14) dJ7_fill_d0a16_13 rfl rfl ?_
    refine r_lload_n C 1 (q := 15) dJ7_fill_d0a16_14 rfl rfl ?_
    obtain ⟨s_15, e_15, h⟩ := bs h
    refine r_last C (q := 16) dJ7_fill_d0a16_15 hx0 e_15 rfl ?_
    obtain ⟨y_16, e_16, h⟩ := bs h
    refine r_iinc C (v := y_16) (lv' := [(3, .int y_16), (0, .ref ((xG X).1 x0)), (1, .long x1), (4, .int x4)]) (q := 19) 2 dJ7_fill_d0a16_16 rfl (Option.some.inj e_16) (by decide) rfl rfl ?_
    refine r_goto C (tgt := 6) dJ7_fill_d0a16_19 (by decide) ?_
    refine r_sub (lv' := [(0, .ref ((xG X).1 x0)), (1, .long x1), (3, .int y_16), (4, .int x4)]) [1, 2, 0, 3] rfl ?_
    exact hk_6 _ _ _ _ _ hx0 h

theorem w_J7_fill_d0a16_l6 {X : CX} (C : Cok X RJ7 cJ7_fill_d0a16 5 0 0) {σ' : St} (hr : RtV X cJ7_fill_d0a16 σ') (n : Nat) : ∀ (σ : St) (x0 : Nat) (x1 : Int64) (x3 : Int32) (x4 : Int32), kd x0 = 9 → f_J7_fill_d0a16_l6 n σ x0 x1 x3 x4 = some σ' → V X σ 6 [(0, .ref ((xG X).1 x0)), (1, .long x1), (3, .int x3), (4, .int x4)] [] := by
  induction n with
  | zero =>
    intro σ x0 x1 x3 x4 hx0 h
    exact nomatch (show (none : Option St) = some σ' from h)
  | succ n ih =>
    intro σ x0 x1 x3 x4 hx0 h
    exact w_J7_fill_d0a16_b6 C hr _ ih σ x0 x1 x3 x4 hx0 h
set_option maxHeartbeats 4000000 in
set_option maxRecDepth 100000 in
theorem w_J7_fill_d0a16_b0 {X : CX} (C : Cok X RJ7 cJ7_fill_d0a16 5 0 0) {σ' : St} (hr : RtV X cJ7_fill_d0a16 σ') (σ : St) (x0 : Nat) (x1 : Int64) (hx0 : kd x0 = 9) (h : f_J7_fill_d0a16 σ x0 x1 = some σ') : V X σ 0 [(0, .ref ((xG X).1 x0)), (1, .long x1)] [] := by
  unfold f_J7_fill_d0a16 at h
  refine r_iconst C (v := 0) (q := 1) dJ7_fill_d0a16_0 (by decide) rfl ?_
  refine r_istore_n C (lv' := [(3, .int 0), (0, .ref ((xG X).1 x0)), (1, .long x1)]) (q := 2) dJ7_fill_d0a16_1 rfl (by decide) rfl rfl ?_
  refine r_aload_n C 1 (q := 3) dJ7_fill_d0a16_2 rfl rfl ?_
  refine r_alen9 C (q := 4) dJ7_fill_d0a16_3 hx0 rfl ?_
  obtain ⟨y_4, e_4, h⟩ := bs h
  refine r_topI (Option.some.inj e_4) ?_
  refine r_istore C (lv' := [(4, .int y_4), (3, .int 0), (0, .ref ((xG X).1 x0)), (1, .long x1)]) (q := 6) dJ7_fill_d0a16_4 (by decide) rfl rfl ?_
  refine r_sub (lv' := [(0, .ref ((xG X).1 x0)), (1, .long x1), (3, .int 0), (4, .int y_4)]) [2, 3, 1, 0] rfl ?_
  exact w_J7_fill_d0a16_l6 C hr  FU _ _ _ _ _ hx0 h

theorem m_J7_fill_d0a16 (G : Gm) (l : Launch) {σ σ' : St} {x0 : Nat} {x1 : Int64} (hx0 : kd x0 = 9) (h : f_J7_fill_d0a16 σ x0 x1 = some σ') : Ctr G l yJ7_fill_d0a16 cJ7_fill_d0a16 5 none 0 0 [.ref (G.1 x0), .long x1] σ none True σ' := by
  refine Ctr.v (by decide) (Nat.le_of_ble_eq_true rfl) ?_
  intro X hG C hr
  subst hG
  exact w_J7_fill_d0a16_b0 C hr _ _ _ hx0 h
-- X2_beginRow
set_option maxHeartbeats 4000000 in
set_option maxRecDepth 100000 in
theorem w_X2_beginRow_b0 {X : CX} (C : Cok X RX2 cX2_beginRow 3 1 24) {σ' : St} (hr : RtV X cX2_beginRow σ') (σ : St) (x0 : Nat) (x1 : Int32) (x2 : Int32) (hx0 : kd x0 = 3) (h : f_X2_beginRow σ x0 x1 x2 = some σ') : V X σ 0 [(0, .ref ((xG X).1 x0)), (1, .int x1), (2, .int x2)] [] := by
  unfold f_X2_beginRow at h
  refine r_aload_n C 0 (q := 1) dX2_beginRow_0 rfl rfl ?_
  refine r_iload_n C 1 (q := 2) dX2_beginRow_1 rfl rfl ?_
  obtain ⟨s_2, e_2, h⟩ := bs h
  refine p_X2_0 C (q := 5) dX2_beginRow_2 q_189 hx0 e_2 rfl ?_
  refine r_aload_n C 0 (q := 6) dX2_beginRow_5 rfl rfl ?_
  refine r_iload_n C 2 (q := 7) dX2_beginRow_6 rfl rfl ?_
  obtain ⟨s_7, e_7, h⟩ := bs h
  refine p_X2_1 C (q := 10) dX2_beginRow_7 q_191 hx0 e_7 rfl ?_
  refine r_aload_n C 0 (q := 11) dX2_beginRow_10 rfl rfl ?_
  refine g_X2_2 C (q := 14) dX2_beginRow_11 q_193 hx0 rfl ?_
  refine r_lconst C (v := 0) (q := 15) dX2_beginRow_14 (by decide) rfl ?_
  obtain ⟨s_15, e_15, h⟩ := bs h
  refine r_callS C (st := []) (st2 := []) (q := 18) (m_J7_fill_d0a16 (xG X) (xl X) (kf_X2_2 hx0) e_15) ok_J7_fill_d0a16 q_260 rfl ⟨Nat.le_of_ble_eq_true rfl, Nat.le_of_ble_eq_true rfl⟩ rfl rfl (Nat.le_of_ble_eq_true rfl) dX2_beginRow_15 rfl (fun hp_15 => ?_)
  obtain rfl := Option.some.inj h
  exact hr _ _ dX2_beginRow_18

theorem m_X2_beginRow (G : Gm) (l : Launch) {σ σ' : St} {x0 : Nat} {x1 : Int32} {x2 : Int32} (hx0 : kd x0 = 3) (h : f_X2_beginRow σ x0 x1 x2 = some σ') : Ctr G l yX2_beginRow cX2_beginRow 3 none 1 24 [.ref (G.1 x0), .int x1, .int x2] σ none True σ' := by
  refine Ctr.v (by decide) (Nat.le_of_ble_eq_true rfl) ?_
  intro X hG C hr
  subst hG
  exact w_X2_beginRow_b0 C hr _ _ _ _ hx0 h
-- X2_hasElement
set_option maxHeartbeats 4000000 in
set_option maxRecDepth 100000 in
theorem w_X2_hasElement_b0 {X : CX} (C : Cok X RX2 cX2_hasElement 2 2 42) {σ : St} {r : Int32} (hr : RtZ X cX2_hasElement r σ) (x0 : Nat) (x1 : Int32) (hx0 : kd x0 = 3) (h : f_X2_hasElement σ x0 x1 = some r) : V X σ 0 [(0, .ref ((xG X).1 x0)), (1, .int x1)] [] := by
  unfold f_X2_hasElement at h
  refine r_aload_n C 0 (q := 1) dX2_hasElement_0 rfl rfl ?_
  obtain ⟨v_1, e_1, h⟩ := bs h
  refine r_callV C (ci := 2) (st := []) (st2 := [.int v_1]) (q := 4) (m_X2_isRow (xG X) (xl X) hx0 e_1) ok_X2_isRow hx0 rfl ⟨_, rfl⟩ q_288 rfl ⟨Nat.le_of_ble_eq_true rfl, Nat.le_of_ble_eq_true rfl⟩ rfl rfl (Nat.le_of_ble_eq_true rfl) dX2_hasElement_1 rfl (fun hp_1 => ?_)
  refine r_if_eq C (tgt := 32) (q := 7) dX2_hasElement_4 (by decide) rfl (fun c_4 => ?_) (fun c_4 => ?_)
  · replace h := (if_pos c_4).symm.trans h
    refine r_iconst C (v := 0) (q := 33) dX2_hasElement_32 (by decide) rfl ?_
    obtain rfl := Option.some.inj h
    exact hr _ _ dX2_hasElement_33 (Or.inl rfl)
  · replace h := (if_neg c_4).symm.trans h
    refine r_iload_n C 1 (q := 8) dX2_hasElement_7 rfl rfl ?_
    refine r_if_lt C (tgt := 32) (q := 11) dX2_hasElement_8 (by decide) rfl (fun c_8 => ?_) (fun c_8 => ?_)
    · replace h := (if_pos c_8).symm.trans h
      refine r_iconst C (v := 0) (q := 33) dX2_hasElement_32 (by decide) rfl ?_
      obtain rfl := Option.some.inj h
      exact hr _ _ dX2_hasElement_33 (Or.inl rfl)
    · replace h := (if_neg c_8).symm.trans h
      refine r_iload_n C 1 (q := 12) dX2_hasElement_11 rfl rfl ?_
      refine r_aload_n C 0 (q := 13) dX2_hasElement_12 rfl rfl ?_
      refine g_X2_1 C (q := 16) dX2_hasElement_13 q_191 hx0 rfl ?_
      refine r_icmp_ge C (tgt := 32) (q := 19) dX2_hasElement_16 (by decide) rfl (fun c_16 => ?_) (fun c_16 => ?_)
      · replace h := (if_pos c_16).symm.trans h
        refine r_iconst C (v := 0) (q := 33) dX2_hasElement_32 (by decide) rfl ?_
        obtain rfl := Option.some.inj h
        exact hr _ _ dX2_hasElement_33 (Or.inl rfl)
      · replace h := (if_neg c_16).symm.trans h
        refine r_iload_n C 1 (q := 20) dX2_hasElement_19 rfl rfl ?_
        refine r_aload_n C 0 (q := 21) dX2_hasElement_20 rfl rfl ?_
        refine g_X2_2 C (q := 24) dX2_hasElement_21 q_193 hx0 rfl ?_
        refine r_alen9 C (q := 25) dX2_hasElement_24 (kf_X2_2 hx0) rfl ?_
        refine r_icmp_ge C (tgt := 32) (q := 28) dX2_hasElement_25 (by decide) rfl (fun c_25 => ?_) (fun c_25 => ?_)
        · replace h := (if_pos c_25).symm.trans h
          refine r_iconst C (v := 0) (q := 33) dX2_hasElement_32 (by decide) rfl ?_
          obtain rfl := Option.some.inj h
          exact hr _ _ dX2_hasElement_33 (Or.inl rfl)
        · replace h := (if_neg c_25).symm.trans h
          refine r_iconst C (v := 1) (q := 29) dX2_hasElement_28 (by decide) rfl ?_
          refine r_goto C (tgt := 33) dX2_hasElement_29 (by decide) ?_
          obtain rfl := Option.some.inj h
          exact hr _ _ dX2_hasElement_33 (Or.inr rfl)

theorem m_X2_hasElement (G : Gm) (l : Launch) {σ : St} {x0 : Nat} {x1 : Int32} (hx0 : kd x0 = 3) {r : Int32} (h : f_X2_hasElement σ x0 x1 = some r) : Ctr G l yX2_hasElement cX2_hasElement 2 (some .boolean) 2 42 [.ref (G.1 x0), .int x1] σ (some (.int r)) (r = 0 ∨ r = 1) σ := by
  refine Ctr.z (by decide) (Nat.le_of_ble_eq_true rfl) ?_
  intro X hG C hr
  subst hG
  exact w_X2_hasElement_b0 C hr _ _ hx0 h
-- X2_elementAt
set_option maxHeartbeats 4000000 in
set_option maxRecDepth 100000 in
theorem w_X2_elementAt_b0 {X : CX} (C : Cok X RX2 cX2_elementAt 2 3 63) {σ : St} {r : Int64} (hr : RtJ X cX2_elementAt r σ) (x0 : Nat) (x1 : Int32) (hx0 : kd x0 = 3) (h : f_X2_elementAt σ x0 x1 = some r) : V X σ 0 [(0, .ref ((xG X).1 x0)), (1, .int x1)] [] := by
  unfold f_X2_elementAt at h
  refine r_aload_n C 0 (q := 1) dX2_elementAt_0 rfl rfl ?_
  refine r_iload_n C 1 (q := 2) dX2_elementAt_1 rfl rfl ?_
  obtain ⟨v_2, e_2, h⟩ := bs h
  refine r_callV C (ci := 2) (st := []) (st2 := [.int v_2]) (q := 5) (m_X2_hasElement (xG X) (xl X) hx0 e_2) ok_X2_hasElement hx0 rfl ⟨_, rfl⟩ q_284 rfl ⟨Nat.le_of_ble_eq_true rfl, Nat.le_of_ble_eq_true rfl⟩ rfl rfl (Nat.le_of_ble_eq_true rfl) dX2_elementAt_2 rfl (fun hp_2 => ?_)
  refine r_if_eq C (tgt := 17) (q := 8) dX2_elementAt_5 (by decide) rfl (fun c_5 => ?_) (fun c_5 => ?_)
  · replace h := (if_pos c_5).symm.trans h
    refine r_lconst C (v := 0) (q := 18) dX2_elementAt_17 (by decide) rfl ?_
    obtain rfl := Option.some.inj h
    exact hr _ _ dX2_elementAt_18
  · replace h := (if_neg c_5).symm.trans h
    refine r_aload_n C 0 (q := 9) dX2_elementAt_8 rfl rfl ?_
    refine g_X2_2 C (q := 12) dX2_elementAt_9 q_193 hx0 rfl ?_
    refine r_iload_n C 1 (q := 13) dX2_elementAt_12 rfl rfl ?_
    obtain ⟨v_13, e_13, h⟩ := bs h
    refine r_lald C (q := 14) dX2_elementAt_13 (kf_X2_2 hx0) e_13 rfl ?_
    refine r_goto C (tgt := 18) dX2_elementAt_14 (by decide) ?_
    obtain rfl := Option.some.inj h
    exact hr _ _ dX2_elementAt_18

theorem m_X2_elementAt (G : Gm) (l : Launch) {σ : St} {x0 : Nat} {x1 : Int32} (hx0 : kd x0 = 3) {r : Int64} (h : f_X2_elementAt σ x0 x1 = some r) : Ctr G l yX2_elementAt cX2_elementAt 2 (some .long) 3 63 [.ref (G.1 x0), .int x1] σ (some (.long r)) True σ := by
  refine Ctr.j (by decide) (Nat.le_of_ble_eq_true rfl) ?_
  intro X hG C hr
  subst hG
  exact w_X2_elementAt_b0 C hr _ _ hx0 h
-- X2_narrowed
set_option maxHeartbeats 4000000 in
set_option maxRecDepth 100000 in
theorem w_X2_narrowed_b0 {X : CX} (C : Cok X RX2 cX2_narrowed 3 0 0) {σ : St} {r : Int64} (hr : RtJ X cX2_narrowed r σ) (x0 : Nat) (x1 : Int64) (hx0 : kd x0 = 3) (h : f_X2_narrowed σ x0 x1 = some r) : V X σ 0 [(0, .ref ((xG X).1 x0)), (1, .long x1)] [] := by
  unfold f_X2_narrowed at h
  refine r_aload_n C 0 (q := 1) dX2_narrowed_0 rfl rfl ?_
  refine g_X2_0 C (q := 4) dX2_narrowed_1 q_189 hx0 rfl ?_
  by_cases c_4_0 : (σ.1 x0 0) = 0
  · replace h := (if_pos c_4_0).symm.trans h
    refine r_tabIn C (tgt := 40) (off := 36) dX2_narrowed_4 (by rw [c_4_0]; decide) (by rw [c_4_0]; decide) (by rw [c_4_0]; rfl) (by decide) ?_
    refine r_lload_n C 1 (q := 41) dX2_narrowed_40 rfl rfl ?_
    refine r_l2i C (q := 42) dX2_narrowed_41 rfl ?_
    refine r_i2b C (q := 43) dX2_narrowed_42 rfl ?_
    refine r_i2l C (q := 44) dX2_narrowed_43 rfl ?_
    obtain rfl := Option.some.inj h
    exact hr _ _ dX2_narrowed_44
  · replace h := (if_neg c_4_0).symm.trans h
    by_cases c_4_1 : (σ.1 x0 0) = 1
    · replace h := (if_pos c_4_1).symm.trans h
      refine r_tabIn C (tgt := 45) (off := 41) dX2_narrowed_4 (by rw [c_4_1]; decide) (by rw [c_4_1]; decide) (by rw [c_4_1]; rfl) (by decide) ?_
      refine r_lload_n C 1 (q := 46) dX2_narrowed_45 rfl rfl ?_
      refine r_l2i C (q := 47) dX2_narrowed_46 rfl ?_
      refine r_i2s C (q := 48) dX2_narrowed_47 rfl ?_
      refine r_i2l C (q := 49) dX2_narrowed_48 rfl ?_
      obtain rfl := Option.some.inj h
      exact hr _ _ dX2_narrowed_49
    · replace h := (if_neg c_4_1).symm.trans h
      by_cases c_4_2 : (σ.1 x0 0) = 2
      · replace h := (if_pos c_4_2).symm.trans h
        refine r_tabIn C (tgt := 50) (off := 46) dX2_narrowed_4 (by rw [c_4_2]; decide) (by rw [c_4_2]; decide) (by rw [c_4_2]; rfl) (by decide) ?_
        refine r_lload_n C 1 (q := 51) dX2_narrowed_50 rfl rfl ?_
        refine r_l2i C (q := 52) dX2_narrowed_51 rfl ?_
        refine r_i2l C (q := 53) dX2_narrowed_52 rfl ?_
        obtain rfl := Option.some.inj h
        exact hr _ _ dX2_narrowed_53
      · replace h := (if_neg c_4_2).symm.trans h
        by_cases c_4_3 : (σ.1 x0 0) = 3
        · replace h := (if_pos c_4_3).symm.trans h
          refine r_tabIn C (tgt := 66) (off := 62) dX2_narrowed_4 (by rw [c_4_3]; decide) (by rw [c_4_3]; decide) (by rw [c_4_3]; rfl) (by decide) ?_
          refine r_lload_n C 1 (q := 67) dX2_narrowed_66 rfl rfl ?_
          obtain rfl := Option.some.inj h
          exact hr _ _ dX2_narrowed_67
        · replace h := (if_neg c_4_3).symm.trans h
          by_cases c_4_4 : (σ.1 x0 0) = 4
          · replace h := (if_pos c_4_4).symm.trans h
            refine r_tabIn C (tgt := 54) (off := 50) dX2_narrowed_4 (by rw [c_4_4]; decide) (by rw [c_4_4]; decide) (by rw [c_4_4]; rfl) (by decide) ?_
            refine r_lload_n C 1 (q := 55) dX2_narrowed_54 rfl rfl ?_
            refine r_lconst C (v := 0) (q := 56) dX2_narrowed_55 (by decide) rfl ?_
            refine r_lcmp C (q := 57) dX2_narrowed_56 rfl ?_
            refine r_if_eq C (tgt := 64) (q := 60) dX2_narrowed_57 (by decide) rfl (fun c_57 => ?_) (fun c_57 => ?_)
            · replace h := (if_pos c_57).symm.trans h
              refine r_lconst C (v := 0) (q := 65) dX2_narrowed_64 (by decide) rfl ?_
              obtain rfl := Option.some.inj h
              exact hr _ _ dX2_narrowed_65
            · replace h := (if_neg c_57).symm.trans h
              refine r_lconst C (v := 1) (q := 61) dX2_narrowed_60 (by decide) rfl ?_
              refine r_goto C (tgt := 65) dX2_narrowed_61 (by decide) ?_
              obtain rfl := Option.some.inj h
              exact hr _ _ dX2_narrowed_65
          · replace h := (if_neg c_4_4).symm.trans h
            refine r_tabOut C (tgt := 66) dX2_narrowed_4 (tab_out (lt_s (lt_s (lt_s (lt_s (lt_s lt_0 c_4_0) c_4_1) c_4_2) c_4_3) c_4_4) (by decide)) (by decide) ?_
            refine r_lload_n C 1 (q := 67) dX2_narrowed_66 rfl rfl ?_
            obtain rfl := Option.some.inj h
            exact hr _ _ dX2_narrowed_67

theorem m_X2_narrowed (G : Gm) (l : Launch) {σ : St} {x0 : Nat} {x1 : Int64} (hx0 : kd x0 = 3) {r : Int64} (h : f_X2_narrowed σ x0 x1 = some r) : Ctr G l yX2_narrowed cX2_narrowed 3 (some .long) 0 0 [.ref (G.1 x0), .long x1] σ (some (.long r)) True σ := by
  refine Ctr.j (by decide) (Nat.le_of_ble_eq_true rfl) ?_
  intro X hG C hr
  subst hG
  exact w_X2_narrowed_b0 C hr _ _ hx0 h
-- X2_putElement
set_option maxHeartbeats 4000000 in
set_option maxRecDepth 100000 in
theorem w_X2_putElement_b0 {X : CX} (C : Cok X RX2 cX2_putElement 4 3 63) {σ' : St} (hr : RtV X cX2_putElement σ') (σ : St) (x0 : Nat) (x1 : Int32) (x2 : Int64) (hx0 : kd x0 = 3) (h : f_X2_putElement σ x0 x1 x2 = some σ') : V X σ 0 [(0, .ref ((xG X).1 x0)), (1, .int x1), (2, .long x2)] [] := by
  unfold f_X2_putElement at h
  refine r_aload_n C 0 (q := 1) dX2_putElement_0 rfl rfl ?_
  refine r_iload_n C 1 (q := 2) dX2_putElement_1 rfl rfl ?_
  obtain ⟨v_2, e_2, h⟩ := bs h
  refine r_callV C (ci := 2) (st := []) (st2 := [.int v_2]) (q := 5) (m_X2_hasElement (xG X) (xl X) hx0 e_2) ok_X2_hasElement hx0 rfl ⟨_, rfl⟩ q_284 rfl ⟨Nat.le_of_ble_eq_true rfl, Nat.le_of_ble_eq_true rfl⟩ rfl rfl (Nat.le_of_ble_eq_true rfl) dX2_putElement_2 rfl (fun hp_2 => ?_)
  refine r_if_eq C (tgt := 19) (q := 8) dX2_putElement_5 (by decide) rfl (fun c_5 => ?_) (fun c_5 => ?_)
  · replace h := (if_pos c_5).symm.trans h
    obtain rfl := Option.some.inj h
    exact hr _ _ dX2_putElement_19
  · replace h := (if_neg c_5).symm.trans h
    refine r_aload_n C 0 (q := 9) dX2_putElement_8 rfl rfl ?_
    refine g_X2_2 C (q := 12) dX2_putElement_9 q_193 hx0 rfl ?_
    refine r_iload_n C 1 (q := 13) dX2_putElement_12 rfl rfl ?_
    refine r_aload_n C 0 (q := 14) dX2_putElement_13 rfl rfl ?_
    refine r_lload_n C 2 (q := 15) dX2_putElement_14 rfl rfl ?_
    obtain ⟨v_15, e_15, h⟩ := bs h
    refine r_callV C (ci := 2) (st := [.int x1, .ref ((xG X).1 (x0 + 1))]) (st2 := [.long v_15, .int x1, .ref ((xG X).1 (x0 + 1))]) (q := 18) (m_X2_narrowed (xG X) (xl X) hx0 e_15) ok_X2_narrowed hx0 rfl ⟨_, rfl⟩ q_289 rfl ⟨Nat.le_of_ble_eq_true rfl, Nat.le_of_ble_eq_true rfl⟩ rfl rfl (Nat.le_of_ble_eq_true rfl) dX2_putElement_15 rfl (fun hp_15 => ?_)
    obtain ⟨s_18, e_18, h⟩ := bs h
    refine r_last C (q := 19) dX2_putElement_18 (kf_X2_2 hx0) e_18 rfl ?_
    obtain rfl := Option.some.inj h
    exact hr _ _ dX2_putElement_19

theorem m_X2_putElement (G : Gm) (l : Launch) {σ σ' : St} {x0 : Nat} {x1 : Int32} {x2 : Int64} (hx0 : kd x0 = 3) (h : f_X2_putElement σ x0 x1 x2 = some σ') : Ctr G l yX2_putElement cX2_putElement 4 none 3 63 [.ref (G.1 x0), .int x1, .long x2] σ none True σ' := by
  refine Ctr.v (by decide) (Nat.le_of_ble_eq_true rfl) ?_
  intro X hG C hr
  subst hG
  exact w_X2_putElement_b0 C hr _ _ _ _ hx0 h
-- X2_hasPart
set_option maxHeartbeats 4000000 in
set_option maxRecDepth 100000 in
theorem w_X2_hasPart_b0 {X : CX} (C : Cok X RX2 cX2_hasPart 3 0 0) {σ : St} {r : Int32} (hr : RtZ X cX2_hasPart r σ) (x0 : Nat) (x1 : Int32) (x2 : Int32) (hx0 : kd x0 = 3) (h : f_X2_hasPart σ x0 x1 x2 = some r) : V X σ 0 [(0, .ref ((xG X).1 x0)), (1, .int x1), (2, .int x2)] [] := by
  unfold f_X2_hasPart at h
  refine r_iload_n C 2 (q := 1) dX2_hasPart_0 rfl rfl ?_
  refine r_if_lt C (tgt := 30) (q := 4) dX2_hasPart_1 (by decide) rfl (fun c_1 => ?_) (fun c_1 => ?_)
  · replace h := (if_pos c_1).symm.trans h
    refine r_iconst C (v := 0) (q := 31) dX2_hasPart_30 (by decide) rfl ?_
    obtain rfl := Option.some.inj h
    exact hr _ _ dX2_hasPart_31 (Or.inl rfl)
  · replace h := (if_neg c_1).symm.trans h
    refine r_iload_n C 2 (q := 5) dX2_hasPart_4 rfl rfl ?_
    refine r_aload_n C 0 (q := 6) dX2_hasPart_5 rfl rfl ?_
    refine g_X2_1 C (q := 9) dX2_hasPart_6 q_191 hx0 rfl ?_
    refine r_icmp_gt C (tgt := 30) (q := 12) dX2_hasPart_9 (by decide) rfl (fun c_9 => ?_) (fun c_9 => ?_)
    · replace h := (if_pos c_9).symm.trans h
      refine r_iconst C (v := 0) (q := 31) dX2_hasPart_30 (by decide) rfl ?_
      obtain rfl := Option.some.inj h
      exact hr _ _ dX2_hasPart_31 (Or.inl rfl)
    · replace h := (if_neg c_9).symm.trans h
      refine r_iload_n C 1 (q := 13) dX2_hasPart_12 rfl rfl ?_
      refine r_if_lt C (tgt := 30) (q := 16) dX2_hasPart_13 (by decide) rfl (fun c_13 => ?_) (fun c_13 => ?_)
      · replace h := (if_pos c_13).symm.trans h
        refine r_iconst C (v := 0) (q := 31) dX2_hasPart_30 (by decide) rfl ?_
        obtain rfl := Option.some.inj h
        exact hr _ _ dX2_hasPart_31 (Or.inl rfl)
      · replace h := (if_neg c_13).symm.trans h
        refine r_iload_n C 1 (q := 17) dX2_hasPart_16 rfl rfl ?_
        refine r_aload_n C 0 (q := 18) dX2_hasPart_17 rfl rfl ?_
        refine g_X2_1 C (q := 21) dX2_hasPart_18 q_191 hx0 rfl ?_
        refine r_iload_n C 2 (q := 22) dX2_hasPart_21 rfl rfl ?_
        refine r_isub C (q := 23) dX2_hasPart_22 rfl ?_
        refine r_icmp_gt C (tgt := 30) (q := 26) dX2_hasPart_23 (by decide) rfl (fun c_23 => ?_) (fun c_23 => ?_)
        · replace h := (if_pos c_23).symm.trans h
          refine r_iconst C (v := 0) (q := 31) dX2_hasPart_30 (by decide) rfl ?_
          obtain rfl := Option.some.inj h
          exact hr _ _ dX2_hasPart_31 (Or.inl rfl)
        · replace h := (if_neg c_23).symm.trans h
          refine r_iconst C (v := 1) (q := 27) dX2_hasPart_26 (by decide) rfl ?_
          refine r_goto C (tgt := 31) dX2_hasPart_27 (by decide) ?_
          obtain rfl := Option.some.inj h
          exact hr _ _ dX2_hasPart_31 (Or.inr rfl)

theorem m_X2_hasPart (G : Gm) (l : Launch) {σ : St} {x0 : Nat} {x1 : Int32} {x2 : Int32} (hx0 : kd x0 = 3) {r : Int32} (h : f_X2_hasPart σ x0 x1 x2 = some r) : Ctr G l yX2_hasPart cX2_hasPart 3 (some .boolean) 0 0 [.ref (G.1 x0), .int x1, .int x2] σ (some (.int r)) (r = 0 ∨ r = 1) σ := by
  refine Ctr.z (by decide) (Nat.le_of_ble_eq_true rfl) ?_
  intro X hG C hr
  subst hG
  exact w_X2_hasPart_b0 C hr _ _ _ hx0 h
-- X2_dropKeysFrom
set_option maxHeartbeats 4000000 in
set_option maxRecDepth 100000 in
theorem w_X2_dropKeysFrom_b0 {X : CX} (C : Cok X RX2 cX2_dropKeysFrom 2 0 0) {σ' : St} (hr : RtV X cX2_dropKeysFrom σ') (σ : St) (x0 : Nat) (x1 : Int32) (hx0 : kd x0 = 3) (h : f_X2_dropKeysFrom σ x0 x1 = some σ') : V X σ 0 [(0, .ref ((xG X).1 x0)), (1, .int x1)] [] := by
  unfold f_X2_dropKeysFrom at h
  refine r_aload_n C 0 (q := 1) dX2_dropKeysFrom_0 rfl rfl ?_
  refine g_X2_0 C (q := 4) dX2_dropKeysFrom_1 q_189 hx0 rfl ?_
  refine r_bipush C (v := 10) (q := 6) dX2_dropKeysFrom_4 (by decide) rfl ?_
  refine r_isub C (q := 7) dX2_dropKeysFrom_6 rfl ?_
  refine r_iload_n C 1 (q := 8) dX2_dropKeysFrom_7 rfl rfl ?_
  refine r_icmp_lt C (tgt := 16) (q := 11) dX2_dropKeysFrom_8 (by decide) rfl (fun c_8 => ?_) (fun c_8 => ?_)
  · replace h := (if_pos c_8).symm.trans h
    obtain rfl := Option.some.inj h
    exact hr _ _ dX2_dropKeysFrom_16
  · replace h := (if_neg c_8).symm.trans h
    refine r_aload_n C 0 (q := 12) dX2_dropKeysFrom_11 rfl rfl ?_
    refine r_iconst C (v := (-1)) (q := 13) dX2_dropKeysFrom_12 (by decide) rfl ?_
    obtain ⟨s_13, e_13, h⟩ := bs h
    refine p_X2_0 C (q := 16) dX2_dropKeysFrom_13 q_189 hx0 e_13 rfl ?_
    obtain rfl := Option.some.inj h
    exact hr _ _ dX2_dropKeysFrom_16

theorem m_X2_dropKeysFrom (G : Gm) (l : Launch) {σ σ' : St} {x0 : Nat} {x1 : Int32} (hx0 : kd x0 = 3) (h : f_X2_dropKeysFrom σ x0 x1 = some σ') : Ctr G l yX2_dropKeysFrom cX2_dropKeysFrom 2 none 0 0 [.ref (G.1 x0), .int x1] σ none True σ' := by
  refine Ctr.v (by decide) (Nat.le_of_ble_eq_true rfl) ?_
  intro X hG C hr
  subst hG
  exact w_X2_dropKeysFrom_b0 C hr _ _ _ hx0 h
-- X3_add
set_option maxHeartbeats 4000000 in
set_option maxRecDepth 100000 in
theorem w_X3_add_b0 {X : CX} (C : Cok X RX3 cX3_add 2 1 22) {σ' : St} {r : Int32} (hr : RtZ X cX3_add r σ') (σ : St) (x0 : Nat) (x1 : Int32) (hx0 : kd x0 = 4) (h : f_X3_add σ x0 x1 = some (r, σ')) : V X σ 0 [(0, .ref ((xG X).1 x0)), (1, .int x1)] [] := by
  unfold f_X3_add at h
  refine r_aload_n C 0 (q := 1) dX3_add_0 rfl rfl ?_
  refine g_X3_1 C (q := 4) dX3_add_1 q_165 hx0 rfl ?_
  refine r_sipush C (v := 250) (q := 7) dX3_add_4 (by decide) rfl ?_
  refine r_icmp_lt C (tgt := 12) (q := 10) dX3_add_7 (by decide) rfl (fun c_7 => ?_) (fun c_7 => ?_)
  · replace h := (if_pos c_7).symm.trans h
    refine r_aload_n C 0 (q := 13) dX3_add_12 rfl rfl ?_
    refine g_X3_0 C (q := 16) dX3_add_13 q_164 hx0 rfl ?_
    refine r_aload_n C 0 (q := 17) dX3_add_16 rfl rfl ?_
    refine g_X3_1 C (q := 20) dX3_add_17 q_165 hx0 rfl ?_
    refine r_iload_n C 1 (q := 21) dX3_add_20 rfl rfl ?_
    obtain ⟨s_21, e_21, h⟩ := bs h
    refine r_callN C (st := []) (st2 := []) (q := 24) (m_X5_put (xG X) (xl X) (kf_X3_0 hx0) e_21) ok_X5_put nst_7 rfl ⟨Nat.le_of_ble_eq_true rfl, Nat.le_of_ble_eq_true rfl⟩ rfl rfl (Nat.le_of_ble_eq_true rfl) dX3_add_21 rfl (fun hp_21 => ?_)
    refine r_aload_n C 0 (q := 25) dX3_add_24 rfl rfl ?_
    refine r_dup C (q := 26) dX3_add_25 rfl rfl ?_
    refine g_X3_1 C (q := 29) dX3_add_26 q_165 hx0 rfl ?_
    refine r_iconst C (v := 1) (q := 30) dX3_add_29 (by decide) rfl ?_
    refine r_iadd C (q := 31) dX3_add_30 rfl ?_
    obtain ⟨s_31, e_31, h⟩ := bs h
    refine p_X3_1 C (q := 34) dX3_add_31 q_165 hx0 e_31 rfl ?_
    refine r_iconst C (v := 1) (q := 35) dX3_add_34 (by decide) rfl ?_
    obtain ⟨rfl, rfl⟩ := Prod.mk.inj (Option.some.inj h)
    exact hr _ _ dX3_add_35 (Or.inr rfl)
  · replace h := (if_neg c_7).symm.trans h
    refine r_iconst C (v := 0) (q := 11) dX3_add_10 (by decide) rfl ?_
    obtain ⟨rfl, rfl⟩ := Prod.mk.inj (Option.some.inj h)
    exact hr _ _ dX3_add_11 (Or.inl rfl)

theorem m_X3_add (G : Gm) (l : Launch) {σ σ' : St} {x0 : Nat} {x1 : Int32} (hx0 : kd x0 = 4) {r : Int32} (h : f_X3_add σ x0 x1 = some (r, σ')) : Ctr G l yX3_add cX3_add 2 (some .boolean) 1 22 [.ref (G.1 x0), .int x1] σ (some (.int r)) (r = 0 ∨ r = 1) σ' := by
  refine Ctr.z (by decide) (Nat.le_of_ble_eq_true rfl) ?_
  intro X hG C hr
  subst hG
  exact w_X3_add_b0 C hr _ _ _ hx0 h
-- X3_sortOf
set_option maxHeartbeats 4000000 in
set_option maxRecDepth 100000 in
theorem w_X3_sortOf_b28 {X : CX} (C : Cok X RX3 cX3_sortOf 2 0 0) {σ : St} {r : Int32} (hr : RtI X cX3_sortOf r σ) (x1 : Int32) (h : f_X3_sortOf_b28 x1 = some r) : V X σ 28 [(1, .int x1)] [] := by
  unfold f_X3_sortOf_b28 at h
  refine r_iload_n C 0 (q := 29) dX3_sortOf_28 rfl rfl ?_
  refine r_bipush C (v := 59) (q := 31) dX3_sortOf_29 (by decide) rfl ?_
  refine r_icmp_ne C (tgt := 38) (q := 34) dX3_sortOf_31 (by decide) rfl (fun c_31 => ?_) (fun c_31 => ?_)
  · replace h := (if_neg c_31).symm.trans h
    refine r_iconst C (v := 4) (q := 39) dX3_sortOf_38 (by decide) rfl ?_
    obtain rfl := Option.some.inj h
    exact hr _ _ dX3_sortOf_39
  · replace h := (if_pos c_31).symm.trans h
    refine r_iconst C (v := 3) (q := 35) dX3_sortOf_34 (by decide) rfl ?_
    refine r_goto C (tgt := 39) dX3_sortOf_35 (by decide) ?_
    obtain rfl := Option.some.inj h
    exact hr _ _ dX3_sortOf_39

set_option maxHeartbeats 4000000 in
set_option maxRecDepth 100000 in
theorem w_X3_sortOf_b14 {X : CX} (C : Cok X RX3 cX3_sortOf 2 0 0) {σ : St} {r : Int32} (hr : RtI X cX3_sortOf r σ) (x1 : Int32) (h : f_X3_sortOf_b14 x1 = some r) : V X σ 14 [(1, .int x1)] [] := by
  unfold f_X3_sortOf_b14 at h
  refine r_iload_n C 0 (q := 15) dX3_sortOf_14 rfl rfl ?_
  refine r_bipush C (v := 48) (q := 17) dX3_sortOf_15 (by decide) rfl ?_
  refine r_icmp_lt C (tgt := 28) (q := 20) dX3_sortOf_17 (by decide) rfl (fun c_17 => ?_) (fun c_17 => ?_)
  · replace h := (if_pos c_17).symm.trans h
    exact w_X3_sortOf_b28 C hr  _  h
  · replace h := (if_neg c_17).symm.trans h
    refine r_iload_n C 0 (q := 21) dX3_sortOf_20 rfl rfl ?_
    refine r_bipush C (v := 57) (q := 23) dX3_sortOf_21 (by decide) rfl ?_
    refine r_icmp_gt C (tgt := 28) (q := 26) dX3_sortOf_23 (by decide) rfl (fun c_23 => ?_) (fun c_23 => ?_)
    · replace h := (if_pos c_23).symm.trans h
      exact w_X3_sortOf_b28 C hr  _  h
    · replace h := (if_neg c_23).symm.trans h
      refine r_iconst C (v := 2) (q := 27) dX3_sortOf_26 (by decide) rfl ?_
      obtain rfl := Option.some.inj h
      exact hr _ _ dX3_sortOf_27

set_option maxHeartbeats 4000000 in
set_option maxRecDepth 100000 in
theorem w_X3_sortOf_b0 {X : CX} (C : Cok X RX3 cX3_sortOf 2 0 0) {σ : St} {r : Int32} (hr : RtI X cX3_sortOf r σ) (x0 : Nat) (x1 : Int32) (hx0 : kd x0 = 4) (h : f_X3_sortOf x0 x1 = some r) : V X σ 0 [(0, .ref ((xG X).1 x0)), (1, .int x1)] [] := by
  unfold f_X3_sortOf at h
  refine r_iload_n C 1 (q := 1) dX3_sortOf_0 rfl rfl ?_
  refine r_bipush C (v := 97) (q := 3) dX3_sortOf_1 (by decide) rfl ?_
  refine r_icmp_lt C (tgt := 14) (q := 6) dX3_sortOf_3 (by decide) rfl (fun c_3 => ?_) (fun c_3 => ?_)
  · replace h := (if_pos c_3).symm.trans h
    refine r_sub (lv' := [(1, .int x1)]) [1] rfl ?_
    exact w_X3_sortOf_b14 C hr  _  h
  · replace h := (if_neg c_3).symm.trans h
    refine r_iload_n C 1 (q := 7) dX3_sortOf_6 rfl rfl ?_
    refine r_bipush C (v := 122) (q := 9) dX3_sortOf_7 (by decide) rfl ?_
    refine r_icmp_gt C (tgt := 14) (q := 12) dX3_sortOf_9 (by decide) rfl (fun c_9 => ?_) (fun c_9 => ?_)
    · replace h := (if_pos c_9).symm.trans h
      refine r_sub (lv' := [(1, .int x1)]) [1] rfl ?_
      exact w_X3_sortOf_b14 C hr  _  h
    · replace h := (if_neg c_9).symm.trans h
      refine r_iconst C (v := 1) (q := 13) dX3_sortOf_12 (by decide) rfl ?_
      obtain rfl := Option.some.inj h
      exact hr _ _ dX3_sortOf_13

theorem m_X3_sortOf (G : Gm) (l : Launch) {σ : St} {x0 : Nat} {x1 : Int32} (hx0 : kd x0 = 4) {r : Int32} (h : f_X3_sortOf x0 x1 = some r) : Ctr G l yX3_sortOf cX3_sortOf 2 (some .int) 0 0 [.ref (G.1 x0), .int x1] σ (some (.int r)) True σ := by
  refine Ctr.i (by decide) (Nat.le_of_ble_eq_true rfl) ?_
  intro X hG C hr
  subst hG
  exact w_X3_sortOf_b0 C hr _ _ hx0 h
-- X3_toNextToken
set_option maxHeartbeats 4000000 in
set_option maxRecDepth 100000 in
theorem w_X3_toNextToken_b126 {X : CX} (C : Cok X RX3 cX3_toNextToken 1 1 21) {σ' : St} (hr : RtV X cX3_toNextToken σ') (k_110 : St → Nat → Option St) (hk_110 : ∀ (σ : St) (x0 : Nat), kd x0 = 4 → k_110 σ x0 = some σ' → V X σ 110 [(0, .ref ((xG X).1 x0))] []) (σ : St) (x0 : Nat) (hx0 : kd x0 = 4) (h : f_X3_toNextToken_b126 k_110 σ x0 = some σ') : V X σ 126 [(0, .ref ((xG X).1 x0))] [] := by
  unfold f_X3_toNextToken_b126 at h
  refine r_aload_n C 0 (q := 127) dX3_toNextToken_126 rfl rfl ?_
  refine g_X3_4 C (q := 130) dX3_toNextToken_127 q_170 hx0 rfl ?_
  refine r_aload_n C 0 (q := 131) dX3_toNextToken_130 rfl rfl ?_
  refine g_X3_1 C (q := 134) dX3_toNextToken_131 q_165 hx0 rfl ?_
  refine r_icmp_ge C (tgt := 172) (q := 137) dX3_toNextToken_134 (by decide) rfl (fun c_134 => ?_) (fun c_134 => ?_)
  · replace h := (if_pos c_134).symm.trans h
    obtain rfl := Option.some.inj h
    exact hr _ _ dX3_toNextToken_172
  · replace h := (if_neg c_134).symm.trans h
    refine r_aload_n C 0 (q := 138) dX3_toNextToken_137 rfl rfl ?_
    refine r_aload_n C 0 (q := 139) dX3_toNextToken_138 rfl rfl ?_
    refine g_X3_0 C (q := 142) dX3_toNextToken_139 q_164 hx0 rfl ?_
    refine r_aload_n C 0 (q := 143) dX3_toNextToken_142 rfl rfl ?_
    refine g_X3_4 C (q := 146) dX3_toNextToken_143 q_170 hx0 rfl ?_
    obtain ⟨v_146, e_146, h⟩ := bs h
    refine r_callN C (st := [.ref ((xG X).1 x0)]) (st2 := [.int v_146, .ref ((xG X).1 x0)]) (q := 149) (m_X5_at (xG X) (xl X) (kf_X3_0 hx0) e_146) ok_X5_at nst_8 rfl ⟨Nat.le_of_ble_eq_true rfl, Nat.le_of_ble_eq_true rfl⟩ rfl rfl (Nat.le_of_ble_eq_true rfl) dX3_toNextToken_146 rfl (fun hp_146 => ?_)
    obtain ⟨v_149, e_149, h⟩ := bs h
    refine r_callV C (ci := 3) (st := []) (st2 := [.int v_149]) (q := 152) (m_X3_sortOf (xG X) (xl X) hx0 e_149) ok_X3_sortOf hx0 rfl ⟨_, rfl⟩ q_518 rfl ⟨Nat.le_of_ble_eq_true rfl, Nat.le_of_ble_eq_true rfl⟩ rfl rfl (Nat.le_of_ble_eq_true rfl) dX3_toNextToken_149 rfl (fun hp_149 => ?_)
    refine r_aload_n C 0 (q := 153) dX3_toNextToken_152 rfl rfl ?_
    refine g_X3_2 C (q := 156) dX3_toNextToken_153 q_167 hx0 rfl ?_
    refine r_icmp_ne C (tgt := 172) (q := 159) dX3_toNextToken_156 (by decide) rfl (fun c_156 => ?_) (fun c_156 => ?_)
    · replace h := (if_neg c_156).symm.trans h
      obtain rfl := Option.some.inj h
      exact hr _ _ dX3_toNextToken_172
    · replace h := (if_pos c_156).symm.trans h
      refine r_aload_n C 0 (q := 160) dX3_toNextToken_159 rfl rfl ?_
      refine r_dup C (q := 161) dX3_toNextToken_160 rfl rfl ?_
      refine g_X3_4 C (q := 164) dX3_toNextToken_161 q_170 hx0 rfl ?_
      refine r_iconst C (v := 1) (q := 165) dX3_toNextToken_164 (by decide) rfl ?_
      refine r_iadd C (q := 166) dX3_toNextToken_165 rfl ?_
      obtain ⟨s_166, e_166, h⟩ := bs h
      refine p_X3_4 C (q := 169) dX3_toNextToken_166 q_170 hx0 e_166 rfl ?_
      refine r_goto C (tgt := 110) dX3_toNextToken_169 (by decide) ?_
      exact hk_110 _ _ hx0 h

set_option maxHeartbeats 4000000 in
set_option maxRecDepth 100000 in
theorem w_X3_toNextToken_b110 {X : CX} (C : Cok X RX3 cX3_toNextToken 1 1 21) {σ' : St} (hr : RtV X cX3_toNextToken σ') (k_110 : St → Nat → Option St) (hk_110 : ∀ (σ : St) (x0 : Nat), kd x0 = 4 → k_110 σ x0 = some σ' → V X σ 110 [(0, .ref ((xG X).1 x0))] []) (σ : St) (x0 : Nat) (hx0 : kd x0 = 4) (h : f_X3_toNextToken_b110 k_110 σ x0 = some σ') : V X σ 110 [(0, .ref ((xG X).1 x0))] [] := by
  unfold f_X3_toNextToken_b110 at h
  refine r_aload_n C 0 (q := 111) dX3_toNextToken_110 rfl rfl ?_
  refine g_X3_2 C (q := 114) dX3_toNextToken_111 q_167 hx0 rfl ?_
  refine r_iconst C (v := 1) (q := 115) dX3_toNextToken_114 (by decide) rfl ?_
  refine r_icmp_eq C (tgt := 126) (q := 118) dX3_toNextToken_115 (by decide) rfl (fun c_115 => ?_) (fun c_115 => ?_)
  · replace h := (if_pos c_115).symm.trans h
    exact w_X3_toNextToken_b126 C hr _ hk_110 _ _ hx0 h
  · replace h := (if_neg c_115).symm.trans h
    refine r_aload_n C 0 (q := 119) dX3_toNextToken_118 rfl rfl ?_
    refine g_X3_2 C (q := 122) dX3_toNextToken_119 q_167 hx0 rfl ?_
    refine r_iconst C (v := 2) (q := 123) dX3_toNextToken_122 (by decide) rfl ?_
    refine r_icmp_ne C (tgt := 172) (q := 126) dX3_toNextToken_123 (by decide) rfl (fun c_123 => ?_) (fun c_123 => ?_)
    · replace h := (if_neg c_123).symm.trans h
      obtain rfl := Option.some.inj h
      exact hr _ _ dX3_toNextToken_172
    · replace h := (if_pos c_123).symm.trans h
      exact w_X3_toNextToken_b126 C hr _ hk_110 _ _ hx0 h

theorem w_X3_toNextToken_l110 {X : CX} (C : Cok X RX3 cX3_toNextToken 1 1 21) {σ' : St} (hr : RtV X cX3_toNextToken σ') (n : Nat) : ∀ (σ : St) (x0 : Nat), kd x0 = 4 → f_X3_toNextToken_l110 n σ x0 = some σ' → V X σ 110 [(0, .ref ((xG X).1 x0))] [] := by
  induction n with
  | zero =>
    intro σ x0 hx0 h
    exact nomatch (show (none : Option St) = some σ' from h)
  | succ n ih =>
    intro σ x0 hx0 h
    exact w_X3_toNextToken_b110 C hr _ ih σ x0 hx0 h
set_option maxHeartbeats 4000000 in
set_option maxRecDepth 100000 in
theorem w_X3_toNextToken_b107 {X : CX} (C : Cok X RX3 cX3_toNextToken 1 1 21) {σ' : St} (hr : RtV X cX3_toNextToken σ') (σ : St) (x0 : Nat) (t0 : Nat) (t1 : Int32) (hx0 : kd x0 = 4) (ht0 : kd t0 = 4) (h : f_X3_toNextToken_b107 σ x0 t0 t1 = some σ') : V X σ 107 [(0, .ref ((xG X).1 x0))] [.int t1, .ref ((xG X).1 t0)] := by
  unfold f_X3_toNextToken_b107 at h
  obtain ⟨s_107, e_107, h⟩ := bs h
  refine p_X3_4 C (q := 110) dX3_toNextToken_107 q_170 ht0 e_107 rfl ?_
  exact w_X3_toNextToken_l110 C hr  FU _ _ hx0 h

set_option maxHeartbeats 4000000 in
set_option maxRecDepth 100000 in
theorem w_X3_toNextToken_b79 {X : CX} (C : Cok X RX3 cX3_toNextToken 1 1 21) {σ' : St} (hr : RtV X cX3_toNextToken σ') (σ : St) (x0 : Nat) (t0 : Nat) (t1 : Int32) (hx0 : kd x0 = 4) (ht0 : kd t0 = 4) (h : f_X3_toNextToken_b79 σ x0 t0 t1 = some σ') : V X σ 79 [(0, .ref ((xG X).1 x0))] [.int t1, .ref ((xG X).1 t0)] := by
  unfold f_X3_toNextToken_b79 at h
  obtain ⟨s_79, e_79, h⟩ := bs h
  refine p_X3_2 C (q := 82) dX3_toNextToken_79 q_167 ht0 e_79 rfl ?_
  refine r_aload_n C 0 (q := 83) dX3_toNextToken_82 rfl rfl ?_
  refine r_aload_n C 0 (q := 84) dX3_toNextToken_83 rfl rfl ?_
  refine g_X3_3 C (q := 87) dX3_toNextToken_84 q_168 hx0 rfl ?_
  refine r_aload_n C 0 (q := 88) dX3_toNextToken_87 rfl rfl ?_
  refine g_X3_1 C (q := 91) dX3_toNextToken_88 q_165 hx0 rfl ?_
  refine r_icmp_ge C (tgt := 103) (q := 94) dX3_toNextToken_91 (by decide) rfl (fun c_91 => ?_) (fun c_91 => ?_)
  · replace h := (if_pos c_91).symm.trans h
    refine r_aload_n C 0 (q := 104) dX3_toNextToken_103 rfl rfl ?_
    refine g_X3_3 C (q := 107) dX3_toNextToken_104 q_168 hx0 rfl ?_
    exact w_X3_toNextToken_b107 C hr  _ _ _ _ hx0 hx0 h
  · replace h := (if_neg c_91).symm.trans h
    refine r_aload_n C 0 (q := 95) dX3_toNextToken_94 rfl rfl ?_
    refine g_X3_3 C (q := 98) dX3_toNextToken_95 q_168 hx0 rfl ?_
    refine r_iconst C (v := 1) (q := 99) dX3_toNextToken_98 (by decide) rfl ?_
    refine r_iadd C (q := 100) dX3_toNextToken_99 rfl ?_
    refine r_goto C (tgt := 107) dX3_toNextToken_100 (by decide) ?_
    exact w_X3_toNextToken_b107 C hr  _ _ _ _ hx0 hx0 h

set_option maxHeartbeats 4000000 in
set_option maxRecDepth 100000 in
theorem w_X3_toNextToken_b48 {X : CX} (C : Cok X RX3 cX3_toNextToken 1 1 21) {σ' : St} (hr : RtV X cX3_toNextToken σ') (σ : St) (x0 : Nat) (hx0 : kd x0 = 4) (h : f_X3_toNextToken_b48 σ x0 = some σ') : V X σ 48 [(0, .ref ((xG X).1 x0))] [] := by
  unfold f_X3_toNextToken_b48 at h
  refine r_aload_n C 0 (q := 49) dX3_toNextToken_48 rfl rfl ?_
  refine r_aload_n C 0 (q := 50) dX3_toNextToken_49 rfl rfl ?_
  refine g_X3_3 C (q := 53) dX3_toNextToken_50 q_168 hx0 rfl ?_
  refine r_aload_n C 0 (q := 54) dX3_toNextToken_53 rfl rfl ?_
  refine g_X3_1 C (q := 57) dX3_toNextToken_54 q_165 hx0 rfl ?_
  refine r_icmp_ge C (tgt := 78) (q := 60) dX3_toNextToken_57 (by decide) rfl (fun c_57 => ?_) (fun c_57 => ?_)
  · replace h := (if_pos c_57).symm.trans h
    refine r_iconst C (v := 0) (q := 79) dX3_toNextToken_78 (by decide) rfl ?_
    exact w_X3_toNextToken_b79 C hr  _ _ _ _ hx0 hx0 h
  · replace h := (if_neg c_57).symm.trans h
    refine r_aload_n C 0 (q := 61) dX3_toNextToken_60 rfl rfl ?_
    refine r_aload_n C 0 (q := 62) dX3_toNextToken_61 rfl rfl ?_
    refine g_X3_0 C (q := 65) dX3_toNextToken_62 q_164 hx0 rfl ?_
    refine r_aload_n C 0 (q := 66) dX3_toNextToken_65 rfl rfl ?_
    refine g_X3_3 C (q := 69) dX3_toNextToken_66 q_168 hx0 rfl ?_
    obtain ⟨v_69, e_69, h⟩ := bs h
    refine r_callN C (st := [.ref ((xG X).1 x0), .ref ((xG X).1 x0)]) (st2 := [.int v_69, .ref ((xG X).1 x0), .ref ((xG X).1 x0)]) (q := 72) (m_X5_at (xG X) (xl X) (kf_X3_0 hx0) e_69) ok_X5_at nst_8 rfl ⟨Nat.le_of_ble_eq_true rfl, Nat.le_of_ble_eq_true rfl⟩ rfl rfl (Nat.le_of_ble_eq_true rfl) dX3_toNextToken_69 rfl (fun hp_69 => ?_)
    obtain ⟨v_72, e_72, h⟩ := bs h
    refine r_callV C (ci := 3) (st := [.ref ((xG X).1 x0)]) (st2 := [.int v_72, .ref ((xG X).1 x0)]) (q := 75) (m_X3_sortOf (xG X) (xl X) hx0 e_72) ok_X3_sortOf hx0 rfl ⟨_, rfl⟩ q_518 rfl ⟨Nat.le_of_ble_eq_true rfl, Nat.le_of_ble_eq_true rfl⟩ rfl rfl (Nat.le_of_ble_eq_true rfl) dX3_toNextToken_72 rfl (fun hp_72 => ?_)
    refine r_goto C (tgt := 79) dX3_toNextToken_75 (by decide) ?_
    exact w_X3_toNextToken_b79 C hr  _ _ _ _ hx0 hx0 h

set_option maxHeartbeats 4000000 in
set_option maxRecDepth 100000 in
theorem w_X3_toNextToken_b8 {X : CX} (C : Cok X RX3 cX3_toNextToken 1 1 21) {σ' : St} (hr : RtV X cX3_toNextToken σ') (k_8 : St → Nat → Option St) (hk_8 : ∀ (σ : St) (x0 : Nat), kd x0 = 4 → k_8 σ x0 = some σ' → V X σ 8 [(0, .ref ((xG X).1 x0))] []) (σ : St) (x0 : Nat) (hx0 : kd x0 = 4) (h : f_X3_toNextToken_b8 k_8 σ x0 = some σ') : V X σ 8 [(0, .ref ((xG X).1 x0))] [] := by
  unfold f_X3_toNextToken_b8 at h
  refine r_aload_n C 0 (q := 9) dX3_toNextToken_8 rfl rfl ?_
  refine g_X3_3 C (q := 12) dX3_toNextToken_9 q_168 hx0 rfl ?_
  refine r_aload_n C 0 (q := 13) dX3_toNextToken_12 rfl rfl ?_
  refine g_X3_1 C (q := 16) dX3_toNextToken_13 q_165 hx0 rfl ?_
  refine r_icmp_ge C (tgt := 48) (q := 19) dX3_toNextToken_16 (by decide) rfl (fun c_16 => ?_) (fun c_16 => ?_)
  · replace h := (if_pos c_16).symm.trans h
    exact w_X3_toNextToken_b48 C hr  _ _ hx0 h
  · replace h := (if_neg c_16).symm.trans h
    refine r_aload_n C 0 (q := 20) dX3_toNextToken_19 rfl rfl ?_
    refine g_X3_0 C (q := 23) dX3_toNextToken_20 q_164 hx0 rfl ?_
    refine r_aload_n C 0 (q := 24) dX3_toNextToken_23 rfl rfl ?_
    refine g_X3_3 C (q := 27) dX3_toNextToken_24 q_168 hx0 rfl ?_
    obtain ⟨v_27, e_27, h⟩ := bs h
    refine r_callN C (st := []) (st2 := [.int v_27]) (q := 30) (m_X5_at (xG X) (xl X) (kf_X3_0 hx0) e_27) ok_X5_at nst_8 rfl ⟨Nat.le_of_ble_eq_true rfl, Nat.le_of_ble_eq_true rfl⟩ rfl rfl (Nat.le_of_ble_eq_true rfl) dX3_toNextToken_27 rfl (fun hp_27 => ?_)
    refine r_bipush C (v := 32) (q := 32) dX3_toNextToken_30 (by decide) rfl ?_
    refine r_icmp_ne C (tgt := 48) (q := 35) dX3_toNextToken_32 (by decide) rfl (fun c_32 => ?_) (fun c_32 => ?_)
    · replace h := (if_neg c_32).symm.trans h
      exact w_X3_toNextToken_b48 C hr  _ _ hx0 h
    · replace h := (if_pos c_32).symm.trans h
      refine r_aload_n C 0 (q := 36) dX3_toNextToken_35 rfl rfl ?_
      refine r_dup C (q := 37) dX3_toNextToken_36 rfl rfl ?_
      refine g_X3_3 C (q := 40) dX3_toNextToken_37 q_168 hx0 rfl ?_
      refine r_iconst C (v := 1) (q := 41) dX3_toNextToken_40 (by decide) rfl ?_
      refine r_iadd C (q := 42) dX3_toNextToken_41 rfl ?_
      obtain ⟨s_42, e_42, h⟩ := bs h
      refine p_X3_3 C (q := 45) dX3_toNextToken_42 q_168 hx0 e_42 rfl ?_
      refine r_goto C (tgt := 8) dX3_toNextToken_45 (by decide) ?_
      exact hk_8 _ _ hx0 h

theorem w_X3_toNextToken_l8 {X : CX} (C : Cok X RX3 cX3_toNextToken 1 1 21) {σ' : St} (hr : RtV X cX3_toNextToken σ') (n : Nat) : ∀ (σ : St) (x0 : Nat), kd x0 = 4 → f_X3_toNextToken_l8 n σ x0 = some σ' → V X σ 8 [(0, .ref ((xG X).1 x0))] [] := by
  induction n with
  | zero =>
    intro σ x0 hx0 h
    exact nomatch (show (none : Option St) = some σ' from h)
  | succ n ih =>
    intro σ x0 hx0 h
    exact w_X3_toNextToken_b8 C hr _ ih σ x0 hx0 h
set_option maxHeartbeats 4000000 in
set_option maxRecDepth 100000 in
theorem w_X3_toNextToken_b0 {X : CX} (C : Cok X RX3 cX3_toNextToken 1 1 21) {σ' : St} (hr : RtV X cX3_toNextToken σ') (σ : St) (x0 : Nat) (hx0 : kd x0 = 4) (h : f_X3_toNextToken σ x0 = some σ') : V X σ 0 [(0, .ref ((xG X).1 x0))] [] := by
  unfold f_X3_toNextToken at h
  refine r_aload_n C 0 (q := 1) dX3_toNextToken_0 rfl rfl ?_
  refine r_aload_n C 0 (q := 2) dX3_toNextToken_1 rfl rfl ?_
  refine g_X3_4 C (q := 5) dX3_toNextToken_2 q_170 hx0 rfl ?_
  obtain ⟨s_5, e_5, h⟩ := bs h
  refine p_X3_3 C (q := 8) dX3_toNextToken_5 q_168 hx0 e_5 rfl ?_
  exact w_X3_toNextToken_l8 C hr  FU _ _ hx0 h

theorem m_X3_toNextToken (G : Gm) (l : Launch) {σ σ' : St} {x0 : Nat} (hx0 : kd x0 = 4) (h : f_X3_toNextToken σ x0 = some σ') : Ctr G l yX3_toNextToken cX3_toNextToken 1 none 1 21 [.ref (G.1 x0)] σ none True σ' := by
  refine Ctr.v (by decide) (Nat.le_of_ble_eq_true rfl) ?_
  intro X hG C hr
  subst hG
  exact w_X3_toNextToken_b0 C hr _ _ hx0 h
-- X3_isWord
set_option maxHeartbeats 4000000 in
set_option maxRecDepth 100000 in
theorem w_X3_isWord_b28 {X : CX} (C : Cok X RX3 cX3_isWord 3 4 85) {σ : St} {r : Int32} (hr : RtZ X cX3_isWord r σ) (k_28 : Nat → Nat → Int32 → Option Int32) (hk_28 : ∀ (x0 : Nat) (x1 : Nat) (x2 : Int32), kd x0 = 4 → x1 < 9 → k_28 x0 x1 x2 = some r → V X σ 28 [(0, .ref ((xG X).1 x0)), (1, .ref ((xG X).2.2.2.1 x1)), (2, .int x2)] []) (x0 : Nat) (x1 : Nat) (x2 : Int32) (hx0 : kd x0 = 4) (hx1 : x1 < 9) (h : f_X3_isWord_b28 σ k_28 x0 x1 x2 = some r) : V X σ 28 [(0, .ref ((xG X).1 x0)), (1, .ref ((xG X).2.2.2.1 x1)), (2, .int x2)] [] := by
  unfold f_X3_isWord_b28 at h
  refine r_iload_n C 2 (q := 29) dX3_isWord_28 rfl rfl ?_
  refine r_aload_n C 1 (q := 30) dX3_isWord_29 rfl rfl ?_
  refine r_slen C (st := [.int x2]) (q := 33) dX3_isWord_30 q_531 hx1 ⟨Nat.le_of_ble_eq_true rfl, Nat.le_of_ble_eq_true rfl⟩ (Nat.le_of_ble_eq_true rfl) rfl ?_
  refine r_icmp_ge C (tgt := 65) (q := 36) dX3_isWord_33 (by decide) rfl (fun c_33 => ?_) (fun c_33 => ?_)
  · replace h := (if_pos c_33).symm.trans h
    refine r_iconst C (v := 1) (q := 66) dX3_isWord_65 (by decide) rfl ?_
    obtain rfl := Option.some.inj h
    exact hr _ _ dX3_isWord_66 (Or.inr rfl)
  · replace h := (if_neg c_33).symm.trans h
    refine r_aload_n C 0 (q := 37) dX3_isWord_36 rfl rfl ?_
    refine g_X3_0 C (q := 40) dX3_isWord_37 q_164 hx0 rfl ?_
    refine r_aload_n C 0 (q := 41) dX3_isWord_40 rfl rfl ?_
    refine g_X3_3 C (q := 44) dX3_isWord_41 q_168 hx0 rfl ?_
    refine r_iload_n C 2 (q := 45) dX3_isWord_44 rfl rfl ?_
    refine r_iadd C (q := 46) dX3_isWord_45 rfl ?_
    obtain ⟨v_46, e_46, h⟩ := bs h
    refine r_callN C (st := []) (st2 := [.int v_46]) (q := 49) (m_X5_at (xG X) (xl X) (kf_X3_0 hx0) e_46) ok_X5_at nst_8 rfl ⟨Nat.le_of_ble_eq_true rfl, Nat.le_of_ble_eq_true rfl⟩ rfl rfl (Nat.le_of_ble_eq_true rfl) dX3_isWord_46 rfl (fun hp_46 => ?_)
    refine r_aload_n C 1 (q := 50) dX3_isWord_49 rfl rfl ?_
    refine r_iload_n C 2 (q := 51) dX3_isWord_50 rfl rfl ?_
    obtain ⟨v_51, e_51, h⟩ := bs h
    refine r_schar C (st := [.int v_46]) (q := 54) dX3_isWord_51 q_541 hx1 e_51 ⟨Nat.le_of_ble_eq_true rfl, Nat.le_of_ble_eq_true rfl⟩ (Nat.le_of_ble_eq_true rfl) rfl ?_
    refine r_icmp_eq C (tgt := 59) (q := 57) dX3_isWord_54 (by decide) rfl (fun c_54 => ?_) (fun c_54 => ?_)
    · replace h := (if_pos c_54).symm.trans h
      obtain ⟨y_59, e_59, h⟩ := bs h
      refine r_iinc C (v := y_59) (lv' := [(2, .int y_59), (0, .ref ((xG X).1 x0)), (1, .ref ((xG X).2.2.2.1 x1))]) (q := 62) 2 dX3_isWord_59 rfl (Option.some.inj e_59) (by decide) rfl rfl ?_
      refine r_goto C (tgt := 28) dX3_isWord_62 (by decide) ?_
      refine r_sub (lv' := [(0, .ref ((xG X).1 x0)), (1, .ref ((xG X).2.2.2.1 x1)), (2, .int y_59)]) [1, 2, 0] rfl ?_
      exact hk_28 _ _ _ hx0 hx1 h
    · replace h := (if_neg c_54).symm.trans h
      refine r_iconst C (v := 0) (q := 58) dX3_isWord_57 (by decide) rfl ?_
      obtain rfl := Option.some.inj h
      exact hr _ _ dX3_isWord_58 (Or.inl rfl)

theorem w_X3_isWord_l28 {X : CX} (C : Cok X RX3 cX3_isWord 3 4 85) {σ : St} {r : Int32} (hr : RtZ X cX3_isWord r σ) (n : Nat) : ∀ (x0 : Nat) (x1 : Nat) (x2 : Int32), kd x0 = 4 → x1 < 9 → f_X3_isWord_l28 σ n x0 x1 x2 = some r → V X σ 28 [(0, .ref ((xG X).1 x0)), (1, .ref ((xG X).2.2.2.1 x1)), (2, .int x2)] [] := by
  induction n with
  | zero =>
    intro x0 x1 x2 hx0 hx1 h
    exact nomatch (show (none : Option Int32) = some r from h)
  | succ n ih =>
    intro x0 x1 x2 hx0 hx1 h
    exact w_X3_isWord_b28 C hr _ ih x0 x1 x2 hx0 hx1 h
set_option maxHeartbeats 4000000 in
set_option maxRecDepth 100000 in
theorem w_X3_isWord_b0 {X : CX} (C : Cok X RX3 cX3_isWord 3 4 85) {σ : St} {r : Int32} (hr : RtZ X cX3_isWord r σ) (x0 : Nat) (x1 : Nat) (hx0 : kd x0 = 4) (hx1 : x1 < 9) (h : f_X3_isWord σ x0 x1 = some r) : V X σ 0 [(0, .ref ((xG X).1 x0)), (1, .ref ((xG X).2.2.2.1 x1))] [] := by
  unfold f_X3_isWord at h
  refine r_aload_n C 0 (q := 1) dX3_isWord_0 rfl rfl ?_
  refine g_X3_2 C (q := 4) dX3_isWord_1 q_167 hx0 rfl ?_
  refine r_iconst C (v := 1) (q := 5) dX3_isWord_4 (by decide) rfl ?_
  refine r_icmp_ne C (tgt := 24) (q := 8) dX3_isWord_5 (by decide) rfl (fun c_5 => ?_) (fun c_5 => ?_)
  · replace h := (if_neg c_5).symm.trans h
    refine r_iconst C (v := 0) (q := 25) dX3_isWord_24 (by decide) rfl ?_
    obtain rfl := Option.some.inj h
    exact hr _ _ dX3_isWord_25 (Or.inl rfl)
  · replace h := (if_pos c_5).symm.trans h
    refine r_aload_n C 0 (q := 9) dX3_isWord_8 rfl rfl ?_
    refine g_X3_4 C (q := 12) dX3_isWord_9 q_170 hx0 rfl ?_
    refine r_aload_n C 0 (q := 13) dX3_isWord_12 rfl rfl ?_
    refine g_X3_3 C (q := 16) dX3_isWord_13 q_168 hx0 rfl ?_
    refine r_isub C (q := 17) dX3_isWord_16 rfl ?_
    refine r_aload_n C 1 (q := 18) dX3_isWord_17 rfl rfl ?_
    refine r_slen C (st := [.int ((σ.1 x0 4) - (σ.1 x0 3))]) (q := 21) dX3_isWord_18 q_531 hx1 ⟨Nat.le_of_ble_eq_true rfl, Nat.le_of_ble_eq_true rfl⟩ (Nat.le_of_ble_eq_true rfl) rfl ?_
    refine r_icmp_eq C (tgt := 26) (q := 24) dX3_isWord_21 (by decide) rfl (fun c_21 => ?_) (fun c_21 => ?_)
    · replace h := (if_pos c_21).symm.trans h
      refine r_iconst C (v := 0) (q := 27) dX3_isWord_26 (by decide) rfl ?_
      refine r_istore_n C (lv' := [(2, .int 0), (0, .ref ((xG X).1 x0)), (1, .ref ((xG X).2.2.2.1 x1))]) (q := 28) dX3_isWord_27 rfl (by decide) rfl rfl ?_
      refine r_sub (lv' := [(0, .ref ((xG X).1 x0)), (1, .ref ((xG X).2.2.2.1 x1)), (2, .int 0)]) [1, 2, 0] rfl ?_
      exact w_X3_isWord_l28 C hr  FU _ _ _ hx0 hx1 h
    · replace h := (if_neg c_21).symm.trans h
      refine r_iconst C (v := 0) (q := 25) dX3_isWord_24 (by decide) rfl ?_
      obtain rfl := Option.some.inj h
      exact hr _ _ dX3_isWord_25 (Or.inl rfl)

theorem m_X3_isWord (G : Gm) (l : Launch) {σ : St} {x0 : Nat} {x1 : Nat} (hx0 : kd x0 = 4) (hx1 : x1 < 9) {r : Int32} (h : f_X3_isWord σ x0 x1 = some r) : Ctr G l yX3_isWord cX3_isWord 3 (some .boolean) 4 85 [.ref (G.1 x0), .ref (G.2.2.2.1 x1)] σ (some (.int r)) (r = 0 ∨ r = 1) σ := by
  refine Ctr.z (by decide) (Nat.le_of_ble_eq_true rfl) ?_
  intro X hG C hr
  subst hG
  exact w_X3_isWord_b0 C hr _ _ hx0 hx1 h
-- X3_readNumber
set_option maxHeartbeats 4000000 in
set_option maxRecDepth 100000 in
theorem w_X3_readNumber_b31 {X : CX} (C : Cok X RX3 cX3_readNumber 5 2 41) {σ' : St} {r : Int32} (hr : RtI X cX3_readNumber r σ') (k_31 : St → Nat → Int32 → Int32 → Int32 → Int32 → Option (Int32 × St)) (hk_31 : ∀ (σ : St) (x0 : Nat) (x1 : Int32) (x2 : Int32) (x3 : Int32) (x4 : Int32), kd x0 = 4 → k_31 σ x0 x1 x2 x3 x4 = some (r, σ') → V X σ 31 [(0, .ref ((xG X).1 x0)), (1, .int x1), (2, .int x2), (3, .int x3), (4, .int x4)] []) (σ : St) (x0 : Nat) (x1 : Int32) (x2 : Int32) (x3 : Int32) (x4 : Int32) (hx0 : kd x0 = 4) (h : f_X3_readNumber_b31 k_31 σ x0 x1 x2 x3 x4 = some (r, σ')) : V X σ 31 [(0, .ref ((xG X).1 x0)), (1, .int x1), (2, .int x2), (3, .int x3), (4, .int x4)] [] := by
  unfold f_X3_readNumber_b31 at h
  refine r_iload C 4 (q := 33) dX3_readNumber_31 rfl rfl ?_
  refine r_aload_n C 0 (q := 34) dX3_readNumber_33 rfl rfl ?_
  refine g_X3_4 C (q := 37) dX3_readNumber_34 q_170 hx0 rfl ?_
  refine r_icmp_ge C (tgt := 64) (q := 40) dX3_readNumber_37 (by decide) rfl (fun c_37 => ?_) (fun c_37 => ?_)
  · replace h := (if_pos c_37).symm.trans h
    refine r_iload_n C 3 (q := 65) dX3_readNumber_64 rfl rfl ?_
    refine r_iload_n C 1 (q := 66) dX3_readNumber_65 rfl rfl ?_
    refine r_iload_n C 2 (q := 67) dX3_readNumber_66 rfl rfl ?_
    obtain ⟨v_67, e_67, h⟩ := bs h
    refine r_callN C (st := []) (st2 := [.int v_67]) (q := 70) (m_X5_isWithin (xG X) (xl X) e_67) ok_X5_isWithin nst_9 rfl ⟨Nat.le_of_ble_eq_true rfl, Nat.le_of_ble_eq_true rfl⟩ rfl rfl (Nat.le_of_ble_eq_true rfl) dX3_readNumber_67 rfl (fun hp_67 => ?_)
    refine r_if_ne C (tgt := 75) (q := 73) dX3_readNumber_70 (by decide) rfl (fun c_70 => ?_) (fun c_70 => ?_)
    · replace h := (if_neg c_70).symm.trans h
      refine r_aload_n C 0 (q := 76) dX3_readNumber_75 rfl rfl ?_
      obtain ⟨s_76, e_76, h⟩ := bs h
      refine r_callV C (ci := 3) (st := []) (st2 := []) (q := 79) (m_X3_toNextToken (xG X) (xl X) hx0 e_76) ok_X3_toNextToken hx0 rfl ⟨_, rfl⟩ q_513 rfl ⟨Nat.le_of_ble_eq_true rfl, Nat.le_of_ble_eq_true rfl⟩ rfl rfl (Nat.le_of_ble_eq_true rfl) dX3_readNumber_76 rfl (fun hp_76 => ?_)
      refine r_iload_n C 3 (q := 80) dX3_readNumber_79 rfl rfl ?_
      obtain ⟨rfl, rfl⟩ := Prod.mk.inj (Option.some.inj h)
      exact hr _ _ dX3_readNumber_80
    · replace h := (if_pos c_70).symm.trans h
      refine r_iconst C (v := (-1)) (q := 74) dX3_readNumber_73 (by decide) rfl ?_
      obtain ⟨rfl, rfl⟩ := Prod.mk.inj (Option.some.inj h)
      exact hr _ _ dX3_readNumber_74
  · replace h := (if_neg c_37).symm.trans h
    refine r_bipush C (v := 10) (q := 42) dX3_readNumber_40 (by decide) rfl ?_
    refine r_iload_n C 3 (q := 43) dX3_readNumber_42 rfl rfl ?_
    refine r_imul C (q := 44) dX3_readNumber_43 rfl ?_
    refine r_aload_n C 0 (q := 45) dX3_readNumber_44 rfl rfl ?_
    refine g_X3_0 C (q := 48) dX3_readNumber_45 q_164 hx0 rfl ?_
    refine r_iload C 4 (q := 50) dX3_readNumber_48 rfl rfl ?_
    obtain ⟨v_50, e_50, h⟩ := bs h
    refine r_callN C (st := [.int (10 * x3)]) (st2 := [.int v_50, .int (10 * x3)]) (q := 53) (m_X5_at (xG X) (xl X) (kf_X3_0 hx0) e_50) ok_X5_at nst_8 rfl ⟨Nat.le_of_ble_eq_true rfl, Nat.le_of_ble_eq_true rfl⟩ rfl rfl (Nat.le_of_ble_eq_true rfl) dX3_readNumber_50 rfl (fun hp_50 => ?_)
    refine r_iadd C (q := 54) dX3_readNumber_53 rfl ?_
    refine r_bipush C (v := 48) (q := 56) dX3_readNumber_54 (by decide) rfl ?_
    refine r_isub C (q := 57) dX3_readNumber_56 rfl ?_
    obtain ⟨y_57, e_57, h⟩ := bs h
    refine r_topI (Option.some.inj e_57) ?_
    refine r_istore_n C (lv' := [(3, .int y_57), (0, .ref ((xG X).1 x0)), (1, .int x1), (2, .int x2), (4, .int x4)]) (q := 58) dX3_readNumber_57 rfl (by decide) rfl rfl ?_
    obtain ⟨y_58, e_58, h⟩ := bs h
    refine r_iinc C (v := y_58) (lv' := [(4, .int y_58), (3, .int y_57), (0, .ref ((xG X).1 x0)), (1, .int x1), (2, .int x2)]) (q := 61) 4 dX3_readNumber_58 rfl (Option.some.inj e_58) (by decide) rfl rfl ?_
    refine r_goto C (tgt := 31) dX3_readNumber_61 (by decide) ?_
    refine r_sub (lv' := [(0, .ref ((xG X).1 x0)), (1, .int x1), (2, .int x2), (3, .int y_57), (4, .int y_58)]) [2, 3, 4, 1, 0] rfl ?_
    exact hk_31 _ _ _ _ _ _ hx0 h

theorem w_X3_readNumber_l31 {X : CX} (C : Cok X RX3 cX3_readNumber 5 2 41) {σ' : St} {r : Int32} (hr : RtI X cX3_readNumber r σ') (n : Nat) : ∀ (σ : St) (x0 : Nat) (x1 : Int32) (x2 : Int32) (x3 : Int32) (x4 : Int32), kd x0 = 4 → f_X3_readNumber_l31 n σ x0 x1 x2 x3 x4 = some (r, σ') → V X σ 31 [(0, .ref ((xG X).1 x0)), (1, .int x1), (2, .int x2), (3, .int x3), (4, .int x4)] [] := by
  induction n with
  | zero =>
    intro σ x0 x1 x2 x3 x4 hx0 h
    exact nomatch (show (none : Option (Int32 × St)) = some (r, σ') from h)
  | succ n ih =>
    intro σ x0 x1 x2 x3 x4 hx0 h
    exact w_X3_readNumber_b31 C hr _ ih σ x0 x1 x2 x3 x4 hx0 h
set_option maxHeartbeats 4000000 in
set_option maxRecDepth 100000 in
theorem w_X3_readNumber_b0 {X : CX} (C : Cok X RX3 cX3_readNumber 5 2 41) {σ' : St} {r : Int32} (hr : RtI X cX3_readNumber r σ') (σ : St) (x0 : Nat) (x1 : Int32) (x2 : Int32) (hx0 : kd x0 = 4) (h : f_X3_readNumber σ x0 x1 x2 = some (r, σ')) : V X σ 0 [(0, .ref ((xG X).1 x0)), (1, .int x1), (2, .int x2)] [] := by
  unfold f_X3_readNumber at h
  refine r_aload_n C 0 (q := 1) dX3_readNumber_0 rfl rfl ?_
  refine g_X3_2 C (q := 4) dX3_readNumber_1 q_167 hx0 rfl ?_
  refine r_iconst C (v := 2) (q := 5) dX3_readNumber_4 (by decide) rfl ?_
  refine r_icmp_ne C (tgt := 21) (q := 8) dX3_readNumber_5 (by decide) rfl (fun c_5 => ?_) (fun c_5 => ?_)
  · replace h := (if_neg c_5).symm.trans h
    refine r_iconst C (v := (-1)) (q := 22) dX3_readNumber_21 (by decide) rfl ?_
    obtain ⟨rfl, rfl⟩ := Prod.mk.inj (Option.some.inj h)
    exact hr _ _ dX3_readNumber_22
  · replace h := (if_pos c_5).symm.trans h
    refine r_aload_n C 0 (q := 9) dX3_readNumber_8 rfl rfl ?_
    refine g_X3_4 C (q := 12) dX3_readNumber_9 q_170 hx0 rfl ?_
    refine r_aload_n C 0 (q := 13) dX3_readNumber_12 rfl rfl ?_
    refine g_X3_3 C (q := 16) dX3_readNumber_13 q_168 hx0 rfl ?_
    refine r_isub C (q := 17) dX3_readNumber_16 rfl ?_
    refine r_iconst C (v := 2) (q := 18) dX3_readNumber_17 (by decide) rfl ?_
    refine r_icmp_le C (tgt := 23) (q := 21) dX3_readNumber_18 (by decide) rfl (fun c_18 => ?_) (fun c_18 => ?_)
    · replace h := (if_pos c_18).symm.trans h
      refine r_iconst C (v := 0) (q := 24) dX3_readNumber_23 (by decide) rfl ?_
      refine r_istore_n C (lv' := [(3, .int 0), (0, .ref ((xG X).1 x0)), (1, .int x1), (2, .int x2)]) (q := 25) dX3_readNumber_24 rfl (by decide) rfl rfl ?_
      refine r_aload_n C 1 (q := 26) dX3_readNumber_25 rfl rfl ?_
      refine g_X3_3 C (q := 29) dX3_readNumber_26 q_168 hx0 rfl ?_
      obtain ⟨y_29, e_29, h⟩ := bs h
      refine r_topI (Option.some.inj e_29) ?_
      refine r_istore C (lv' := [(4, .int y_29), (3, .int 0), (0, .ref ((xG X).1 x0)), (1, .int x1), (2, .int x2)]) (q := 31) dX3_readNumber_29 (by decide) rfl rfl ?_
      refine r_sub (lv' := [(0, .ref ((xG X).1 x0)), (1, .int x1), (2, .int x2), (3, .int 0), (4, .int y_29)]) [2, 3, 4, 1, 0] rfl ?_
      exact w_X3_readNumber_l31 C hr  FU _ _ _ _ _ _ hx0 h
    · replace h := (if_neg c_18).symm.trans h
      refine r_iconst C (v := (-1)) (q := 22) dX3_readNumber_21 (by decide) rfl ?_
      obtain ⟨rfl, rfl⟩ := Prod.mk.inj (Option.some.inj h)
      exact hr _ _ dX3_readNumber_22

theorem m_X3_readNumber (G : Gm) (l : Launch) {σ σ' : St} {x0 : Nat} {x1 : Int32} {x2 : Int32} (hx0 : kd x0 = 4) {r : Int32} (h : f_X3_readNumber σ x0 x1 x2 = some (r, σ')) : Ctr G l yX3_readNumber cX3_readNumber 5 (some .int) 2 41 [.ref (G.1 x0), .int x1, .int x2] σ (some (.int r)) True σ' := by
  refine Ctr.i (by decide) (Nat.le_of_ble_eq_true rfl) ?_
  intro X hG C hr
  subst hG
  exact w_X3_readNumber_b0 C hr _ _ _ _ hx0 h
-- X3_readPlaces
set_option maxHeartbeats 4000000 in
set_option maxRecDepth 100000 in
theorem w_X3_readPlaces_b34 {X : CX} (C : Cok X RX3 cX3_readPlaces 3 3 65) {σ' : St} {r : Int32} (hr : RtZ X cX3_readPlaces r σ') (σ : St) (x2 : Int32) (t0 : Nat) (t1 : Int32) (ht0 : kd t0 = 1) (h : f_X3_readPlaces_b34 σ x2 t0 t1 = some (r, σ')) : V X σ 34 [(2, .int x2)] [.int t1, .ref ((xG X).1 t0)] := by
  unfold f_X3_readPlaces_b34 at h
  obtain ⟨s_34, e_34, h⟩ := bs h
  refine p_X0_0 C (q := 37) dX3_readPlaces_34 q_64 ht0 e_34 rfl ?_
  refine r_iload_n C 0 (q := 38) dX3_readPlaces_37 rfl rfl ?_
  refine r_iconst C (v := (-1)) (q := 39) dX3_readPlaces_38 (by decide) rfl ?_
  refine r_icmp_eq C (tgt := 46) (q := 42) dX3_readPlaces_39 (by decide) rfl (fun c_39 => ?_) (fun c_39 => ?_)
  · replace h := (if_pos c_39).symm.trans h
    refine r_iconst C (v := 0) (q := 47) dX3_readPlaces_46 (by decide) rfl ?_
    obtain ⟨rfl, rfl⟩ := Prod.mk.inj (Option.some.inj h)
    exact hr _ _ dX3_readPlaces_47 (Or.inl rfl)
  · replace h := (if_neg c_39).symm.trans h
    refine r_iconst C (v := 1) (q := 43) dX3_readPlaces_42 (by decide) rfl ?_
    refine r_goto C (tgt := 47) dX3_readPlaces_43 (by decide) ?_
    obtain ⟨rfl, rfl⟩ := Prod.mk.inj (Option.some.inj h)
    exact hr _ _ dX3_readPlaces_47 (Or.inr rfl)

set_option maxHeartbeats 4000000 in
set_option maxRecDepth 100000 in
theorem w_X3_readPlaces_b0 {X : CX} (C : Cok X RX3 cX3_readPlaces 3 3 65) {σ' : St} {r : Int32} (hr : RtZ X cX3_readPlaces r σ') (σ : St) (x0 : Nat) (x1 : Nat) (hx0 : kd x0 = 4) (hx1 : kd x1 = 1) (h : f_X3_readPlaces σ x0 x1 = some (r, σ')) : V X σ 0 [(0, .ref ((xG X).1 x0)), (1, .ref ((xG X).1 x1))] [] := by
  unfold f_X3_readPlaces at h
  refine r_aload_n C 1 (q := 1) dX3_readPlaces_0 rfl rfl ?_
  obtain ⟨v_1, e_1, h⟩ := bs h
  refine r_callV C (ci := 0) (st := []) (st2 := [.int v_1]) (q := 4) (m_X0_isEmpty (xG X) (xl X) hx1 e_1) ok_X0_isEmpty hx1 rfl ⟨_, rfl⟩ q_583 rfl ⟨Nat.le_of_ble_eq_true rfl, Nat.le_of_ble_eq_true rfl⟩ rfl rfl (Nat.le_of_ble_eq_true rfl) dX3_readPlaces_1 rfl (fun hp_1 => ?_)
  refine r_if_ne C (tgt := 9) (q := 7) dX3_readPlaces_4 (by decide) rfl (fun c_4 => ?_) (fun c_4 => ?_)
  · replace h := (if_neg c_4).symm.trans h
    refine r_aload_n C 0 (q := 10) dX3_readPlaces_9 rfl rfl ?_
    obtain ⟨s_10, e_10, h⟩ := bs h
    refine r_callV C (ci := 3) (st := []) (st2 := []) (q := 13) (m_X3_toNextToken (xG X) (xl X) hx0 e_10) ok_X3_toNextToken hx0 rfl ⟨_, rfl⟩ q_513 rfl ⟨Nat.le_of_ble_eq_true rfl, Nat.le_of_ble_eq_true rfl⟩ rfl rfl (Nat.le_of_ble_eq_true rfl) dX3_readPlaces_10 rfl (fun hp_10 => ?_)
    refine r_aload_n C 0 (q := 14) dX3_readPlaces_13 rfl rfl ?_
    refine r_iconst C (v := 1) (q := 15) dX3_readPlaces_14 (by decide) rfl ?_
    refine r_iconst C (v := 5) (q := 16) dX3_readPlaces_15 (by decide) rfl ?_
    obtain ⟨v_16, s_16, e_16, h⟩ := bs2 h
    refine r_callV C (ci := 3) (st := []) (st2 := [.int v_16]) (q := 19) (m_X3_readNumber (xG X) (xl X) hx0 e_16) ok_X3_readNumber hx0 rfl ⟨_, rfl⟩ q_584 rfl ⟨Nat.le_of_ble_eq_true rfl, Nat.le_of_ble_eq_true rfl⟩ rfl rfl (Nat.le_of_ble_eq_true rfl) dX3_readPlaces_16 rfl (fun hp_16 => ?_)
    refine r_istore_n C (lv' := [(2, .int v_16), (0, .ref ((xG X).1 x0)), (1, .ref ((xG X).1 x1))]) (q := 20) dX3_readPlaces_19 rfl (by decide) rfl rfl ?_
    refine r_aload_n C 2 (q := 21) dX3_readPlaces_20 rfl rfl ?_
    refine r_iload_n C 0 (q := 22) dX3_readPlaces_21 rfl rfl ?_
    refine r_iconst C (v := (-1)) (q := 23) dX3_readPlaces_22 (by decide) rfl ?_
    refine r_icmp_ne C (tgt := 33) (q := 26) dX3_readPlaces_23 (by decide) rfl (fun c_23 => ?_) (fun c_23 => ?_)
    · replace h := (if_neg c_23).symm.trans h
      refine r_iload_n C 0 (q := 34) dX3_readPlaces_33 rfl rfl ?_
      refine r_sub (lv' := [(2, .int v_16)]) [0] rfl ?_
      exact w_X3_readPlaces_b34 C hr  _ _ _ _ hx1 h
    · replace h := (if_pos c_23).symm.trans h
      refine r_aload_n C 2 (q := 27) dX3_readPlaces_26 rfl rfl ?_
      refine g_X0_0 C (q := 30) dX3_readPlaces_27 q_64 hx1 rfl ?_
      refine r_goto C (tgt := 34) dX3_readPlaces_30 (by decide) ?_
      refine r_sub (lv' := [(2, .int v_16)]) [0] rfl ?_
      exact w_X3_readPlaces_b34 C hr  _ _ _ _ hx1 h
  · replace h := (if_pos c_4).symm.trans h
    refine r_iconst C (v := 0) (q := 8) dX3_readPlaces_7 (by decide) rfl ?_
    obtain ⟨rfl, rfl⟩ := Prod.mk.inj (Option.some.inj h)
    exact hr _ _ dX3_readPlaces_8 (Or.inl rfl)

theorem m_X3_readPlaces (G : Gm) (l : Launch) {σ σ' : St} {x0 : Nat} {x1 : Nat} (hx0 : kd x0 = 4) (hx1 : kd x1 = 1) {r : Int32} (h : f_X3_readPlaces σ x0 x1 = some (r, σ')) : Ctr G l yX3_readPlaces cX3_readPlaces 3 (some .boolean) 3 65 [.ref (G.1 x0), .ref (G.1 x1)] σ (some (.int r)) (r = 0 ∨ r = 1) σ' := by
  refine Ctr.z (by decide) (Nat.le_of_ble_eq_true rfl) ?_
  intro X hG C hr
  subst hG
  exact w_X3_readPlaces_b0 C hr _ _ _ hx0 hx1 h
-- X3_readDeep
set_option maxHeartbeats 4000000 in
set_option maxRecDepth 100000 in
theorem w_X3_readDeep_b34 {X : CX} (C : Cok X RX3 cX3_readDeep 3 3 65) {σ' : St} {r : Int32} (hr : RtZ X cX3_readDeep r σ') (σ : St) (x2 : Int32) (t0 : Nat) (t1 : Int32) (ht0 : kd t0 = 1) (h : f_X3_readDeep_b34 σ x2 t0 t1 = some (r, σ')) : V X σ 34 [(2, .int x2)] [.int t1, .ref ((xG X).1 t0)] := by
  unfold f_X3_readDeep_b34 at h
  obtain ⟨s_34, e_34, h⟩ := bs h
  refine p_X0_1 C (q := 37) dX3_readDeep_34 q_67 ht0 e_34 rfl ?_
  refine r_iload_n C 0 (q := 38) dX3_readDeep_37 rfl rfl ?_
  refine r_iconst C (v := (-1)) (q := 39) dX3_readDeep_38 (by decide) rfl ?_
  refine r_icmp_eq C (tgt := 46) (q := 42) dX3_readDeep_39 (by decide) rfl (fun c_39 => ?_) (fun c_39 => ?_)
  · replace h := (if_pos c_39).symm.trans h
    refine r_iconst C (v := 0) (q := 47) dX3_readDeep_46 (by decide) rfl ?_
    obtain ⟨rfl, rfl⟩ := Prod.mk.inj (Option.some.inj h)
    exact hr _ _ dX3_readDeep_47 (Or.inl rfl)
  · replace h := (if_neg c_39).symm.trans h
    refine r_iconst C (v := 1) (q := 43) dX3_readDeep_42 (by decide) rfl ?_
    refine r_goto C (tgt := 47) dX3_readDeep_43 (by decide) ?_
    obtain ⟨rfl, rfl⟩ := Prod.mk.inj (Option.some.inj h)
    exact hr _ _ dX3_readDeep_47 (Or.inr rfl)

set_option maxHeartbeats 4000000 in
set_option maxRecDepth 100000 in
theorem w_X3_readDeep_b0 {X : CX} (C : Cok X RX3 cX3_readDeep 3 3 65) {σ' : St} {r : Int32} (hr : RtZ X cX3_readDeep r σ') (σ : St) (x0 : Nat) (x1 : Nat) (hx0 : kd x0 = 4) (hx1 : kd x1 = 1) (h : f_X3_readDeep σ x0 x1 = some (r, σ')) : V X σ 0 [(0, .ref ((xG X).1 x0)), (1, .ref ((xG X).1 x1))] [] := by
  unfold f_X3_readDeep at h
  refine r_aload_n C 1 (q := 1) dX3_readDeep_0 rfl rfl ?_
  obtain ⟨v_1, e_1, h⟩ := bs h
  refine r_callV C (ci := 0) (st := []) (st2 := [.int v_1]) (q := 4) (m_X0_isEmpty (xG X) (xl X) hx1 e_1) ok_X0_isEmpty hx1 rfl ⟨_, rfl⟩ q_583 rfl ⟨Nat.le_of_ble_eq_true rfl, Nat.le_of_ble_eq_true rfl⟩ rfl rfl (Nat.le_of_ble_eq_true rfl) dX3_readDeep_1 rfl (fun hp_1 => ?_)
  refine r_if_ne C (tgt := 9) (q := 7) dX3_readDeep_4 (by decide) rfl (fun c_4 => ?_) (fun c_4 => ?_)
  · replace h := (if_neg c_4).symm.trans h
    refine r_aload_n C 0 (q := 10) dX3_readDeep_9 rfl rfl ?_
    obtain ⟨s_10, e_10, h⟩ := bs h
    refine r_callV C (ci := 3) (st := []) (st2 := []) (q := 13) (m_X3_toNextToken (xG X) (xl X) hx0 e_10) ok_X3_toNextToken hx0 rfl ⟨_, rfl⟩ q_513 rfl ⟨Nat.le_of_ble_eq_true rfl, Nat.le_of_ble_eq_true rfl⟩ rfl rfl (Nat.le_of_ble_eq_true rfl) dX3_readDeep_10 rfl (fun hp_10 => ?_)
    refine r_aload_n C 0 (q := 14) dX3_readDeep_13 rfl rfl ?_
    refine r_iconst C (v := 1) (q := 15) dX3_readDeep_14 (by decide) rfl ?_
    refine r_iconst C (v := 4) (q := 16) dX3_readDeep_15 (by decide) rfl ?_
    obtain ⟨v_16, s_16, e_16, h⟩ := bs2 h
    refine r_callV C (ci := 3) (st := []) (st2 := [.int v_16]) (q := 19) (m_X3_readNumber (xG X) (xl X) hx0 e_16) ok_X3_readNumber hx0 rfl ⟨_, rfl⟩ q_584 rfl ⟨Nat.le_of_ble_eq_true rfl, Nat.le_of_ble_eq_true rfl⟩ rfl rfl (Nat.le_of_ble_eq_true rfl) dX3_readDeep_16 rfl (fun hp_16 => ?_)
    refine r_istore_n C (lv' := [(2, .int v_16), (0, .ref ((xG X).1 x0)), (1, .ref ((xG X).1 x1))]) (q := 20) dX3_readDeep_19 rfl (by decide) rfl rfl ?_
    refine r_aload_n C 2 (q := 21) dX3_readDeep_20 rfl rfl ?_
    refine r_iload_n C 0 (q := 22) dX3_readDeep_21 rfl rfl ?_
    refine r_iconst C (v := (-1)) (q := 23) dX3_readDeep_22 (by decide) rfl ?_
    refine r_icmp_ne C (tgt := 33) (q := 26) dX3_readDeep_23 (by decide) rfl (fun c_23 => ?_) (fun c_23 => ?_)
    · replace h := (if_neg c_23).symm.trans h
      refine r_iload_n C 0 (q := 34) dX3_readDeep_33 rfl rfl ?_
      refine r_sub (lv' := [(2, .int v_16)]) [0] rfl ?_
      exact w_X3_readDeep_b34 C hr  _ _ _ _ hx1 h
    · replace h := (if_pos c_23).symm.trans h
      refine r_aload_n C 2 (q := 27) dX3_readDeep_26 rfl rfl ?_
      refine g_X0_1 C (q := 30) dX3_readDeep_27 q_67 hx1 rfl ?_
      refine r_goto C (tgt := 34) dX3_readDeep_30 (by decide) ?_
      refine r_sub (lv' := [(2, .int v_16)]) [0] rfl ?_
      exact w_X3_readDeep_b34 C hr  _ _ _ _ hx1 h
  · replace h := (if_pos c_4).symm.trans h
    refine r_iconst C (v := 0) (q := 8) dX3_readDeep_7 (by decide) rfl ?_
    obtain ⟨rfl, rfl⟩ := Prod.mk.inj (Option.some.inj h)
    exact hr _ _ dX3_readDeep_8 (Or.inl rfl)

theorem m_X3_readDeep (G : Gm) (l : Launch) {σ σ' : St} {x0 : Nat} {x1 : Nat} (hx0 : kd x0 = 4) (hx1 : kd x1 = 1) {r : Int32} (h : f_X3_readDeep σ x0 x1 = some (r, σ')) : Ctr G l yX3_readDeep cX3_readDeep 3 (some .boolean) 3 65 [.ref (G.1 x0), .ref (G.1 x1)] σ (some (.int r)) (r = 0 ∨ r = 1) σ' := by
  refine Ctr.z (by decide) (Nat.le_of_ble_eq_true rfl) ?_
  intro X hG C hr
  subst hG
  exact w_X3_readDeep_b0 C hr _ _ _ hx0 hx1 h
