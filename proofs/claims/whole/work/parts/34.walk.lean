-- X6_ask
set_option maxHeartbeats 4000000 in
set_option maxRecDepth 100000 in
theorem w_X6_ask_b114 {X : CX} (C : Cok X RX6 cX6_ask 4 1 22) {σ' : St} {r : Int32} (hr : RtI X cX6_ask r σ') (σ : St) (x0 : Nat) (x1 : Int32) (x2 : Int32) (x3 : Int32) (hx0 : kd x0 = 7) (h : f_X6_ask_b114 σ x0 x1 x2 x3 = some (r, σ')) : V X σ 114 [(0, .ref ((xG X).1 x0)), (1, .int x1), (2, .int x2), (3, .int x3)] [] := by
  unfold f_X6_ask_b114 at h
  refine r_iload_n C 1 (q := 115) dX6_ask_114 rfl rfl ?_
  refine r_iconst C (v := 2) (q := 116) dX6_ask_115 (by decide) rfl ?_
  refine r_icmp_ne C (tgt := 124) (q := 119) dX6_ask_116 (by decide) rfl (fun c_116 => ?_) (fun c_116 => ?_)
  · replace h := (if_neg c_116).symm.trans h
    refine r_iload_n C 3 (q := 125) dX6_ask_124 rfl rfl ?_
    obtain ⟨rfl, rfl⟩ := Prod.mk.inj (Option.some.inj h)
    exact hr _ _ dX6_ask_125
  · replace h := (if_pos c_116).symm.trans h
    refine r_aload_n C 0 (q := 120) dX6_ask_119 rfl rfl ?_
    refine r_iload_n C 2 (q := 121) dX6_ask_120 rfl rfl ?_
    obtain ⟨s_121, e_121, h⟩ := bs h
    refine p_X6_5 C (q := 124) dX6_ask_121 q_994 hx0 e_121 rfl ?_
    refine r_iload_n C 3 (q := 125) dX6_ask_124 rfl rfl ?_
    obtain ⟨rfl, rfl⟩ := Prod.mk.inj (Option.some.inj h)
    exact hr _ _ dX6_ask_125

set_option maxHeartbeats 4000000 in
set_option maxRecDepth 100000 in
theorem w_X6_ask_b104 {X : CX} (C : Cok X RX6 cX6_ask 4 1 22) {σ' : St} {r : Int32} (hr : RtI X cX6_ask r σ') (σ : St) (x0 : Nat) (x1 : Int32) (x2 : Int32) (x3 : Int32) (hx0 : kd x0 = 7) (h : f_X6_ask_b104 σ x0 x1 x2 x3 = some (r, σ')) : V X σ 104 [(0, .ref ((xG X).1 x0)), (1, .int x1), (2, .int x2), (3, .int x3)] [] := by
  unfold f_X6_ask_b104 at h
  refine r_iload_n C 1 (q := 105) dX6_ask_104 rfl rfl ?_
  refine r_iconst C (v := 1) (q := 106) dX6_ask_105 (by decide) rfl ?_
  refine r_icmp_ne C (tgt := 114) (q := 109) dX6_ask_106 (by decide) rfl (fun c_106 => ?_) (fun c_106 => ?_)
  · replace h := (if_neg c_106).symm.trans h
    exact w_X6_ask_b114 C hr  _ _ _ _ _ hx0 h
  · replace h := (if_pos c_106).symm.trans h
    refine r_aload_n C 0 (q := 110) dX6_ask_109 rfl rfl ?_
    refine r_iload_n C 2 (q := 111) dX6_ask_110 rfl rfl ?_
    obtain ⟨s_111, e_111, h⟩ := bs h
    refine p_X6_4 C (q := 114) dX6_ask_111 q_993 hx0 e_111 rfl ?_
    exact w_X6_ask_b114 C hr  _ _ _ _ _ hx0 h

set_option maxHeartbeats 4000000 in
set_option maxRecDepth 100000 in
theorem w_X6_ask_b94 {X : CX} (C : Cok X RX6 cX6_ask 4 1 22) {σ' : St} {r : Int32} (hr : RtI X cX6_ask r σ') (σ : St) (x0 : Nat) (x1 : Int32) (x2 : Int32) (t0 : Int32) (hx0 : kd x0 = 7) (h : f_X6_ask_b94 σ x0 x1 x2 t0 = some (r, σ')) : V X σ 94 [(0, .ref ((xG X).1 x0)), (1, .int x1), (2, .int x2)] [.int t0] := by
  unfold f_X6_ask_b94 at h
  refine r_istore_n C (lv' := [(3, .int t0), (0, .ref ((xG X).1 x0)), (1, .int x1), (2, .int x2)]) (q := 95) dX6_ask_94 rfl (by decide) rfl rfl ?_
  refine r_iload_n C 2 (q := 96) dX6_ask_95 rfl rfl ?_
  refine r_if_ne C (tgt := 104) (q := 99) dX6_ask_96 (by decide) rfl (fun c_96 => ?_) (fun c_96 => ?_)
  · replace h := (if_neg c_96).symm.trans h
    refine r_sub (lv' := [(0, .ref ((xG X).1 x0)), (1, .int x1), (2, .int x2), (3, .int t0)]) [1, 2, 3, 0] rfl ?_
    exact w_X6_ask_b104 C hr  _ _ _ _ _ hx0 h
  · replace h := (if_pos c_96).symm.trans h
    refine r_aload_n C 1 (q := 100) dX6_ask_99 rfl rfl ?_
    refine r_iload_n C 3 (q := 101) dX6_ask_100 rfl rfl ?_
    obtain ⟨s_101, e_101, h⟩ := bs h
    refine p_X6_3 C (q := 104) dX6_ask_101 q_992 hx0 e_101 rfl ?_
    refine r_sub (lv' := [(0, .ref ((xG X).1 x0)), (1, .int x1), (2, .int x2), (3, .int t0)]) [1, 2, 3, 0] rfl ?_
    exact w_X6_ask_b104 C hr  _ _ _ _ _ hx0 h

set_option maxHeartbeats 4000000 in
set_option maxRecDepth 100000 in
theorem w_X6_ask_b67 {X : CX} (C : Cok X RX6 cX6_ask 4 1 22) {σ' : St} {r : Int32} (hr : RtI X cX6_ask r σ') (σ : St) (x0 : Nat) (x1 : Int32) (x2 : Int32) (hx0 : kd x0 = 7) (h : f_X6_ask_b67 σ x0 x1 x2 = some (r, σ')) : V X σ 67 [(0, .ref ((xG X).1 x0)), (1, .int x1), (2, .int x2)] [] := by
  unfold f_X6_ask_b67 at h
  refine r_iload_n C 1 (q := 68) dX6_ask_67 rfl rfl ?_
  refine r_if_ne C (tgt := 78) (q := 71) dX6_ask_68 (by decide) rfl (fun c_68 => ?_) (fun c_68 => ?_)
  · replace h := (if_neg c_68).symm.trans h
    refine r_iload_n C 1 (q := 79) dX6_ask_78 rfl rfl ?_
    refine r_iconst C (v := 1) (q := 80) dX6_ask_79 (by decide) rfl ?_
    refine r_icmp_ne C (tgt := 90) (q := 83) dX6_ask_80 (by decide) rfl (fun c_80 => ?_) (fun c_80 => ?_)
    · replace h := (if_neg c_80).symm.trans h
      refine r_aload_n C 0 (q := 91) dX6_ask_90 rfl rfl ?_
      refine g_X6_5 C (q := 94) dX6_ask_91 q_994 hx0 rfl ?_
      exact w_X6_ask_b94 C hr  _ _ _ _ _ hx0 h
    · replace h := (if_pos c_80).symm.trans h
      refine r_aload_n C 0 (q := 84) dX6_ask_83 rfl rfl ?_
      refine g_X6_4 C (q := 87) dX6_ask_84 q_993 hx0 rfl ?_
      refine r_goto C (tgt := 94) dX6_ask_87 (by decide) ?_
      exact w_X6_ask_b94 C hr  _ _ _ _ _ hx0 h
  · replace h := (if_pos c_68).symm.trans h
    refine r_aload_n C 0 (q := 72) dX6_ask_71 rfl rfl ?_
    refine g_X6_3 C (q := 75) dX6_ask_72 q_992 hx0 rfl ?_
    refine r_goto C (tgt := 94) dX6_ask_75 (by decide) ?_
    exact w_X6_ask_b94 C hr  _ _ _ _ _ hx0 h

set_option maxHeartbeats 4000000 in
set_option maxRecDepth 100000 in
theorem w_X6_ask_b36 {X : CX} (C : Cok X RX6 cX6_ask 4 1 22) {σ' : St} {r : Int32} (hr : RtI X cX6_ask r σ') (σ : St) (x0 : Nat) (hx0 : kd x0 = 7) (h : f_X6_ask_b36 σ x0 = some (r, σ')) : V X σ 36 [(0, .ref ((xG X).1 x0))] [] := by
  unfold f_X6_ask_b36 at h
  refine r_aload_n C 0 (q := 37) dX6_ask_36 rfl rfl ?_
  refine r_bipush C (v := (-2)) (q := 39) dX6_ask_37 (by decide) rfl ?_
  obtain ⟨v_39, s_39, e_39, h⟩ := bs2 h
  refine r_callV C (ci := 6) (st := []) (st2 := [.int v_39]) (q := 42) (m_X6_no (xG X) (xl X) hx0 e_39) ok_X6_no hx0 rfl ⟨_, rfl⟩ q_1084 rfl ⟨Nat.le_of_ble_eq_true rfl, Nat.le_of_ble_eq_true rfl⟩ rfl rfl (Nat.le_of_ble_eq_true rfl) dX6_ask_39 rfl (fun hp_39 => ?_)
  obtain ⟨rfl, rfl⟩ := Prod.mk.inj (Option.some.inj h)
  exact hr _ _ dX6_ask_42

set_option maxHeartbeats 4000000 in
set_option maxRecDepth 100000 in
theorem w_X6_ask_b30 {X : CX} (C : Cok X RX6 cX6_ask 4 1 22) {σ' : St} {r : Int32} (hr : RtI X cX6_ask r σ') (σ : St) (x0 : Nat) (x1 : Int32) (x2 : Int32) (t0 : Int32) (t1 : Int32) (t2 : Int32) (hx0 : kd x0 = 7) (h : f_X6_ask_b30 σ x0 x1 x2 t0 t1 t2 = some (r, σ')) : V X σ 30 [(0, .ref ((xG X).1 x0)), (1, .int x1), (2, .int x2)] [.int t2, .int t1, .int t0] := by
  unfold f_X6_ask_b30 at h
  obtain ⟨v_30, e_30, h⟩ := bs h
  refine r_callS C (st := []) (st2 := [.int v_30]) (q := 33) (m_X6_within (xG X) (xl X) e_30) ok_X6_within q_1081 rfl ⟨Nat.le_of_ble_eq_true rfl, Nat.le_of_ble_eq_true rfl⟩ rfl rfl (Nat.le_of_ble_eq_true rfl) dX6_ask_30 rfl (fun hp_30 => ?_)
  refine r_if_ne C (tgt := 43) (q := 36) dX6_ask_33 (by decide) rfl (fun c_33 => ?_) (fun c_33 => ?_)
  · replace h := (if_neg c_33).symm.trans h
    refine r_iload_n C 1 (q := 44) dX6_ask_43 rfl rfl ?_
    refine r_iconst C (v := 2) (q := 45) dX6_ask_44 (by decide) rfl ?_
    refine r_icmp_ge C (tgt := 67) (q := 48) dX6_ask_45 (by decide) rfl (fun c_45 => ?_) (fun c_45 => ?_)
    · replace h := (if_pos c_45).symm.trans h
      exact w_X6_ask_b67 C hr  _ _ _ _ hx0 h
    · replace h := (if_neg c_45).symm.trans h
      refine r_aload_n C 0 (q := 49) dX6_ask_48 rfl rfl ?_
      refine g_X6_6 C (q := 52) dX6_ask_49 q_995 hx0 rfl ?_
      refine r_aload_n C 0 (q := 53) dX6_ask_52 rfl rfl ?_
      refine g_X6_11 C (q := 56) dX6_ask_53 q_1000 hx0 rfl ?_
      refine r_iadd C (q := 57) dX6_ask_56 rfl ?_
      refine r_if_le C (tgt := 67) (q := 60) dX6_ask_57 (by decide) rfl (fun c_57 => ?_) (fun c_57 => ?_)
      · replace h := (if_pos c_57).symm.trans h
        exact w_X6_ask_b67 C hr  _ _ _ _ hx0 h
      · replace h := (if_neg c_57).symm.trans h
        refine r_aload_n C 0 (q := 61) dX6_ask_60 rfl rfl ?_
        refine r_bipush C (v := (-5)) (q := 63) dX6_ask_61 (by decide) rfl ?_
        obtain ⟨v_63, s_63, e_63, h⟩ := bs2 h
        refine r_callV C (ci := 6) (st := []) (st2 := [.int v_63]) (q := 66) (m_X6_no (xG X) (xl X) hx0 e_63) ok_X6_no hx0 rfl ⟨_, rfl⟩ q_1084 rfl ⟨Nat.le_of_ble_eq_true rfl, Nat.le_of_ble_eq_true rfl⟩ rfl rfl (Nat.le_of_ble_eq_true rfl) dX6_ask_63 rfl (fun hp_63 => ?_)
        obtain ⟨rfl, rfl⟩ := Prod.mk.inj (Option.some.inj h)
        exact hr _ _ dX6_ask_66
  · replace h := (if_pos c_33).symm.trans h
    refine r_sub (lv' := [(0, .ref ((xG X).1 x0))]) [0] rfl ?_
    exact w_X6_ask_b36 C hr  _ _ hx0 h

set_option maxHeartbeats 4000000 in
set_option maxRecDepth 100000 in
theorem w_X6_ask_b0 {X : CX} (C : Cok X RX6 cX6_ask 4 1 22) {σ' : St} {r : Int32} (hr : RtI X cX6_ask r σ') (σ : St) (x0 : Nat) (x1 : Int32) (x2 : Int32) (hx0 : kd x0 = 7) (h : f_X6_ask σ x0 x1 x2 = some (r, σ')) : V X σ 0 [(0, .ref ((xG X).1 x0)), (1, .int x1), (2, .int x2)] [] := by
  unfold f_X6_ask at h
  refine r_iload_n C 1 (q := 1) dX6_ask_0 rfl rfl ?_
  refine r_iconst C (v := 0) (q := 2) dX6_ask_1 (by decide) rfl ?_
  refine r_iconst C (v := 2) (q := 3) dX6_ask_2 (by decide) rfl ?_
  obtain ⟨v_3, e_3, h⟩ := bs h
  refine r_callS C (st := []) (st2 := [.int v_3]) (q := 6) (m_X6_within (xG X) (xl X) e_3) ok_X6_within q_1081 rfl ⟨Nat.le_of_ble_eq_true rfl, Nat.le_of_ble_eq_true rfl⟩ rfl rfl (Nat.le_of_ble_eq_true rfl) dX6_ask_3 rfl (fun hp_3 => ?_)
  refine r_if_eq C (tgt := 36) (q := 9) dX6_ask_6 (by decide) rfl (fun c_6 => ?_) (fun c_6 => ?_)
  · replace h := (if_pos c_6).symm.trans h
    refine r_sub (lv' := [(0, .ref ((xG X).1 x0))]) [0] rfl ?_
    exact w_X6_ask_b36 C hr  _ _ hx0 h
  · replace h := (if_neg c_6).symm.trans h
    refine r_iload_n C 2 (q := 10) dX6_ask_9 rfl rfl ?_
    refine r_iconst C (v := 1) (q := 11) dX6_ask_10 (by decide) rfl ?_
    refine r_iload_n C 1 (q := 12) dX6_ask_11 rfl rfl ?_
    refine r_if_ne C (tgt := 19) (q := 15) dX6_ask_12 (by decide) rfl (fun c_12 => ?_) (fun c_12 => ?_)
    · replace h := (if_neg c_12).symm.trans h
      refine r_iload_n C 1 (q := 20) dX6_ask_19 rfl rfl ?_
      refine r_iconst C (v := 1) (q := 21) dX6_ask_20 (by decide) rfl ?_
      refine r_icmp_ne C (tgt := 28) (q := 24) dX6_ask_21 (by decide) rfl (fun c_21 => ?_) (fun c_21 => ?_)
      · replace h := (if_neg c_21).symm.trans h
        refine r_bipush C (v := 20) (q := 30) dX6_ask_28 (by decide) rfl ?_
        exact w_X6_ask_b30 C hr  _ _ _ _ _ _ _ hx0 h
      · replace h := (if_pos c_21).symm.trans h
        refine r_iconst C (v := 4) (q := 25) dX6_ask_24 (by decide) rfl ?_
        refine r_goto C (tgt := 30) dX6_ask_25 (by decide) ?_
        exact w_X6_ask_b30 C hr  _ _ _ _ _ _ _ hx0 h
    · replace h := (if_pos c_12).symm.trans h
      refine r_iconst C (v := 5) (q := 16) dX6_ask_15 (by decide) rfl ?_
      refine r_goto C (tgt := 30) dX6_ask_16 (by decide) ?_
      exact w_X6_ask_b30 C hr  _ _ _ _ _ _ _ hx0 h

theorem m_X6_ask (G : Gm) (l : Launch) {σ σ' : St} {x0 : Nat} {x1 : Int32} {x2 : Int32} (hx0 : kd x0 = 7) {r : Int32} (h : f_X6_ask σ x0 x1 x2 = some (r, σ')) : Ctr G l yX6_ask cX6_ask 4 (some .int) 1 22 [.ref (G.1 x0), .int x1, .int x2] σ (some (.int r)) True σ' := by
  refine Ctr.i (by decide) (Nat.le_of_ble_eq_true rfl) ?_
  intro X hG C hr
  subst hG
  exact w_X6_ask_b0 C hr _ _ _ _ hx0 h
-- X6_newKey
set_option maxHeartbeats 4000000 in
set_option maxRecDepth 100000 in
theorem w_X6_newKey_b32 {X : CX} (C : Cok X RX6 cX6_newKey 4 0 0) {σ' : St} {r : Int32} (hr : RtI X cX6_newKey r σ') (k_32 : St → Nat → Int32 → Option (Int32 × St)) (hk_32 : ∀ (σ : St) (x0 : Nat) (x3 : Int32), kd x0 = 7 → k_32 σ x0 x3 = some (r, σ') → V X σ 32 [(0, .ref ((xG X).1 x0)), (3, .int x3)] []) (σ : St) (x0 : Nat) (x3 : Int32) (hx0 : kd x0 = 7) (h : f_X6_newKey_b32 k_32 σ x0 x3 = some (r, σ')) : V X σ 32 [(0, .ref ((xG X).1 x0)), (3, .int x3)] [] := by
  unfold f_X6_newKey_b32 at h
  refine r_iload_n C 1 (q := 33) dX6_newKey_32 rfl rfl ?_
  refine r_iconst C (v := 5) (q := 34) dX6_newKey_33 (by decide) rfl ?_
  refine r_icmp_ge C (tgt := 57) (q := 37) dX6_newKey_34 (by decide) rfl (fun c_34 => ?_) (fun c_34 => ?_)
  · replace h := (if_pos c_34).symm.trans h
    refine r_aload_n C 0 (q := 58) dX6_newKey_57 rfl rfl ?_
    refine r_dup C (q := 59) dX6_newKey_58 rfl rfl ?_
    refine g_X6_6 C (q := 62) dX6_newKey_59 q_995 hx0 rfl ?_
    refine r_dup_x1 C (q := 63) dX6_newKey_62 rfl rfl rfl ?_
    refine r_iconst C (v := 1) (q := 64) dX6_newKey_63 (by decide) rfl ?_
    refine r_iadd C (q := 65) dX6_newKey_64 rfl ?_
    obtain ⟨s_65, e_65, h⟩ := bs h
    refine p_X6_6 C (q := 68) dX6_newKey_65 q_995 hx0 e_65 rfl ?_
    obtain ⟨rfl, rfl⟩ := Prod.mk.inj (Option.some.inj h)
    exact hr _ _ dX6_newKey_68
  · replace h := (if_neg c_34).symm.trans h
    refine r_aload_n C 0 (q := 38) dX6_newKey_37 rfl rfl ?_
    refine g_X6_10 C (q := 41) dX6_newKey_38 q_999 hx0 rfl ?_
    refine r_iconst C (v := 5) (q := 42) dX6_newKey_41 (by decide) rfl ?_
    refine r_aload_n C 0 (q := 43) dX6_newKey_42 rfl rfl ?_
    refine g_X6_6 C (q := 46) dX6_newKey_43 q_995 hx0 rfl ?_
    refine r_imul C (q := 47) dX6_newKey_46 rfl ?_
    refine r_iload_n C 1 (q := 48) dX6_newKey_47 rfl rfl ?_
    refine r_iadd C (q := 49) dX6_newKey_48 rfl ?_
    refine r_iconst C (v := 0) (q := 50) dX6_newKey_49 (by decide) rfl ?_
    obtain ⟨s_50, e_50, h⟩ := bs h
    refine r_iast C (q := 51) dX6_newKey_50 (kf_X6_10 hx0) e_50 rfl ?_
    obtain ⟨y_51, e_51, h⟩ := bs h
    refine r_iinc C (v := y_51) (lv' := [(3, .int y_51), (0, .ref ((xG X).1 x0))]) (q := 54) 1 dX6_newKey_51 rfl (Option.some.inj e_51) (by decide) rfl rfl ?_
    refine r_goto C (tgt := 32) dX6_newKey_54 (by decide) ?_
    refine r_sub (lv' := [(0, .ref ((xG X).1 x0)), (3, .int y_51)]) [1, 0] rfl ?_
    exact hk_32 _ _ _ hx0 h

theorem w_X6_newKey_l32 {X : CX} (C : Cok X RX6 cX6_newKey 4 0 0) {σ' : St} {r : Int32} (hr : RtI X cX6_newKey r σ') (n : Nat) : ∀ (σ : St) (x0 : Nat) (x3 : Int32), kd x0 = 7 → f_X6_newKey_l32 n σ x0 x3 = some (r, σ') → V X σ 32 [(0, .ref ((xG X).1 x0)), (3, .int x3)] [] := by
  induction n with
  | zero =>
    intro σ x0 x3 hx0 h
    exact nomatch (show (none : Option (Int32 × St)) = some (r, σ') from h)
  | succ n ih =>
    intro σ x0 x3 hx0 h
    exact w_X6_newKey_b32 C hr _ ih σ x0 x3 hx0 h
set_option maxHeartbeats 4000000 in
set_option maxRecDepth 100000 in
theorem w_X6_newKey_b0 {X : CX} (C : Cok X RX6 cX6_newKey 4 0 0) {σ' : St} {r : Int32} (hr : RtI X cX6_newKey r σ') (σ : St) (x0 : Nat) (x1 : Int32) (x2 : Int32) (hx0 : kd x0 = 7) (h : f_X6_newKey σ x0 x1 x2 = some (r, σ')) : V X σ 0 [(0, .ref ((xG X).1 x0)), (1, .int x1), (2, .int x2)] [] := by
  unfold f_X6_newKey at h
  refine r_aload_n C 0 (q := 1) dX6_newKey_0 rfl rfl ?_
  refine g_X6_7 C (q := 4) dX6_newKey_1 q_996 hx0 rfl ?_
  refine r_aload_n C 0 (q := 5) dX6_newKey_4 rfl rfl ?_
  refine g_X6_6 C (q := 8) dX6_newKey_5 q_995 hx0 rfl ?_
  refine r_iload_n C 1 (q := 9) dX6_newKey_8 rfl rfl ?_
  obtain ⟨s_9, e_9, h⟩ := bs h
  refine r_iast C (q := 10) dX6_newKey_9 (kf_X6_7 hx0) e_9 rfl ?_
  refine r_aload_n C 0 (q := 11) dX6_newKey_10 rfl rfl ?_
  refine g_X6_8 C (q := 14) dX6_newKey_11 q_997 hx0 rfl ?_
  refine r_aload_n C 0 (q := 15) dX6_newKey_14 rfl rfl ?_
  refine g_X6_6 C (q := 18) dX6_newKey_15 q_995 hx0 rfl ?_
  refine r_iload_n C 2 (q := 19) dX6_newKey_18 rfl rfl ?_
  obtain ⟨s_19, e_19, h⟩ := bs h
  refine r_iast C (q := 20) dX6_newKey_19 (kf_X6_8 hx0) e_19 rfl ?_
  refine r_aload_n C 0 (q := 21) dX6_newKey_20 rfl rfl ?_
  refine g_X6_9 C (q := 24) dX6_newKey_21 q_998 hx0 rfl ?_
  refine r_aload_n C 0 (q := 25) dX6_newKey_24 rfl rfl ?_
  refine g_X6_6 C (q := 28) dX6_newKey_25 q_995 hx0 rfl ?_
  refine r_iconst C (v := 0) (q := 29) dX6_newKey_28 (by decide) rfl ?_
  obtain ⟨s_29, e_29, h⟩ := bs h
  refine r_iast C (q := 30) dX6_newKey_29 (kf_X6_9 hx0) e_29 rfl ?_
  refine r_iconst C (v := 0) (q := 31) dX6_newKey_30 (by decide) rfl ?_
  refine r_istore_n C (lv' := [(3, .int 0), (0, .ref ((xG X).1 x0)), (1, .int x1), (2, .int x2)]) (q := 32) dX6_newKey_31 rfl (by decide) rfl rfl ?_
  refine r_sub (lv' := [(0, .ref ((xG X).1 x0)), (3, .int 0)]) [1, 0] rfl ?_
  exact w_X6_newKey_l32 C hr  FU _ _ _ hx0 h

theorem m_X6_newKey (G : Gm) (l : Launch) {σ σ' : St} {x0 : Nat} {x1 : Int32} {x2 : Int32} (hx0 : kd x0 = 7) {r : Int32} (h : f_X6_newKey σ x0 x1 x2 = some (r, σ')) : Ctr G l yX6_newKey cX6_newKey 4 (some .int) 0 0 [.ref (G.1 x0), .int x1, .int x2] σ (some (.int r)) True σ' := by
  refine Ctr.i (by decide) (Nat.le_of_ble_eq_true rfl) ?_
  intro X hG C hr
  subst hG
  exact w_X6_newKey_b0 C hr _ _ _ _ hx0 h
-- X6_newLock
set_option maxHeartbeats 4000000 in
set_option maxRecDepth 100000 in
theorem w_X6_newLock_b20 {X : CX} (C : Cok X RX6 cX6_newLock 3 0 0) {σ' : St} {r : Int32} (hr : RtI X cX6_newLock r σ') (k_20 : St → Nat → Int32 → Option (Int32 × St)) (hk_20 : ∀ (σ : St) (x0 : Nat) (x2 : Int32), kd x0 = 7 → k_20 σ x0 x2 = some (r, σ') → V X σ 20 [(0, .ref ((xG X).1 x0)), (2, .int x2)] []) (σ : St) (x0 : Nat) (x2 : Int32) (hx0 : kd x0 = 7) (h : f_X6_newLock_b20 k_20 σ x0 x2 = some (r, σ')) : V X σ 20 [(0, .ref ((xG X).1 x0)), (2, .int x2)] [] := by
  unfold f_X6_newLock_b20 at h
  refine r_iload_n C 1 (q := 21) dX6_newLock_20 rfl rfl ?_
  refine r_iconst C (v := 5) (q := 22) dX6_newLock_21 (by decide) rfl ?_
  refine r_icmp_ge C (tgt := 45) (q := 25) dX6_newLock_22 (by decide) rfl (fun c_22 => ?_) (fun c_22 => ?_)
  · replace h := (if_pos c_22).symm.trans h
    refine r_aload_n C 0 (q := 46) dX6_newLock_45 rfl rfl ?_
    refine r_dup C (q := 47) dX6_newLock_46 rfl rfl ?_
    refine g_X6_11 C (q := 50) dX6_newLock_47 q_1000 hx0 rfl ?_
    refine r_dup_x1 C (q := 51) dX6_newLock_50 rfl rfl rfl ?_
    refine r_iconst C (v := 1) (q := 52) dX6_newLock_51 (by decide) rfl ?_
    refine r_iadd C (q := 53) dX6_newLock_52 rfl ?_
    obtain ⟨s_53, e_53, h⟩ := bs h
    refine p_X6_11 C (q := 56) dX6_newLock_53 q_1000 hx0 e_53 rfl ?_
    obtain ⟨rfl, rfl⟩ := Prod.mk.inj (Option.some.inj h)
    exact hr _ _ dX6_newLock_56
  · replace h := (if_neg c_22).symm.trans h
    refine r_aload_n C 0 (q := 26) dX6_newLock_25 rfl rfl ?_
    refine g_X6_13 C (q := 29) dX6_newLock_26 q_1002 hx0 rfl ?_
    refine r_iconst C (v := 5) (q := 30) dX6_newLock_29 (by decide) rfl ?_
    refine r_aload_n C 0 (q := 31) dX6_newLock_30 rfl rfl ?_
    refine g_X6_11 C (q := 34) dX6_newLock_31 q_1000 hx0 rfl ?_
    refine r_imul C (q := 35) dX6_newLock_34 rfl ?_
    refine r_iload_n C 1 (q := 36) dX6_newLock_35 rfl rfl ?_
    refine r_iadd C (q := 37) dX6_newLock_36 rfl ?_
    refine r_iconst C (v := 0) (q := 38) dX6_newLock_37 (by decide) rfl ?_
    obtain ⟨s_38, e_38, h⟩ := bs h
    refine r_iast C (q := 39) dX6_newLock_38 (kf_X6_13 hx0) e_38 rfl ?_
    obtain ⟨y_39, e_39, h⟩ := bs h
    refine r_iinc C (v := y_39) (lv' := [(2, .int y_39), (0, .ref ((xG X).1 x0))]) (q := 42) 1 dX6_newLock_39 rfl (Option.some.inj e_39) (by decide) rfl rfl ?_
    refine r_goto C (tgt := 20) dX6_newLock_42 (by decide) ?_
    refine r_sub (lv' := [(0, .ref ((xG X).1 x0)), (2, .int y_39)]) [1, 0] rfl ?_
    exact hk_20 _ _ _ hx0 h

theorem w_X6_newLock_l20 {X : CX} (C : Cok X RX6 cX6_newLock 3 0 0) {σ' : St} {r : Int32} (hr : RtI X cX6_newLock r σ') (n : Nat) : ∀ (σ : St) (x0 : Nat) (x2 : Int32), kd x0 = 7 → f_X6_newLock_l20 n σ x0 x2 = some (r, σ') → V X σ 20 [(0, .ref ((xG X).1 x0)), (2, .int x2)] [] := by
  induction n with
  | zero =>
    intro σ x0 x2 hx0 h
    exact nomatch (show (none : Option (Int32 × St)) = some (r, σ') from h)
  | succ n ih =>
    intro σ x0 x2 hx0 h
    exact w_X6_newLock_b20 C hr _ ih σ x0 x2 hx0 h
set_option maxHeartbeats 4000000 in
set_option maxRecDepth 100000 in
theorem w_X6_newLock_b17 {X : CX} (C : Cok X RX6 cX6_newLock 3 0 0) {σ' : St} {r : Int32} (hr : RtI X cX6_newLock r σ') (σ : St) (x0 : Nat) (t0 : Nat) (t1 : Int32) (t2 : Int32) (hx0 : kd x0 = 7) (ht0 : kd t0 = 8) (h : f_X6_newLock_b17 σ x0 t0 t1 t2 = some (r, σ')) : V X σ 17 [(0, .ref ((xG X).1 x0))] [.int t2, .int t1, .ref ((xG X).1 t0)] := by
  unfold f_X6_newLock_b17 at h
  obtain ⟨s_17, e_17, h⟩ := bs h
  refine r_iast C (q := 18) dX6_newLock_17 ht0 e_17 rfl ?_
  refine r_iconst C (v := 0) (q := 19) dX6_newLock_18 (by decide) rfl ?_
  refine r_istore_n C (lv' := [(2, .int 0), (0, .ref ((xG X).1 x0))]) (q := 20) dX6_newLock_19 rfl (by decide) rfl rfl ?_
  refine r_sub (lv' := [(0, .ref ((xG X).1 x0)), (2, .int 0)]) [1, 0] rfl ?_
  exact w_X6_newLock_l20 C hr  FU _ _ _ hx0 h

set_option maxHeartbeats 4000000 in
set_option maxRecDepth 100000 in
theorem w_X6_newLock_b0 {X : CX} (C : Cok X RX6 cX6_newLock 3 0 0) {σ' : St} {r : Int32} (hr : RtI X cX6_newLock r σ') (σ : St) (x0 : Nat) (x1 : Int32) (hx0 : kd x0 = 7) (h : f_X6_newLock σ x0 x1 = some (r, σ')) : V X σ 0 [(0, .ref ((xG X).1 x0)), (1, .int x1)] [] := by
  unfold f_X6_newLock at h
  refine r_aload_n C 0 (q := 1) dX6_newLock_0 rfl rfl ?_
  refine g_X6_12 C (q := 4) dX6_newLock_1 q_1001 hx0 rfl ?_
  refine r_aload_n C 0 (q := 5) dX6_newLock_4 rfl rfl ?_
  refine g_X6_11 C (q := 8) dX6_newLock_5 q_1000 hx0 rfl ?_
  refine r_iload_n C 1 (q := 9) dX6_newLock_8 rfl rfl ?_
  refine r_if_eq C (tgt := 16) (q := 12) dX6_newLock_9 (by decide) rfl (fun c_9 => ?_) (fun c_9 => ?_)
  · replace h := (if_pos c_9).symm.trans h
    refine r_iconst C (v := 0) (q := 17) dX6_newLock_16 (by decide) rfl ?_
    refine r_sub (lv' := [(0, .ref ((xG X).1 x0))]) [0] rfl ?_
    exact w_X6_newLock_b17 C hr  _ _ _ _ _ hx0 (kf_X6_12 hx0) h
  · replace h := (if_neg c_9).symm.trans h
    refine r_iconst C (v := 1) (q := 13) dX6_newLock_12 (by decide) rfl ?_
    refine r_goto C (tgt := 17) dX6_newLock_13 (by decide) ?_
    refine r_sub (lv' := [(0, .ref ((xG X).1 x0))]) [0] rfl ?_
    exact w_X6_newLock_b17 C hr  _ _ _ _ _ hx0 (kf_X6_12 hx0) h

theorem m_X6_newLock (G : Gm) (l : Launch) {σ σ' : St} {x0 : Nat} {x1 : Int32} (hx0 : kd x0 = 7) {r : Int32} (h : f_X6_newLock σ x0 x1 = some (r, σ')) : Ctr G l yX6_newLock cX6_newLock 3 (some .int) 0 0 [.ref (G.1 x0), .int x1] σ (some (.int r)) True σ' := by
  refine Ctr.i (by decide) (Nat.le_of_ble_eq_true rfl) ?_
  intro X hG C hr
  subst hG
  exact w_X6_newLock_b0 C hr _ _ _ hx0 h
-- X6_key
set_option maxHeartbeats 4000000 in
set_option maxRecDepth 100000 in
theorem w_X6_key_b19 {X : CX} (C : Cok X RX6 cX6_key 3 1 23) {σ' : St} {r : Int32} (hr : RtI X cX6_key r σ') (σ : St) (x0 : Nat) (hx0 : kd x0 = 7) (h : f_X6_key_b19 σ x0 = some (r, σ')) : V X σ 19 [(0, .ref ((xG X).1 x0))] [] := by
  unfold f_X6_key_b19 at h
  refine r_aload_n C 0 (q := 20) dX6_key_19 rfl rfl ?_
  refine r_bipush C (v := (-2)) (q := 22) dX6_key_20 (by decide) rfl ?_
  obtain ⟨v_22, s_22, e_22, h⟩ := bs2 h
  refine r_callV C (ci := 6) (st := []) (st2 := [.int v_22]) (q := 25) (m_X6_no (xG X) (xl X) hx0 e_22) ok_X6_no hx0 rfl ⟨_, rfl⟩ q_1084 rfl ⟨Nat.le_of_ble_eq_true rfl, Nat.le_of_ble_eq_true rfl⟩ rfl rfl (Nat.le_of_ble_eq_true rfl) dX6_key_22 rfl (fun hp_22 => ?_)
  obtain ⟨rfl, rfl⟩ := Prod.mk.inj (Option.some.inj h)
  exact hr _ _ dX6_key_25

set_option maxHeartbeats 4000000 in
set_option maxRecDepth 100000 in
theorem w_X6_key_b0 {X : CX} (C : Cok X RX6 cX6_key 3 1 23) {σ' : St} {r : Int32} (hr : RtI X cX6_key r σ') (σ : St) (x0 : Nat) (x1 : Int32) (x2 : Int32) (hx0 : kd x0 = 7) (h : f_X6_key σ x0 x1 x2 = some (r, σ')) : V X σ 0 [(0, .ref ((xG X).1 x0)), (1, .int x1), (2, .int x2)] [] := by
  unfold f_X6_key at h
  refine r_iload_n C 1 (q := 1) dX6_key_0 rfl rfl ?_
  refine r_iconst C (v := 0) (q := 2) dX6_key_1 (by decide) rfl ?_
  refine r_iconst C (v := 5) (q := 3) dX6_key_2 (by decide) rfl ?_
  obtain ⟨v_3, e_3, h⟩ := bs h
  refine r_callS C (st := []) (st2 := [.int v_3]) (q := 6) (m_X6_within (xG X) (xl X) e_3) ok_X6_within q_1081 rfl ⟨Nat.le_of_ble_eq_true rfl, Nat.le_of_ble_eq_true rfl⟩ rfl rfl (Nat.le_of_ble_eq_true rfl) dX6_key_3 rfl (fun hp_3 => ?_)
  refine r_if_eq C (tgt := 19) (q := 9) dX6_key_6 (by decide) rfl (fun c_6 => ?_) (fun c_6 => ?_)
  · replace h := (if_pos c_6).symm.trans h
    refine r_sub (lv' := [(0, .ref ((xG X).1 x0))]) [0] rfl ?_
    exact w_X6_key_b19 C hr  _ _ hx0 h
  · replace h := (if_neg c_6).symm.trans h
    refine r_iload_n C 2 (q := 10) dX6_key_9 rfl rfl ?_
    refine r_iconst C (v := 0) (q := 11) dX6_key_10 (by decide) rfl ?_
    refine r_bipush C (v := 9) (q := 13) dX6_key_11 (by decide) rfl ?_
    obtain ⟨v_13, e_13, h⟩ := bs h
    refine r_callS C (st := []) (st2 := [.int v_13]) (q := 16) (m_X6_within (xG X) (xl X) e_13) ok_X6_within q_1081 rfl ⟨Nat.le_of_ble_eq_true rfl, Nat.le_of_ble_eq_true rfl⟩ rfl rfl (Nat.le_of_ble_eq_true rfl) dX6_key_13 rfl (fun hp_13 => ?_)
    refine r_if_ne C (tgt := 26) (q := 19) dX6_key_16 (by decide) rfl (fun c_16 => ?_) (fun c_16 => ?_)
    · replace h := (if_neg c_16).symm.trans h
      refine r_aload_n C 0 (q := 27) dX6_key_26 rfl rfl ?_
      refine g_X6_6 C (q := 30) dX6_key_27 q_995 hx0 rfl ?_
      refine r_bipush C (v := 6) (q := 32) dX6_key_30 (by decide) rfl ?_
      refine r_icmp_ne C (tgt := 44) (q := 35) dX6_key_32 (by decide) rfl (fun c_32 => ?_) (fun c_32 => ?_)
      · replace h := (if_neg c_32).symm.trans h
        refine r_aload_n C 0 (q := 45) dX6_key_44 rfl rfl ?_
        refine r_iload_n C 1 (q := 46) dX6_key_45 rfl rfl ?_
        refine r_iload_n C 2 (q := 47) dX6_key_46 rfl rfl ?_
        obtain ⟨v_47, s_47, e_47, h⟩ := bs2 h
        refine r_callV C (ci := 6) (st := []) (st2 := [.int v_47]) (q := 50) (m_X6_newKey (xG X) (xl X) hx0 e_47) ok_X6_newKey hx0 rfl ⟨_, rfl⟩ q_1171 rfl ⟨Nat.le_of_ble_eq_true rfl, Nat.le_of_ble_eq_true rfl⟩ rfl rfl (Nat.le_of_ble_eq_true rfl) dX6_key_47 rfl (fun hp_47 => ?_)
        obtain ⟨rfl, rfl⟩ := Prod.mk.inj (Option.some.inj h)
        exact hr _ _ dX6_key_50
      · replace h := (if_pos c_32).symm.trans h
        refine r_aload_n C 0 (q := 36) dX6_key_35 rfl rfl ?_
        refine r_bipush C (v := (-6)) (q := 38) dX6_key_36 (by decide) rfl ?_
        obtain ⟨v_38, s_38, e_38, h⟩ := bs2 h
        refine r_callV C (ci := 6) (st := []) (st2 := [.int v_38]) (q := 41) (m_X6_no (xG X) (xl X) hx0 e_38) ok_X6_no hx0 rfl ⟨_, rfl⟩ q_1084 rfl ⟨Nat.le_of_ble_eq_true rfl, Nat.le_of_ble_eq_true rfl⟩ rfl rfl (Nat.le_of_ble_eq_true rfl) dX6_key_38 rfl (fun hp_38 => ?_)
        refine r_goto C (tgt := 50) dX6_key_41 (by decide) ?_
        obtain ⟨rfl, rfl⟩ := Prod.mk.inj (Option.some.inj h)
        exact hr _ _ dX6_key_50
    · replace h := (if_pos c_16).symm.trans h
      refine r_sub (lv' := [(0, .ref ((xG X).1 x0))]) [0] rfl ?_
      exact w_X6_key_b19 C hr  _ _ hx0 h

theorem m_X6_key (G : Gm) (l : Launch) {σ σ' : St} {x0 : Nat} {x1 : Int32} {x2 : Int32} (hx0 : kd x0 = 7) {r : Int32} (h : f_X6_key σ x0 x1 x2 = some (r, σ')) : Ctr G l yX6_key cX6_key 3 (some .int) 1 23 [.ref (G.1 x0), .int x1, .int x2] σ (some (.int r)) True σ' := by
  refine Ctr.i (by decide) (Nat.le_of_ble_eq_true rfl) ?_
  intro X hG C hr
  subst hG
  exact w_X6_key_b0 C hr _ _ _ _ hx0 h
-- X6_lock
set_option maxHeartbeats 4000000 in
set_option maxRecDepth 100000 in
theorem w_X6_lock_b0 {X : CX} (C : Cok X RX6 cX6_lock 2 1 22) {σ' : St} {r : Int32} (hr : RtI X cX6_lock r σ') (σ : St) (x0 : Nat) (x1 : Int32) (hx0 : kd x0 = 7) (h : f_X6_lock σ x0 x1 = some (r, σ')) : V X σ 0 [(0, .ref ((xG X).1 x0)), (1, .int x1)] [] := by
  unfold f_X6_lock at h
  refine r_aload_n C 0 (q := 1) dX6_lock_0 rfl rfl ?_
  refine g_X6_11 C (q := 4) dX6_lock_1 q_1000 hx0 rfl ?_
  refine r_bipush C (v := 8) (q := 6) dX6_lock_4 (by decide) rfl ?_
  refine r_icmp_ne C (tgt := 18) (q := 9) dX6_lock_6 (by decide) rfl (fun c_6 => ?_) (fun c_6 => ?_)
  · replace h := (if_neg c_6).symm.trans h
    refine r_aload_n C 0 (q := 19) dX6_lock_18 rfl rfl ?_
    refine r_iload_n C 1 (q := 20) dX6_lock_19 rfl rfl ?_
    obtain ⟨v_20, s_20, e_20, h⟩ := bs2 h
    refine r_callV C (ci := 6) (st := []) (st2 := [.int v_20]) (q := 23) (m_X6_newLock (xG X) (xl X) hx0 e_20) ok_X6_newLock hx0 rfl ⟨_, rfl⟩ q_1179 rfl ⟨Nat.le_of_ble_eq_true rfl, Nat.le_of_ble_eq_true rfl⟩ rfl rfl (Nat.le_of_ble_eq_true rfl) dX6_lock_20 rfl (fun hp_20 => ?_)
    obtain ⟨rfl, rfl⟩ := Prod.mk.inj (Option.some.inj h)
    exact hr _ _ dX6_lock_23
  · replace h := (if_pos c_6).symm.trans h
    refine r_aload_n C 0 (q := 10) dX6_lock_9 rfl rfl ?_
    refine r_bipush C (v := (-6)) (q := 12) dX6_lock_10 (by decide) rfl ?_
    obtain ⟨v_12, s_12, e_12, h⟩ := bs2 h
    refine r_callV C (ci := 6) (st := []) (st2 := [.int v_12]) (q := 15) (m_X6_no (xG X) (xl X) hx0 e_12) ok_X6_no hx0 rfl ⟨_, rfl⟩ q_1084 rfl ⟨Nat.le_of_ble_eq_true rfl, Nat.le_of_ble_eq_true rfl⟩ rfl rfl (Nat.le_of_ble_eq_true rfl) dX6_lock_12 rfl (fun hp_12 => ?_)
    refine r_goto C (tgt := 23) dX6_lock_15 (by decide) ?_
    obtain ⟨rfl, rfl⟩ := Prod.mk.inj (Option.some.inj h)
    exact hr _ _ dX6_lock_23

theorem m_X6_lock (G : Gm) (l : Launch) {σ σ' : St} {x0 : Nat} {x1 : Int32} (hx0 : kd x0 = 7) {r : Int32} (h : f_X6_lock σ x0 x1 = some (r, σ')) : Ctr G l yX6_lock cX6_lock 2 (some .int) 1 22 [.ref (G.1 x0), .int x1] σ (some (.int r)) True σ' := by
  refine Ctr.i (by decide) (Nat.le_of_ble_eq_true rfl) ?_
  intro X hG C hr
  subst hG
  exact w_X6_lock_b0 C hr _ _ _ hx0 h
-- X6_asks
set_option maxHeartbeats 4000000 in
set_option maxRecDepth 100000 in
theorem w_X6_asks_b28 {X : CX} (C : Cok X RX6 cX6_asks 5 2 43) {σ' : St} {r : Int32} (hr : RtI X cX6_asks r σ') (σ : St) (x0 : Nat) (hx0 : kd x0 = 7) (h : f_X6_asks_b28 σ x0 = some (r, σ')) : V X σ 28 [(0, .ref ((xG X).1 x0))] [] := by
  unfold f_X6_asks_b28 at h
  refine r_aload_n C 0 (q := 29) dX6_asks_28 rfl rfl ?_
  refine r_bipush C (v := (-2)) (q := 31) dX6_asks_29 (by decide) rfl ?_
  obtain ⟨v_31, s_31, e_31, h⟩ := bs2 h
  refine r_callV C (ci := 6) (st := []) (st2 := [.int v_31]) (q := 34) (m_X6_no (xG X) (xl X) hx0 e_31) ok_X6_no hx0 rfl ⟨_, rfl⟩ q_1084 rfl ⟨Nat.le_of_ble_eq_true rfl, Nat.le_of_ble_eq_true rfl⟩ rfl rfl (Nat.le_of_ble_eq_true rfl) dX6_asks_31 rfl (fun hp_31 => ?_)
  obtain ⟨rfl, rfl⟩ := Prod.mk.inj (Option.some.inj h)
  exact hr _ _ dX6_asks_34

set_option maxHeartbeats 4000000 in
set_option maxRecDepth 100000 in
theorem w_X6_asks_b0 {X : CX} (C : Cok X RX6 cX6_asks 5 2 43) {σ' : St} {r : Int32} (hr : RtI X cX6_asks r σ') (σ : St) (x0 : Nat) (x1 : Int32) (x2 : Int32) (x3 : Int32) (hx0 : kd x0 = 7) (h : f_X6_asks σ x0 x1 x2 x3 = some (r, σ')) : V X σ 0 [(0, .ref ((xG X).1 x0)), (1, .int x1), (2, .int x2), (3, .int x3)] [] := by
  unfold f_X6_asks at h
  refine r_aload_n C 0 (q := 1) dX6_asks_0 rfl rfl ?_
  refine r_iload_n C 1 (q := 2) dX6_asks_1 rfl rfl ?_
  obtain ⟨v_2, e_2, h⟩ := bs h
  refine r_callV C (ci := 6) (st := []) (st2 := [.int v_2]) (q := 5) (m_X6_isLock (xG X) (xl X) hx0 e_2) ok_X6_isLock hx0 rfl ⟨_, rfl⟩ q_1187 rfl ⟨Nat.le_of_ble_eq_true rfl, Nat.le_of_ble_eq_true rfl⟩ rfl rfl (Nat.le_of_ble_eq_true rfl) dX6_asks_2 rfl (fun hp_2 => ?_)
  refine r_if_eq C (tgt := 28) (q := 8) dX6_asks_5 (by decide) rfl (fun c_5 => ?_) (fun c_5 => ?_)
  · replace h := (if_pos c_5).symm.trans h
    refine r_sub (lv' := [(0, .ref ((xG X).1 x0))]) [0] rfl ?_
    exact w_X6_asks_b28 C hr  _ _ hx0 h
  · replace h := (if_neg c_5).symm.trans h
    refine r_aload_n C 0 (q := 9) dX6_asks_8 rfl rfl ?_
    refine r_iload_n C 2 (q := 10) dX6_asks_9 rfl rfl ?_
    obtain ⟨v_10, e_10, h⟩ := bs h
    refine r_callV C (ci := 6) (st := []) (st2 := [.int v_10]) (q := 13) (m_X6_isPlace (xG X) (xl X) hx0 e_10) ok_X6_isPlace hx0 rfl ⟨_, rfl⟩ q_1191 rfl ⟨Nat.le_of_ble_eq_true rfl, Nat.le_of_ble_eq_true rfl⟩ rfl rfl (Nat.le_of_ble_eq_true rfl) dX6_asks_10 rfl (fun hp_10 => ?_)
    refine r_if_eq C (tgt := 28) (q := 16) dX6_asks_13 (by decide) rfl (fun c_13 => ?_) (fun c_13 => ?_)
    · replace h := (if_pos c_13).symm.trans h
      refine r_sub (lv' := [(0, .ref ((xG X).1 x0))]) [0] rfl ?_
      exact w_X6_asks_b28 C hr  _ _ hx0 h
    · replace h := (if_neg c_13).symm.trans h
      refine r_iload_n C 3 (q := 17) dX6_asks_16 rfl rfl ?_
      refine r_iconst C (v := 0) (q := 18) dX6_asks_17 (by decide) rfl ?_
      refine r_aload_n C 0 (q := 19) dX6_asks_18 rfl rfl ?_
      refine g_X6_4 C (q := 22) dX6_asks_19 q_993 hx0 rfl ?_
      obtain ⟨v_22, e_22, h⟩ := bs h
      refine r_callS C (st := []) (st2 := [.int v_22]) (q := 25) (m_X6_within (xG X) (xl X) e_22) ok_X6_within q_1081 rfl ⟨Nat.le_of_ble_eq_true rfl, Nat.le_of_ble_eq_true rfl⟩ rfl rfl (Nat.le_of_ble_eq_true rfl) dX6_asks_22 rfl (fun hp_22 => ?_)
      refine r_if_ne C (tgt := 35) (q := 28) dX6_asks_25 (by decide) rfl (fun c_25 => ?_) (fun c_25 => ?_)
      · replace h := (if_neg c_25).symm.trans h
        refine r_aload_n C 0 (q := 36) dX6_asks_35 rfl rfl ?_
        refine g_X6_13 C (q := 39) dX6_asks_36 q_1002 hx0 rfl ?_
        refine r_iconst C (v := 5) (q := 40) dX6_asks_39 (by decide) rfl ?_
        refine r_iload_n C 1 (q := 41) dX6_asks_40 rfl rfl ?_
        refine r_imul C (q := 42) dX6_asks_41 rfl ?_
        refine r_iload_n C 2 (q := 43) dX6_asks_42 rfl rfl ?_
        refine r_iadd C (q := 44) dX6_asks_43 rfl ?_
        obtain ⟨v_44, e_44, h⟩ := bs h
        refine r_iald C (q := 45) dX6_asks_44 (kf_X6_13 hx0) e_44 rfl ?_
        refine r_istore C (lv' := [(4, .int v_44), (0, .ref ((xG X).1 x0)), (1, .int x1), (2, .int x2), (3, .int x3)]) (q := 47) dX6_asks_45 (by decide) rfl rfl ?_
        refine r_aload_n C 1 (q := 48) dX6_asks_47 rfl rfl ?_
        refine g_X6_13 C (q := 51) dX6_asks_48 q_1002 hx0 rfl ?_
        refine r_iconst C (v := 5) (q := 52) dX6_asks_51 (by decide) rfl ?_
        refine r_iload_n C 2 (q := 53) dX6_asks_52 rfl rfl ?_
        refine r_imul C (q := 54) dX6_asks_53 rfl ?_
        refine r_iload_n C 3 (q := 55) dX6_asks_54 rfl rfl ?_
        refine r_iadd C (q := 56) dX6_asks_55 rfl ?_
        refine r_iload_n C 4 (q := 57) dX6_asks_56 rfl rfl ?_
        obtain ⟨s_57, e_57, h⟩ := bs h
        refine r_iast C (q := 58) dX6_asks_57 (kf_X6_13 hx0) e_57 rfl ?_
        refine r_iload C 0 (q := 60) dX6_asks_58 rfl rfl ?_
        obtain ⟨rfl, rfl⟩ := Prod.mk.inj (Option.some.inj h)
        exact hr _ _ dX6_asks_60
      · replace h := (if_pos c_25).symm.trans h
        refine r_sub (lv' := [(0, .ref ((xG X).1 x0))]) [0] rfl ?_
        exact w_X6_asks_b28 C hr  _ _ hx0 h

theorem m_X6_asks (G : Gm) (l : Launch) {σ σ' : St} {x0 : Nat} {x1 : Int32} {x2 : Int32} {x3 : Int32} (hx0 : kd x0 = 7) {r : Int32} (h : f_X6_asks σ x0 x1 x2 x3 = some (r, σ')) : Ctr G l yX6_asks cX6_asks 5 (some .int) 2 43 [.ref (G.1 x0), .int x1, .int x2, .int x3] σ (some (.int r)) True σ' := by
  refine Ctr.i (by decide) (Nat.le_of_ble_eq_true rfl) ?_
  intro X hG C hr
  subst hG
  exact w_X6_asks_b0 C hr _ _ _ _ _ hx0 h
-- X6_may
set_option maxHeartbeats 4000000 in
set_option maxRecDepth 100000 in
theorem w_X6_may_b16 {X : CX} (C : Cok X RX6 cX6_may 4 2 43) {σ' : St} {r : Int32} (hr : RtI X cX6_may r σ') (σ : St) (x0 : Nat) (hx0 : kd x0 = 7) (h : f_X6_may_b16 σ x0 = some (r, σ')) : V X σ 16 [(0, .ref ((xG X).1 x0))] [] := by
  unfold f_X6_may_b16 at h
  refine r_aload_n C 0 (q := 17) dX6_may_16 rfl rfl ?_
  refine r_bipush C (v := (-2)) (q := 19) dX6_may_17 (by decide) rfl ?_
  obtain ⟨v_19, s_19, e_19, h⟩ := bs2 h
  refine r_callV C (ci := 6) (st := []) (st2 := [.int v_19]) (q := 22) (m_X6_no (xG X) (xl X) hx0 e_19) ok_X6_no hx0 rfl ⟨_, rfl⟩ q_1084 rfl ⟨Nat.le_of_ble_eq_true rfl, Nat.le_of_ble_eq_true rfl⟩ rfl rfl (Nat.le_of_ble_eq_true rfl) dX6_may_19 rfl (fun hp_19 => ?_)
  obtain ⟨rfl, rfl⟩ := Prod.mk.inj (Option.some.inj h)
  exact hr _ _ dX6_may_22

set_option maxHeartbeats 4000000 in
set_option maxRecDepth 100000 in
theorem w_X6_may_b0 {X : CX} (C : Cok X RX6 cX6_may 4 2 43) {σ' : St} {r : Int32} (hr : RtI X cX6_may r σ') (σ : St) (x0 : Nat) (x1 : Int32) (x2 : Int32) (x3 : Int32) (hx0 : kd x0 = 7) (h : f_X6_may σ x0 x1 x2 x3 = some (r, σ')) : V X σ 0 [(0, .ref ((xG X).1 x0)), (1, .int x1), (2, .int x2), (3, .int x3)] [] := by
  unfold f_X6_may at h
  refine r_aload_n C 0 (q := 1) dX6_may_0 rfl rfl ?_
  refine r_iload_n C 1 (q := 2) dX6_may_1 rfl rfl ?_
  obtain ⟨v_2, e_2, h⟩ := bs h
  refine r_callV C (ci := 6) (st := []) (st2 := [.int v_2]) (q := 5) (m_X6_isKey (xG X) (xl X) hx0 e_2) ok_X6_isKey hx0 rfl ⟨_, rfl⟩ q_1116 rfl ⟨Nat.le_of_ble_eq_true rfl, Nat.le_of_ble_eq_true rfl⟩ rfl rfl (Nat.le_of_ble_eq_true rfl) dX6_may_2 rfl (fun hp_2 => ?_)
  refine r_if_eq C (tgt := 16) (q := 8) dX6_may_5 (by decide) rfl (fun c_5 => ?_) (fun c_5 => ?_)
  · replace h := (if_pos c_5).symm.trans h
    refine r_sub (lv' := [(0, .ref ((xG X).1 x0))]) [0] rfl ?_
    exact w_X6_may_b16 C hr  _ _ hx0 h
  · replace h := (if_neg c_5).symm.trans h
    refine r_aload_n C 0 (q := 9) dX6_may_8 rfl rfl ?_
    refine r_iload_n C 2 (q := 10) dX6_may_9 rfl rfl ?_
    obtain ⟨v_10, e_10, h⟩ := bs h
    refine r_callV C (ci := 6) (st := []) (st2 := [.int v_10]) (q := 13) (m_X6_isLock (xG X) (xl X) hx0 e_10) ok_X6_isLock hx0 rfl ⟨_, rfl⟩ q_1187 rfl ⟨Nat.le_of_ble_eq_true rfl, Nat.le_of_ble_eq_true rfl⟩ rfl rfl (Nat.le_of_ble_eq_true rfl) dX6_may_10 rfl (fun hp_10 => ?_)
    refine r_if_ne C (tgt := 23) (q := 16) dX6_may_13 (by decide) rfl (fun c_13 => ?_) (fun c_13 => ?_)
    · replace h := (if_neg c_13).symm.trans h
      refine r_aload_n C 0 (q := 24) dX6_may_23 rfl rfl ?_
      refine g_X6_9 C (q := 27) dX6_may_24 q_998 hx0 rfl ?_
      refine r_iload_n C 1 (q := 28) dX6_may_27 rfl rfl ?_
      obtain ⟨v_28, e_28, h⟩ := bs h
      refine r_iald C (q := 29) dX6_may_28 (kf_X6_9 hx0) e_28 rfl ?_
      refine r_iload_n C 2 (q := 30) dX6_may_29 rfl rfl ?_
      obtain ⟨v_30, e_30, h⟩ := bs h
      refine r_callS C (st := []) (st2 := [.int v_30]) (q := 33) (m_X6_has (xG X) (xl X) e_30) ok_X6_has q_1199 rfl ⟨Nat.le_of_ble_eq_true rfl, Nat.le_of_ble_eq_true rfl⟩ rfl rfl (Nat.le_of_ble_eq_true rfl) dX6_may_30 rfl (fun hp_30 => ?_)
      refine r_iload_n C 3 (q := 34) dX6_may_33 rfl rfl ?_
      refine r_icmp_ne C (tgt := 39) (q := 37) dX6_may_34 (by decide) rfl (fun c_34 => ?_) (fun c_34 => ?_)
      · replace h := (if_neg c_34).symm.trans h
        refine r_aload_n C 0 (q := 40) dX6_may_39 rfl rfl ?_
        refine g_X6_9 C (q := 43) dX6_may_40 q_998 hx0 rfl ?_
        refine r_iload_n C 1 (q := 44) dX6_may_43 rfl rfl ?_
        refine r_dup2 C (q := 45) dX6_may_44 rfl rfl rfl ?_
        obtain ⟨v_45, e_45, h⟩ := bs h
        refine r_iald C (q := 46) dX6_may_45 (kf_X6_9 hx0) e_45 rfl ?_
        refine r_iconst C (v := 1) (q := 47) dX6_may_46 (by decide) rfl ?_
        refine r_iload_n C 2 (q := 48) dX6_may_47 rfl rfl ?_
        refine r_ishl C (q := 49) dX6_may_48 rfl ?_
        refine r_ixor C (q := 50) dX6_may_49 rfl ?_
        obtain ⟨s_50, e_50, h⟩ := bs h
        refine r_iast C (q := 51) dX6_may_50 (kf_X6_9 hx0) e_50 rfl ?_
        refine r_iconst C (v := 1) (q := 52) dX6_may_51 (by decide) rfl ?_
        obtain ⟨rfl, rfl⟩ := Prod.mk.inj (Option.some.inj h)
        exact hr _ _ dX6_may_52
      · replace h := (if_pos c_34).symm.trans h
        refine r_iconst C (v := 0) (q := 38) dX6_may_37 (by decide) rfl ?_
        obtain ⟨rfl, rfl⟩ := Prod.mk.inj (Option.some.inj h)
        exact hr _ _ dX6_may_38
    · replace h := (if_pos c_13).symm.trans h
      refine r_sub (lv' := [(0, .ref ((xG X).1 x0))]) [0] rfl ?_
      exact w_X6_may_b16 C hr  _ _ hx0 h

theorem m_X6_may (G : Gm) (l : Launch) {σ σ' : St} {x0 : Nat} {x1 : Int32} {x2 : Int32} {x3 : Int32} (hx0 : kd x0 = 7) {r : Int32} (h : f_X6_may σ x0 x1 x2 x3 = some (r, σ')) : Ctr G l yX6_may cX6_may 4 (some .int) 2 43 [.ref (G.1 x0), .int x1, .int x2, .int x3] σ (some (.int r)) True σ' := by
  refine Ctr.i (by decide) (Nat.le_of_ble_eq_true rfl) ?_
  intro X hG C hr
  subst hG
  exact w_X6_may_b0 C hr _ _ _ _ _ hx0 h
-- X6_file
set_option maxHeartbeats 4000000 in
set_option maxRecDepth 100000 in
theorem w_X6_file_b50 {X : CX} (C : Cok X RX6 cX6_file 4 2 43) {σ' : St} {r : Int32} (hr : RtI X cX6_file r σ') (σ : St) (x0 : Nat) (hx0 : kd x0 = 7) (h : f_X6_file_b50 σ x0 = some (r, σ')) : V X σ 50 [(0, .ref ((xG X).1 x0))] [] := by
  unfold f_X6_file_b50 at h
  refine r_aload_n C 0 (q := 51) dX6_file_50 rfl rfl ?_
  refine r_bipush C (v := (-5)) (q := 53) dX6_file_51 (by decide) rfl ?_
  obtain ⟨v_53, s_53, e_53, h⟩ := bs2 h
  refine r_callV C (ci := 6) (st := []) (st2 := [.int v_53]) (q := 56) (m_X6_no (xG X) (xl X) hx0 e_53) ok_X6_no hx0 rfl ⟨_, rfl⟩ q_1084 rfl ⟨Nat.le_of_ble_eq_true rfl, Nat.le_of_ble_eq_true rfl⟩ rfl rfl (Nat.le_of_ble_eq_true rfl) dX6_file_53 rfl (fun hp_53 => ?_)
  obtain ⟨rfl, rfl⟩ := Prod.mk.inj (Option.some.inj h)
  exact hr _ _ dX6_file_56

set_option maxHeartbeats 4000000 in
set_option maxRecDepth 100000 in
theorem w_X6_file_b16 {X : CX} (C : Cok X RX6 cX6_file 4 2 43) {σ' : St} {r : Int32} (hr : RtI X cX6_file r σ') (σ : St) (x0 : Nat) (hx0 : kd x0 = 7) (h : f_X6_file_b16 σ x0 = some (r, σ')) : V X σ 16 [(0, .ref ((xG X).1 x0))] [] := by
  unfold f_X6_file_b16 at h
  refine r_aload_n C 0 (q := 17) dX6_file_16 rfl rfl ?_
  refine r_bipush C (v := (-2)) (q := 19) dX6_file_17 (by decide) rfl ?_
  obtain ⟨v_19, s_19, e_19, h⟩ := bs2 h
  refine r_callV C (ci := 6) (st := []) (st2 := [.int v_19]) (q := 22) (m_X6_no (xG X) (xl X) hx0 e_19) ok_X6_no hx0 rfl ⟨_, rfl⟩ q_1084 rfl ⟨Nat.le_of_ble_eq_true rfl, Nat.le_of_ble_eq_true rfl⟩ rfl rfl (Nat.le_of_ble_eq_true rfl) dX6_file_19 rfl (fun hp_19 => ?_)
  obtain ⟨rfl, rfl⟩ := Prod.mk.inj (Option.some.inj h)
  exact hr _ _ dX6_file_22

set_option maxHeartbeats 4000000 in
set_option maxRecDepth 100000 in
theorem w_X6_file_b0 {X : CX} (C : Cok X RX6 cX6_file 4 2 43) {σ' : St} {r : Int32} (hr : RtI X cX6_file r σ') (σ : St) (x0 : Nat) (x1 : Int32) (x2 : Int32) (hx0 : kd x0 = 7) (h : f_X6_file σ x0 x1 x2 = some (r, σ')) : V X σ 0 [(0, .ref ((xG X).1 x0)), (1, .int x1), (2, .int x2)] [] := by
  unfold f_X6_file at h
  refine r_aload_n C 0 (q := 1) dX6_file_0 rfl rfl ?_
  refine r_iload_n C 1 (q := 2) dX6_file_1 rfl rfl ?_
  obtain ⟨v_2, e_2, h⟩ := bs h
  refine r_callV C (ci := 6) (st := []) (st2 := [.int v_2]) (q := 5) (m_X6_isKey (xG X) (xl X) hx0 e_2) ok_X6_isKey hx0 rfl ⟨_, rfl⟩ q_1116 rfl ⟨Nat.le_of_ble_eq_true rfl, Nat.le_of_ble_eq_true rfl⟩ rfl rfl (Nat.le_of_ble_eq_true rfl) dX6_file_2 rfl (fun hp_2 => ?_)
  refine r_if_eq C (tgt := 16) (q := 8) dX6_file_5 (by decide) rfl (fun c_5 => ?_) (fun c_5 => ?_)
  · replace h := (if_pos c_5).symm.trans h
    refine r_sub (lv' := [(0, .ref ((xG X).1 x0))]) [0] rfl ?_
    exact w_X6_file_b16 C hr  _ _ hx0 h
  · replace h := (if_neg c_5).symm.trans h
    refine r_aload_n C 0 (q := 9) dX6_file_8 rfl rfl ?_
    refine r_iload_n C 2 (q := 10) dX6_file_9 rfl rfl ?_
    obtain ⟨v_10, e_10, h⟩ := bs h
    refine r_callV C (ci := 6) (st := []) (st2 := [.int v_10]) (q := 13) (m_X6_isPlace (xG X) (xl X) hx0 e_10) ok_X6_isPlace hx0 rfl ⟨_, rfl⟩ q_1191 rfl ⟨Nat.le_of_ble_eq_true rfl, Nat.le_of_ble_eq_true rfl⟩ rfl rfl (Nat.le_of_ble_eq_true rfl) dX6_file_10 rfl (fun hp_10 => ?_)
    refine r_if_ne C (tgt := 23) (q := 16) dX6_file_13 (by decide) rfl (fun c_13 => ?_) (fun c_13 => ?_)
    · replace h := (if_neg c_13).symm.trans h
      refine r_aload_n C 0 (q := 24) dX6_file_23 rfl rfl ?_
      refine g_X6_7 C (q := 27) dX6_file_24 q_996 hx0 rfl ?_
      refine r_iload_n C 1 (q := 28) dX6_file_27 rfl rfl ?_
      obtain ⟨v_28, e_28, h⟩ := bs h
      refine r_iald C (q := 29) dX6_file_28 (kf_X6_7 hx0) e_28 rfl ?_
      refine r_iconst C (v := 4) (q := 30) dX6_file_29 (by decide) rfl ?_
      refine r_icmp_eq C (tgt := 50) (q := 33) dX6_file_30 (by decide) rfl (fun c_30 => ?_) (fun c_30 => ?_)
      · replace h := (if_pos c_30).symm.trans h
        refine r_sub (lv' := [(0, .ref ((xG X).1 x0))]) [0] rfl ?_
        exact w_X6_file_b50 C hr  _ _ hx0 h
      · replace h := (if_neg c_30).symm.trans h
        refine r_aload_n C 0 (q := 34) dX6_file_33 rfl rfl ?_
        refine g_X6_10 C (q := 37) dX6_file_34 q_999 hx0 rfl ?_
        refine r_iconst C (v := 5) (q := 38) dX6_file_37 (by decide) rfl ?_
        refine r_iload_n C 1 (q := 39) dX6_file_38 rfl rfl ?_
        refine r_imul C (q := 40) dX6_file_39 rfl ?_
        refine r_iload_n C 2 (q := 41) dX6_file_40 rfl rfl ?_
        refine r_iadd C (q := 42) dX6_file_41 rfl ?_
        obtain ⟨v_42, e_42, h⟩ := bs h
        refine r_iald C (q := 43) dX6_file_42 (kf_X6_10 hx0) e_42 rfl ?_
        refine r_aload_n C 0 (q := 44) dX6_file_43 rfl rfl ?_
        refine g_X6_4 C (q := 47) dX6_file_44 q_993 hx0 rfl ?_
        refine r_icmp_ne C (tgt := 57) (q := 50) dX6_file_47 (by decide) rfl (fun c_47 => ?_) (fun c_47 => ?_)
        · replace h := (if_neg c_47).symm.trans h
          refine r_aload_n C 0 (q := 58) dX6_file_57 rfl rfl ?_
          refine g_X6_10 C (q := 61) dX6_file_58 q_999 hx0 rfl ?_
          refine r_iconst C (v := 5) (q := 62) dX6_file_61 (by decide) rfl ?_
          refine r_iload_n C 1 (q := 63) dX6_file_62 rfl rfl ?_
          refine r_imul C (q := 64) dX6_file_63 rfl ?_
          refine r_iload_n C 2 (q := 65) dX6_file_64 rfl rfl ?_
          refine r_iadd C (q := 66) dX6_file_65 rfl ?_
          refine r_dup2 C (q := 67) dX6_file_66 rfl rfl rfl ?_
          obtain ⟨v_67, e_67, h⟩ := bs h
          refine r_iald C (q := 68) dX6_file_67 (kf_X6_10 hx0) e_67 rfl ?_
          refine r_iconst C (v := 1) (q := 69) dX6_file_68 (by decide) rfl ?_
          refine r_iadd C (q := 70) dX6_file_69 rfl ?_
          refine r_dup_x2 C (q := 71) dX6_file_70 rfl rfl rfl rfl ?_
          obtain ⟨s_71, e_71, h⟩ := bs h
          refine r_iast C (q := 72) dX6_file_71 (kf_X6_10 hx0) e_71 rfl ?_
          obtain ⟨y_72, e_72, h⟩ := bs h
          refine r_topI (Option.some.inj e_72) ?_
          refine r_istore_n C (lv' := [(3, .int y_72), (0, .ref ((xG X).1 x0)), (1, .int x1), (2, .int x2)]) (q := 73) dX6_file_72 rfl (by decide) rfl rfl ?_
          refine r_aload_n C 1 (q := 74) dX6_file_73 rfl rfl ?_
          refine r_dup C (q := 75) dX6_file_74 rfl rfl ?_
          refine g_X6_14 C (q := 78) dX6_file_75 q_1003 hx0 rfl ?_
          refine r_iload_n C 0 (q := 79) dX6_file_78 rfl rfl ?_
          refine r_iadd C (q := 80) dX6_file_79 rfl ?_
          obtain ⟨s_80, e_80, h⟩ := bs h
          refine p_X6_14 C (q := 83) dX6_file_80 q_1003 hx0 e_80 rfl ?_
          refine r_iload_n C 0 (q := 84) dX6_file_83 rfl rfl ?_
          obtain ⟨rfl, rfl⟩ := Prod.mk.inj (Option.some.inj h)
          exact hr _ _ dX6_file_84
        · replace h := (if_pos c_47).symm.trans h
          refine r_sub (lv' := [(0, .ref ((xG X).1 x0))]) [0] rfl ?_
          exact w_X6_file_b50 C hr  _ _ hx0 h
    · replace h := (if_pos c_13).symm.trans h
      refine r_sub (lv' := [(0, .ref ((xG X).1 x0))]) [0] rfl ?_
      exact w_X6_file_b16 C hr  _ _ hx0 h

theorem m_X6_file (G : Gm) (l : Launch) {σ σ' : St} {x0 : Nat} {x1 : Int32} {x2 : Int32} (hx0 : kd x0 = 7) {r : Int32} (h : f_X6_file σ x0 x1 x2 = some (r, σ')) : Ctr G l yX6_file cX6_file 4 (some .int) 2 43 [.ref (G.1 x0), .int x1, .int x2] σ (some (.int r)) True σ' := by
  refine Ctr.i (by decide) (Nat.le_of_ble_eq_true rfl) ?_
  intro X hG C hr
  subst hG
  exact w_X6_file_b0 C hr _ _ _ _ hx0 h
-- X6_feed
set_option maxHeartbeats 4000000 in
set_option maxRecDepth 100000 in
theorem w_X6_feed_b0 {X : CX} (C : Cok X RX6 cX6_feed 2 1 22) {σ' : St} {r : Int32} (hr : RtI X cX6_feed r σ') (σ : St) (x0 : Nat) (x1 : Int32) (hx0 : kd x0 = 7) (h : f_X6_feed σ x0 x1 = some (r, σ')) : V X σ 0 [(0, .ref ((xG X).1 x0)), (1, .int x1)] [] := by
  unfold f_X6_feed at h
  refine r_iload_n C 1 (q := 1) dX6_feed_0 rfl rfl ?_
  refine r_iconst C (v := 0) (q := 2) dX6_feed_1 (by decide) rfl ?_
  refine r_sipush C (v := 255) (q := 5) dX6_feed_2 (by decide) rfl ?_
  obtain ⟨v_5, e_5, h⟩ := bs h
  refine r_callS C (st := []) (st2 := [.int v_5]) (q := 8) (m_X6_within (xG X) (xl X) e_5) ok_X6_within q_1081 rfl ⟨Nat.le_of_ble_eq_true rfl, Nat.le_of_ble_eq_true rfl⟩ rfl rfl (Nat.le_of_ble_eq_true rfl) dX6_feed_5 rfl (fun hp_5 => ?_)
  refine r_if_ne C (tgt := 18) (q := 11) dX6_feed_8 (by decide) rfl (fun c_8 => ?_) (fun c_8 => ?_)
  · replace h := (if_neg c_8).symm.trans h
    refine r_aload_n C 0 (q := 19) dX6_feed_18 rfl rfl ?_
    refine g_X6_16 C (q := 22) dX6_feed_19 q_1005 hx0 rfl ?_
    refine r_sipush C (v := 250) (q := 25) dX6_feed_22 (by decide) rfl ?_
    refine r_icmp_ne C (tgt := 35) (q := 28) dX6_feed_25 (by decide) rfl (fun c_25 => ?_) (fun c_25 => ?_)
    · replace h := (if_neg c_25).symm.trans h
      refine r_aload_n C 0 (q := 36) dX6_feed_35 rfl rfl ?_
      refine g_X6_17 C (q := 39) dX6_feed_36 q_1006 hx0 rfl ?_
      refine r_aload_n C 0 (q := 40) dX6_feed_39 rfl rfl ?_
      refine r_dup C (q := 41) dX6_feed_40 rfl rfl ?_
      refine g_X6_16 C (q := 44) dX6_feed_41 q_1005 hx0 rfl ?_
      refine r_dup_x1 C (q := 45) dX6_feed_44 rfl rfl rfl ?_
      refine r_iconst C (v := 1) (q := 46) dX6_feed_45 (by decide) rfl ?_
      refine r_iadd C (q := 47) dX6_feed_46 rfl ?_
      obtain ⟨s_47, e_47, h⟩ := bs h
      refine p_X6_16 C (q := 50) dX6_feed_47 q_1005 hx0 e_47 rfl ?_
      refine r_iload_n C 1 (q := 51) dX6_feed_50 rfl rfl ?_
      obtain ⟨s_51, e_51, h⟩ := bs h
      refine r_iast C (q := 52) dX6_feed_51 (kf_X6_17 hx0) e_51 rfl ?_
      refine r_aload_n C 0 (q := 53) dX6_feed_52 rfl rfl ?_
      refine g_X6_16 C (q := 56) dX6_feed_53 q_1005 hx0 rfl ?_
      obtain ⟨rfl, rfl⟩ := Prod.mk.inj (Option.some.inj h)
      exact hr _ _ dX6_feed_56
    · replace h := (if_pos c_25).symm.trans h
      refine r_aload_n C 0 (q := 29) dX6_feed_28 rfl rfl ?_
      refine r_bipush C (v := (-6)) (q := 31) dX6_feed_29 (by decide) rfl ?_
      obtain ⟨v_31, s_31, e_31, h⟩ := bs2 h
      refine r_callV C (ci := 6) (st := []) (st2 := [.int v_31]) (q := 34) (m_X6_no (xG X) (xl X) hx0 e_31) ok_X6_no hx0 rfl ⟨_, rfl⟩ q_1084 rfl ⟨Nat.le_of_ble_eq_true rfl, Nat.le_of_ble_eq_true rfl⟩ rfl rfl (Nat.le_of_ble_eq_true rfl) dX6_feed_31 rfl (fun hp_31 => ?_)
      obtain ⟨rfl, rfl⟩ := Prod.mk.inj (Option.some.inj h)
      exact hr _ _ dX6_feed_34
  · replace h := (if_pos c_8).symm.trans h
    refine r_aload_n C 0 (q := 12) dX6_feed_11 rfl rfl ?_
    refine r_bipush C (v := (-2)) (q := 14) dX6_feed_12 (by decide) rfl ?_
    obtain ⟨v_14, s_14, e_14, h⟩ := bs2 h
    refine r_callV C (ci := 6) (st := []) (st2 := [.int v_14]) (q := 17) (m_X6_no (xG X) (xl X) hx0 e_14) ok_X6_no hx0 rfl ⟨_, rfl⟩ q_1084 rfl ⟨Nat.le_of_ble_eq_true rfl, Nat.le_of_ble_eq_true rfl⟩ rfl rfl (Nat.le_of_ble_eq_true rfl) dX6_feed_14 rfl (fun hp_14 => ?_)
    obtain ⟨rfl, rfl⟩ := Prod.mk.inj (Option.some.inj h)
    exact hr _ _ dX6_feed_17

theorem m_X6_feed (G : Gm) (l : Launch) {σ σ' : St} {x0 : Nat} {x1 : Int32} (hx0 : kd x0 = 7) {r : Int32} (h : f_X6_feed σ x0 x1 = some (r, σ')) : Ctr G l yX6_feed cX6_feed 2 (some .int) 1 22 [.ref (G.1 x0), .int x1] σ (some (.int r)) True σ' := by
  refine Ctr.i (by decide) (Nat.le_of_ble_eq_true rfl) ?_
  intro X hG C hr
  subst hG
  exact w_X6_feed_b0 C hr _ _ _ hx0 h
-- X6_wipe
set_option maxHeartbeats 4000000 in
set_option maxRecDepth 100000 in
theorem w_X6_wipe_b0 {X : CX} (C : Cok X RX6 cX6_wipe 2 0 0) {σ' : St} {r : Int32} (hr : RtI X cX6_wipe r σ') (σ : St) (x0 : Nat) (hx0 : kd x0 = 7) (h : f_X6_wipe σ x0 = some (r, σ')) : V X σ 0 [(0, .ref ((xG X).1 x0))] [] := by
  unfold f_X6_wipe at h
  refine r_aload_n C 0 (q := 1) dX6_wipe_0 rfl rfl ?_
  refine g_X6_16 C (q := 4) dX6_wipe_1 q_1005 hx0 rfl ?_
  obtain ⟨y_4, e_4, h⟩ := bs h
  refine r_topI (Option.some.inj e_4) ?_
  refine r_istore_n C (lv' := [(1, .int y_4), (0, .ref ((xG X).1 x0))]) (q := 5) dX6_wipe_4 rfl (by decide) rfl rfl ?_
  refine r_aload_n C 1 (q := 6) dX6_wipe_5 rfl rfl ?_
  refine r_iconst C (v := 0) (q := 7) dX6_wipe_6 (by decide) rfl ?_
  obtain ⟨s_7, e_7, h⟩ := bs h
  refine p_X6_16 C (q := 10) dX6_wipe_7 q_1005 hx0 e_7 rfl ?_
  refine r_iload_n C 0 (q := 11) dX6_wipe_10 rfl rfl ?_
  obtain ⟨rfl, rfl⟩ := Prod.mk.inj (Option.some.inj h)
  exact hr _ _ dX6_wipe_11

theorem m_X6_wipe (G : Gm) (l : Launch) {σ σ' : St} {x0 : Nat} (hx0 : kd x0 = 7) {r : Int32} (h : f_X6_wipe σ x0 = some (r, σ')) : Ctr G l yX6_wipe cX6_wipe 2 (some .int) 0 0 [.ref (G.1 x0)] σ (some (.int r)) True σ' := by
  refine Ctr.i (by decide) (Nat.le_of_ble_eq_true rfl) ?_
  intro X hG C hr
  subst hG
  exact w_X6_wipe_b0 C hr _ _ hx0 h
-- X6_isLetter
set_option maxHeartbeats 4000000 in
set_option maxRecDepth 100000 in
theorem w_X6_isLetter_b0 {X : CX} (C : Cok X RX6 cX6_isLetter 1 0 0) {σ : St} {r : Int32} (hr : RtZ X cX6_isLetter r σ) (x0 : Int32) (h : f_X6_isLetter x0 = some r) : V X σ 0 [(0, .int x0)] [] := by
  unfold f_X6_isLetter at h
  refine r_iload_n C 0 (q := 1) dX6_isLetter_0 rfl rfl ?_
  refine r_bipush C (v := 97) (q := 3) dX6_isLetter_1 (by decide) rfl ?_
  refine r_icmp_lt C (tgt := 16) (q := 6) dX6_isLetter_3 (by decide) rfl (fun c_3 => ?_) (fun c_3 => ?_)
  · replace h := (if_pos c_3).symm.trans h
    refine r_iconst C (v := 0) (q := 17) dX6_isLetter_16 (by decide) rfl ?_
    obtain rfl := Option.some.inj h
    exact hr _ _ dX6_isLetter_17 (Or.inl rfl)
  · replace h := (if_neg c_3).symm.trans h
    refine r_iload_n C 0 (q := 7) dX6_isLetter_6 rfl rfl ?_
    refine r_bipush C (v := 122) (q := 9) dX6_isLetter_7 (by decide) rfl ?_
    refine r_icmp_gt C (tgt := 16) (q := 12) dX6_isLetter_9 (by decide) rfl (fun c_9 => ?_) (fun c_9 => ?_)
    · replace h := (if_pos c_9).symm.trans h
      refine r_iconst C (v := 0) (q := 17) dX6_isLetter_16 (by decide) rfl ?_
      obtain rfl := Option.some.inj h
      exact hr _ _ dX6_isLetter_17 (Or.inl rfl)
    · replace h := (if_neg c_9).symm.trans h
      refine r_iconst C (v := 1) (q := 13) dX6_isLetter_12 (by decide) rfl ?_
      refine r_goto C (tgt := 17) dX6_isLetter_13 (by decide) ?_
      obtain rfl := Option.some.inj h
      exact hr _ _ dX6_isLetter_17 (Or.inr rfl)

theorem m_X6_isLetter (G : Gm) (l : Launch) {σ : St} {x0 : Int32} {r : Int32} (h : f_X6_isLetter x0 = some r) : Ctr G l yX6_isLetter cX6_isLetter 1 (some .boolean) 0 0 [.int x0] σ (some (.int r)) (r = 0 ∨ r = 1) σ := by
  refine Ctr.z (by decide) (Nat.le_of_ble_eq_true rfl) ?_
  intro X hG C hr
  subst hG
  exact w_X6_isLetter_b0 C hr _ h
-- X6_isDigit
set_option maxHeartbeats 4000000 in
set_option maxRecDepth 100000 in
theorem w_X6_isDigit_b0 {X : CX} (C : Cok X RX6 cX6_isDigit 1 0 0) {σ : St} {r : Int32} (hr : RtZ X cX6_isDigit r σ) (x0 : Int32) (h : f_X6_isDigit x0 = some r) : V X σ 0 [(0, .int x0)] [] := by
  unfold f_X6_isDigit at h
  refine r_iload_n C 0 (q := 1) dX6_isDigit_0 rfl rfl ?_
  refine r_bipush C (v := 48) (q := 3) dX6_isDigit_1 (by decide) rfl ?_
  refine r_icmp_lt C (tgt := 16) (q := 6) dX6_isDigit_3 (by decide) rfl (fun c_3 => ?_) (fun c_3 => ?_)
  · replace h := (if_pos c_3).symm.trans h
    refine r_iconst C (v := 0) (q := 17) dX6_isDigit_16 (by decide) rfl ?_
    obtain rfl := Option.some.inj h
    exact hr _ _ dX6_isDigit_17 (Or.inl rfl)
  · replace h := (if_neg c_3).symm.trans h
    refine r_iload_n C 0 (q := 7) dX6_isDigit_6 rfl rfl ?_
    refine r_bipush C (v := 57) (q := 9) dX6_isDigit_7 (by decide) rfl ?_
    refine r_icmp_gt C (tgt := 16) (q := 12) dX6_isDigit_9 (by decide) rfl (fun c_9 => ?_) (fun c_9 => ?_)
    · replace h := (if_pos c_9).symm.trans h
      refine r_iconst C (v := 0) (q := 17) dX6_isDigit_16 (by decide) rfl ?_
      obtain rfl := Option.some.inj h
      exact hr _ _ dX6_isDigit_17 (Or.inl rfl)
    · replace h := (if_neg c_9).symm.trans h
      refine r_iconst C (v := 1) (q := 13) dX6_isDigit_12 (by decide) rfl ?_
      refine r_goto C (tgt := 17) dX6_isDigit_13 (by decide) ?_
      obtain rfl := Option.some.inj h
      exact hr _ _ dX6_isDigit_17 (Or.inr rfl)

theorem m_X6_isDigit (G : Gm) (l : Launch) {σ : St} {x0 : Int32} {r : Int32} (h : f_X6_isDigit x0 = some r) : Ctr G l yX6_isDigit cX6_isDigit 1 (some .boolean) 0 0 [.int x0] σ (some (.int r)) (r = 0 ∨ r = 1) σ := by
  refine Ctr.z (by decide) (Nat.le_of_ble_eq_true rfl) ?_
  intro X hG C hr
  subst hG
  exact w_X6_isDigit_b0 C hr _ h
-- X6_next
set_option maxHeartbeats 4000000 in
set_option maxRecDepth 100000 in
theorem w_X6_next_b252 {X : CX} (C : Cok X RX6 cX6_next 2 1 20) {σ' : St} (hr : RtV X cX6_next σ') (σ : St) (x0 : Nat) (t0 : Nat) (t1 : Int32) (hx0 : kd x0 = 7) (ht0 : kd t0 = 7) (h : f_X6_next_b252 σ x0 t0 t1 = some σ') : V X σ 252 [(0, .ref ((xG X).1 x0))] [.int t1, .ref ((xG X).1 t0)] := by
  unfold f_X6_next_b252 at h
  obtain ⟨s_252, e_252, h⟩ := bs h
  refine p_X6_20 C (q := 255) dX6_next_252 q_1009 ht0 e_252 rfl ?_
  refine r_aload_n C 0 (q := 256) dX6_next_255 rfl rfl ?_
  refine r_dup C (q := 257) dX6_next_256 rfl rfl ?_
  refine g_X6_18 C (q := 260) dX6_next_257 q_1007 hx0 rfl ?_
  refine r_iconst C (v := 1) (q := 261) dX6_next_260 (by decide) rfl ?_
  refine r_iadd C (q := 262) dX6_next_261 rfl ?_
  obtain ⟨s_262, e_262, h⟩ := bs h
  refine p_X6_18 C (q := 265) dX6_next_262 q_1007 hx0 e_262 rfl ?_
  obtain rfl := Option.some.inj h
  exact hr _ _ dX6_next_265

set_option maxHeartbeats 4000000 in
set_option maxRecDepth 100000 in
theorem w_X6_next_b217 {X : CX} (C : Cok X RX6 cX6_next 2 1 20) {σ' : St} (hr : RtV X cX6_next σ') (σ : St) (x0 : Nat) (hx0 : kd x0 = 7) (h : f_X6_next_b217 σ x0 = some σ') : V X σ 217 [(0, .ref ((xG X).1 x0))] [] := by
  unfold f_X6_next_b217 at h
  refine r_aload_n C 0 (q := 218) dX6_next_217 rfl rfl ?_
  refine g_X6_18 C (q := 221) dX6_next_218 q_1007 hx0 rfl ?_
  refine r_aload_n C 0 (q := 222) dX6_next_221 rfl rfl ?_
  refine g_X6_19 C (q := 225) dX6_next_222 q_1008 hx0 rfl ?_
  refine r_isub C (q := 226) dX6_next_225 rfl ?_
  refine r_iconst C (v := 2) (q := 227) dX6_next_226 (by decide) rfl ?_
  refine r_icmp_le C (tgt := 265) (q := 230) dX6_next_227 (by decide) rfl (fun c_227 => ?_) (fun c_227 => ?_)
  · replace h := (if_pos c_227).symm.trans h
    obtain rfl := Option.some.inj h
    exact hr _ _ dX6_next_265
  · replace h := (if_neg c_227).symm.trans h
    refine r_aload_n C 0 (q := 231) dX6_next_230 rfl rfl ?_
    refine r_sipush C (v := 1000) (q := 234) dX6_next_231 (by decide) rfl ?_
    obtain ⟨s_234, e_234, h⟩ := bs h
    refine p_X6_21 C (q := 237) dX6_next_234 q_1010 hx0 e_234 rfl ?_
    refine r_goto C (tgt := 265) dX6_next_237 (by decide) ?_
    obtain rfl := Option.some.inj h
    exact hr _ _ dX6_next_265

set_option maxHeartbeats 4000000 in
set_option maxRecDepth 100000 in
theorem w_X6_next_b204 {X : CX} (C : Cok X RX6 cX6_next 2 1 20) {σ' : St} (hr : RtV X cX6_next σ') (k_141 : St → Nat → Option St) (hk_141 : ∀ (σ : St) (x0 : Nat), kd x0 = 7 → k_141 σ x0 = some σ' → V X σ 141 [(0, .ref ((xG X).1 x0))] []) (σ : St) (x0 : Nat) (hx0 : kd x0 = 7) (h : f_X6_next_b204 k_141 σ x0 = some σ') : V X σ 204 [(0, .ref ((xG X).1 x0))] [] := by
  unfold f_X6_next_b204 at h
  refine r_aload_n C 0 (q := 205) dX6_next_204 rfl rfl ?_
  refine r_dup C (q := 206) dX6_next_205 rfl rfl ?_
  refine g_X6_18 C (q := 209) dX6_next_206 q_1007 hx0 rfl ?_
  refine r_iconst C (v := 1) (q := 210) dX6_next_209 (by decide) rfl ?_
  refine r_iadd C (q := 211) dX6_next_210 rfl ?_
  obtain ⟨s_211, e_211, h⟩ := bs h
  refine p_X6_18 C (q := 214) dX6_next_211 q_1007 hx0 e_211 rfl ?_
  refine r_goto C (tgt := 141) dX6_next_214 (by decide) ?_
  exact hk_141 _ _ hx0 h

set_option maxHeartbeats 4000000 in
set_option maxRecDepth 100000 in
theorem w_X6_next_b141 {X : CX} (C : Cok X RX6 cX6_next 2 1 20) {σ' : St} (hr : RtV X cX6_next σ') (k_141 : St → Nat → Option St) (hk_141 : ∀ (σ : St) (x0 : Nat), kd x0 = 7 → k_141 σ x0 = some σ' → V X σ 141 [(0, .ref ((xG X).1 x0))] []) (σ : St) (x0 : Nat) (hx0 : kd x0 = 7) (h : f_X6_next_b141 k_141 σ x0 = some σ') : V X σ 141 [(0, .ref ((xG X).1 x0))] [] := by
  unfold f_X6_next_b141 at h
  refine r_aload_n C 0 (q := 142) dX6_next_141 rfl rfl ?_
  refine g_X6_18 C (q := 145) dX6_next_142 q_1007 hx0 rfl ?_
  refine r_aload_n C 0 (q := 146) dX6_next_145 rfl rfl ?_
  refine g_X6_16 C (q := 149) dX6_next_146 q_1005 hx0 rfl ?_
  refine r_icmp_ge C (tgt := 217) (q := 152) dX6_next_149 (by decide) rfl (fun c_149 => ?_) (fun c_149 => ?_)
  · replace h := (if_pos c_149).symm.trans h
    exact w_X6_next_b217 C hr  _ _ hx0 h
  · replace h := (if_neg c_149).symm.trans h
    refine r_aload_n C 0 (q := 153) dX6_next_152 rfl rfl ?_
    refine g_X6_17 C (q := 156) dX6_next_153 q_1006 hx0 rfl ?_
    refine r_aload_n C 0 (q := 157) dX6_next_156 rfl rfl ?_
    refine g_X6_18 C (q := 160) dX6_next_157 q_1007 hx0 rfl ?_
    obtain ⟨v_160, e_160, h⟩ := bs h
    refine r_iald C (q := 161) dX6_next_160 (kf_X6_17 hx0) e_160 rfl ?_
    obtain ⟨v_161, e_161, h⟩ := bs h
    refine r_callS C (st := []) (st2 := [.int v_161]) (q := 164) (m_X6_isDigit (xG X) (xl X) e_161) ok_X6_isDigit q_1229 rfl ⟨Nat.le_of_ble_eq_true rfl, Nat.le_of_ble_eq_true rfl⟩ rfl rfl (Nat.le_of_ble_eq_true rfl) dX6_next_161 rfl (fun hp_161 => ?_)
    refine r_if_eq C (tgt := 217) (q := 167) dX6_next_164 (by decide) rfl (fun c_164 => ?_) (fun c_164 => ?_)
    · replace h := (if_pos c_164).symm.trans h
      exact w_X6_next_b217 C hr  _ _ hx0 h
    · replace h := (if_neg c_164).symm.trans h
      refine r_aload_n C 0 (q := 168) dX6_next_167 rfl rfl ?_
      refine g_X6_18 C (q := 171) dX6_next_168 q_1007 hx0 rfl ?_
      refine r_aload_n C 0 (q := 172) dX6_next_171 rfl rfl ?_
      refine g_X6_19 C (q := 175) dX6_next_172 q_1008 hx0 rfl ?_
      refine r_isub C (q := 176) dX6_next_175 rfl ?_
      refine r_iconst C (v := 3) (q := 177) dX6_next_176 (by decide) rfl ?_
      refine r_icmp_ge C (tgt := 204) (q := 180) dX6_next_177 (by decide) rfl (fun c_177 => ?_) (fun c_177 => ?_)
      · replace h := (if_pos c_177).symm.trans h
        exact w_X6_next_b204 C hr _ hk_141 _ _ hx0 h
      · replace h := (if_neg c_177).symm.trans h
        refine r_aload_n C 0 (q := 181) dX6_next_180 rfl rfl ?_
        refine r_bipush C (v := 10) (q := 183) dX6_next_181 (by decide) rfl ?_
        refine r_aload_n C 0 (q := 184) dX6_next_183 rfl rfl ?_
        refine g_X6_21 C (q := 187) dX6_next_184 q_1010 hx0 rfl ?_
        refine r_imul C (q := 188) dX6_next_187 rfl ?_
        refine r_aload_n C 0 (q := 189) dX6_next_188 rfl rfl ?_
        refine g_X6_17 C (q := 192) dX6_next_189 q_1006 hx0 rfl ?_
        refine r_aload_n C 0 (q := 193) dX6_next_192 rfl rfl ?_
        refine g_X6_18 C (q := 196) dX6_next_193 q_1007 hx0 rfl ?_
        obtain ⟨v_196, e_196, h⟩ := bs h
        refine r_iald C (q := 197) dX6_next_196 (kf_X6_17 hx0) e_196 rfl ?_
        refine r_iadd C (q := 198) dX6_next_197 rfl ?_
        refine r_bipush C (v := 48) (q := 200) dX6_next_198 (by decide) rfl ?_
        refine r_isub C (q := 201) dX6_next_200 rfl ?_
        obtain ⟨s_201, e_201, h⟩ := bs h
        refine p_X6_21 C (q := 204) dX6_next_201 q_1010 hx0 e_201 rfl ?_
        exact w_X6_next_b204 C hr _ hk_141 _ _ hx0 h

theorem w_X6_next_l141 {X : CX} (C : Cok X RX6 cX6_next 2 1 20) {σ' : St} (hr : RtV X cX6_next σ') (n : Nat) : ∀ (σ : St) (x0 : Nat), kd x0 = 7 → f_X6_next_l141 n σ x0 = some σ' → V X σ 141 [(0, .ref ((xG X).1 x0))] [] := by
  induction n with
  | zero =>
    intro σ x0 hx0 h
    exact nomatch (show (none : Option St) = some σ' from h)
  | succ n ih =>
    intro σ x0 hx0 h
    exact w_X6_next_b141 C hr _ ih σ x0 hx0 h
set_option maxHeartbeats 4000000 in
set_option maxRecDepth 100000 in
theorem w_X6_next_b85 {X : CX} (C : Cok X RX6 cX6_next 2 1 20) {σ' : St} (hr : RtV X cX6_next σ') (k_85 : St → Nat → Option St) (hk_85 : ∀ (σ : St) (x0 : Nat), kd x0 = 7 → k_85 σ x0 = some σ' → V X σ 85 [(0, .ref ((xG X).1 x0))] []) (σ : St) (x0 : Nat) (hx0 : kd x0 = 7) (h : f_X6_next_b85 k_85 σ x0 = some σ') : V X σ 85 [(0, .ref ((xG X).1 x0))] [] := by
  unfold f_X6_next_b85 at h
  refine r_aload_n C 0 (q := 86) dX6_next_85 rfl rfl ?_
  refine g_X6_18 C (q := 89) dX6_next_86 q_1007 hx0 rfl ?_
  refine r_aload_n C 0 (q := 90) dX6_next_89 rfl rfl ?_
  refine g_X6_16 C (q := 93) dX6_next_90 q_1005 hx0 rfl ?_
  refine r_icmp_ge C (tgt := 265) (q := 96) dX6_next_93 (by decide) rfl (fun c_93 => ?_) (fun c_93 => ?_)
  · replace h := (if_pos c_93).symm.trans h
    obtain rfl := Option.some.inj h
    exact hr _ _ dX6_next_265
  · replace h := (if_neg c_93).symm.trans h
    refine r_aload_n C 0 (q := 97) dX6_next_96 rfl rfl ?_
    refine g_X6_17 C (q := 100) dX6_next_97 q_1006 hx0 rfl ?_
    refine r_aload_n C 0 (q := 101) dX6_next_100 rfl rfl ?_
    refine g_X6_18 C (q := 104) dX6_next_101 q_1007 hx0 rfl ?_
    obtain ⟨v_104, e_104, h⟩ := bs h
    refine r_iald C (q := 105) dX6_next_104 (kf_X6_17 hx0) e_104 rfl ?_
    obtain ⟨v_105, e_105, h⟩ := bs h
    refine r_callS C (st := []) (st2 := [.int v_105]) (q := 108) (m_X6_isLetter (xG X) (xl X) e_105) ok_X6_isLetter q_1226 rfl ⟨Nat.le_of_ble_eq_true rfl, Nat.le_of_ble_eq_true rfl⟩ rfl rfl (Nat.le_of_ble_eq_true rfl) dX6_next_105 rfl (fun hp_105 => ?_)
    refine r_if_eq C (tgt := 265) (q := 111) dX6_next_108 (by decide) rfl (fun c_108 => ?_) (fun c_108 => ?_)
    · replace h := (if_pos c_108).symm.trans h
      obtain rfl := Option.some.inj h
      exact hr _ _ dX6_next_265
    · replace h := (if_neg c_108).symm.trans h
      refine r_aload_n C 0 (q := 112) dX6_next_111 rfl rfl ?_
      refine r_dup C (q := 113) dX6_next_112 rfl rfl ?_
      refine g_X6_18 C (q := 116) dX6_next_113 q_1007 hx0 rfl ?_
      refine r_iconst C (v := 1) (q := 117) dX6_next_116 (by decide) rfl ?_
      refine r_iadd C (q := 118) dX6_next_117 rfl ?_
      obtain ⟨s_118, e_118, h⟩ := bs h
      refine p_X6_18 C (q := 121) dX6_next_118 q_1007 hx0 e_118 rfl ?_
      refine r_goto C (tgt := 85) dX6_next_121 (by decide) ?_
      exact hk_85 _ _ hx0 h

theorem w_X6_next_l85 {X : CX} (C : Cok X RX6 cX6_next 2 1 20) {σ' : St} (hr : RtV X cX6_next σ') (n : Nat) : ∀ (σ : St) (x0 : Nat), kd x0 = 7 → f_X6_next_l85 n σ x0 = some σ' → V X σ 85 [(0, .ref ((xG X).1 x0))] [] := by
  induction n with
  | zero =>
    intro σ x0 hx0 h
    exact nomatch (show (none : Option St) = some σ' from h)
  | succ n ih =>
    intro σ x0 hx0 h
    exact w_X6_next_b85 C hr _ ih σ x0 hx0 h
set_option maxHeartbeats 4000000 in
set_option maxRecDepth 100000 in
theorem w_X6_next_b38 {X : CX} (C : Cok X RX6 cX6_next 2 1 20) {σ' : St} (hr : RtV X cX6_next σ') (σ : St) (x0 : Nat) (hx0 : kd x0 = 7) (h : f_X6_next_b38 σ x0 = some σ') : V X σ 38 [(0, .ref ((xG X).1 x0))] [] := by
  unfold f_X6_next_b38 at h
  refine r_aload_n C 0 (q := 39) dX6_next_38 rfl rfl ?_
  refine r_aload_n C 0 (q := 40) dX6_next_39 rfl rfl ?_
  refine g_X6_18 C (q := 43) dX6_next_40 q_1007 hx0 rfl ?_
  obtain ⟨s_43, e_43, h⟩ := bs h
  refine p_X6_19 C (q := 46) dX6_next_43 q_1008 hx0 e_43 rfl ?_
  refine r_aload_n C 0 (q := 47) dX6_next_46 rfl rfl ?_
  refine g_X6_18 C (q := 50) dX6_next_47 q_1007 hx0 rfl ?_
  refine r_aload_n C 0 (q := 51) dX6_next_50 rfl rfl ?_
  refine g_X6_16 C (q := 54) dX6_next_51 q_1005 hx0 rfl ?_
  refine r_icmp_ne C (tgt := 63) (q := 57) dX6_next_54 (by decide) rfl (fun c_54 => ?_) (fun c_54 => ?_)
  · replace h := (if_neg c_54).symm.trans h
    refine r_aload_n C 0 (q := 64) dX6_next_63 rfl rfl ?_
    refine g_X6_17 C (q := 67) dX6_next_64 q_1006 hx0 rfl ?_
    refine r_aload_n C 0 (q := 68) dX6_next_67 rfl rfl ?_
    refine g_X6_18 C (q := 71) dX6_next_68 q_1007 hx0 rfl ?_
    obtain ⟨v_71, e_71, h⟩ := bs h
    refine r_iald C (q := 72) dX6_next_71 (kf_X6_17 hx0) e_71 rfl ?_
    refine r_istore_n C (lv' := [(1, .int v_71), (0, .ref ((xG X).1 x0))]) (q := 73) dX6_next_72 rfl (by decide) rfl rfl ?_
    refine r_iload_n C 0 (q := 74) dX6_next_73 rfl rfl ?_
    obtain ⟨v_74, e_74, h⟩ := bs h
    refine r_callS C (st := []) (st2 := [.int v_74]) (q := 77) (m_X6_isLetter (xG X) (xl X) e_74) ok_X6_isLetter q_1226 rfl ⟨Nat.le_of_ble_eq_true rfl, Nat.le_of_ble_eq_true rfl⟩ rfl rfl (Nat.le_of_ble_eq_true rfl) dX6_next_74 rfl (fun hp_74 => ?_)
    refine r_if_eq C (tgt := 124) (q := 80) dX6_next_77 (by decide) rfl (fun c_77 => ?_) (fun c_77 => ?_)
    · replace h := (if_pos c_77).symm.trans h
      refine r_iload_n C 0 (q := 125) dX6_next_124 rfl rfl ?_
      obtain ⟨v_125, e_125, h⟩ := bs h
      refine r_callS C (st := []) (st2 := [.int v_125]) (q := 128) (m_X6_isDigit (xG X) (xl X) e_125) ok_X6_isDigit q_1229 rfl ⟨Nat.le_of_ble_eq_true rfl, Nat.le_of_ble_eq_true rfl⟩ rfl rfl (Nat.le_of_ble_eq_true rfl) dX6_next_125 rfl (fun hp_125 => ?_)
      refine r_if_eq C (tgt := 240) (q := 131) dX6_next_128 (by decide) rfl (fun c_128 => ?_) (fun c_128 => ?_)
      · replace h := (if_pos c_128).symm.trans h
        refine r_aload_n C 1 (q := 241) dX6_next_240 rfl rfl ?_
        refine r_iload_n C 0 (q := 242) dX6_next_241 rfl rfl ?_
        refine r_bipush C (v := 59) (q := 244) dX6_next_242 (by decide) rfl ?_
        refine r_icmp_ne C (tgt := 251) (q := 247) dX6_next_244 (by decide) rfl (fun c_244 => ?_) (fun c_244 => ?_)
        · replace h := (if_neg c_244).symm.trans h
          refine r_iconst C (v := (-1)) (q := 252) dX6_next_251 (by decide) rfl ?_
          refine r_sub (lv' := [(0, .ref ((xG X).1 x0))]) [1] rfl ?_
          exact w_X6_next_b252 C hr  _ _ _ _ hx0 hx0 h
        · replace h := (if_pos c_244).symm.trans h
          refine r_iconst C (v := 3) (q := 248) dX6_next_247 (by decide) rfl ?_
          refine r_goto C (tgt := 252) dX6_next_248 (by decide) ?_
          refine r_sub (lv' := [(0, .ref ((xG X).1 x0))]) [1] rfl ?_
          exact w_X6_next_b252 C hr  _ _ _ _ hx0 hx0 h
      · replace h := (if_neg c_128).symm.trans h
        refine r_aload_n C 1 (q := 132) dX6_next_131 rfl rfl ?_
        refine r_iconst C (v := 2) (q := 133) dX6_next_132 (by decide) rfl ?_
        obtain ⟨s_133, e_133, h⟩ := bs h
        refine p_X6_20 C (q := 136) dX6_next_133 q_1009 hx0 e_133 rfl ?_
        refine r_aload_n C 1 (q := 137) dX6_next_136 rfl rfl ?_
        refine r_iconst C (v := 0) (q := 138) dX6_next_137 (by decide) rfl ?_
        obtain ⟨s_138, e_138, h⟩ := bs h
        refine p_X6_21 C (q := 141) dX6_next_138 q_1010 hx0 e_138 rfl ?_
        refine r_sub (lv' := [(0, .ref ((xG X).1 x0))]) [1] rfl ?_
        exact w_X6_next_l141 C hr  FU _ _ hx0 h
    · replace h := (if_neg c_77).symm.trans h
      refine r_aload_n C 1 (q := 81) dX6_next_80 rfl rfl ?_
      refine r_iconst C (v := 1) (q := 82) dX6_next_81 (by decide) rfl ?_
      obtain ⟨s_82, e_82, h⟩ := bs h
      refine p_X6_20 C (q := 85) dX6_next_82 q_1009 hx0 e_82 rfl ?_
      refine r_sub (lv' := [(0, .ref ((xG X).1 x0))]) [1] rfl ?_
      exact w_X6_next_l85 C hr  FU _ _ hx0 h
  · replace h := (if_pos c_54).symm.trans h
    refine r_aload_n C 0 (q := 58) dX6_next_57 rfl rfl ?_
    refine r_iconst C (v := 0) (q := 59) dX6_next_58 (by decide) rfl ?_
    obtain ⟨s_59, e_59, h⟩ := bs h
    refine p_X6_20 C (q := 62) dX6_next_59 q_1009 hx0 e_59 rfl ?_
    obtain rfl := Option.some.inj h
    exact hr _ _ dX6_next_62

set_option maxHeartbeats 4000000 in
set_option maxRecDepth 100000 in
theorem w_X6_next_b0 {X : CX} (C : Cok X RX6 cX6_next 2 1 20) {σ' : St} (hr : RtV X cX6_next σ') (k_0 : St → Nat → Option St) (hk_0 : ∀ (σ : St) (x0 : Nat), kd x0 = 7 → k_0 σ x0 = some σ' → V X σ 0 [(0, .ref ((xG X).1 x0))] []) (σ : St) (x0 : Nat) (hx0 : kd x0 = 7) (h : f_X6_next_b0 k_0 σ x0 = some σ') : V X σ 0 [(0, .ref ((xG X).1 x0))] [] := by
  unfold f_X6_next_b0 at h
  refine r_aload_n C 0 (q := 1) dX6_next_0 rfl rfl ?_
  refine g_X6_18 C (q := 4) dX6_next_1 q_1007 hx0 rfl ?_
  refine r_aload_n C 0 (q := 5) dX6_next_4 rfl rfl ?_
  refine g_X6_16 C (q := 8) dX6_next_5 q_1005 hx0 rfl ?_
  refine r_icmp_ge C (tgt := 38) (q := 11) dX6_next_8 (by decide) rfl (fun c_8 => ?_) (fun c_8 => ?_)
  · replace h := (if_pos c_8).symm.trans h
    exact w_X6_next_b38 C hr  _ _ hx0 h
  · replace h := (if_neg c_8).symm.trans h
    refine r_aload_n C 0 (q := 12) dX6_next_11 rfl rfl ?_
    refine g_X6_17 C (q := 15) dX6_next_12 q_1006 hx0 rfl ?_
    refine r_aload_n C 0 (q := 16) dX6_next_15 rfl rfl ?_
    refine g_X6_18 C (q := 19) dX6_next_16 q_1007 hx0 rfl ?_
    obtain ⟨v_19, e_19, h⟩ := bs h
    refine r_iald C (q := 20) dX6_next_19 (kf_X6_17 hx0) e_19 rfl ?_
    refine r_bipush C (v := 32) (q := 22) dX6_next_20 (by decide) rfl ?_
    refine r_icmp_ne C (tgt := 38) (q := 25) dX6_next_22 (by decide) rfl (fun c_22 => ?_) (fun c_22 => ?_)
    · replace h := (if_neg c_22).symm.trans h
      exact w_X6_next_b38 C hr  _ _ hx0 h
    · replace h := (if_pos c_22).symm.trans h
      refine r_aload_n C 0 (q := 26) dX6_next_25 rfl rfl ?_
      refine r_dup C (q := 27) dX6_next_26 rfl rfl ?_
      refine g_X6_18 C (q := 30) dX6_next_27 q_1007 hx0 rfl ?_
      refine r_iconst C (v := 1) (q := 31) dX6_next_30 (by decide) rfl ?_
      refine r_iadd C (q := 32) dX6_next_31 rfl ?_
      obtain ⟨s_32, e_32, h⟩ := bs h
      refine p_X6_18 C (q := 35) dX6_next_32 q_1007 hx0 e_32 rfl ?_
      refine r_goto C (tgt := 0) dX6_next_35 (by decide) ?_
      exact hk_0 _ _ hx0 h

theorem w_X6_next_l0 {X : CX} (C : Cok X RX6 cX6_next 2 1 20) {σ' : St} (hr : RtV X cX6_next σ') (n : Nat) : ∀ (σ : St) (x0 : Nat), kd x0 = 7 → f_X6_next_l0 n σ x0 = some σ' → V X σ 0 [(0, .ref ((xG X).1 x0))] [] := by
  induction n with
  | zero =>
    intro σ x0 hx0 h
    exact nomatch (show (none : Option St) = some σ' from h)
  | succ n ih =>
    intro σ x0 hx0 h
    exact w_X6_next_b0 C hr _ ih σ x0 hx0 h
theorem w_X6_next_e0 {X : CX} (C : Cok X RX6 cX6_next 2 1 20) {σ' : St} (hr : RtV X cX6_next σ') (σ : St) (x0 : Nat) (hx0 : kd x0 = 7) (h : f_X6_next σ x0 = some σ') : V X σ 0 [(0, .ref ((xG X).1 x0))] [] := by
  unfold f_X6_next at h
  exact w_X6_next_l0 C hr FU _ _ hx0 h
theorem m_X6_next (G : Gm) (l : Launch) {σ σ' : St} {x0 : Nat} (hx0 : kd x0 = 7) (h : f_X6_next σ x0 = some σ') : Ctr G l yX6_next cX6_next 2 none 1 20 [.ref (G.1 x0)] σ none True σ' := by
  refine Ctr.v (by decide) (Nat.le_of_ble_eq_true rfl) ?_
  intro X hG C hr
  subst hG
  exact w_X6_next_e0 C hr _ _ hx0 h
-- X6_isWord
set_option maxHeartbeats 4000000 in
set_option maxRecDepth 100000 in
theorem w_X6_isWord_b28 {X : CX} (C : Cok X RX6 cX6_isWord 3 4 85) {σ : St} {r : Int32} (hr : RtZ X cX6_isWord r σ) (k_28 : Nat → Nat → Int32 → Option Int32) (hk_28 : ∀ (x0 : Nat) (x1 : Nat) (x2 : Int32), kd x0 = 7 → x1 < 9 → k_28 x0 x1 x2 = some r → V X σ 28 [(0, .ref ((xG X).1 x0)), (1, .ref ((xG X).2.2.2.1 x1)), (2, .int x2)] []) (x0 : Nat) (x1 : Nat) (x2 : Int32) (hx0 : kd x0 = 7) (hx1 : x1 < 9) (h : f_X6_isWord_b28 σ k_28 x0 x1 x2 = some r) : V X σ 28 [(0, .ref ((xG X).1 x0)), (1, .ref ((xG X).2.2.2.1 x1)), (2, .int x2)] [] := by
  unfold f_X6_isWord_b28 at h
  refine r_iload_n C 2 (q := 29) dX6_isWord_28 rfl rfl ?_
  refine r_aload_n C 1 (q := 30) dX6_isWord_29 rfl rfl ?_
  refine r_slen C (st := [.int x2]) (q := 33) dX6_isWord_30 q_1241 hx1 ⟨Nat.le_of_ble_eq_true rfl, Nat.le_of_ble_eq_true rfl⟩ (Nat.le_of_ble_eq_true rfl) rfl ?_
  refine r_icmp_ge C (tgt := 63) (q := 36) dX6_isWord_33 (by decide) rfl (fun c_33 => ?_) (fun c_33 => ?_)
  · replace h := (if_pos c_33).symm.trans h
    refine r_iconst C (v := 1) (q := 64) dX6_isWord_63 (by decide) rfl ?_
    obtain rfl := Option.some.inj h
    exact hr _ _ dX6_isWord_64 (Or.inr rfl)
  · replace h := (if_neg c_33).symm.trans h
    refine r_aload_n C 0 (q := 37) dX6_isWord_36 rfl rfl ?_
    refine g_X6_17 C (q := 40) dX6_isWord_37 q_1006 hx0 rfl ?_
    refine r_aload_n C 0 (q := 41) dX6_isWord_40 rfl rfl ?_
    refine g_X6_19 C (q := 44) dX6_isWord_41 q_1008 hx0 rfl ?_
    refine r_iload_n C 2 (q := 45) dX6_isWord_44 rfl rfl ?_
    refine r_iadd C (q := 46) dX6_isWord_45 rfl ?_
    obtain ⟨v_46, e_46, h⟩ := bs h
    refine r_iald C (q := 47) dX6_isWord_46 (kf_X6_17 hx0) e_46 rfl ?_
    refine r_aload_n C 1 (q := 48) dX6_isWord_47 rfl rfl ?_
    refine r_iload_n C 2 (q := 49) dX6_isWord_48 rfl rfl ?_
    obtain ⟨v_49, e_49, h⟩ := bs h
    refine r_schar C (st := [.int v_46]) (q := 52) dX6_isWord_49 q_1242 hx1 e_49 ⟨Nat.le_of_ble_eq_true rfl, Nat.le_of_ble_eq_true rfl⟩ (Nat.le_of_ble_eq_true rfl) rfl ?_
    refine r_icmp_eq C (tgt := 57) (q := 55) dX6_isWord_52 (by decide) rfl (fun c_52 => ?_) (fun c_52 => ?_)
    · replace h := (if_pos c_52).symm.trans h
      obtain ⟨y_57, e_57, h⟩ := bs h
      refine r_iinc C (v := y_57) (lv' := [(2, .int y_57), (0, .ref ((xG X).1 x0)), (1, .ref ((xG X).2.2.2.1 x1))]) (q := 60) 2 dX6_isWord_57 rfl (Option.some.inj e_57) (by decide) rfl rfl ?_
      refine r_goto C (tgt := 28) dX6_isWord_60 (by decide) ?_
      refine r_sub (lv' := [(0, .ref ((xG X).1 x0)), (1, .ref ((xG X).2.2.2.1 x1)), (2, .int y_57)]) [1, 2, 0] rfl ?_
      exact hk_28 _ _ _ hx0 hx1 h
    · replace h := (if_neg c_52).symm.trans h
      refine r_iconst C (v := 0) (q := 56) dX6_isWord_55 (by decide) rfl ?_
      obtain rfl := Option.some.inj h
      exact hr _ _ dX6_isWord_56 (Or.inl rfl)

theorem w_X6_isWord_l28 {X : CX} (C : Cok X RX6 cX6_isWord 3 4 85) {σ : St} {r : Int32} (hr : RtZ X cX6_isWord r σ) (n : Nat) : ∀ (x0 : Nat) (x1 : Nat) (x2 : Int32), kd x0 = 7 → x1 < 9 → f_X6_isWord_l28 σ n x0 x1 x2 = some r → V X σ 28 [(0, .ref ((xG X).1 x0)), (1, .ref ((xG X).2.2.2.1 x1)), (2, .int x2)] [] := by
  induction n with
  | zero =>
    intro x0 x1 x2 hx0 hx1 h
    exact nomatch (show (none : Option Int32) = some r from h)
  | succ n ih =>
    intro x0 x1 x2 hx0 hx1 h
    exact w_X6_isWord_b28 C hr _ ih x0 x1 x2 hx0 hx1 h
set_option maxHeartbeats 4000000 in
set_option maxRecDepth 100000 in
theorem w_X6_isWord_b0 {X : CX} (C : Cok X RX6 cX6_isWord 3 4 85) {σ : St} {r : Int32} (hr : RtZ X cX6_isWord r σ) (x0 : Nat) (x1 : Nat) (hx0 : kd x0 = 7) (hx1 : x1 < 9) (h : f_X6_isWord σ x0 x1 = some r) : V X σ 0 [(0, .ref ((xG X).1 x0)), (1, .ref ((xG X).2.2.2.1 x1))] [] := by
  unfold f_X6_isWord at h
  refine r_aload_n C 0 (q := 1) dX6_isWord_0 rfl rfl ?_
  refine g_X6_20 C (q := 4) dX6_isWord_1 q_1009 hx0 rfl ?_
  refine r_iconst C (v := 1) (q := 5) dX6_isWord_4 (by decide) rfl ?_
  refine r_icmp_ne C (tgt := 24) (q := 8) dX6_isWord_5 (by decide) rfl (fun c_5 => ?_) (fun c_5 => ?_)
  · replace h := (if_neg c_5).symm.trans h
    refine r_iconst C (v := 0) (q := 25) dX6_isWord_24 (by decide) rfl ?_
    obtain rfl := Option.some.inj h
    exact hr _ _ dX6_isWord_25 (Or.inl rfl)
  · replace h := (if_pos c_5).symm.trans h
    refine r_aload_n C 0 (q := 9) dX6_isWord_8 rfl rfl ?_
    refine g_X6_18 C (q := 12) dX6_isWord_9 q_1007 hx0 rfl ?_
    refine r_aload_n C 0 (q := 13) dX6_isWord_12 rfl rfl ?_
    refine g_X6_19 C (q := 16) dX6_isWord_13 q_1008 hx0 rfl ?_
    refine r_isub C (q := 17) dX6_isWord_16 rfl ?_
    refine r_aload_n C 1 (q := 18) dX6_isWord_17 rfl rfl ?_
    refine r_slen C (st := [.int ((σ.1 x0 18) - (σ.1 x0 19))]) (q := 21) dX6_isWord_18 q_1241 hx1 ⟨Nat.le_of_ble_eq_true rfl, Nat.le_of_ble_eq_true rfl⟩ (Nat.le_of_ble_eq_true rfl) rfl ?_
    refine r_icmp_eq C (tgt := 26) (q := 24) dX6_isWord_21 (by decide) rfl (fun c_21 => ?_) (fun c_21 => ?_)
    · replace h := (if_pos c_21).symm.trans h
      refine r_iconst C (v := 0) (q := 27) dX6_isWord_26 (by decide) rfl ?_
      refine r_istore_n C (lv' := [(2, .int 0), (0, .ref ((xG X).1 x0)), (1, .ref ((xG X).2.2.2.1 x1))]) (q := 28) dX6_isWord_27 rfl (by decide) rfl rfl ?_
      refine r_sub (lv' := [(0, .ref ((xG X).1 x0)), (1, .ref ((xG X).2.2.2.1 x1)), (2, .int 0)]) [1, 2, 0] rfl ?_
      exact w_X6_isWord_l28 C hr  FU _ _ _ hx0 hx1 h
    · replace h := (if_neg c_21).symm.trans h
      refine r_iconst C (v := 0) (q := 25) dX6_isWord_24 (by decide) rfl ?_
      obtain rfl := Option.some.inj h
      exact hr _ _ dX6_isWord_25 (Or.inl rfl)

theorem m_X6_isWord (G : Gm) (l : Launch) {σ : St} {x0 : Nat} {x1 : Nat} (hx0 : kd x0 = 7) (hx1 : x1 < 9) {r : Int32} (h : f_X6_isWord σ x0 x1 = some r) : Ctr G l yX6_isWord cX6_isWord 3 (some .boolean) 4 85 [.ref (G.1 x0), .ref (G.2.2.2.1 x1)] σ (some (.int r)) (r = 0 ∨ r = 1) σ := by
  refine Ctr.z (by decide) (Nat.le_of_ble_eq_true rfl) ?_
  intro X hG C hr
  subst hG
  exact w_X6_isWord_b0 C hr _ _ hx0 hx1 h
-- X6_number
set_option maxHeartbeats 4000000 in
set_option maxRecDepth 100000 in
theorem w_X6_number_b0 {X : CX} (C : Cok X RX6 cX6_number 3 2 41) {σ' : St} {r : Int32} (hr : RtZ X cX6_number r σ') (σ : St) (x0 : Nat) (x1 : Int32) (x2 : Int32) (hx0 : kd x0 = 7) (h : f_X6_number σ x0 x1 x2 = some (r, σ')) : V X σ 0 [(0, .ref ((xG X).1 x0)), (1, .int x1), (2, .int x2)] [] := by
  unfold f_X6_number at h
  refine r_aload_n C 0 (q := 1) dX6_number_0 rfl rfl ?_
  obtain ⟨s_1, e_1, h⟩ := bs h
  refine r_callV C (ci := 6) (st := []) (st2 := []) (q := 4) (m_X6_next (xG X) (xl X) hx0 e_1) ok_X6_next hx0 rfl ⟨_, rfl⟩ q_1222 rfl ⟨Nat.le_of_ble_eq_true rfl, Nat.le_of_ble_eq_true rfl⟩ rfl rfl (Nat.le_of_ble_eq_true rfl) dX6_number_1 rfl (fun hp_1 => ?_)
  refine r_aload_n C 0 (q := 5) dX6_number_4 rfl rfl ?_
  refine g_X6_20 C (q := 8) dX6_number_5 q_1009 hx0 rfl ?_
  refine r_iconst C (v := 2) (q := 9) dX6_number_8 (by decide) rfl ?_
  refine r_icmp_ne C (tgt := 28) (q := 12) dX6_number_9 (by decide) rfl (fun c_9 => ?_) (fun c_9 => ?_)
  · replace h := (if_neg c_9).symm.trans h
    refine r_iconst C (v := 0) (q := 29) dX6_number_28 (by decide) rfl ?_
    obtain ⟨rfl, rfl⟩ := Prod.mk.inj (Option.some.inj h)
    exact hr _ _ dX6_number_29 (Or.inl rfl)
  · replace h := (if_pos c_9).symm.trans h
    refine r_aload_n C 0 (q := 13) dX6_number_12 rfl rfl ?_
    refine g_X6_21 C (q := 16) dX6_number_13 q_1010 hx0 rfl ?_
    refine r_iload_n C 1 (q := 17) dX6_number_16 rfl rfl ?_
    refine r_iload_n C 2 (q := 18) dX6_number_17 rfl rfl ?_
    obtain ⟨v_18, e_18, h⟩ := bs h
    refine r_callS C (st := []) (st2 := [.int v_18]) (q := 21) (m_X6_within (xG X) (xl X) e_18) ok_X6_within q_1081 rfl ⟨Nat.le_of_ble_eq_true rfl, Nat.le_of_ble_eq_true rfl⟩ rfl rfl (Nat.le_of_ble_eq_true rfl) dX6_number_18 rfl (fun hp_18 => ?_)
    refine r_if_eq C (tgt := 28) (q := 24) dX6_number_21 (by decide) rfl (fun c_21 => ?_) (fun c_21 => ?_)
    · replace h := (if_pos c_21).symm.trans h
      refine r_iconst C (v := 0) (q := 29) dX6_number_28 (by decide) rfl ?_
      obtain ⟨rfl, rfl⟩ := Prod.mk.inj (Option.some.inj h)
      exact hr _ _ dX6_number_29 (Or.inl rfl)
    · replace h := (if_neg c_21).symm.trans h
      refine r_iconst C (v := 1) (q := 25) dX6_number_24 (by decide) rfl ?_
      refine r_goto C (tgt := 29) dX6_number_25 (by decide) ?_
      obtain ⟨rfl, rfl⟩ := Prod.mk.inj (Option.some.inj h)
      exact hr _ _ dX6_number_29 (Or.inr rfl)

theorem m_X6_number (G : Gm) (l : Launch) {σ σ' : St} {x0 : Nat} {x1 : Int32} {x2 : Int32} (hx0 : kd x0 = 7) {r : Int32} (h : f_X6_number σ x0 x1 x2 = some (r, σ')) : Ctr G l yX6_number cX6_number 3 (some .boolean) 2 41 [.ref (G.1 x0), .int x1, .int x2] σ (some (.int r)) (r = 0 ∨ r = 1) σ' := by
  refine Ctr.z (by decide) (Nat.le_of_ble_eq_true rfl) ?_
  intro X hG C hr
  subst hG
  exact w_X6_number_b0 C hr _ _ _ _ hx0 h
-- X6_statement
set_option maxHeartbeats 4000000 in
set_option maxRecDepth 100000 in
theorem w_X6_statement_b362 {X : CX} (C : Cok X RX6 cX6_statement 5 5 107) {σ' : St} {r : Int32} (hr : RtZ X cX6_statement r σ') (σ : St) (x0 : Nat) (hx0 : kd x0 = 7) (h : f_X6_statement_b362 σ x0 = some (r, σ')) : V X σ 362 [(0, .ref ((xG X).1 x0))] [] := by
  unfold f_X6_statement_b362 at h
  refine r_aload_n C 0 (q := 363) dX6_statement_362 rfl rfl ?_
  refine r_ldcS C (q := 365) dX6_statement_363 sr_17 rfl ?_
  obtain ⟨v_365, e_365, h⟩ := bs h
  refine r_callV C (ci := 6) (st := []) (st2 := [.int v_365]) (q := 368) (m_X6_isWord (xG X) (xl X) hx0 (by decide) e_365) ok_X6_isWord hx0 rfl ⟨_, rfl⟩ q_1237 rfl ⟨Nat.le_of_ble_eq_true rfl, Nat.le_of_ble_eq_true rfl⟩ rfl rfl (Nat.le_of_ble_eq_true rfl) dX6_statement_365 rfl (fun hp_365 => ?_)
  refine r_if_eq C (tgt := 385) (q := 371) dX6_statement_368 (by decide) rfl (fun c_368 => ?_) (fun c_368 => ?_)
  · replace h := (if_pos c_368).symm.trans h
    refine r_iconst C (v := 0) (q := 386) dX6_statement_385 (by decide) rfl ?_
    obtain ⟨rfl, rfl⟩ := Prod.mk.inj (Option.some.inj h)
    exact hr _ _ dX6_statement_386 (Or.inl rfl)
  · replace h := (if_neg c_368).symm.trans h
    refine r_aload_n C 0 (q := 372) dX6_statement_371 rfl rfl ?_
    refine r_iconst C (v := 0) (q := 373) dX6_statement_372 (by decide) rfl ?_
    refine r_aload_n C 0 (q := 374) dX6_statement_373 rfl rfl ?_
    refine g_X6_6 C (q := 377) dX6_statement_374 q_995 hx0 rfl ?_
    refine r_iconst C (v := 1) (q := 378) dX6_statement_377 (by decide) rfl ?_
    refine r_isub C (q := 379) dX6_statement_378 rfl ?_
    obtain ⟨v_379, s_379, e_379, h⟩ := bs2 h
    refine r_callV C (ci := 6) (st := []) (st2 := [.int v_379]) (q := 382) (m_X6_number (xG X) (xl X) hx0 e_379) ok_X6_number hx0 rfl ⟨_, rfl⟩ q_1243 rfl ⟨Nat.le_of_ble_eq_true rfl, Nat.le_of_ble_eq_true rfl⟩ rfl rfl (Nat.le_of_ble_eq_true rfl) dX6_statement_379 rfl (fun hp_379 => ?_)
    refine r_if_ne C (tgt := 387) (q := 385) dX6_statement_382 (by decide) rfl (fun c_382 => ?_) (fun c_382 => ?_)
    · replace h := (if_neg c_382).symm.trans h
      refine r_aload_n C 0 (q := 388) dX6_statement_387 rfl rfl ?_
      refine g_X6_21 C (q := 391) dX6_statement_388 q_1010 hx0 rfl ?_
      obtain ⟨y_391, e_391, h⟩ := bs h
      refine r_topI (Option.some.inj e_391) ?_
      refine r_istore_n C (lv' := [(2, .int y_391), (0, .ref ((xG X).1 x0))]) (q := 392) dX6_statement_391 rfl (by decide) rfl rfl ?_
      refine r_aload_n C 1 (q := 393) dX6_statement_392 rfl rfl ?_
      refine r_iconst C (v := 0) (q := 394) dX6_statement_393 (by decide) rfl ?_
      refine r_aload_n C 1 (q := 395) dX6_statement_394 rfl rfl ?_
      refine g_X6_11 C (q := 398) dX6_statement_395 q_1000 hx0 rfl ?_
      refine r_iconst C (v := 1) (q := 399) dX6_statement_398 (by decide) rfl ?_
      refine r_isub C (q := 400) dX6_statement_399 rfl ?_
      obtain ⟨v_400, s_400, e_400, h⟩ := bs2 h
      refine r_callV C (ci := 6) (st := []) (st2 := [.int v_400]) (q := 403) (m_X6_number (xG X) (xl X) hx0 e_400) ok_X6_number hx0 rfl ⟨_, rfl⟩ q_1243 rfl ⟨Nat.le_of_ble_eq_true rfl, Nat.le_of_ble_eq_true rfl⟩ rfl rfl (Nat.le_of_ble_eq_true rfl) dX6_statement_400 rfl (fun hp_400 => ?_)
      refine r_if_ne C (tgt := 408) (q := 406) dX6_statement_403 (by decide) rfl (fun c_403 => ?_) (fun c_403 => ?_)
      · replace h := (if_neg c_403).symm.trans h
        refine r_aload_n C 1 (q := 409) dX6_statement_408 rfl rfl ?_
        refine g_X6_9 C (q := 412) dX6_statement_409 q_998 hx0 rfl ?_
        refine r_iload_n C 0 (q := 413) dX6_statement_412 rfl rfl ?_
        refine r_dup2 C (q := 414) dX6_statement_413 rfl rfl rfl ?_
        obtain ⟨v_414, e_414, h⟩ := bs h
        refine r_iald C (q := 415) dX6_statement_414 (kf_X6_9 hx0) e_414 rfl ?_
        refine r_iconst C (v := 1) (q := 416) dX6_statement_415 (by decide) rfl ?_
        refine r_aload_n C 1 (q := 417) dX6_statement_416 rfl rfl ?_
        refine g_X6_21 C (q := 420) dX6_statement_417 q_1010 hx0 rfl ?_
        refine r_ishl C (q := 421) dX6_statement_420 rfl ?_
        refine r_ior C (q := 422) dX6_statement_421 rfl ?_
        obtain ⟨s_422, e_422, h⟩ := bs h
        refine r_iast C (q := 423) dX6_statement_422 (kf_X6_9 hx0) e_422 rfl ?_
        refine r_aload_n C 1 (q := 424) dX6_statement_423 rfl rfl ?_
        obtain ⟨s_424, e_424, h⟩ := bs h
        refine r_callV C (ci := 6) (st := []) (st2 := []) (q := 427) (m_X6_next (xG X) (xl X) hx0 e_424) ok_X6_next hx0 rfl ⟨_, rfl⟩ q_1222 rfl ⟨Nat.le_of_ble_eq_true rfl, Nat.le_of_ble_eq_true rfl⟩ rfl rfl (Nat.le_of_ble_eq_true rfl) dX6_statement_424 rfl (fun hp_424 => ?_)
        refine r_iconst C (v := 1) (q := 428) dX6_statement_427 (by decide) rfl ?_
        obtain ⟨rfl, rfl⟩ := Prod.mk.inj (Option.some.inj h)
        exact hr _ _ dX6_statement_428 (Or.inr rfl)
      · replace h := (if_pos c_403).symm.trans h
        refine r_iconst C (v := 0) (q := 407) dX6_statement_406 (by decide) rfl ?_
        obtain ⟨rfl, rfl⟩ := Prod.mk.inj (Option.some.inj h)
        exact hr _ _ dX6_statement_407 (Or.inl rfl)
    · replace h := (if_pos c_382).symm.trans h
      refine r_iconst C (v := 0) (q := 386) dX6_statement_385 (by decide) rfl ?_
      obtain ⟨rfl, rfl⟩ := Prod.mk.inj (Option.some.inj h)
      exact hr _ _ dX6_statement_386 (Or.inl rfl)

set_option maxHeartbeats 4000000 in
set_option maxRecDepth 100000 in
theorem w_X6_statement_b338 {X : CX} (C : Cok X RX6 cX6_statement 5 5 107) {σ' : St} {r : Int32} (hr : RtZ X cX6_statement r σ') (σ : St) (x0 : Nat) (x2 : Int32) (hx0 : kd x0 = 7) (h : f_X6_statement_b338 σ x0 x2 = some (r, σ')) : V X σ 338 [(0, .ref ((xG X).1 x0)), (2, .int x2)] [] := by
  unfold f_X6_statement_b338 at h
  refine r_aload_n C 0 (q := 339) dX6_statement_338 rfl rfl ?_
  refine r_ldcS C (q := 341) dX6_statement_339 sr_16 rfl ?_
  obtain ⟨v_341, e_341, h⟩ := bs h
  refine r_callV C (ci := 6) (st := []) (st2 := [.int v_341]) (q := 344) (m_X6_isWord (xG X) (xl X) hx0 (by decide) e_341) ok_X6_isWord hx0 rfl ⟨_, rfl⟩ q_1237 rfl ⟨Nat.le_of_ble_eq_true rfl, Nat.le_of_ble_eq_true rfl⟩ rfl rfl (Nat.le_of_ble_eq_true rfl) dX6_statement_341 rfl (fun hp_341 => ?_)
  refine r_if_ne C (tgt := 349) (q := 347) dX6_statement_344 (by decide) rfl (fun c_344 => ?_) (fun c_344 => ?_)
  · replace h := (if_neg c_344).symm.trans h
    refine r_aload_n C 0 (q := 350) dX6_statement_349 rfl rfl ?_
    refine g_X6_12 C (q := 353) dX6_statement_350 q_1001 hx0 rfl ?_
    refine r_iload_n C 1 (q := 354) dX6_statement_353 rfl rfl ?_
    refine r_iconst C (v := 1) (q := 355) dX6_statement_354 (by decide) rfl ?_
    obtain ⟨s_355, e_355, h⟩ := bs h
    refine r_iast C (q := 356) dX6_statement_355 (kf_X6_12 hx0) e_355 rfl ?_
    refine r_aload_n C 0 (q := 357) dX6_statement_356 rfl rfl ?_
    obtain ⟨s_357, e_357, h⟩ := bs h
    refine r_callV C (ci := 6) (st := []) (st2 := []) (q := 360) (m_X6_next (xG X) (xl X) hx0 e_357) ok_X6_next hx0 rfl ⟨_, rfl⟩ q_1222 rfl ⟨Nat.le_of_ble_eq_true rfl, Nat.le_of_ble_eq_true rfl⟩ rfl rfl (Nat.le_of_ble_eq_true rfl) dX6_statement_357 rfl (fun hp_357 => ?_)
    refine r_iconst C (v := 1) (q := 361) dX6_statement_360 (by decide) rfl ?_
    obtain ⟨rfl, rfl⟩ := Prod.mk.inj (Option.some.inj h)
    exact hr _ _ dX6_statement_361 (Or.inr rfl)
  · replace h := (if_pos c_344).symm.trans h
    refine r_iconst C (v := 1) (q := 348) dX6_statement_347 (by decide) rfl ?_
    obtain ⟨rfl, rfl⟩ := Prod.mk.inj (Option.some.inj h)
    exact hr _ _ dX6_statement_348 (Or.inr rfl)

set_option maxHeartbeats 4000000 in
set_option maxRecDepth 100000 in
theorem w_X6_statement_b292 {X : CX} (C : Cok X RX6 cX6_statement 5 5 107) {σ' : St} {r : Int32} (hr : RtZ X cX6_statement r σ') (k_292 : St → Nat → Int32 → Int32 → Option (Int32 × St)) (hk_292 : ∀ (σ : St) (x0 : Nat) (x2 : Int32) (x3 : Int32), kd x0 = 7 → k_292 σ x0 x2 x3 = some (r, σ') → V X σ 292 [(0, .ref ((xG X).1 x0)), (2, .int x2), (3, .int x3)] []) (σ : St) (x0 : Nat) (x2 : Int32) (x3 : Int32) (hx0 : kd x0 = 7) (h : f_X6_statement_b292 k_292 σ x0 x2 x3 = some (r, σ')) : V X σ 292 [(0, .ref ((xG X).1 x0)), (2, .int x2), (3, .int x3)] [] := by
  unfold f_X6_statement_b292 at h
  refine r_iload_n C 2 (q := 293) dX6_statement_292 rfl rfl ?_
  refine r_aload_n C 0 (q := 294) dX6_statement_293 rfl rfl ?_
  refine g_X6_3 C (q := 297) dX6_statement_294 q_992 hx0 rfl ?_
  refine r_icmp_ge C (tgt := 334) (q := 300) dX6_statement_297 (by decide) rfl (fun c_297 => ?_) (fun c_297 => ?_)
  · replace h := (if_pos c_297).symm.trans h
    refine r_aload_n C 0 (q := 335) dX6_statement_334 rfl rfl ?_
    obtain ⟨s_335, e_335, h⟩ := bs h
    refine r_callV C (ci := 6) (st := []) (st2 := []) (q := 338) (m_X6_next (xG X) (xl X) hx0 e_335) ok_X6_next hx0 rfl ⟨_, rfl⟩ q_1222 rfl ⟨Nat.le_of_ble_eq_true rfl, Nat.le_of_ble_eq_true rfl⟩ rfl rfl (Nat.le_of_ble_eq_true rfl) dX6_statement_335 rfl (fun hp_335 => ?_)
    refine r_sub (lv' := [(0, .ref ((xG X).1 x0)), (2, .int x2)]) [0, 1] rfl ?_
    exact w_X6_statement_b338 C hr  _ _ _ hx0 h
  · replace h := (if_neg c_297).symm.trans h
    refine r_aload_n C 0 (q := 301) dX6_statement_300 rfl rfl ?_
    refine r_iconst C (v := 0) (q := 302) dX6_statement_301 (by decide) rfl ?_
    refine r_aload_n C 0 (q := 303) dX6_statement_302 rfl rfl ?_
    refine g_X6_4 C (q := 306) dX6_statement_303 q_993 hx0 rfl ?_
    obtain ⟨v_306, s_306, e_306, h⟩ := bs2 h
    refine r_callV C (ci := 6) (st := []) (st2 := [.int v_306]) (q := 309) (m_X6_number (xG X) (xl X) hx0 e_306) ok_X6_number hx0 rfl ⟨_, rfl⟩ q_1243 rfl ⟨Nat.le_of_ble_eq_true rfl, Nat.le_of_ble_eq_true rfl⟩ rfl rfl (Nat.le_of_ble_eq_true rfl) dX6_statement_306 rfl (fun hp_306 => ?_)
    refine r_if_ne C (tgt := 314) (q := 312) dX6_statement_309 (by decide) rfl (fun c_309 => ?_) (fun c_309 => ?_)
    · replace h := (if_neg c_309).symm.trans h
      refine r_aload_n C 0 (q := 315) dX6_statement_314 rfl rfl ?_
      refine g_X6_13 C (q := 318) dX6_statement_315 q_1002 hx0 rfl ?_
      refine r_iconst C (v := 5) (q := 319) dX6_statement_318 (by decide) rfl ?_
      refine r_iload_n C 1 (q := 320) dX6_statement_319 rfl rfl ?_
      refine r_imul C (q := 321) dX6_statement_320 rfl ?_
      refine r_iload_n C 2 (q := 322) dX6_statement_321 rfl rfl ?_
      refine r_iadd C (q := 323) dX6_statement_322 rfl ?_
      refine r_aload_n C 0 (q := 324) dX6_statement_323 rfl rfl ?_
      refine g_X6_21 C (q := 327) dX6_statement_324 q_1010 hx0 rfl ?_
      obtain ⟨s_327, e_327, h⟩ := bs h
      refine r_iast C (q := 328) dX6_statement_327 (kf_X6_13 hx0) e_327 rfl ?_
      obtain ⟨y_328, e_328, h⟩ := bs h
      refine r_iinc C (v := y_328) (lv' := [(3, .int y_328), (0, .ref ((xG X).1 x0)), (2, .int x2)]) (q := 331) 2 dX6_statement_328 rfl (Option.some.inj e_328) (by decide) rfl rfl ?_
      refine r_goto C (tgt := 292) dX6_statement_331 (by decide) ?_
      refine r_sub (lv' := [(0, .ref ((xG X).1 x0)), (2, .int x2), (3, .int y_328)]) [1, 2, 0] rfl ?_
      exact hk_292 _ _ _ _ hx0 h
    · replace h := (if_pos c_309).symm.trans h
      refine r_iconst C (v := 0) (q := 313) dX6_statement_312 (by decide) rfl ?_
      obtain ⟨rfl, rfl⟩ := Prod.mk.inj (Option.some.inj h)
      exact hr _ _ dX6_statement_313 (Or.inl rfl)

theorem w_X6_statement_l292 {X : CX} (C : Cok X RX6 cX6_statement 5 5 107) {σ' : St} {r : Int32} (hr : RtZ X cX6_statement r σ') (n : Nat) : ∀ (σ : St) (x0 : Nat) (x2 : Int32) (x3 : Int32), kd x0 = 7 → f_X6_statement_l292 n σ x0 x2 x3 = some (r, σ') → V X σ 292 [(0, .ref ((xG X).1 x0)), (2, .int x2), (3, .int x3)] [] := by
  induction n with
  | zero =>
    intro σ x0 x2 x3 hx0 h
    exact nomatch (show (none : Option (Int32 × St)) = some (r, σ') from h)
  | succ n ih =>
    intro σ x0 x2 x3 hx0 h
    exact w_X6_statement_b292 C hr _ ih σ x0 x2 x3 hx0 h
set_option maxHeartbeats 4000000 in
set_option maxRecDepth 100000 in
theorem w_X6_statement_b253 {X : CX} (C : Cok X RX6 cX6_statement 5 5 107) {σ' : St} {r : Int32} (hr : RtZ X cX6_statement r σ') (σ : St) (x0 : Nat) (hx0 : kd x0 = 7) (h : f_X6_statement_b253 σ x0 = some (r, σ')) : V X σ 253 [(0, .ref ((xG X).1 x0))] [] := by
  unfold f_X6_statement_b253 at h
  refine r_aload_n C 0 (q := 254) dX6_statement_253 rfl rfl ?_
  refine g_X6_11 C (q := 257) dX6_statement_254 q_1000 hx0 rfl ?_
  refine r_bipush C (v := 8) (q := 259) dX6_statement_257 (by decide) rfl ?_
  refine r_icmp_ge C (tgt := 362) (q := 262) dX6_statement_259 (by decide) rfl (fun c_259 => ?_) (fun c_259 => ?_)
  · replace h := (if_pos c_259).symm.trans h
    exact w_X6_statement_b362 C hr  _ _ hx0 h
  · replace h := (if_neg c_259).symm.trans h
    refine r_aload_n C 0 (q := 263) dX6_statement_262 rfl rfl ?_
    refine r_ldcS C (q := 265) dX6_statement_263 sr_14 rfl ?_
    obtain ⟨v_265, e_265, h⟩ := bs h
    refine r_callV C (ci := 6) (st := []) (st2 := [.int v_265]) (q := 268) (m_X6_isWord (xG X) (xl X) hx0 (by decide) e_265) ok_X6_isWord hx0 rfl ⟨_, rfl⟩ q_1237 rfl ⟨Nat.le_of_ble_eq_true rfl, Nat.le_of_ble_eq_true rfl⟩ rfl rfl (Nat.le_of_ble_eq_true rfl) dX6_statement_265 rfl (fun hp_265 => ?_)
    refine r_if_eq C (tgt := 362) (q := 271) dX6_statement_268 (by decide) rfl (fun c_268 => ?_) (fun c_268 => ?_)
    · replace h := (if_pos c_268).symm.trans h
      exact w_X6_statement_b362 C hr  _ _ hx0 h
    · replace h := (if_neg c_268).symm.trans h
      refine r_aload_n C 0 (q := 272) dX6_statement_271 rfl rfl ?_
      refine r_iconst C (v := 0) (q := 273) dX6_statement_272 (by decide) rfl ?_
      obtain ⟨v_273, s_273, e_273, h⟩ := bs2 h
      refine r_callV C (ci := 6) (st := []) (st2 := [.int v_273]) (q := 276) (m_X6_newLock (xG X) (xl X) hx0 e_273) ok_X6_newLock hx0 rfl ⟨_, rfl⟩ q_1179 rfl ⟨Nat.le_of_ble_eq_true rfl, Nat.le_of_ble_eq_true rfl⟩ rfl rfl (Nat.le_of_ble_eq_true rfl) dX6_statement_273 rfl (fun hp_273 => ?_)
      refine r_istore_n C (lv' := [(2, .int v_273), (0, .ref ((xG X).1 x0))]) (q := 277) dX6_statement_276 rfl (by decide) rfl rfl ?_
      refine r_aload_n C 1 (q := 278) dX6_statement_277 rfl rfl ?_
      obtain ⟨s_278, e_278, h⟩ := bs h
      refine r_callV C (ci := 6) (st := []) (st2 := []) (q := 281) (m_X6_next (xG X) (xl X) hx0 e_278) ok_X6_next hx0 rfl ⟨_, rfl⟩ q_1222 rfl ⟨Nat.le_of_ble_eq_true rfl, Nat.le_of_ble_eq_true rfl⟩ rfl rfl (Nat.le_of_ble_eq_true rfl) dX6_statement_278 rfl (fun hp_278 => ?_)
      refine r_aload_n C 1 (q := 282) dX6_statement_281 rfl rfl ?_
      refine r_ldcS C (q := 284) dX6_statement_282 sr_15 rfl ?_
      obtain ⟨v_284, e_284, h⟩ := bs h
      refine r_callV C (ci := 6) (st := []) (st2 := [.int v_284]) (q := 287) (m_X6_isWord (xG X) (xl X) hx0 (by decide) e_284) ok_X6_isWord hx0 rfl ⟨_, rfl⟩ q_1237 rfl ⟨Nat.le_of_ble_eq_true rfl, Nat.le_of_ble_eq_true rfl⟩ rfl rfl (Nat.le_of_ble_eq_true rfl) dX6_statement_284 rfl (fun hp_284 => ?_)
      refine r_if_eq C (tgt := 338) (q := 290) dX6_statement_287 (by decide) rfl (fun c_287 => ?_) (fun c_287 => ?_)
      · replace h := (if_pos c_287).symm.trans h
        refine r_sub (lv' := [(0, .ref ((xG X).1 x0)), (2, .int v_273)]) [1, 0] rfl ?_
        exact w_X6_statement_b338 C hr  _ _ _ hx0 h
      · replace h := (if_neg c_287).symm.trans h
        refine r_iconst C (v := 0) (q := 291) dX6_statement_290 (by decide) rfl ?_
        refine r_istore_n C (lv' := [(3, .int 0), (2, .int v_273), (0, .ref ((xG X).1 x0))]) (q := 292) dX6_statement_291 rfl (by decide) rfl rfl ?_
        refine r_sub (lv' := [(0, .ref ((xG X).1 x0)), (2, .int v_273), (3, .int 0)]) [2, 1, 0] rfl ?_
        exact w_X6_statement_l292 C hr  FU _ _ _ _ hx0 h

set_option maxHeartbeats 4000000 in
set_option maxRecDepth 100000 in
theorem w_X6_statement_b203 {X : CX} (C : Cok X RX6 cX6_statement 5 5 107) {σ' : St} {r : Int32} (hr : RtZ X cX6_statement r σ') (k_203 : St → Nat → Int32 → Int32 → Option (Int32 × St)) (hk_203 : ∀ (σ : St) (x0 : Nat) (x3 : Int32) (x4 : Int32), kd x0 = 7 → k_203 σ x0 x3 x4 = some (r, σ') → V X σ 203 [(0, .ref ((xG X).1 x0)), (3, .int x3), (4, .int x4)] []) (σ : St) (x0 : Nat) (x3 : Int32) (x4 : Int32) (hx0 : kd x0 = 7) (h : f_X6_statement_b203 k_203 σ x0 x3 x4 = some (r, σ')) : V X σ 203 [(0, .ref ((xG X).1 x0)), (3, .int x3), (4, .int x4)] [] := by
  unfold f_X6_statement_b203 at h
  refine r_iload C 2 (q := 205) dX6_statement_203 rfl rfl ?_
  refine r_aload_n C 0 (q := 206) dX6_statement_205 rfl rfl ?_
  refine g_X6_3 C (q := 209) dX6_statement_206 q_992 hx0 rfl ?_
  refine r_icmp_ge C (tgt := 247) (q := 212) dX6_statement_209 (by decide) rfl (fun c_209 => ?_) (fun c_209 => ?_)
  · replace h := (if_pos c_209).symm.trans h
    refine r_aload_n C 0 (q := 248) dX6_statement_247 rfl rfl ?_
    obtain ⟨s_248, e_248, h⟩ := bs h
    refine r_callV C (ci := 6) (st := []) (st2 := []) (q := 251) (m_X6_next (xG X) (xl X) hx0 e_248) ok_X6_next hx0 rfl ⟨_, rfl⟩ q_1222 rfl ⟨Nat.le_of_ble_eq_true rfl, Nat.le_of_ble_eq_true rfl⟩ rfl rfl (Nat.le_of_ble_eq_true rfl) dX6_statement_248 rfl (fun hp_248 => ?_)
    refine r_iconst C (v := 1) (q := 252) dX6_statement_251 (by decide) rfl ?_
    obtain ⟨rfl, rfl⟩ := Prod.mk.inj (Option.some.inj h)
    exact hr _ _ dX6_statement_252 (Or.inr rfl)
  · replace h := (if_neg c_209).symm.trans h
    refine r_aload_n C 0 (q := 213) dX6_statement_212 rfl rfl ?_
    refine r_iconst C (v := 0) (q := 214) dX6_statement_213 (by decide) rfl ?_
    refine r_aload_n C 0 (q := 215) dX6_statement_214 rfl rfl ?_
    refine g_X6_4 C (q := 218) dX6_statement_215 q_993 hx0 rfl ?_
    obtain ⟨v_218, s_218, e_218, h⟩ := bs2 h
    refine r_callV C (ci := 6) (st := []) (st2 := [.int v_218]) (q := 221) (m_X6_number (xG X) (xl X) hx0 e_218) ok_X6_number hx0 rfl ⟨_, rfl⟩ q_1243 rfl ⟨Nat.le_of_ble_eq_true rfl, Nat.le_of_ble_eq_true rfl⟩ rfl rfl (Nat.le_of_ble_eq_true rfl) dX6_statement_218 rfl (fun hp_218 => ?_)
    refine r_if_ne C (tgt := 226) (q := 224) dX6_statement_221 (by decide) rfl (fun c_221 => ?_) (fun c_221 => ?_)
    · replace h := (if_neg c_221).symm.trans h
      refine r_aload_n C 0 (q := 227) dX6_statement_226 rfl rfl ?_
      refine g_X6_10 C (q := 230) dX6_statement_227 q_999 hx0 rfl ?_
      refine r_iconst C (v := 5) (q := 231) dX6_statement_230 (by decide) rfl ?_
      refine r_iload_n C 1 (q := 232) dX6_statement_231 rfl rfl ?_
      refine r_imul C (q := 233) dX6_statement_232 rfl ?_
      refine r_iload C 2 (q := 235) dX6_statement_233 rfl rfl ?_
      refine r_iadd C (q := 236) dX6_statement_235 rfl ?_
      refine r_aload_n C 0 (q := 237) dX6_statement_236 rfl rfl ?_
      refine g_X6_21 C (q := 240) dX6_statement_237 q_1010 hx0 rfl ?_
      obtain ⟨s_240, e_240, h⟩ := bs h
      refine r_iast C (q := 241) dX6_statement_240 (kf_X6_10 hx0) e_240 rfl ?_
      obtain ⟨y_241, e_241, h⟩ := bs h
      refine r_iinc C (v := y_241) (lv' := [(4, .int y_241), (0, .ref ((xG X).1 x0)), (3, .int x3)]) (q := 244) 2 dX6_statement_241 rfl (Option.some.inj e_241) (by decide) rfl rfl ?_
      refine r_goto C (tgt := 203) dX6_statement_244 (by decide) ?_
      refine r_sub (lv' := [(0, .ref ((xG X).1 x0)), (3, .int x3), (4, .int y_241)]) [1, 2, 0] rfl ?_
      exact hk_203 _ _ _ _ hx0 h
    · replace h := (if_pos c_221).symm.trans h
      refine r_iconst C (v := 0) (q := 225) dX6_statement_224 (by decide) rfl ?_
      obtain ⟨rfl, rfl⟩ := Prod.mk.inj (Option.some.inj h)
      exact hr _ _ dX6_statement_225 (Or.inl rfl)

theorem w_X6_statement_l203 {X : CX} (C : Cok X RX6 cX6_statement 5 5 107) {σ' : St} {r : Int32} (hr : RtZ X cX6_statement r σ') (n : Nat) : ∀ (σ : St) (x0 : Nat) (x3 : Int32) (x4 : Int32), kd x0 = 7 → f_X6_statement_l203 n σ x0 x3 x4 = some (r, σ') → V X σ 203 [(0, .ref ((xG X).1 x0)), (3, .int x3), (4, .int x4)] [] := by
  induction n with
  | zero =>
    intro σ x0 x3 x4 hx0 h
    exact nomatch (show (none : Option (Int32 × St)) = some (r, σ') from h)
  | succ n ih =>
    intro σ x0 x3 x4 hx0 h
    exact w_X6_statement_b203 C hr _ ih σ x0 x3 x4 hx0 h
set_option maxHeartbeats 4000000 in
set_option maxRecDepth 100000 in
theorem w_X6_statement_b94 {X : CX} (C : Cok X RX6 cX6_statement 5 5 107) {σ' : St} {r : Int32} (hr : RtZ X cX6_statement r σ') (σ : St) (x0 : Nat) (hx0 : kd x0 = 7) (h : f_X6_statement_b94 σ x0 = some (r, σ')) : V X σ 94 [(0, .ref ((xG X).1 x0))] [] := by
  unfold f_X6_statement_b94 at h
  refine r_aload_n C 0 (q := 95) dX6_statement_94 rfl rfl ?_
  refine r_ldcS C (q := 97) dX6_statement_95 sr_11 rfl ?_
  obtain ⟨v_97, e_97, h⟩ := bs h
  refine r_callV C (ci := 6) (st := []) (st2 := [.int v_97]) (q := 100) (m_X6_isWord (xG X) (xl X) hx0 (by decide) e_97) ok_X6_isWord hx0 rfl ⟨_, rfl⟩ q_1237 rfl ⟨Nat.le_of_ble_eq_true rfl, Nat.le_of_ble_eq_true rfl⟩ rfl rfl (Nat.le_of_ble_eq_true rfl) dX6_statement_97 rfl (fun hp_97 => ?_)
  refine r_if_eq C (tgt := 129) (q := 103) dX6_statement_100 (by decide) rfl (fun c_100 => ?_) (fun c_100 => ?_)
  · replace h := (if_pos c_100).symm.trans h
    refine r_aload_n C 0 (q := 130) dX6_statement_129 rfl rfl ?_
    refine g_X6_6 C (q := 133) dX6_statement_130 q_995 hx0 rfl ?_
    refine r_bipush C (v := 6) (q := 135) dX6_statement_133 (by decide) rfl ?_
    refine r_icmp_ge C (tgt := 253) (q := 138) dX6_statement_135 (by decide) rfl (fun c_135 => ?_) (fun c_135 => ?_)
    · replace h := (if_pos c_135).symm.trans h
      exact w_X6_statement_b253 C hr  _ _ hx0 h
    · replace h := (if_neg c_135).symm.trans h
      refine r_aload_n C 0 (q := 139) dX6_statement_138 rfl rfl ?_
      refine r_ldcS C (q := 141) dX6_statement_139 sr_12 rfl ?_
      obtain ⟨v_141, e_141, h⟩ := bs h
      refine r_callV C (ci := 6) (st := []) (st2 := [.int v_141]) (q := 144) (m_X6_isWord (xG X) (xl X) hx0 (by decide) e_141) ok_X6_isWord hx0 rfl ⟨_, rfl⟩ q_1237 rfl ⟨Nat.le_of_ble_eq_true rfl, Nat.le_of_ble_eq_true rfl⟩ rfl rfl (Nat.le_of_ble_eq_true rfl) dX6_statement_141 rfl (fun hp_141 => ?_)
      refine r_if_eq C (tgt := 253) (q := 147) dX6_statement_144 (by decide) rfl (fun c_144 => ?_) (fun c_144 => ?_)
      · replace h := (if_pos c_144).symm.trans h
        exact w_X6_statement_b253 C hr  _ _ hx0 h
      · replace h := (if_neg c_144).symm.trans h
        refine r_aload_n C 0 (q := 148) dX6_statement_147 rfl rfl ?_
        refine r_iconst C (v := 0) (q := 149) dX6_statement_148 (by decide) rfl ?_
        refine r_iconst C (v := 5) (q := 150) dX6_statement_149 (by decide) rfl ?_
        obtain ⟨v_150, s_150, e_150, h⟩ := bs2 h
        refine r_callV C (ci := 6) (st := []) (st2 := [.int v_150]) (q := 153) (m_X6_number (xG X) (xl X) hx0 e_150) ok_X6_number hx0 rfl ⟨_, rfl⟩ q_1243 rfl ⟨Nat.le_of_ble_eq_true rfl, Nat.le_of_ble_eq_true rfl⟩ rfl rfl (Nat.le_of_ble_eq_true rfl) dX6_statement_150 rfl (fun hp_150 => ?_)
        refine r_if_ne C (tgt := 158) (q := 156) dX6_statement_153 (by decide) rfl (fun c_153 => ?_) (fun c_153 => ?_)
        · replace h := (if_neg c_153).symm.trans h
          refine r_aload_n C 0 (q := 159) dX6_statement_158 rfl rfl ?_
          refine g_X6_21 C (q := 162) dX6_statement_159 q_1010 hx0 rfl ?_
          obtain ⟨y_162, e_162, h⟩ := bs h
          refine r_topI (Option.some.inj e_162) ?_
          refine r_istore_n C (lv' := [(2, .int y_162), (0, .ref ((xG X).1 x0))]) (q := 163) dX6_statement_162 rfl (by decide) rfl rfl ?_
          refine r_aload_n C 1 (q := 164) dX6_statement_163 rfl rfl ?_
          refine r_iconst C (v := 0) (q := 165) dX6_statement_164 (by decide) rfl ?_
          refine r_bipush C (v := 9) (q := 167) dX6_statement_165 (by decide) rfl ?_
          obtain ⟨v_167, s_167, e_167, h⟩ := bs2 h
          refine r_callV C (ci := 6) (st := []) (st2 := [.int v_167]) (q := 170) (m_X6_number (xG X) (xl X) hx0 e_167) ok_X6_number hx0 rfl ⟨_, rfl⟩ q_1243 rfl ⟨Nat.le_of_ble_eq_true rfl, Nat.le_of_ble_eq_true rfl⟩ rfl rfl (Nat.le_of_ble_eq_true rfl) dX6_statement_167 rfl (fun hp_167 => ?_)
          refine r_if_ne C (tgt := 175) (q := 173) dX6_statement_170 (by decide) rfl (fun c_170 => ?_) (fun c_170 => ?_)
          · replace h := (if_neg c_170).symm.trans h
            refine r_aload_n C 1 (q := 176) dX6_statement_175 rfl rfl ?_
            refine r_iload_n C 0 (q := 177) dX6_statement_176 rfl rfl ?_
            refine r_aload_n C 1 (q := 178) dX6_statement_177 rfl rfl ?_
            refine g_X6_21 C (q := 181) dX6_statement_178 q_1010 hx0 rfl ?_
            obtain ⟨v_181, s_181, e_181, h⟩ := bs2 h
            refine r_callV C (ci := 6) (st := []) (st2 := [.int v_181]) (q := 184) (m_X6_newKey (xG X) (xl X) hx0 e_181) ok_X6_newKey hx0 rfl ⟨_, rfl⟩ q_1171 rfl ⟨Nat.le_of_ble_eq_true rfl, Nat.le_of_ble_eq_true rfl⟩ rfl rfl (Nat.le_of_ble_eq_true rfl) dX6_statement_181 rfl (fun hp_181 => ?_)
            refine r_istore_n C (lv' := [(3, .int v_181), (2, .int y_162), (0, .ref ((xG X).1 x0))]) (q := 185) dX6_statement_184 rfl (by decide) rfl rfl ?_
            refine r_aload_n C 2 (q := 186) dX6_statement_185 rfl rfl ?_
            obtain ⟨s_186, e_186, h⟩ := bs h
            refine r_callV C (ci := 6) (st := []) (st2 := []) (q := 189) (m_X6_next (xG X) (xl X) hx0 e_186) ok_X6_next hx0 rfl ⟨_, rfl⟩ q_1222 rfl ⟨Nat.le_of_ble_eq_true rfl, Nat.le_of_ble_eq_true rfl⟩ rfl rfl (Nat.le_of_ble_eq_true rfl) dX6_statement_186 rfl (fun hp_186 => ?_)
            refine r_aload_n C 2 (q := 190) dX6_statement_189 rfl rfl ?_
            refine r_ldcS C (q := 192) dX6_statement_190 sr_13 rfl ?_
            obtain ⟨v_192, e_192, h⟩ := bs h
            refine r_callV C (ci := 6) (st := []) (st2 := [.int v_192]) (q := 195) (m_X6_isWord (xG X) (xl X) hx0 (by decide) e_192) ok_X6_isWord hx0 rfl ⟨_, rfl⟩ q_1237 rfl ⟨Nat.le_of_ble_eq_true rfl, Nat.le_of_ble_eq_true rfl⟩ rfl rfl (Nat.le_of_ble_eq_true rfl) dX6_statement_192 rfl (fun hp_192 => ?_)
            refine r_if_ne C (tgt := 200) (q := 198) dX6_statement_195 (by decide) rfl (fun c_195 => ?_) (fun c_195 => ?_)
            · replace h := (if_neg c_195).symm.trans h
              refine r_iconst C (v := 0) (q := 201) dX6_statement_200 (by decide) rfl ?_
              refine r_istore C (lv' := [(4, .int 0), (3, .int v_181), (2, .int y_162), (0, .ref ((xG X).1 x0))]) (q := 203) dX6_statement_201 (by decide) rfl rfl ?_
              refine r_sub (lv' := [(0, .ref ((xG X).1 x0)), (3, .int v_181), (4, .int 0)]) [3, 1, 0] rfl ?_
              exact w_X6_statement_l203 C hr  FU _ _ _ _ hx0 h
            · replace h := (if_pos c_195).symm.trans h
              refine r_iconst C (v := 1) (q := 199) dX6_statement_198 (by decide) rfl ?_
              obtain ⟨rfl, rfl⟩ := Prod.mk.inj (Option.some.inj h)
              exact hr _ _ dX6_statement_199 (Or.inr rfl)
          · replace h := (if_pos c_170).symm.trans h
            refine r_iconst C (v := 0) (q := 174) dX6_statement_173 (by decide) rfl ?_
            obtain ⟨rfl, rfl⟩ := Prod.mk.inj (Option.some.inj h)
            exact hr _ _ dX6_statement_174 (Or.inl rfl)
        · replace h := (if_pos c_153).symm.trans h
          refine r_iconst C (v := 0) (q := 157) dX6_statement_156 (by decide) rfl ?_
          obtain ⟨rfl, rfl⟩ := Prod.mk.inj (Option.some.inj h)
          exact hr _ _ dX6_statement_157 (Or.inl rfl)
  · replace h := (if_neg c_100).symm.trans h
    refine r_aload_n C 0 (q := 104) dX6_statement_103 rfl rfl ?_
    refine r_iconst C (v := 1) (q := 105) dX6_statement_104 (by decide) rfl ?_
    refine r_bipush C (v := 20) (q := 107) dX6_statement_105 (by decide) rfl ?_
    obtain ⟨v_107, s_107, e_107, h⟩ := bs2 h
    refine r_callV C (ci := 6) (st := []) (st2 := [.int v_107]) (q := 110) (m_X6_number (xG X) (xl X) hx0 e_107) ok_X6_number hx0 rfl ⟨_, rfl⟩ q_1243 rfl ⟨Nat.le_of_ble_eq_true rfl, Nat.le_of_ble_eq_true rfl⟩ rfl rfl (Nat.le_of_ble_eq_true rfl) dX6_statement_107 rfl (fun hp_107 => ?_)
    refine r_if_ne C (tgt := 115) (q := 113) dX6_statement_110 (by decide) rfl (fun c_110 => ?_) (fun c_110 => ?_)
    · replace h := (if_neg c_110).symm.trans h
      refine r_aload_n C 0 (q := 116) dX6_statement_115 rfl rfl ?_
      refine r_aload_n C 0 (q := 117) dX6_statement_116 rfl rfl ?_
      refine g_X6_21 C (q := 120) dX6_statement_117 q_1010 hx0 rfl ?_
      obtain ⟨s_120, e_120, h⟩ := bs h
      refine p_X6_5 C (q := 123) dX6_statement_120 q_994 hx0 e_120 rfl ?_
      refine r_aload_n C 0 (q := 124) dX6_statement_123 rfl rfl ?_
      obtain ⟨s_124, e_124, h⟩ := bs h
      refine r_callV C (ci := 6) (st := []) (st2 := []) (q := 127) (m_X6_next (xG X) (xl X) hx0 e_124) ok_X6_next hx0 rfl ⟨_, rfl⟩ q_1222 rfl ⟨Nat.le_of_ble_eq_true rfl, Nat.le_of_ble_eq_true rfl⟩ rfl rfl (Nat.le_of_ble_eq_true rfl) dX6_statement_124 rfl (fun hp_124 => ?_)
      refine r_iconst C (v := 1) (q := 128) dX6_statement_127 (by decide) rfl ?_
      obtain ⟨rfl, rfl⟩ := Prod.mk.inj (Option.some.inj h)
      exact hr _ _ dX6_statement_128 (Or.inr rfl)
    · replace h := (if_pos c_110).symm.trans h
      refine r_iconst C (v := 0) (q := 114) dX6_statement_113 (by decide) rfl ?_
      obtain ⟨rfl, rfl⟩ := Prod.mk.inj (Option.some.inj h)
      exact hr _ _ dX6_statement_114 (Or.inl rfl)

set_option maxHeartbeats 4000000 in
set_option maxRecDepth 100000 in
theorem w_X6_statement_b56 {X : CX} (C : Cok X RX6 cX6_statement 5 5 107) {σ' : St} {r : Int32} (hr : RtZ X cX6_statement r σ') (σ : St) (x0 : Nat) (x1 : Int32) (hx0 : kd x0 = 7) (h : f_X6_statement_b56 σ x0 x1 = some (r, σ')) : V X σ 56 [(0, .ref ((xG X).1 x0)), (1, .int x1)] [] := by
  unfold f_X6_statement_b56 at h
  refine r_iload_n C 1 (q := 57) dX6_statement_56 rfl rfl ?_
  refine r_if_eq C (tgt := 94) (q := 60) dX6_statement_57 (by decide) rfl (fun c_57 => ?_) (fun c_57 => ?_)
  · replace h := (if_pos c_57).symm.trans h
    refine r_sub (lv' := [(0, .ref ((xG X).1 x0))]) [0] rfl ?_
    exact w_X6_statement_b94 C hr  _ _ hx0 h
  · replace h := (if_neg c_57).symm.trans h
    refine r_aload_n C 0 (q := 61) dX6_statement_60 rfl rfl ?_
    refine r_ldcS C (q := 63) dX6_statement_61 sr_10 rfl ?_
    obtain ⟨v_63, e_63, h⟩ := bs h
    refine r_callV C (ci := 6) (st := []) (st2 := [.int v_63]) (q := 66) (m_X6_isWord (xG X) (xl X) hx0 (by decide) e_63) ok_X6_isWord hx0 rfl ⟨_, rfl⟩ q_1237 rfl ⟨Nat.le_of_ble_eq_true rfl, Nat.le_of_ble_eq_true rfl⟩ rfl rfl (Nat.le_of_ble_eq_true rfl) dX6_statement_63 rfl (fun hp_63 => ?_)
    refine r_if_eq C (tgt := 94) (q := 69) dX6_statement_66 (by decide) rfl (fun c_66 => ?_) (fun c_66 => ?_)
    · replace h := (if_pos c_66).symm.trans h
      refine r_sub (lv' := [(0, .ref ((xG X).1 x0))]) [0] rfl ?_
      exact w_X6_statement_b94 C hr  _ _ hx0 h
    · replace h := (if_neg c_66).symm.trans h
      refine r_aload_n C 0 (q := 70) dX6_statement_69 rfl rfl ?_
      refine r_iconst C (v := 1) (q := 71) dX6_statement_70 (by decide) rfl ?_
      refine r_iconst C (v := 4) (q := 72) dX6_statement_71 (by decide) rfl ?_
      obtain ⟨v_72, s_72, e_72, h⟩ := bs2 h
      refine r_callV C (ci := 6) (st := []) (st2 := [.int v_72]) (q := 75) (m_X6_number (xG X) (xl X) hx0 e_72) ok_X6_number hx0 rfl ⟨_, rfl⟩ q_1243 rfl ⟨Nat.le_of_ble_eq_true rfl, Nat.le_of_ble_eq_true rfl⟩ rfl rfl (Nat.le_of_ble_eq_true rfl) dX6_statement_72 rfl (fun hp_72 => ?_)
      refine r_if_ne C (tgt := 80) (q := 78) dX6_statement_75 (by decide) rfl (fun c_75 => ?_) (fun c_75 => ?_)
      · replace h := (if_neg c_75).symm.trans h
        refine r_aload_n C 0 (q := 81) dX6_statement_80 rfl rfl ?_
        refine r_aload_n C 0 (q := 82) dX6_statement_81 rfl rfl ?_
        refine g_X6_21 C (q := 85) dX6_statement_82 q_1010 hx0 rfl ?_
        obtain ⟨s_85, e_85, h⟩ := bs h
        refine p_X6_4 C (q := 88) dX6_statement_85 q_993 hx0 e_85 rfl ?_
        refine r_aload_n C 0 (q := 89) dX6_statement_88 rfl rfl ?_
        obtain ⟨s_89, e_89, h⟩ := bs h
        refine r_callV C (ci := 6) (st := []) (st2 := []) (q := 92) (m_X6_next (xG X) (xl X) hx0 e_89) ok_X6_next hx0 rfl ⟨_, rfl⟩ q_1222 rfl ⟨Nat.le_of_ble_eq_true rfl, Nat.le_of_ble_eq_true rfl⟩ rfl rfl (Nat.le_of_ble_eq_true rfl) dX6_statement_89 rfl (fun hp_89 => ?_)
        refine r_iconst C (v := 1) (q := 93) dX6_statement_92 (by decide) rfl ?_
        obtain ⟨rfl, rfl⟩ := Prod.mk.inj (Option.some.inj h)
        exact hr _ _ dX6_statement_93 (Or.inr rfl)
      · replace h := (if_pos c_75).symm.trans h
        refine r_iconst C (v := 0) (q := 79) dX6_statement_78 (by decide) rfl ?_
        obtain ⟨rfl, rfl⟩ := Prod.mk.inj (Option.some.inj h)
        exact hr _ _ dX6_statement_79 (Or.inl rfl)

set_option maxHeartbeats 4000000 in
set_option maxRecDepth 100000 in
theorem w_X6_statement_b17 {X : CX} (C : Cok X RX6 cX6_statement 5 5 107) {σ' : St} {r : Int32} (hr : RtZ X cX6_statement r σ') (σ : St) (x0 : Nat) (t0 : Int32) (hx0 : kd x0 = 7) (h : f_X6_statement_b17 σ x0 t0 = some (r, σ')) : V X σ 17 [(0, .ref ((xG X).1 x0))] [.int t0] := by
  unfold f_X6_statement_b17 at h
  refine r_istore_n C (lv' := [(1, .int t0), (0, .ref ((xG X).1 x0))]) (q := 18) dX6_statement_17 rfl (by decide) rfl rfl ?_
  refine r_iload_n C 0 (q := 19) dX6_statement_18 rfl rfl ?_
  refine r_if_eq C (tgt := 56) (q := 22) dX6_statement_19 (by decide) rfl (fun c_19 => ?_) (fun c_19 => ?_)
  · replace h := (if_pos c_19).symm.trans h
    refine r_sub (lv' := [(0, .ref ((xG X).1 x0)), (1, .int t0)]) [1, 0] rfl ?_
    exact w_X6_statement_b56 C hr  _ _ _ hx0 h
  · replace h := (if_neg c_19).symm.trans h
    refine r_aload_n C 1 (q := 23) dX6_statement_22 rfl rfl ?_
    refine r_ldcS C (q := 25) dX6_statement_23 sr_9 rfl ?_
    obtain ⟨v_25, e_25, h⟩ := bs h
    refine r_callV C (ci := 6) (st := []) (st2 := [.int v_25]) (q := 28) (m_X6_isWord (xG X) (xl X) hx0 (by decide) e_25) ok_X6_isWord hx0 rfl ⟨_, rfl⟩ q_1237 rfl ⟨Nat.le_of_ble_eq_true rfl, Nat.le_of_ble_eq_true rfl⟩ rfl rfl (Nat.le_of_ble_eq_true rfl) dX6_statement_25 rfl (fun hp_25 => ?_)
    refine r_if_eq C (tgt := 56) (q := 31) dX6_statement_28 (by decide) rfl (fun c_28 => ?_) (fun c_28 => ?_)
    · replace h := (if_pos c_28).symm.trans h
      refine r_sub (lv' := [(0, .ref ((xG X).1 x0)), (1, .int t0)]) [1, 0] rfl ?_
      exact w_X6_statement_b56 C hr  _ _ _ hx0 h
    · replace h := (if_neg c_28).symm.trans h
      refine r_aload_n C 1 (q := 32) dX6_statement_31 rfl rfl ?_
      refine r_iconst C (v := 1) (q := 33) dX6_statement_32 (by decide) rfl ?_
      refine r_iconst C (v := 5) (q := 34) dX6_statement_33 (by decide) rfl ?_
      obtain ⟨v_34, s_34, e_34, h⟩ := bs2 h
      refine r_callV C (ci := 6) (st := []) (st2 := [.int v_34]) (q := 37) (m_X6_number (xG X) (xl X) hx0 e_34) ok_X6_number hx0 rfl ⟨_, rfl⟩ q_1243 rfl ⟨Nat.le_of_ble_eq_true rfl, Nat.le_of_ble_eq_true rfl⟩ rfl rfl (Nat.le_of_ble_eq_true rfl) dX6_statement_34 rfl (fun hp_34 => ?_)
      refine r_if_ne C (tgt := 42) (q := 40) dX6_statement_37 (by decide) rfl (fun c_37 => ?_) (fun c_37 => ?_)
      · replace h := (if_neg c_37).symm.trans h
        refine r_aload_n C 1 (q := 43) dX6_statement_42 rfl rfl ?_
        refine r_aload_n C 1 (q := 44) dX6_statement_43 rfl rfl ?_
        refine g_X6_21 C (q := 47) dX6_statement_44 q_1010 hx0 rfl ?_
        obtain ⟨s_47, e_47, h⟩ := bs h
        refine p_X6_3 C (q := 50) dX6_statement_47 q_992 hx0 e_47 rfl ?_
        refine r_aload_n C 1 (q := 51) dX6_statement_50 rfl rfl ?_
        obtain ⟨s_51, e_51, h⟩ := bs h
        refine r_callV C (ci := 6) (st := []) (st2 := []) (q := 54) (m_X6_next (xG X) (xl X) hx0 e_51) ok_X6_next hx0 rfl ⟨_, rfl⟩ q_1222 rfl ⟨Nat.le_of_ble_eq_true rfl, Nat.le_of_ble_eq_true rfl⟩ rfl rfl (Nat.le_of_ble_eq_true rfl) dX6_statement_51 rfl (fun hp_51 => ?_)
        refine r_iconst C (v := 1) (q := 55) dX6_statement_54 (by decide) rfl ?_
        obtain ⟨rfl, rfl⟩ := Prod.mk.inj (Option.some.inj h)
        exact hr _ _ dX6_statement_55 (Or.inr rfl)
      · replace h := (if_pos c_37).symm.trans h
        refine r_iconst C (v := 0) (q := 41) dX6_statement_40 (by decide) rfl ?_
        obtain ⟨rfl, rfl⟩ := Prod.mk.inj (Option.some.inj h)
        exact hr _ _ dX6_statement_41 (Or.inl rfl)

set_option maxHeartbeats 4000000 in
set_option maxRecDepth 100000 in
theorem w_X6_statement_b0 {X : CX} (C : Cok X RX6 cX6_statement 5 5 107) {σ' : St} {r : Int32} (hr : RtZ X cX6_statement r σ') (σ : St) (x0 : Nat) (hx0 : kd x0 = 7) (h : f_X6_statement σ x0 = some (r, σ')) : V X σ 0 [(0, .ref ((xG X).1 x0))] [] := by
  unfold f_X6_statement at h
  refine r_aload_n C 0 (q := 1) dX6_statement_0 rfl rfl ?_
  refine g_X6_6 C (q := 4) dX6_statement_1 q_995 hx0 rfl ?_
  refine r_aload_n C 0 (q := 5) dX6_statement_4 rfl rfl ?_
  refine g_X6_11 C (q := 8) dX6_statement_5 q_1000 hx0 rfl ?_
  refine r_iadd C (q := 9) dX6_statement_8 rfl ?_
  refine r_if_ne C (tgt := 16) (q := 12) dX6_statement_9 (by decide) rfl (fun c_9 => ?_) (fun c_9 => ?_)
  · replace h := (if_neg c_9).symm.trans h
    refine r_iconst C (v := 0) (q := 17) dX6_statement_16 (by decide) rfl ?_
    exact w_X6_statement_b17 C hr  _ _ _ hx0 h
  · replace h := (if_pos c_9).symm.trans h
    refine r_iconst C (v := 1) (q := 13) dX6_statement_12 (by decide) rfl ?_
    refine r_goto C (tgt := 17) dX6_statement_13 (by decide) ?_
    exact w_X6_statement_b17 C hr  _ _ _ hx0 h

theorem m_X6_statement (G : Gm) (l : Launch) {σ σ' : St} {x0 : Nat} (hx0 : kd x0 = 7) {r : Int32} (h : f_X6_statement σ x0 = some (r, σ')) : Ctr G l yX6_statement cX6_statement 5 (some .boolean) 5 107 [.ref (G.1 x0)] σ (some (.int r)) (r = 0 ∨ r = 1) σ' := by
  refine Ctr.z (by decide) (Nat.le_of_ble_eq_true rfl) ?_
  intro X hG C hr
  subst hG
  exact w_X6_statement_b0 C hr _ _ hx0 h
-- X6_keep
set_option maxHeartbeats 4000000 in
set_option maxRecDepth 100000 in
theorem w_X6_keep_b101 {X : CX} (C : Cok X RX6 cX6_keep 3 0 0) {σ' : St} (hr : RtV X cX6_keep σ') (k_101 : St → Nat → Nat → Int32 → Option St) (hk_101 : ∀ (σ : St) (x0 : Nat) (x1 : Nat) (x2 : Int32), kd x0 = 7 → kd x1 = 8 → k_101 σ x0 x1 x2 = some σ' → V X σ 101 [(0, .ref ((xG X).1 x0)), (1, .ref ((xG X).1 x1)), (2, .int x2)] []) (σ : St) (x0 : Nat) (x1 : Nat) (x2 : Int32) (hx0 : kd x0 = 7) (hx1 : kd x1 = 8) (h : f_X6_keep_b101 k_101 σ x0 x1 x2 = some σ') : V X σ 101 [(0, .ref ((xG X).1 x0)), (1, .ref ((xG X).1 x1)), (2, .int x2)] [] := by
  unfold f_X6_keep_b101 at h
  refine r_iload_n C 2 (q := 102) dX6_keep_101 rfl rfl ?_
  refine r_bipush C (v := 40) (q := 104) dX6_keep_102 (by decide) rfl ?_
  refine r_icmp_ge C (tgt := 125) (q := 107) dX6_keep_104 (by decide) rfl (fun c_104 => ?_) (fun c_104 => ?_)
  · replace h := (if_pos c_104).symm.trans h
    refine r_aload_n C 1 (q := 126) dX6_keep_125 rfl rfl ?_
    refine r_bipush C (v := 96) (q := 128) dX6_keep_126 (by decide) rfl ?_
    refine r_aload_n C 0 (q := 129) dX6_keep_128 rfl rfl ?_
    refine g_X6_6 C (q := 132) dX6_keep_129 q_995 hx0 rfl ?_
    obtain ⟨s_132, e_132, h⟩ := bs h
    refine r_iast C (q := 133) dX6_keep_132 hx1 e_132 rfl ?_
    refine r_aload_n C 1 (q := 134) dX6_keep_133 rfl rfl ?_
    refine r_bipush C (v := 97) (q := 136) dX6_keep_134 (by decide) rfl ?_
    refine r_aload_n C 0 (q := 137) dX6_keep_136 rfl rfl ?_
    refine g_X6_11 C (q := 140) dX6_keep_137 q_1000 hx0 rfl ?_
    obtain ⟨s_140, e_140, h⟩ := bs h
    refine r_iast C (q := 141) dX6_keep_140 hx1 e_140 rfl ?_
    refine r_aload_n C 1 (q := 142) dX6_keep_141 rfl rfl ?_
    refine r_bipush C (v := 98) (q := 144) dX6_keep_142 (by decide) rfl ?_
    refine r_aload_n C 0 (q := 145) dX6_keep_144 rfl rfl ?_
    refine g_X6_3 C (q := 148) dX6_keep_145 q_992 hx0 rfl ?_
    obtain ⟨s_148, e_148, h⟩ := bs h
    refine r_iast C (q := 149) dX6_keep_148 hx1 e_148 rfl ?_
    refine r_aload_n C 1 (q := 150) dX6_keep_149 rfl rfl ?_
    refine r_bipush C (v := 99) (q := 152) dX6_keep_150 (by decide) rfl ?_
    refine r_aload_n C 0 (q := 153) dX6_keep_152 rfl rfl ?_
    refine g_X6_4 C (q := 156) dX6_keep_153 q_993 hx0 rfl ?_
    obtain ⟨s_156, e_156, h⟩ := bs h
    refine r_iast C (q := 157) dX6_keep_156 hx1 e_156 rfl ?_
    refine r_aload_n C 1 (q := 158) dX6_keep_157 rfl rfl ?_
    refine r_bipush C (v := 100) (q := 160) dX6_keep_158 (by decide) rfl ?_
    refine r_aload_n C 0 (q := 161) dX6_keep_160 rfl rfl ?_
    refine g_X6_5 C (q := 164) dX6_keep_161 q_994 hx0 rfl ?_
    obtain ⟨s_164, e_164, h⟩ := bs h
    refine r_iast C (q := 165) dX6_keep_164 hx1 e_164 rfl ?_
    refine r_aload_n C 1 (q := 166) dX6_keep_165 rfl rfl ?_
    refine r_bipush C (v := 101) (q := 168) dX6_keep_166 (by decide) rfl ?_
    refine r_aload_n C 0 (q := 169) dX6_keep_168 rfl rfl ?_
    refine g_X6_14 C (q := 172) dX6_keep_169 q_1003 hx0 rfl ?_
    obtain ⟨s_172, e_172, h⟩ := bs h
    refine r_iast C (q := 173) dX6_keep_172 hx1 e_172 rfl ?_
    refine r_aload_n C 1 (q := 174) dX6_keep_173 rfl rfl ?_
    refine r_bipush C (v := 102) (q := 176) dX6_keep_174 (by decide) rfl ?_
    refine r_aload_n C 0 (q := 177) dX6_keep_176 rfl rfl ?_
    refine g_X6_15 C (q := 180) dX6_keep_177 q_1004 hx0 rfl ?_
    obtain ⟨s_180, e_180, h⟩ := bs h
    refine r_iast C (q := 181) dX6_keep_180 hx1 e_180 rfl ?_
    obtain rfl := Option.some.inj h
    exact hr _ _ dX6_keep_181
  · replace h := (if_neg c_104).symm.trans h
    refine r_aload_n C 1 (q := 108) dX6_keep_107 rfl rfl ?_
    refine r_bipush C (v := 56) (q := 110) dX6_keep_108 (by decide) rfl ?_
    refine r_iload_n C 2 (q := 111) dX6_keep_110 rfl rfl ?_
    refine r_iadd C (q := 112) dX6_keep_111 rfl ?_
    refine r_aload_n C 0 (q := 113) dX6_keep_112 rfl rfl ?_
    refine g_X6_13 C (q := 116) dX6_keep_113 q_1002 hx0 rfl ?_
    refine r_iload_n C 2 (q := 117) dX6_keep_116 rfl rfl ?_
    obtain ⟨v_117, e_117, h⟩ := bs h
    refine r_iald C (q := 118) dX6_keep_117 (kf_X6_13 hx0) e_117 rfl ?_
    obtain ⟨s_118, e_118, h⟩ := bs h
    refine r_iast C (q := 119) dX6_keep_118 hx1 e_118 rfl ?_
    obtain ⟨y_119, e_119, h⟩ := bs h
    refine r_iinc C (v := y_119) (lv' := [(2, .int y_119), (0, .ref ((xG X).1 x0)), (1, .ref ((xG X).1 x1))]) (q := 122) 2 dX6_keep_119 rfl (Option.some.inj e_119) (by decide) rfl rfl ?_
    refine r_goto C (tgt := 101) dX6_keep_122 (by decide) ?_
    refine r_sub (lv' := [(0, .ref ((xG X).1 x0)), (1, .ref ((xG X).1 x1)), (2, .int y_119)]) [1, 2, 0] rfl ?_
    exact hk_101 _ _ _ _ hx0 hx1 h

theorem w_X6_keep_l101 {X : CX} (C : Cok X RX6 cX6_keep 3 0 0) {σ' : St} (hr : RtV X cX6_keep σ') (n : Nat) : ∀ (σ : St) (x0 : Nat) (x1 : Nat) (x2 : Int32), kd x0 = 7 → kd x1 = 8 → f_X6_keep_l101 n σ x0 x1 x2 = some σ' → V X σ 101 [(0, .ref ((xG X).1 x0)), (1, .ref ((xG X).1 x1)), (2, .int x2)] [] := by
  induction n with
  | zero =>
    intro σ x0 x1 x2 hx0 hx1 h
    exact nomatch (show (none : Option St) = some σ' from h)
  | succ n ih =>
    intro σ x0 x1 x2 hx0 hx1 h
    exact w_X6_keep_b101 C hr _ ih σ x0 x1 x2 hx0 hx1 h
set_option maxHeartbeats 4000000 in
set_option maxRecDepth 100000 in
theorem w_X6_keep_b75 {X : CX} (C : Cok X RX6 cX6_keep 3 0 0) {σ' : St} (hr : RtV X cX6_keep σ') (k_75 : St → Nat → Nat → Int32 → Option St) (hk_75 : ∀ (σ : St) (x0 : Nat) (x1 : Nat) (x2 : Int32), kd x0 = 7 → kd x1 = 8 → k_75 σ x0 x1 x2 = some σ' → V X σ 75 [(0, .ref ((xG X).1 x0)), (1, .ref ((xG X).1 x1)), (2, .int x2)] []) (σ : St) (x0 : Nat) (x1 : Nat) (x2 : Int32) (hx0 : kd x0 = 7) (hx1 : kd x1 = 8) (h : f_X6_keep_b75 k_75 σ x0 x1 x2 = some σ') : V X σ 75 [(0, .ref ((xG X).1 x0)), (1, .ref ((xG X).1 x1)), (2, .int x2)] [] := by
  unfold f_X6_keep_b75 at h
  refine r_iload_n C 2 (q := 76) dX6_keep_75 rfl rfl ?_
  refine r_bipush C (v := 8) (q := 78) dX6_keep_76 (by decide) rfl ?_
  refine r_icmp_ge C (tgt := 99) (q := 81) dX6_keep_78 (by decide) rfl (fun c_78 => ?_) (fun c_78 => ?_)
  · replace h := (if_pos c_78).symm.trans h
    refine r_iconst C (v := 0) (q := 100) dX6_keep_99 (by decide) rfl ?_
    refine r_istore_n C (lv' := [(2, .int 0), (0, .ref ((xG X).1 x0)), (1, .ref ((xG X).1 x1))]) (q := 101) dX6_keep_100 rfl (by decide) rfl rfl ?_
    refine r_sub (lv' := [(0, .ref ((xG X).1 x0)), (1, .ref ((xG X).1 x1)), (2, .int 0)]) [1, 2, 0] rfl ?_
    exact w_X6_keep_l101 C hr  FU _ _ _ _ hx0 hx1 h
  · replace h := (if_neg c_78).symm.trans h
    refine r_aload_n C 1 (q := 82) dX6_keep_81 rfl rfl ?_
    refine r_bipush C (v := 48) (q := 84) dX6_keep_82 (by decide) rfl ?_
    refine r_iload_n C 2 (q := 85) dX6_keep_84 rfl rfl ?_
    refine r_iadd C (q := 86) dX6_keep_85 rfl ?_
    refine r_aload_n C 0 (q := 87) dX6_keep_86 rfl rfl ?_
    refine g_X6_12 C (q := 90) dX6_keep_87 q_1001 hx0 rfl ?_
    refine r_iload_n C 2 (q := 91) dX6_keep_90 rfl rfl ?_
    obtain ⟨v_91, e_91, h⟩ := bs h
    refine r_iald C (q := 92) dX6_keep_91 (kf_X6_12 hx0) e_91 rfl ?_
    obtain ⟨s_92, e_92, h⟩ := bs h
    refine r_iast C (q := 93) dX6_keep_92 hx1 e_92 rfl ?_
    obtain ⟨y_93, e_93, h⟩ := bs h
    refine r_iinc C (v := y_93) (lv' := [(2, .int y_93), (0, .ref ((xG X).1 x0)), (1, .ref ((xG X).1 x1))]) (q := 96) 2 dX6_keep_93 rfl (Option.some.inj e_93) (by decide) rfl rfl ?_
    refine r_goto C (tgt := 75) dX6_keep_96 (by decide) ?_
    refine r_sub (lv' := [(0, .ref ((xG X).1 x0)), (1, .ref ((xG X).1 x1)), (2, .int y_93)]) [1, 2, 0] rfl ?_
    exact hk_75 _ _ _ _ hx0 hx1 h

theorem w_X6_keep_l75 {X : CX} (C : Cok X RX6 cX6_keep 3 0 0) {σ' : St} (hr : RtV X cX6_keep σ') (n : Nat) : ∀ (σ : St) (x0 : Nat) (x1 : Nat) (x2 : Int32), kd x0 = 7 → kd x1 = 8 → f_X6_keep_l75 n σ x0 x1 x2 = some σ' → V X σ 75 [(0, .ref ((xG X).1 x0)), (1, .ref ((xG X).1 x1)), (2, .int x2)] [] := by
  induction n with
  | zero =>
    intro σ x0 x1 x2 hx0 hx1 h
    exact nomatch (show (none : Option St) = some σ' from h)
  | succ n ih =>
    intro σ x0 x1 x2 hx0 hx1 h
    exact w_X6_keep_b75 C hr _ ih σ x0 x1 x2 hx0 hx1 h
set_option maxHeartbeats 4000000 in
set_option maxRecDepth 100000 in
theorem w_X6_keep_b49 {X : CX} (C : Cok X RX6 cX6_keep 3 0 0) {σ' : St} (hr : RtV X cX6_keep σ') (k_49 : St → Nat → Nat → Int32 → Option St) (hk_49 : ∀ (σ : St) (x0 : Nat) (x1 : Nat) (x2 : Int32), kd x0 = 7 → kd x1 = 8 → k_49 σ x0 x1 x2 = some σ' → V X σ 49 [(0, .ref ((xG X).1 x0)), (1, .ref ((xG X).1 x1)), (2, .int x2)] []) (σ : St) (x0 : Nat) (x1 : Nat) (x2 : Int32) (hx0 : kd x0 = 7) (hx1 : kd x1 = 8) (h : f_X6_keep_b49 k_49 σ x0 x1 x2 = some σ') : V X σ 49 [(0, .ref ((xG X).1 x0)), (1, .ref ((xG X).1 x1)), (2, .int x2)] [] := by
  unfold f_X6_keep_b49 at h
  refine r_iload_n C 2 (q := 50) dX6_keep_49 rfl rfl ?_
  refine r_bipush C (v := 30) (q := 52) dX6_keep_50 (by decide) rfl ?_
  refine r_icmp_ge C (tgt := 73) (q := 55) dX6_keep_52 (by decide) rfl (fun c_52 => ?_) (fun c_52 => ?_)
  · replace h := (if_pos c_52).symm.trans h
    refine r_iconst C (v := 0) (q := 74) dX6_keep_73 (by decide) rfl ?_
    refine r_istore_n C (lv' := [(2, .int 0), (0, .ref ((xG X).1 x0)), (1, .ref ((xG X).1 x1))]) (q := 75) dX6_keep_74 rfl (by decide) rfl rfl ?_
    refine r_sub (lv' := [(0, .ref ((xG X).1 x0)), (1, .ref ((xG X).1 x1)), (2, .int 0)]) [1, 2, 0] rfl ?_
    exact w_X6_keep_l75 C hr  FU _ _ _ _ hx0 hx1 h
  · replace h := (if_neg c_52).symm.trans h
    refine r_aload_n C 1 (q := 56) dX6_keep_55 rfl rfl ?_
    refine r_bipush C (v := 18) (q := 58) dX6_keep_56 (by decide) rfl ?_
    refine r_iload_n C 2 (q := 59) dX6_keep_58 rfl rfl ?_
    refine r_iadd C (q := 60) dX6_keep_59 rfl ?_
    refine r_aload_n C 0 (q := 61) dX6_keep_60 rfl rfl ?_
    refine g_X6_10 C (q := 64) dX6_keep_61 q_999 hx0 rfl ?_
    refine r_iload_n C 2 (q := 65) dX6_keep_64 rfl rfl ?_
    obtain ⟨v_65, e_65, h⟩ := bs h
    refine r_iald C (q := 66) dX6_keep_65 (kf_X6_10 hx0) e_65 rfl ?_
    obtain ⟨s_66, e_66, h⟩ := bs h
    refine r_iast C (q := 67) dX6_keep_66 hx1 e_66 rfl ?_
    obtain ⟨y_67, e_67, h⟩ := bs h
    refine r_iinc C (v := y_67) (lv' := [(2, .int y_67), (0, .ref ((xG X).1 x0)), (1, .ref ((xG X).1 x1))]) (q := 70) 2 dX6_keep_67 rfl (Option.some.inj e_67) (by decide) rfl rfl ?_
    refine r_goto C (tgt := 49) dX6_keep_70 (by decide) ?_
    refine r_sub (lv' := [(0, .ref ((xG X).1 x0)), (1, .ref ((xG X).1 x1)), (2, .int y_67)]) [1, 2, 0] rfl ?_
    exact hk_49 _ _ _ _ hx0 hx1 h

theorem w_X6_keep_l49 {X : CX} (C : Cok X RX6 cX6_keep 3 0 0) {σ' : St} (hr : RtV X cX6_keep σ') (n : Nat) : ∀ (σ : St) (x0 : Nat) (x1 : Nat) (x2 : Int32), kd x0 = 7 → kd x1 = 8 → f_X6_keep_l49 n σ x0 x1 x2 = some σ' → V X σ 49 [(0, .ref ((xG X).1 x0)), (1, .ref ((xG X).1 x1)), (2, .int x2)] [] := by
  induction n with
  | zero =>
    intro σ x0 x1 x2 hx0 hx1 h
    exact nomatch (show (none : Option St) = some σ' from h)
  | succ n ih =>
    intro σ x0 x1 x2 hx0 hx1 h
    exact w_X6_keep_b49 C hr _ ih σ x0 x1 x2 hx0 hx1 h
set_option maxHeartbeats 4000000 in
set_option maxRecDepth 100000 in
theorem w_X6_keep_b2 {X : CX} (C : Cok X RX6 cX6_keep 3 0 0) {σ' : St} (hr : RtV X cX6_keep σ') (k_2 : St → Nat → Nat → Int32 → Option St) (hk_2 : ∀ (σ : St) (x0 : Nat) (x1 : Nat) (x2 : Int32), kd x0 = 7 → kd x1 = 8 → k_2 σ x0 x1 x2 = some σ' → V X σ 2 [(0, .ref ((xG X).1 x0)), (1, .ref ((xG X).1 x1)), (2, .int x2)] []) (σ : St) (x0 : Nat) (x1 : Nat) (x2 : Int32) (hx0 : kd x0 = 7) (hx1 : kd x1 = 8) (h : f_X6_keep_b2 k_2 σ x0 x1 x2 = some σ') : V X σ 2 [(0, .ref ((xG X).1 x0)), (1, .ref ((xG X).1 x1)), (2, .int x2)] [] := by
  unfold f_X6_keep_b2 at h
  refine r_iload_n C 2 (q := 3) dX6_keep_2 rfl rfl ?_
  refine r_bipush C (v := 6) (q := 5) dX6_keep_3 (by decide) rfl ?_
  refine r_icmp_ge C (tgt := 47) (q := 8) dX6_keep_5 (by decide) rfl (fun c_5 => ?_) (fun c_5 => ?_)
  · replace h := (if_pos c_5).symm.trans h
    refine r_iconst C (v := 0) (q := 48) dX6_keep_47 (by decide) rfl ?_
    refine r_istore_n C (lv' := [(2, .int 0), (0, .ref ((xG X).1 x0)), (1, .ref ((xG X).1 x1))]) (q := 49) dX6_keep_48 rfl (by decide) rfl rfl ?_
    refine r_sub (lv' := [(0, .ref ((xG X).1 x0)), (1, .ref ((xG X).1 x1)), (2, .int 0)]) [1, 2, 0] rfl ?_
    exact w_X6_keep_l49 C hr  FU _ _ _ _ hx0 hx1 h
  · replace h := (if_neg c_5).symm.trans h
    refine r_aload_n C 1 (q := 9) dX6_keep_8 rfl rfl ?_
    refine r_iload_n C 2 (q := 10) dX6_keep_9 rfl rfl ?_
    refine r_aload_n C 0 (q := 11) dX6_keep_10 rfl rfl ?_
    refine g_X6_7 C (q := 14) dX6_keep_11 q_996 hx0 rfl ?_
    refine r_iload_n C 2 (q := 15) dX6_keep_14 rfl rfl ?_
    obtain ⟨v_15, e_15, h⟩ := bs h
    refine r_iald C (q := 16) dX6_keep_15 (kf_X6_7 hx0) e_15 rfl ?_
    obtain ⟨s_16, e_16, h⟩ := bs h
    refine r_iast C (q := 17) dX6_keep_16 hx1 e_16 rfl ?_
    refine r_aload_n C 1 (q := 18) dX6_keep_17 rfl rfl ?_
    refine r_bipush C (v := 6) (q := 20) dX6_keep_18 (by decide) rfl ?_
    refine r_iload_n C 2 (q := 21) dX6_keep_20 rfl rfl ?_
    refine r_iadd C (q := 22) dX6_keep_21 rfl ?_
    refine r_aload_n C 0 (q := 23) dX6_keep_22 rfl rfl ?_
    refine g_X6_8 C (q := 26) dX6_keep_23 q_997 hx0 rfl ?_
    refine r_iload_n C 2 (q := 27) dX6_keep_26 rfl rfl ?_
    obtain ⟨v_27, e_27, h⟩ := bs h
    refine r_iald C (q := 28) dX6_keep_27 (kf_X6_8 hx0) e_27 rfl ?_
    obtain ⟨s_28, e_28, h⟩ := bs h
    refine r_iast C (q := 29) dX6_keep_28 hx1 e_28 rfl ?_
    refine r_aload_n C 1 (q := 30) dX6_keep_29 rfl rfl ?_
    refine r_bipush C (v := 12) (q := 32) dX6_keep_30 (by decide) rfl ?_
    refine r_iload_n C 2 (q := 33) dX6_keep_32 rfl rfl ?_
    refine r_iadd C (q := 34) dX6_keep_33 rfl ?_
    refine r_aload_n C 0 (q := 35) dX6_keep_34 rfl rfl ?_
    refine g_X6_9 C (q := 38) dX6_keep_35 q_998 hx0 rfl ?_
    refine r_iload_n C 2 (q := 39) dX6_keep_38 rfl rfl ?_
    obtain ⟨v_39, e_39, h⟩ := bs h
    refine r_iald C (q := 40) dX6_keep_39 (kf_X6_9 hx0) e_39 rfl ?_
    obtain ⟨s_40, e_40, h⟩ := bs h
    refine r_iast C (q := 41) dX6_keep_40 hx1 e_40 rfl ?_
    obtain ⟨y_41, e_41, h⟩ := bs h
    refine r_iinc C (v := y_41) (lv' := [(2, .int y_41), (0, .ref ((xG X).1 x0)), (1, .ref ((xG X).1 x1))]) (q := 44) 2 dX6_keep_41 rfl (Option.some.inj e_41) (by decide) rfl rfl ?_
    refine r_goto C (tgt := 2) dX6_keep_44 (by decide) ?_
    refine r_sub (lv' := [(0, .ref ((xG X).1 x0)), (1, .ref ((xG X).1 x1)), (2, .int y_41)]) [1, 2, 0] rfl ?_
    exact hk_2 _ _ _ _ hx0 hx1 h

theorem w_X6_keep_l2 {X : CX} (C : Cok X RX6 cX6_keep 3 0 0) {σ' : St} (hr : RtV X cX6_keep σ') (n : Nat) : ∀ (σ : St) (x0 : Nat) (x1 : Nat) (x2 : Int32), kd x0 = 7 → kd x1 = 8 → f_X6_keep_l2 n σ x0 x1 x2 = some σ' → V X σ 2 [(0, .ref ((xG X).1 x0)), (1, .ref ((xG X).1 x1)), (2, .int x2)] [] := by
  induction n with
  | zero =>
    intro σ x0 x1 x2 hx0 hx1 h
    exact nomatch (show (none : Option St) = some σ' from h)
  | succ n ih =>
    intro σ x0 x1 x2 hx0 hx1 h
    exact w_X6_keep_b2 C hr _ ih σ x0 x1 x2 hx0 hx1 h
set_option maxHeartbeats 4000000 in
set_option maxRecDepth 100000 in
theorem w_X6_keep_b0 {X : CX} (C : Cok X RX6 cX6_keep 3 0 0) {σ' : St} (hr : RtV X cX6_keep σ') (σ : St) (x0 : Nat) (x1 : Nat) (hx0 : kd x0 = 7) (hx1 : kd x1 = 8) (h : f_X6_keep σ x0 x1 = some σ') : V X σ 0 [(0, .ref ((xG X).1 x0)), (1, .ref ((xG X).1 x1))] [] := by
  unfold f_X6_keep at h
  refine r_iconst C (v := 0) (q := 1) dX6_keep_0 (by decide) rfl ?_
  refine r_istore_n C (lv' := [(2, .int 0), (0, .ref ((xG X).1 x0)), (1, .ref ((xG X).1 x1))]) (q := 2) dX6_keep_1 rfl (by decide) rfl rfl ?_
  refine r_sub (lv' := [(0, .ref ((xG X).1 x0)), (1, .ref ((xG X).1 x1)), (2, .int 0)]) [1, 2, 0] rfl ?_
  exact w_X6_keep_l2 C hr  FU _ _ _ _ hx0 hx1 h

theorem m_X6_keep (G : Gm) (l : Launch) {σ σ' : St} {x0 : Nat} {x1 : Nat} (hx0 : kd x0 = 7) (hx1 : kd x1 = 8) (h : f_X6_keep σ x0 x1 = some σ') : Ctr G l yX6_keep cX6_keep 3 none 0 0 [.ref (G.1 x0), .ref (G.1 x1)] σ none True σ' := by
  refine Ctr.v (by decide) (Nat.le_of_ble_eq_true rfl) ?_
  intro X hG C hr
  subst hG
  exact w_X6_keep_b0 C hr _ _ _ hx0 hx1 h
-- X6_again
set_option maxHeartbeats 4000000 in
set_option maxRecDepth 100000 in
theorem w_X6_again_b101 {X : CX} (C : Cok X RX6 cX6_again 3 0 0) {σ' : St} (hr : RtV X cX6_again σ') (k_101 : St → Nat → Nat → Int32 → Option St) (hk_101 : ∀ (σ : St) (x0 : Nat) (x1 : Nat) (x2 : Int32), kd x0 = 7 → kd x1 = 8 → k_101 σ x0 x1 x2 = some σ' → V X σ 101 [(0, .ref ((xG X).1 x0)), (1, .ref ((xG X).1 x1)), (2, .int x2)] []) (σ : St) (x0 : Nat) (x1 : Nat) (x2 : Int32) (hx0 : kd x0 = 7) (hx1 : kd x1 = 8) (h : f_X6_again_b101 k_101 σ x0 x1 x2 = some σ') : V X σ 101 [(0, .ref ((xG X).1 x0)), (1, .ref ((xG X).1 x1)), (2, .int x2)] [] := by
  unfold f_X6_again_b101 at h
  refine r_iload_n C 2 (q := 102) dX6_again_101 rfl rfl ?_
  refine r_bipush C (v := 40) (q := 104) dX6_again_102 (by decide) rfl ?_
  refine r_icmp_ge C (tgt := 125) (q := 107) dX6_again_104 (by decide) rfl (fun c_104 => ?_) (fun c_104 => ?_)
  · replace h := (if_pos c_104).symm.trans h
    refine r_aload_n C 0 (q := 126) dX6_again_125 rfl rfl ?_
    refine r_aload_n C 1 (q := 127) dX6_again_126 rfl rfl ?_
    refine r_bipush C (v := 96) (q := 129) dX6_again_127 (by decide) rfl ?_
    obtain ⟨v_129, e_129, h⟩ := bs h
    refine r_iald C (q := 130) dX6_again_129 hx1 e_129 rfl ?_
    obtain ⟨s_130, e_130, h⟩ := bs h
    refine p_X6_6 C (q := 133) dX6_again_130 q_995 hx0 e_130 rfl ?_
    refine r_aload_n C 0 (q := 134) dX6_again_133 rfl rfl ?_
    refine r_aload_n C 1 (q := 135) dX6_again_134 rfl rfl ?_
    refine r_bipush C (v := 97) (q := 137) dX6_again_135 (by decide) rfl ?_
    obtain ⟨v_137, e_137, h⟩ := bs h
    refine r_iald C (q := 138) dX6_again_137 hx1 e_137 rfl ?_
    obtain ⟨s_138, e_138, h⟩ := bs h
    refine p_X6_11 C (q := 141) dX6_again_138 q_1000 hx0 e_138 rfl ?_
    refine r_aload_n C 0 (q := 142) dX6_again_141 rfl rfl ?_
    refine r_aload_n C 1 (q := 143) dX6_again_142 rfl rfl ?_
    refine r_bipush C (v := 98) (q := 145) dX6_again_143 (by decide) rfl ?_
    obtain ⟨v_145, e_145, h⟩ := bs h
    refine r_iald C (q := 146) dX6_again_145 hx1 e_145 rfl ?_
    obtain ⟨s_146, e_146, h⟩ := bs h
    refine p_X6_3 C (q := 149) dX6_again_146 q_992 hx0 e_146 rfl ?_
    refine r_aload_n C 0 (q := 150) dX6_again_149 rfl rfl ?_
    refine r_aload_n C 1 (q := 151) dX6_again_150 rfl rfl ?_
    refine r_bipush C (v := 99) (q := 153) dX6_again_151 (by decide) rfl ?_
    obtain ⟨v_153, e_153, h⟩ := bs h
    refine r_iald C (q := 154) dX6_again_153 hx1 e_153 rfl ?_
    obtain ⟨s_154, e_154, h⟩ := bs h
    refine p_X6_4 C (q := 157) dX6_again_154 q_993 hx0 e_154 rfl ?_
    refine r_aload_n C 0 (q := 158) dX6_again_157 rfl rfl ?_
    refine r_aload_n C 1 (q := 159) dX6_again_158 rfl rfl ?_
    refine r_bipush C (v := 100) (q := 161) dX6_again_159 (by decide) rfl ?_
    obtain ⟨v_161, e_161, h⟩ := bs h
    refine r_iald C (q := 162) dX6_again_161 hx1 e_161 rfl ?_
    obtain ⟨s_162, e_162, h⟩ := bs h
    refine p_X6_5 C (q := 165) dX6_again_162 q_994 hx0 e_162 rfl ?_
    refine r_aload_n C 0 (q := 166) dX6_again_165 rfl rfl ?_
    refine r_aload_n C 1 (q := 167) dX6_again_166 rfl rfl ?_
    refine r_bipush C (v := 101) (q := 169) dX6_again_167 (by decide) rfl ?_
    obtain ⟨v_169, e_169, h⟩ := bs h
    refine r_iald C (q := 170) dX6_again_169 hx1 e_169 rfl ?_
    obtain ⟨s_170, e_170, h⟩ := bs h
    refine p_X6_14 C (q := 173) dX6_again_170 q_1003 hx0 e_170 rfl ?_
    refine r_aload_n C 0 (q := 174) dX6_again_173 rfl rfl ?_
    refine r_aload_n C 1 (q := 175) dX6_again_174 rfl rfl ?_
    refine r_bipush C (v := 102) (q := 177) dX6_again_175 (by decide) rfl ?_
    obtain ⟨v_177, e_177, h⟩ := bs h
    refine r_iald C (q := 178) dX6_again_177 hx1 e_177 rfl ?_
    obtain ⟨s_178, e_178, h⟩ := bs h
    refine p_X6_15 C (q := 181) dX6_again_178 q_1004 hx0 e_178 rfl ?_
    obtain rfl := Option.some.inj h
    exact hr _ _ dX6_again_181
  · replace h := (if_neg c_104).symm.trans h
    refine r_aload_n C 0 (q := 108) dX6_again_107 rfl rfl ?_
    refine g_X6_13 C (q := 111) dX6_again_108 q_1002 hx0 rfl ?_
    refine r_iload_n C 2 (q := 112) dX6_again_111 rfl rfl ?_
    refine r_aload_n C 1 (q := 113) dX6_again_112 rfl rfl ?_
    refine r_bipush C (v := 56) (q := 115) dX6_again_113 (by decide) rfl ?_
    refine r_iload_n C 2 (q := 116) dX6_again_115 rfl rfl ?_
    refine r_iadd C (q := 117) dX6_again_116 rfl ?_
    obtain ⟨v_117, e_117, h⟩ := bs h
    refine r_iald C (q := 118) dX6_again_117 hx1 e_117 rfl ?_
    obtain ⟨s_118, e_118, h⟩ := bs h
    refine r_iast C (q := 119) dX6_again_118 (kf_X6_13 hx0) e_118 rfl ?_
    obtain ⟨y_119, e_119, h⟩ := bs h
    refine r_iinc C (v := y_119) (lv' := [(2, .int y_119), (0, .ref ((xG X).1 x0)), (1, .ref ((xG X).1 x1))]) (q := 122) 2 dX6_again_119 rfl (Option.some.inj e_119) (by decide) rfl rfl ?_
    refine r_goto C (tgt := 101) dX6_again_122 (by decide) ?_
    refine r_sub (lv' := [(0, .ref ((xG X).1 x0)), (1, .ref ((xG X).1 x1)), (2, .int y_119)]) [1, 2, 0] rfl ?_
    exact hk_101 _ _ _ _ hx0 hx1 h

theorem w_X6_again_l101 {X : CX} (C : Cok X RX6 cX6_again 3 0 0) {σ' : St} (hr : RtV X cX6_again σ') (n : Nat) : ∀ (σ : St) (x0 : Nat) (x1 : Nat) (x2 : Int32), kd x0 = 7 → kd x1 = 8 → f_X6_again_l101 n σ x0 x1 x2 = some σ' → V X σ 101 [(0, .ref ((xG X).1 x0)), (1, .ref ((xG X).1 x1)), (2, .int x2)] [] := by
  induction n with
  | zero =>
    intro σ x0 x1 x2 hx0 hx1 h
    exact nomatch (show (none : Option St) = some σ' from h)
  | succ n ih =>
    intro σ x0 x1 x2 hx0 hx1 h
    exact w_X6_again_b101 C hr _ ih σ x0 x1 x2 hx0 hx1 h
set_option maxHeartbeats 4000000 in
set_option maxRecDepth 100000 in
theorem w_X6_again_b75 {X : CX} (C : Cok X RX6 cX6_again 3 0 0) {σ' : St} (hr : RtV X cX6_again σ') (k_75 : St → Nat → Nat → Int32 → Option St) (hk_75 : ∀ (σ : St) (x0 : Nat) (x1 : Nat) (x2 : Int32), kd x0 = 7 → kd x1 = 8 → k_75 σ x0 x1 x2 = some σ' → V X σ 75 [(0, .ref ((xG X).1 x0)), (1, .ref ((xG X).1 x1)), (2, .int x2)] []) (σ : St) (x0 : Nat) (x1 : Nat) (x2 : Int32) (hx0 : kd x0 = 7) (hx1 : kd x1 = 8) (h : f_X6_again_b75 k_75 σ x0 x1 x2 = some σ') : V X σ 75 [(0, .ref ((xG X).1 x0)), (1, .ref ((xG X).1 x1)), (2, .int x2)] [] := by
  unfold f_X6_again_b75 at h
  refine r_iload_n C 2 (q := 76) dX6_again_75 rfl rfl ?_
  refine r_bipush C (v := 8) (q := 78) dX6_again_76 (by decide) rfl ?_
  refine r_icmp_ge C (tgt := 99) (q := 81) dX6_again_78 (by decide) rfl (fun c_78 => ?_) (fun c_78 => ?_)
  · replace h := (if_pos c_78).symm.trans h
    refine r_iconst C (v := 0) (q := 100) dX6_again_99 (by decide) rfl ?_
    refine r_istore_n C (lv' := [(2, .int 0), (0, .ref ((xG X).1 x0)), (1, .ref ((xG X).1 x1))]) (q := 101) dX6_again_100 rfl (by decide) rfl rfl ?_
    refine r_sub (lv' := [(0, .ref ((xG X).1 x0)), (1, .ref ((xG X).1 x1)), (2, .int 0)]) [1, 2, 0] rfl ?_
    exact w_X6_again_l101 C hr  FU _ _ _ _ hx0 hx1 h
  · replace h := (if_neg c_78).symm.trans h
    refine r_aload_n C 0 (q := 82) dX6_again_81 rfl rfl ?_
    refine g_X6_12 C (q := 85) dX6_again_82 q_1001 hx0 rfl ?_
    refine r_iload_n C 2 (q := 86) dX6_again_85 rfl rfl ?_
    refine r_aload_n C 1 (q := 87) dX6_again_86 rfl rfl ?_
    refine r_bipush C (v := 48) (q := 89) dX6_again_87 (by decide) rfl ?_
    refine r_iload_n C 2 (q := 90) dX6_again_89 rfl rfl ?_
    refine r_iadd C (q := 91) dX6_again_90 rfl ?_
    obtain ⟨v_91, e_91, h⟩ := bs h
    refine r_iald C (q := 92) dX6_again_91 hx1 e_91 rfl ?_
    obtain ⟨s_92, e_92, h⟩ := bs h
    refine r_iast C (q := 93) dX6_again_92 (kf_X6_12 hx0) e_92 rfl ?_
    obtain ⟨y_93, e_93, h⟩ := bs h
    refine r_iinc C (v := y_93) (lv' := [(2, .int y_93), (0, .ref ((xG X).1 x0)), (1, .ref ((xG X).1 x1))]) (q := 96) 2 dX6_again_93 rfl (Option.some.inj e_93) (by decide) rfl rfl ?_
    refine r_goto C (tgt := 75) dX6_again_96 (by decide) ?_
    refine r_sub (lv' := [(0, .ref ((xG X).1 x0)), (1, .ref ((xG X).1 x1)), (2, .int y_93)]) [1, 2, 0] rfl ?_
    exact hk_75 _ _ _ _ hx0 hx1 h

theorem w_X6_again_l75 {X : CX} (C : Cok X RX6 cX6_again 3 0 0) {σ' : St} (hr : RtV X cX6_again σ') (n : Nat) : ∀ (σ : St) (x0 : Nat) (x1 : Nat) (x2 : Int32), kd x0 = 7 → kd x1 = 8 → f_X6_again_l75 n σ x0 x1 x2 = some σ' → V X σ 75 [(0, .ref ((xG X).1 x0)), (1, .ref ((xG X).1 x1)), (2, .int x2)] [] := by
  induction n with
  | zero =>
    intro σ x0 x1 x2 hx0 hx1 h
    exact nomatch (show (none : Option St) = some σ' from h)
  | succ n ih =>
    intro σ x0 x1 x2 hx0 hx1 h
    exact w_X6_again_b75 C hr _ ih σ x0 x1 x2 hx0 hx1 h
set_option maxHeartbeats 4000000 in
set_option maxRecDepth 100000 in
theorem w_X6_again_b49 {X : CX} (C : Cok X RX6 cX6_again 3 0 0) {σ' : St} (hr : RtV X cX6_again σ') (k_49 : St → Nat → Nat → Int32 → Option St) (hk_49 : ∀ (σ : St) (x0 : Nat) (x1 : Nat) (x2 : Int32), kd x0 = 7 → kd x1 = 8 → k_49 σ x0 x1 x2 = some σ' → V X σ 49 [(0, .ref ((xG X).1 x0)), (1, .ref ((xG X).1 x1)), (2, .int x2)] []) (σ : St) (x0 : Nat) (x1 : Nat) (x2 : Int32) (hx0 : kd x0 = 7) (hx1 : kd x1 = 8) (h : f_X6_again_b49 k_49 σ x0 x1 x2 = some σ') : V X σ 49 [(0, .ref ((xG X).1 x0)), (1, .ref ((xG X).1 x1)), (2, .int x2)] [] := by
  unfold f_X6_again_b49 at h
  refine r_iload_n C 2 (q := 50) dX6_again_49 rfl rfl ?_
  refine r_bipush C (v := 30) (q := 52) dX6_again_50 (by decide) rfl ?_
  refine r_icmp_ge C (tgt := 73) (q := 55) dX6_again_52 (by decide) rfl (fun c_52 => ?_) (fun c_52 => ?_)
  · replace h := (if_pos c_52).symm.trans h
    refine r_iconst C (v := 0) (q := 74) dX6_again_73 (by decide) rfl ?_
    refine r_istore_n C (lv' := [(2, .int 0), (0, .ref ((xG X).1 x0)), (1, .ref ((xG X).1 x1))]) (q := 75) dX6_again_74 rfl (by decide) rfl rfl ?_
    refine r_sub (lv' := [(0, .ref ((xG X).1 x0)), (1, .ref ((xG X).1 x1)), (2, .int 0)]) [1, 2, 0] rfl ?_
    exact w_X6_again_l75 C hr  FU _ _ _ _ hx0 hx1 h
  · replace h := (if_neg c_52).symm.trans h
    refine r_aload_n C 0 (q := 56) dX6_again_55 rfl rfl ?_
    refine g_X6_10 C (q := 59) dX6_again_56 q_999 hx0 rfl ?_
    refine r_iload_n C 2 (q := 60) dX6_again_59 rfl rfl ?_
    refine r_aload_n C 1 (q := 61) dX6_again_60 rfl rfl ?_
    refine r_bipush C (v := 18) (q := 63) dX6_again_61 (by decide) rfl ?_
    refine r_iload_n C 2 (q := 64) dX6_again_63 rfl rfl ?_
    refine r_iadd C (q := 65) dX6_again_64 rfl ?_
    obtain ⟨v_65, e_65, h⟩ := bs h
    refine r_iald C (q := 66) dX6_again_65 hx1 e_65 rfl ?_
    obtain ⟨s_66, e_66, h⟩ := bs h
    refine r_iast C (q := 67) dX6_again_66 (kf_X6_10 hx0) e_66 rfl ?_
    obtain ⟨y_67, e_67, h⟩ := bs h
    refine r_iinc C (v := y_67) (lv' := [(2, .int y_67), (0, .ref ((xG X).1 x0)), (1, .ref ((xG X).1 x1))]) (q := 70) 2 dX6_again_67 rfl (Option.some.inj e_67) (by decide) rfl rfl ?_
    refine r_goto C (tgt := 49) dX6_again_70 (by decide) ?_
    refine r_sub (lv' := [(0, .ref ((xG X).1 x0)), (1, .ref ((xG X).1 x1)), (2, .int y_67)]) [1, 2, 0] rfl ?_
    exact hk_49 _ _ _ _ hx0 hx1 h

theorem w_X6_again_l49 {X : CX} (C : Cok X RX6 cX6_again 3 0 0) {σ' : St} (hr : RtV X cX6_again σ') (n : Nat) : ∀ (σ : St) (x0 : Nat) (x1 : Nat) (x2 : Int32), kd x0 = 7 → kd x1 = 8 → f_X6_again_l49 n σ x0 x1 x2 = some σ' → V X σ 49 [(0, .ref ((xG X).1 x0)), (1, .ref ((xG X).1 x1)), (2, .int x2)] [] := by
  induction n with
  | zero =>
    intro σ x0 x1 x2 hx0 hx1 h
    exact nomatch (show (none : Option St) = some σ' from h)
  | succ n ih =>
    intro σ x0 x1 x2 hx0 hx1 h
    exact w_X6_again_b49 C hr _ ih σ x0 x1 x2 hx0 hx1 h
set_option maxHeartbeats 4000000 in
set_option maxRecDepth 100000 in
theorem w_X6_again_b2 {X : CX} (C : Cok X RX6 cX6_again 3 0 0) {σ' : St} (hr : RtV X cX6_again σ') (k_2 : St → Nat → Nat → Int32 → Option St) (hk_2 : ∀ (σ : St) (x0 : Nat) (x1 : Nat) (x2 : Int32), kd x0 = 7 → kd x1 = 8 → k_2 σ x0 x1 x2 = some σ' → V X σ 2 [(0, .ref ((xG X).1 x0)), (1, .ref ((xG X).1 x1)), (2, .int x2)] []) (σ : St) (x0 : Nat) (x1 : Nat) (x2 : Int32) (hx0 : kd x0 = 7) (hx1 : kd x1 = 8) (h : f_X6_again_b2 k_2 σ x0 x1 x2 = some σ') : V X σ 2 [(0, .ref ((xG X).1 x0)), (1, .ref ((xG X).1 x1)), (2, .int x2)] [] := by
  unfold f_X6_again_b2 at h
  refine r_iload_n C 2 (q := 3) dX6_again_2 rfl rfl ?_
  refine r_bipush C (v := 6) (q := 5) dX6_again_3 (by decide) rfl ?_
  refine r_icmp_ge C (tgt := 47) (q := 8) dX6_again_5 (by decide) rfl (fun c_5 => ?_) (fun c_5 => ?_)
  · replace h := (if_pos c_5).symm.trans h
    refine r_iconst C (v := 0) (q := 48) dX6_again_47 (by decide) rfl ?_
    refine r_istore_n C (lv' := [(2, .int 0), (0, .ref ((xG X).1 x0)), (1, .ref ((xG X).1 x1))]) (q := 49) dX6_again_48 rfl (by decide) rfl rfl ?_
    refine r_sub (lv' := [(0, .ref ((xG X).1 x0)), (1, .ref ((xG X).1 x1)), (2, .int 0)]) [1, 2, 0] rfl ?_
    exact w_X6_again_l49 C hr  FU _ _ _ _ hx0 hx1 h
  · replace h := (if_neg c_5).symm.trans h
    refine r_aload_n C 0 (q := 9) dX6_again_8 rfl rfl ?_
    refine g_X6_7 C (q := 12) dX6_again_9 q_996 hx0 rfl ?_
    refine r_iload_n C 2 (q := 13) dX6_again_12 rfl rfl ?_
    refine r_aload_n C 1 (q := 14) dX6_again_13 rfl rfl ?_
    refine r_iload_n C 2 (q := 15) dX6_again_14 rfl rfl ?_
    obtain ⟨v_15, e_15, h⟩ := bs h
    refine r_iald C (q := 16) dX6_again_15 hx1 e_15 rfl ?_
    obtain ⟨s_16, e_16, h⟩ := bs h
    refine r_iast C (q := 17) dX6_again_16 (kf_X6_7 hx0) e_16 rfl ?_
    refine r_aload_n C 0 (q := 18) dX6_again_17 rfl rfl ?_
    refine g_X6_8 C (q := 21) dX6_again_18 q_997 hx0 rfl ?_
    refine r_iload_n C 2 (q := 22) dX6_again_21 rfl rfl ?_
    refine r_aload_n C 1 (q := 23) dX6_again_22 rfl rfl ?_
    refine r_bipush C (v := 6) (q := 25) dX6_again_23 (by decide) rfl ?_
    refine r_iload_n C 2 (q := 26) dX6_again_25 rfl rfl ?_
    refine r_iadd C (q := 27) dX6_again_26 rfl ?_
    obtain ⟨v_27, e_27, h⟩ := bs h
    refine r_iald C (q := 28) dX6_again_27 hx1 e_27 rfl ?_
    obtain ⟨s_28, e_28, h⟩ := bs h
    refine r_iast C (q := 29) dX6_again_28 (kf_X6_8 hx0) e_28 rfl ?_
    refine r_aload_n C 0 (q := 30) dX6_again_29 rfl rfl ?_
    refine g_X6_9 C (q := 33) dX6_again_30 q_998 hx0 rfl ?_
    refine r_iload_n C 2 (q := 34) dX6_again_33 rfl rfl ?_
    refine r_aload_n C 1 (q := 35) dX6_again_34 rfl rfl ?_
    refine r_bipush C (v := 12) (q := 37) dX6_again_35 (by decide) rfl ?_
    refine r_iload_n C 2 (q := 38) dX6_again_37 rfl rfl ?_
    refine r_iadd C (q := 39) dX6_again_38 rfl ?_
    obtain ⟨v_39, e_39, h⟩ := bs h
    refine r_iald C (q := 40) dX6_again_39 hx1 e_39 rfl ?_
    obtain ⟨s_40, e_40, h⟩ := bs h
    refine r_iast C (q := 41) dX6_again_40 (kf_X6_9 hx0) e_40 rfl ?_
    obtain ⟨y_41, e_41, h⟩ := bs h
    refine r_iinc C (v := y_41) (lv' := [(2, .int y_41), (0, .ref ((xG X).1 x0)), (1, .ref ((xG X).1 x1))]) (q := 44) 2 dX6_again_41 rfl (Option.some.inj e_41) (by decide) rfl rfl ?_
    refine r_goto C (tgt := 2) dX6_again_44 (by decide) ?_
    refine r_sub (lv' := [(0, .ref ((xG X).1 x0)), (1, .ref ((xG X).1 x1)), (2, .int y_41)]) [1, 2, 0] rfl ?_
    exact hk_2 _ _ _ _ hx0 hx1 h

theorem w_X6_again_l2 {X : CX} (C : Cok X RX6 cX6_again 3 0 0) {σ' : St} (hr : RtV X cX6_again σ') (n : Nat) : ∀ (σ : St) (x0 : Nat) (x1 : Nat) (x2 : Int32), kd x0 = 7 → kd x1 = 8 → f_X6_again_l2 n σ x0 x1 x2 = some σ' → V X σ 2 [(0, .ref ((xG X).1 x0)), (1, .ref ((xG X).1 x1)), (2, .int x2)] [] := by
  induction n with
  | zero =>
    intro σ x0 x1 x2 hx0 hx1 h
    exact nomatch (show (none : Option St) = some σ' from h)
  | succ n ih =>
    intro σ x0 x1 x2 hx0 hx1 h
    exact w_X6_again_b2 C hr _ ih σ x0 x1 x2 hx0 hx1 h
set_option maxHeartbeats 4000000 in
set_option maxRecDepth 100000 in
theorem w_X6_again_b0 {X : CX} (C : Cok X RX6 cX6_again 3 0 0) {σ' : St} (hr : RtV X cX6_again σ') (σ : St) (x0 : Nat) (x1 : Nat) (hx0 : kd x0 = 7) (hx1 : kd x1 = 8) (h : f_X6_again σ x0 x1 = some σ') : V X σ 0 [(0, .ref ((xG X).1 x0)), (1, .ref ((xG X).1 x1))] [] := by
  unfold f_X6_again at h
  refine r_iconst C (v := 0) (q := 1) dX6_again_0 (by decide) rfl ?_
  refine r_istore_n C (lv' := [(2, .int 0), (0, .ref ((xG X).1 x0)), (1, .ref ((xG X).1 x1))]) (q := 2) dX6_again_1 rfl (by decide) rfl rfl ?_
  refine r_sub (lv' := [(0, .ref ((xG X).1 x0)), (1, .ref ((xG X).1 x1)), (2, .int 0)]) [1, 2, 0] rfl ?_
  exact w_X6_again_l2 C hr  FU _ _ _ _ hx0 hx1 h

theorem m_X6_again (G : Gm) (l : Launch) {σ σ' : St} {x0 : Nat} {x1 : Nat} (hx0 : kd x0 = 7) (hx1 : kd x1 = 8) (h : f_X6_again σ x0 x1 = some σ') : Ctr G l yX6_again cX6_again 3 none 0 0 [.ref (G.1 x0), .ref (G.1 x1)] σ none True σ' := by
  refine Ctr.v (by decide) (Nat.le_of_ble_eq_true rfl) ?_
  intro X hG C hr
  subst hG
  exact w_X6_again_b0 C hr _ _ _ hx0 hx1 h
-- X6_house
set_option maxHeartbeats 4000000 in
set_option maxRecDepth 100000 in
theorem w_X6_house_b72 {X : CX} (C : Cok X RX6 cX6_house 3 6 131) {σ' : St} {r : Int32} (hr : RtI X cX6_house r σ') (k_17 : St → Nat → Int32 → Int32 → Option (Int32 × St)) (hk_17 : ∀ (σ : St) (x0 : Nat) (x1 : Int32) (x2 : Int32), kd x0 = 7 → k_17 σ x0 x1 x2 = some (r, σ') → V X σ 17 [(0, .ref ((xG X).1 x0)), (1, .int x1), (2, .int x2)] []) (σ : St) (x0 : Nat) (x1 : Int32) (t0 : Int32) (hx0 : kd x0 = 7) (h : f_X6_house_b72 k_17 σ x0 x1 t0 = some (r, σ')) : V X σ 72 [(0, .ref ((xG X).1 x0)), (1, .int x1)] [.int t0] := by
  unfold f_X6_house_b72 at h
  refine r_istore_n C (lv' := [(2, .int t0), (0, .ref ((xG X).1 x0)), (1, .int x1)]) (q := 73) dX6_house_72 rfl (by decide) rfl rfl ?_
  refine r_goto C (tgt := 17) dX6_house_73 (by decide) ?_
  refine r_sub (lv' := [(0, .ref ((xG X).1 x0)), (1, .int x1), (2, .int t0)]) [1, 2, 0] rfl ?_
  exact hk_17 _ _ _ _ hx0 h

set_option maxHeartbeats 4000000 in
set_option maxRecDepth 100000 in
theorem w_X6_house_b71 {X : CX} (C : Cok X RX6 cX6_house 3 6 131) {σ' : St} {r : Int32} (hr : RtI X cX6_house r σ') (k_17 : St → Nat → Int32 → Int32 → Option (Int32 × St)) (hk_17 : ∀ (σ : St) (x0 : Nat) (x1 : Int32) (x2 : Int32), kd x0 = 7 → k_17 σ x0 x1 x2 = some (r, σ') → V X σ 17 [(0, .ref ((xG X).1 x0)), (1, .int x1), (2, .int x2)] []) (σ : St) (x0 : Nat) (x1 : Int32) (hx0 : kd x0 = 7) (h : f_X6_house_b71 k_17 σ x0 x1 = some (r, σ')) : V X σ 71 [(0, .ref ((xG X).1 x0)), (1, .int x1)] [] := by
  unfold f_X6_house_b71 at h
  refine r_iconst C (v := 0) (q := 72) dX6_house_71 (by decide) rfl ?_
  exact w_X6_house_b72 C hr _ hk_17 _ _ _ _ hx0 h

set_option maxHeartbeats 4000000 in
set_option maxRecDepth 100000 in
theorem w_X6_house_b55 {X : CX} (C : Cok X RX6 cX6_house 3 6 131) {σ' : St} {r : Int32} (hr : RtI X cX6_house r σ') (k_17 : St → Nat → Int32 → Int32 → Option (Int32 × St)) (hk_17 : ∀ (σ : St) (x0 : Nat) (x1 : Int32) (x2 : Int32), kd x0 = 7 → k_17 σ x0 x1 x2 = some (r, σ') → V X σ 17 [(0, .ref ((xG X).1 x0)), (1, .int x1), (2, .int x2)] []) (σ : St) (x0 : Nat) (x1 : Int32) (x2 : Int32) (hx0 : kd x0 = 7) (h : f_X6_house_b55 k_17 σ x0 x1 x2 = some (r, σ')) : V X σ 55 [(0, .ref ((xG X).1 x0)), (1, .int x1), (2, .int x2)] [] := by
  unfold f_X6_house_b55 at h
  refine r_iload_n C 2 (q := 56) dX6_house_55 rfl rfl ?_
  refine r_if_eq C (tgt := 71) (q := 59) dX6_house_56 (by decide) rfl (fun c_56 => ?_) (fun c_56 => ?_)
  · replace h := (if_pos c_56).symm.trans h
    refine r_sub (lv' := [(0, .ref ((xG X).1 x0)), (1, .int x1)]) [0, 1] rfl ?_
    exact w_X6_house_b71 C hr _ hk_17 _ _ _ hx0 h
  · replace h := (if_neg c_56).symm.trans h
    refine r_aload_n C 0 (q := 60) dX6_house_59 rfl rfl ?_
    refine g_X6_20 C (q := 63) dX6_house_60 q_1009 hx0 rfl ?_
    refine r_iconst C (v := 3) (q := 64) dX6_house_63 (by decide) rfl ?_
    refine r_icmp_ne C (tgt := 71) (q := 67) dX6_house_64 (by decide) rfl (fun c_64 => ?_) (fun c_64 => ?_)
    · replace h := (if_neg c_64).symm.trans h
      refine r_sub (lv' := [(0, .ref ((xG X).1 x0)), (1, .int x1)]) [0, 1] rfl ?_
      exact w_X6_house_b71 C hr _ hk_17 _ _ _ hx0 h
    · replace h := (if_pos c_64).symm.trans h
      refine r_iconst C (v := 1) (q := 68) dX6_house_67 (by decide) rfl ?_
      refine r_goto C (tgt := 72) dX6_house_68 (by decide) ?_
      refine r_sub (lv' := [(0, .ref ((xG X).1 x0)), (1, .int x1)]) [0, 1] rfl ?_
      exact w_X6_house_b72 C hr _ hk_17 _ _ _ _ hx0 h

set_option maxHeartbeats 4000000 in
set_option maxRecDepth 100000 in
theorem w_X6_house_b37 {X : CX} (C : Cok X RX6 cX6_house 3 6 131) {σ' : St} {r : Int32} (hr : RtI X cX6_house r σ') (k_17 : St → Nat → Int32 → Int32 → Option (Int32 × St)) (hk_17 : ∀ (σ : St) (x0 : Nat) (x1 : Int32) (x2 : Int32), kd x0 = 7 → k_17 σ x0 x1 x2 = some (r, σ') → V X σ 17 [(0, .ref ((xG X).1 x0)), (1, .int x1), (2, .int x2)] []) (σ : St) (x0 : Nat) (x1 : Int32) (x2 : Int32) (hx0 : kd x0 = 7) (h : f_X6_house_b37 k_17 σ x0 x1 x2 = some (r, σ')) : V X σ 37 [(0, .ref ((xG X).1 x0)), (1, .int x1), (2, .int x2)] [] := by
  unfold f_X6_house_b37 at h
  refine r_iload_n C 2 (q := 38) dX6_house_37 rfl rfl ?_
  refine r_if_eq C (tgt := 55) (q := 41) dX6_house_38 (by decide) rfl (fun c_38 => ?_) (fun c_38 => ?_)
  · replace h := (if_pos c_38).symm.trans h
    exact w_X6_house_b55 C hr _ hk_17 _ _ _ _ hx0 h
  · replace h := (if_neg c_38).symm.trans h
    refine r_aload_n C 0 (q := 42) dX6_house_41 rfl rfl ?_
    refine g_X6_20 C (q := 45) dX6_house_42 q_1009 hx0 rfl ?_
    refine r_if_ne C (tgt := 55) (q := 48) dX6_house_45 (by decide) rfl (fun c_45 => ?_) (fun c_45 => ?_)
    · replace h := (if_neg c_45).symm.trans h
      exact w_X6_house_b55 C hr _ hk_17 _ _ _ _ hx0 h
    · replace h := (if_pos c_45).symm.trans h
      refine r_aload_n C 0 (q := 49) dX6_house_48 rfl rfl ?_
      refine r_iconst C (v := 0) (q := 50) dX6_house_49 (by decide) rfl ?_
      obtain ⟨s_50, e_50, h⟩ := bs h
      refine p_X6_16 C (q := 53) dX6_house_50 q_1005 hx0 e_50 rfl ?_
      refine r_iload_n C 1 (q := 54) dX6_house_53 rfl rfl ?_
      obtain ⟨rfl, rfl⟩ := Prod.mk.inj (Option.some.inj h)
      exact hr _ _ dX6_house_54

set_option maxHeartbeats 4000000 in
set_option maxRecDepth 100000 in
theorem w_X6_house_b17 {X : CX} (C : Cok X RX6 cX6_house 3 6 131) {σ' : St} {r : Int32} (hr : RtI X cX6_house r σ') (k_17 : St → Nat → Int32 → Int32 → Option (Int32 × St)) (hk_17 : ∀ (σ : St) (x0 : Nat) (x1 : Int32) (x2 : Int32), kd x0 = 7 → k_17 σ x0 x1 x2 = some (r, σ') → V X σ 17 [(0, .ref ((xG X).1 x0)), (1, .int x1), (2, .int x2)] []) (σ : St) (x0 : Nat) (x1 : Int32) (x2 : Int32) (hx0 : kd x0 = 7) (h : f_X6_house_b17 k_17 σ x0 x1 x2 = some (r, σ')) : V X σ 17 [(0, .ref ((xG X).1 x0)), (1, .int x1), (2, .int x2)] [] := by
  unfold f_X6_house_b17 at h
  refine r_iload_n C 2 (q := 18) dX6_house_17 rfl rfl ?_
  refine r_if_eq C (tgt := 76) (q := 21) dX6_house_18 (by decide) rfl (fun c_18 => ?_) (fun c_18 => ?_)
  · replace h := (if_pos c_18).symm.trans h
    refine r_aload_n C 0 (q := 77) dX6_house_76 rfl rfl ?_
    refine r_aload_n C 0 (q := 78) dX6_house_77 rfl rfl ?_
    refine g_X6_25 C (q := 81) dX6_house_78 q_1014 hx0 rfl ?_
    obtain ⟨s_81, e_81, h⟩ := bs h
    refine r_callV C (ci := 6) (st := []) (st2 := []) (q := 84) (m_X6_again (xG X) (xl X) hx0 (kf_X6_25 hx0) e_81) ok_X6_again hx0 rfl ⟨_, rfl⟩ q_1255 rfl ⟨Nat.le_of_ble_eq_true rfl, Nat.le_of_ble_eq_true rfl⟩ rfl rfl (Nat.le_of_ble_eq_true rfl) dX6_house_81 rfl (fun hp_81 => ?_)
    refine r_aload_n C 0 (q := 85) dX6_house_84 rfl rfl ?_
    refine r_iconst C (v := 0) (q := 86) dX6_house_85 (by decide) rfl ?_
    obtain ⟨s_86, e_86, h⟩ := bs h
    refine p_X6_16 C (q := 89) dX6_house_86 q_1005 hx0 e_86 rfl ?_
    refine r_aload_n C 0 (q := 90) dX6_house_89 rfl rfl ?_
    refine r_bipush C (v := (-2)) (q := 92) dX6_house_90 (by decide) rfl ?_
    obtain ⟨v_92, s_92, e_92, h⟩ := bs2 h
    refine r_callV C (ci := 6) (st := []) (st2 := [.int v_92]) (q := 95) (m_X6_no (xG X) (xl X) hx0 e_92) ok_X6_no hx0 rfl ⟨_, rfl⟩ q_1084 rfl ⟨Nat.le_of_ble_eq_true rfl, Nat.le_of_ble_eq_true rfl⟩ rfl rfl (Nat.le_of_ble_eq_true rfl) dX6_house_92 rfl (fun hp_92 => ?_)
    refine r_pop C (q := 96) dX6_house_95 rfl rfl ?_
    refine r_bipush C (v := (-20)) (q := 98) dX6_house_96 (by decide) rfl ?_
    refine r_aload_n C 0 (q := 99) dX6_house_98 rfl rfl ?_
    refine g_X6_19 C (q := 102) dX6_house_99 q_1008 hx0 rfl ?_
    refine r_isub C (q := 103) dX6_house_102 rfl ?_
    obtain ⟨rfl, rfl⟩ := Prod.mk.inj (Option.some.inj h)
    exact hr _ _ dX6_house_103
  · replace h := (if_neg c_18).symm.trans h
    refine r_aload_n C 0 (q := 22) dX6_house_21 rfl rfl ?_
    obtain ⟨s_22, e_22, h⟩ := bs h
    refine r_callV C (ci := 6) (st := []) (st2 := []) (q := 25) (m_X6_next (xG X) (xl X) hx0 e_22) ok_X6_next hx0 rfl ⟨_, rfl⟩ q_1222 rfl ⟨Nat.le_of_ble_eq_true rfl, Nat.le_of_ble_eq_true rfl⟩ rfl rfl (Nat.le_of_ble_eq_true rfl) dX6_house_22 rfl (fun hp_22 => ?_)
    refine r_aload_n C 0 (q := 26) dX6_house_25 rfl rfl ?_
    obtain ⟨v_26, s_26, e_26, h⟩ := bs2 h
    refine r_callV C (ci := 6) (st := []) (st2 := [.int v_26]) (q := 29) (m_X6_statement (xG X) (xl X) hx0 e_26) ok_X6_statement hx0 rfl ⟨_, rfl⟩ q_1232 rfl ⟨Nat.le_of_ble_eq_true rfl, Nat.le_of_ble_eq_true rfl⟩ rfl rfl (Nat.le_of_ble_eq_true rfl) dX6_house_26 rfl (fun hp_26 => ?_)
    refine r_istore_n C (lv' := [(2, .int v_26), (0, .ref ((xG X).1 x0)), (1, .int x1)]) (q := 30) dX6_house_29 rfl (by decide) rfl rfl ?_
    refine r_iload_n C 0 (q := 31) dX6_house_30 rfl rfl ?_
    refine r_if_eq C (tgt := 37) (q := 34) dX6_house_31 (by decide) rfl (fun c_31 => ?_) (fun c_31 => ?_)
    · replace h := (if_pos c_31).symm.trans h
      refine r_sub (lv' := [(0, .ref ((xG X).1 x0)), (1, .int x1), (2, .int v_26)]) [1, 2, 0] rfl ?_
      exact w_X6_house_b37 C hr _ hk_17 _ _ _ _ hx0 h
    · replace h := (if_neg c_31).symm.trans h
      obtain ⟨y_34, e_34, h⟩ := bs h
      refine r_iinc C (v := y_34) (lv' := [(1, .int y_34), (2, .int v_26), (0, .ref ((xG X).1 x0))]) (q := 37) 2 dX6_house_34 rfl (Option.some.inj e_34) (by decide) rfl rfl ?_
      refine r_sub (lv' := [(0, .ref ((xG X).1 x0)), (1, .int y_34), (2, .int v_26)]) [2, 0, 1] rfl ?_
      exact w_X6_house_b37 C hr _ hk_17 _ _ _ _ hx0 h

theorem w_X6_house_l17 {X : CX} (C : Cok X RX6 cX6_house 3 6 131) {σ' : St} {r : Int32} (hr : RtI X cX6_house r σ') (n : Nat) : ∀ (σ : St) (x0 : Nat) (x1 : Int32) (x2 : Int32), kd x0 = 7 → f_X6_house_l17 n σ x0 x1 x2 = some (r, σ') → V X σ 17 [(0, .ref ((xG X).1 x0)), (1, .int x1), (2, .int x2)] [] := by
  induction n with
  | zero =>
    intro σ x0 x1 x2 hx0 h
    exact nomatch (show (none : Option (Int32 × St)) = some (r, σ') from h)
  | succ n ih =>
    intro σ x0 x1 x2 hx0 h
    exact w_X6_house_b17 C hr _ ih σ x0 x1 x2 hx0 h
set_option maxHeartbeats 4000000 in
set_option maxRecDepth 100000 in
theorem w_X6_house_b0 {X : CX} (C : Cok X RX6 cX6_house 3 6 131) {σ' : St} {r : Int32} (hr : RtI X cX6_house r σ') (σ : St) (x0 : Nat) (hx0 : kd x0 = 7) (h : f_X6_house σ x0 = some (r, σ')) : V X σ 0 [(0, .ref ((xG X).1 x0))] [] := by
  unfold f_X6_house at h
  refine r_aload_n C 0 (q := 1) dX6_house_0 rfl rfl ?_
  refine r_aload_n C 0 (q := 2) dX6_house_1 rfl rfl ?_
  refine g_X6_25 C (q := 5) dX6_house_2 q_1014 hx0 rfl ?_
  obtain ⟨s_5, e_5, h⟩ := bs h
  refine r_callV C (ci := 6) (st := []) (st2 := []) (q := 8) (m_X6_keep (xG X) (xl X) hx0 (kf_X6_25 hx0) e_5) ok_X6_keep hx0 rfl ⟨_, rfl⟩ q_1218 rfl ⟨Nat.le_of_ble_eq_true rfl, Nat.le_of_ble_eq_true rfl⟩ rfl rfl (Nat.le_of_ble_eq_true rfl) dX6_house_5 rfl (fun hp_5 => ?_)
  refine r_aload_n C 0 (q := 9) dX6_house_8 rfl rfl ?_
  refine r_iconst C (v := 0) (q := 10) dX6_house_9 (by decide) rfl ?_
  obtain ⟨s_10, e_10, h⟩ := bs h
  refine p_X6_18 C (q := 13) dX6_house_10 q_1007 hx0 e_10 rfl ?_
  refine r_iconst C (v := 0) (q := 14) dX6_house_13 (by decide) rfl ?_
  refine r_istore_n C (lv' := [(1, .int 0), (0, .ref ((xG X).1 x0))]) (q := 15) dX6_house_14 rfl (by decide) rfl rfl ?_
  refine r_iconst C (v := 1) (q := 16) dX6_house_15 (by decide) rfl ?_
  refine r_istore_n C (lv' := [(2, .int 1), (1, .int 0), (0, .ref ((xG X).1 x0))]) (q := 17) dX6_house_16 rfl (by decide) rfl rfl ?_
  refine r_sub (lv' := [(0, .ref ((xG X).1 x0)), (1, .int 0), (2, .int 1)]) [2, 1, 0] rfl ?_
  exact w_X6_house_l17 C hr  FU _ _ _ _ hx0 h

theorem m_X6_house (G : Gm) (l : Launch) {σ σ' : St} {x0 : Nat} (hx0 : kd x0 = 7) {r : Int32} (h : f_X6_house σ x0 = some (r, σ')) : Ctr G l yX6_house cX6_house 3 (some .int) 6 131 [.ref (G.1 x0)] σ (some (.int r)) True σ' := by
  refine Ctr.i (by decide) (Nat.le_of_ble_eq_true rfl) ?_
  intro X hG C hr
  subst hG
  exact w_X6_house_b0 C hr _ _ hx0 h
-- X6_keyOf
set_option maxHeartbeats 4000000 in
set_option maxRecDepth 100000 in
theorem w_X6_keyOf_b73 {X : CX} (C : Cok X RX6 cX6_keyOf 3 3 63) {σ' : St} {r : Int32} (hr : RtI X cX6_keyOf r σ') (σ : St) (x0 : Nat) (x1 : Int32) (x2 : Int32) (hx0 : kd x0 = 7) (h : f_X6_keyOf_b73 σ x0 x1 x2 = some (r, σ')) : V X σ 73 [(0, .ref ((xG X).1 x0)), (1, .int x1), (2, .int x2)] [] := by
  unfold f_X6_keyOf_b73 at h
  refine r_iload_n C 2 (q := 74) dX6_keyOf_73 rfl rfl ?_
  by_cases c_74_0 : x2 = 0
  · replace h := (if_pos c_74_0).symm.trans h
    refine r_tabIn C (tgt := 108) (off := 34) dX6_keyOf_74 (by rw [c_74_0]; decide) (by rw [c_74_0]; decide) (by rw [c_74_0]; rfl) (by decide) ?_
    refine r_aload_n C 0 (q := 109) dX6_keyOf_108 rfl rfl ?_
    refine g_X6_7 C (q := 112) dX6_keyOf_109 q_996 hx0 rfl ?_
    refine r_iload_n C 1 (q := 113) dX6_keyOf_112 rfl rfl ?_
    obtain ⟨v_113, e_113, h⟩ := bs h
    refine r_iald C (q := 114) dX6_keyOf_113 (kf_X6_7 hx0) e_113 rfl ?_
    obtain ⟨rfl, rfl⟩ := Prod.mk.inj (Option.some.inj h)
    exact hr _ _ dX6_keyOf_114
  · replace h := (if_neg c_74_0).symm.trans h
    by_cases c_74_1 : x2 = 1
    · replace h := (if_pos c_74_1).symm.trans h
      refine r_tabIn C (tgt := 115) (off := 41) dX6_keyOf_74 (by rw [c_74_1]; decide) (by rw [c_74_1]; decide) (by rw [c_74_1]; rfl) (by decide) ?_
      refine r_aload_n C 0 (q := 116) dX6_keyOf_115 rfl rfl ?_
      refine g_X6_8 C (q := 119) dX6_keyOf_116 q_997 hx0 rfl ?_
      refine r_iload_n C 1 (q := 120) dX6_keyOf_119 rfl rfl ?_
      obtain ⟨v_120, e_120, h⟩ := bs h
      refine r_iald C (q := 121) dX6_keyOf_120 (kf_X6_8 hx0) e_120 rfl ?_
      obtain ⟨rfl, rfl⟩ := Prod.mk.inj (Option.some.inj h)
      exact hr _ _ dX6_keyOf_121
    · replace h := (if_neg c_74_1).symm.trans h
      by_cases c_74_2 : x2 = 2
      · replace h := (if_pos c_74_2).symm.trans h
        refine r_tabIn C (tgt := 122) (off := 48) dX6_keyOf_74 (by rw [c_74_2]; decide) (by rw [c_74_2]; decide) (by rw [c_74_2]; rfl) (by decide) ?_
        refine r_aload_n C 0 (q := 123) dX6_keyOf_122 rfl rfl ?_
        refine r_iload_n C 1 (q := 124) dX6_keyOf_123 rfl rfl ?_
        obtain ⟨v_124, e_124, h⟩ := bs h
        refine r_callV C (ci := 6) (st := []) (st2 := [.int v_124]) (q := 127) (m_X6_gone (xG X) (xl X) hx0 e_124) ok_X6_gone hx0 rfl ⟨_, rfl⟩ q_1127 rfl ⟨Nat.le_of_ble_eq_true rfl, Nat.le_of_ble_eq_true rfl⟩ rfl rfl (Nat.le_of_ble_eq_true rfl) dX6_keyOf_124 rfl (fun hp_124 => ?_)
        obtain ⟨rfl, rfl⟩ := Prod.mk.inj (Option.some.inj h)
        exact hr _ _ dX6_keyOf_127
      · replace h := (if_neg c_74_2).symm.trans h
        by_cases c_74_3 : x2 = 3
        · replace h := (if_pos c_74_3).symm.trans h
          refine r_tabIn C (tgt := 128) (off := 54) dX6_keyOf_74 (by rw [c_74_3]; decide) (by rw [c_74_3]; decide) (by rw [c_74_3]; rfl) (by decide) ?_
          refine r_aload_n C 0 (q := 129) dX6_keyOf_128 rfl rfl ?_
          refine r_iload_n C 1 (q := 130) dX6_keyOf_129 rfl rfl ?_
          obtain ⟨v_130, e_130, h⟩ := bs h
          refine r_callV C (ci := 6) (st := []) (st2 := [.int v_130]) (q := 133) (m_X6_broken (xG X) (xl X) hx0 e_130) ok_X6_broken hx0 rfl ⟨_, rfl⟩ q_1150 rfl ⟨Nat.le_of_ble_eq_true rfl, Nat.le_of_ble_eq_true rfl⟩ rfl rfl (Nat.le_of_ble_eq_true rfl) dX6_keyOf_130 rfl (fun hp_130 => ?_)
          refine r_if_eq C (tgt := 140) (q := 136) dX6_keyOf_133 (by decide) rfl (fun c_133 => ?_) (fun c_133 => ?_)
          · replace h := (if_pos c_133).symm.trans h
            refine r_iconst C (v := 0) (q := 141) dX6_keyOf_140 (by decide) rfl ?_
            obtain ⟨rfl, rfl⟩ := Prod.mk.inj (Option.some.inj h)
            exact hr _ _ dX6_keyOf_141
          · replace h := (if_neg c_133).symm.trans h
            refine r_iconst C (v := 1) (q := 137) dX6_keyOf_136 (by decide) rfl ?_
            refine r_goto C (tgt := 141) dX6_keyOf_137 (by decide) ?_
            obtain ⟨rfl, rfl⟩ := Prod.mk.inj (Option.some.inj h)
            exact hr _ _ dX6_keyOf_141
        · replace h := (if_neg c_74_3).symm.trans h
          by_cases c_74_4 : x2 = 4
          · replace h := (if_pos c_74_4).symm.trans h
            refine r_tabIn C (tgt := 142) (off := 68) dX6_keyOf_74 (by rw [c_74_4]; decide) (by rw [c_74_4]; decide) (by rw [c_74_4]; rfl) (by decide) ?_
            refine r_aload_n C 0 (q := 143) dX6_keyOf_142 rfl rfl ?_
            refine g_X6_9 C (q := 146) dX6_keyOf_143 q_998 hx0 rfl ?_
            refine r_iload_n C 1 (q := 147) dX6_keyOf_146 rfl rfl ?_
            obtain ⟨v_147, e_147, h⟩ := bs h
            refine r_iald C (q := 148) dX6_keyOf_147 (kf_X6_9 hx0) e_147 rfl ?_
            obtain ⟨rfl, rfl⟩ := Prod.mk.inj (Option.some.inj h)
            exact hr _ _ dX6_keyOf_148
          · replace h := (if_neg c_74_4).symm.trans h
            refine r_tabOut C (tgt := 149) dX6_keyOf_74 (tab_out (lt_s (lt_s (lt_s (lt_s (lt_s lt_0 c_74_0) c_74_1) c_74_2) c_74_3) c_74_4) (by decide)) (by decide) ?_
            refine r_aload_n C 0 (q := 150) dX6_keyOf_149 rfl rfl ?_
            refine r_bipush C (v := (-2)) (q := 152) dX6_keyOf_150 (by decide) rfl ?_
            obtain ⟨v_152, s_152, e_152, h⟩ := bs2 h
            refine r_callV C (ci := 6) (st := []) (st2 := [.int v_152]) (q := 155) (m_X6_no (xG X) (xl X) hx0 e_152) ok_X6_no hx0 rfl ⟨_, rfl⟩ q_1084 rfl ⟨Nat.le_of_ble_eq_true rfl, Nat.le_of_ble_eq_true rfl⟩ rfl rfl (Nat.le_of_ble_eq_true rfl) dX6_keyOf_152 rfl (fun hp_152 => ?_)
            obtain ⟨rfl, rfl⟩ := Prod.mk.inj (Option.some.inj h)
            exact hr _ _ dX6_keyOf_155

set_option maxHeartbeats 4000000 in
set_option maxRecDepth 100000 in
theorem w_X6_keyOf_b42 {X : CX} (C : Cok X RX6 cX6_keyOf 3 3 63) {σ' : St} {r : Int32} (hr : RtI X cX6_keyOf r σ') (σ : St) (x0 : Nat) (x1 : Int32) (x2 : Int32) (hx0 : kd x0 = 7) (h : f_X6_keyOf_b42 σ x0 x1 x2 = some (r, σ')) : V X σ 42 [(0, .ref ((xG X).1 x0)), (1, .int x1), (2, .int x2)] [] := by
  unfold f_X6_keyOf_b42 at h
  refine r_iload_n C 2 (q := 43) dX6_keyOf_42 rfl rfl ?_
  refine r_bipush C (v := 10) (q := 45) dX6_keyOf_43 (by decide) rfl ?_
  refine r_icmp_lt C (tgt := 73) (q := 48) dX6_keyOf_45 (by decide) rfl (fun c_45 => ?_) (fun c_45 => ?_)
  · replace h := (if_pos c_45).symm.trans h
    exact w_X6_keyOf_b73 C hr  _ _ _ _ hx0 h
  · replace h := (if_neg c_45).symm.trans h
    refine r_aload_n C 0 (q := 49) dX6_keyOf_48 rfl rfl ?_
    refine r_iload_n C 2 (q := 50) dX6_keyOf_49 rfl rfl ?_
    refine r_bipush C (v := 10) (q := 52) dX6_keyOf_50 (by decide) rfl ?_
    refine r_isub C (q := 53) dX6_keyOf_52 rfl ?_
    obtain ⟨v_53, e_53, h⟩ := bs h
    refine r_callV C (ci := 6) (st := []) (st2 := [.int v_53]) (q := 56) (m_X6_isPlace (xG X) (xl X) hx0 e_53) ok_X6_isPlace hx0 rfl ⟨_, rfl⟩ q_1191 rfl ⟨Nat.le_of_ble_eq_true rfl, Nat.le_of_ble_eq_true rfl⟩ rfl rfl (Nat.le_of_ble_eq_true rfl) dX6_keyOf_53 rfl (fun hp_53 => ?_)
    refine r_if_eq C (tgt := 73) (q := 59) dX6_keyOf_56 (by decide) rfl (fun c_56 => ?_) (fun c_56 => ?_)
    · replace h := (if_pos c_56).symm.trans h
      exact w_X6_keyOf_b73 C hr  _ _ _ _ hx0 h
    · replace h := (if_neg c_56).symm.trans h
      refine r_aload_n C 0 (q := 60) dX6_keyOf_59 rfl rfl ?_
      refine g_X6_10 C (q := 63) dX6_keyOf_60 q_999 hx0 rfl ?_
      refine r_iconst C (v := 5) (q := 64) dX6_keyOf_63 (by decide) rfl ?_
      refine r_iload_n C 1 (q := 65) dX6_keyOf_64 rfl rfl ?_
      refine r_imul C (q := 66) dX6_keyOf_65 rfl ?_
      refine r_iload_n C 2 (q := 67) dX6_keyOf_66 rfl rfl ?_
      refine r_iadd C (q := 68) dX6_keyOf_67 rfl ?_
      refine r_bipush C (v := 10) (q := 70) dX6_keyOf_68 (by decide) rfl ?_
      refine r_isub C (q := 71) dX6_keyOf_70 rfl ?_
      obtain ⟨v_71, e_71, h⟩ := bs h
      refine r_iald C (q := 72) dX6_keyOf_71 (kf_X6_10 hx0) e_71 rfl ?_
      obtain ⟨rfl, rfl⟩ := Prod.mk.inj (Option.some.inj h)
      exact hr _ _ dX6_keyOf_72

set_option maxHeartbeats 4000000 in
set_option maxRecDepth 100000 in
theorem w_X6_keyOf_b0 {X : CX} (C : Cok X RX6 cX6_keyOf 3 3 63) {σ' : St} {r : Int32} (hr : RtI X cX6_keyOf r σ') (σ : St) (x0 : Nat) (x1 : Int32) (x2 : Int32) (hx0 : kd x0 = 7) (h : f_X6_keyOf σ x0 x1 x2 = some (r, σ')) : V X σ 0 [(0, .ref ((xG X).1 x0)), (1, .int x1), (2, .int x2)] [] := by
  unfold f_X6_keyOf at h
  refine r_aload_n C 0 (q := 1) dX6_keyOf_0 rfl rfl ?_
  refine r_iload_n C 1 (q := 2) dX6_keyOf_1 rfl rfl ?_
  obtain ⟨v_2, e_2, h⟩ := bs h
  refine r_callV C (ci := 6) (st := []) (st2 := [.int v_2]) (q := 5) (m_X6_isKey (xG X) (xl X) hx0 e_2) ok_X6_isKey hx0 rfl ⟨_, rfl⟩ q_1116 rfl ⟨Nat.le_of_ble_eq_true rfl, Nat.le_of_ble_eq_true rfl⟩ rfl rfl (Nat.le_of_ble_eq_true rfl) dX6_keyOf_2 rfl (fun hp_2 => ?_)
  refine r_if_ne C (tgt := 15) (q := 8) dX6_keyOf_5 (by decide) rfl (fun c_5 => ?_) (fun c_5 => ?_)
  · replace h := (if_neg c_5).symm.trans h
    refine r_iload_n C 2 (q := 16) dX6_keyOf_15 rfl rfl ?_
    refine r_bipush C (v := 20) (q := 18) dX6_keyOf_16 (by decide) rfl ?_
    refine r_icmp_lt C (tgt := 42) (q := 21) dX6_keyOf_18 (by decide) rfl (fun c_18 => ?_) (fun c_18 => ?_)
    · replace h := (if_pos c_18).symm.trans h
      exact w_X6_keyOf_b42 C hr  _ _ _ _ hx0 h
    · replace h := (if_neg c_18).symm.trans h
      refine r_aload_n C 0 (q := 22) dX6_keyOf_21 rfl rfl ?_
      refine r_iload_n C 2 (q := 23) dX6_keyOf_22 rfl rfl ?_
      refine r_bipush C (v := 20) (q := 25) dX6_keyOf_23 (by decide) rfl ?_
      refine r_isub C (q := 26) dX6_keyOf_25 rfl ?_
      obtain ⟨v_26, e_26, h⟩ := bs h
      refine r_callV C (ci := 6) (st := []) (st2 := [.int v_26]) (q := 29) (m_X6_isPlace (xG X) (xl X) hx0 e_26) ok_X6_isPlace hx0 rfl ⟨_, rfl⟩ q_1191 rfl ⟨Nat.le_of_ble_eq_true rfl, Nat.le_of_ble_eq_true rfl⟩ rfl rfl (Nat.le_of_ble_eq_true rfl) dX6_keyOf_26 rfl (fun hp_26 => ?_)
      refine r_if_eq C (tgt := 42) (q := 32) dX6_keyOf_29 (by decide) rfl (fun c_29 => ?_) (fun c_29 => ?_)
      · replace h := (if_pos c_29).symm.trans h
        exact w_X6_keyOf_b42 C hr  _ _ _ _ hx0 h
      · replace h := (if_neg c_29).symm.trans h
        refine r_aload_n C 0 (q := 33) dX6_keyOf_32 rfl rfl ?_
        refine r_iload_n C 1 (q := 34) dX6_keyOf_33 rfl rfl ?_
        refine r_iload_n C 2 (q := 35) dX6_keyOf_34 rfl rfl ?_
        refine r_bipush C (v := 20) (q := 37) dX6_keyOf_35 (by decide) rfl ?_
        refine r_isub C (q := 38) dX6_keyOf_37 rfl ?_
        obtain ⟨v_38, e_38, h⟩ := bs h
        refine r_callV C (ci := 6) (st := []) (st2 := [.int v_38]) (q := 41) (m_X6_depth (xG X) (xl X) hx0 e_38) ok_X6_depth hx0 rfl ⟨_, rfl⟩ q_1143 rfl ⟨Nat.le_of_ble_eq_true rfl, Nat.le_of_ble_eq_true rfl⟩ rfl rfl (Nat.le_of_ble_eq_true rfl) dX6_keyOf_38 rfl (fun hp_38 => ?_)
        obtain ⟨rfl, rfl⟩ := Prod.mk.inj (Option.some.inj h)
        exact hr _ _ dX6_keyOf_41
  · replace h := (if_pos c_5).symm.trans h
    refine r_aload_n C 0 (q := 9) dX6_keyOf_8 rfl rfl ?_
    refine r_bipush C (v := (-2)) (q := 11) dX6_keyOf_9 (by decide) rfl ?_
    obtain ⟨v_11, s_11, e_11, h⟩ := bs2 h
    refine r_callV C (ci := 6) (st := []) (st2 := [.int v_11]) (q := 14) (m_X6_no (xG X) (xl X) hx0 e_11) ok_X6_no hx0 rfl ⟨_, rfl⟩ q_1084 rfl ⟨Nat.le_of_ble_eq_true rfl, Nat.le_of_ble_eq_true rfl⟩ rfl rfl (Nat.le_of_ble_eq_true rfl) dX6_keyOf_11 rfl (fun hp_11 => ?_)
    obtain ⟨rfl, rfl⟩ := Prod.mk.inj (Option.some.inj h)
    exact hr _ _ dX6_keyOf_14

theorem m_X6_keyOf (G : Gm) (l : Launch) {σ σ' : St} {x0 : Nat} {x1 : Int32} {x2 : Int32} (hx0 : kd x0 = 7) {r : Int32} (h : f_X6_keyOf σ x0 x1 x2 = some (r, σ')) : Ctr G l yX6_keyOf cX6_keyOf 3 (some .int) 3 63 [.ref (G.1 x0), .int x1, .int x2] σ (some (.int r)) True σ' := by
  refine Ctr.i (by decide) (Nat.le_of_ble_eq_true rfl) ?_
  intro X hG C hr
  subst hG
  exact w_X6_keyOf_b0 C hr _ _ _ _ hx0 h
-- X6_lockOf
set_option maxHeartbeats 4000000 in
set_option maxRecDepth 100000 in
theorem w_X6_lockOf_b74 {X : CX} (C : Cok X RX6 cX6_lockOf 5 2 43) {σ' : St} {r : Int32} (hr : RtI X cX6_lockOf r σ') (k_74 : St → Nat → Int32 → Int32 → Int32 → Option (Int32 × St)) (hk_74 : ∀ (σ : St) (x0 : Nat) (x1 : Int32) (x3 : Int32) (x4 : Int32), kd x0 = 7 → k_74 σ x0 x1 x3 x4 = some (r, σ') → V X σ 74 [(0, .ref ((xG X).1 x0)), (1, .int x1), (3, .int x3), (4, .int x4)] []) (σ : St) (x0 : Nat) (x1 : Int32) (x3 : Int32) (x4 : Int32) (hx0 : kd x0 = 7) (h : f_X6_lockOf_b74 k_74 σ x0 x1 x3 x4 = some (r, σ')) : V X σ 74 [(0, .ref ((xG X).1 x0)), (1, .int x1), (3, .int x3), (4, .int x4)] [] := by
  unfold f_X6_lockOf_b74 at h
  refine r_iload C 3 (q := 76) dX6_lockOf_74 rfl rfl ?_
  refine r_aload_n C 0 (q := 77) dX6_lockOf_76 rfl rfl ?_
  refine g_X6_3 C (q := 80) dX6_lockOf_77 q_992 hx0 rfl ?_
  refine r_icmp_ge C (tgt := 103) (q := 83) dX6_lockOf_80 (by decide) rfl (fun c_80 => ?_) (fun c_80 => ?_)
  · replace h := (if_pos c_80).symm.trans h
    refine r_iload_n C 2 (q := 104) dX6_lockOf_103 rfl rfl ?_
    obtain ⟨rfl, rfl⟩ := Prod.mk.inj (Option.some.inj h)
    exact hr _ _ dX6_lockOf_104
  · replace h := (if_neg c_80).symm.trans h
    refine r_iload_n C 2 (q := 84) dX6_lockOf_83 rfl rfl ?_
    refine r_aload_n C 0 (q := 85) dX6_lockOf_84 rfl rfl ?_
    refine g_X6_13 C (q := 88) dX6_lockOf_85 q_1002 hx0 rfl ?_
    refine r_iconst C (v := 5) (q := 89) dX6_lockOf_88 (by decide) rfl ?_
    refine r_iload_n C 1 (q := 90) dX6_lockOf_89 rfl rfl ?_
    refine r_imul C (q := 91) dX6_lockOf_90 rfl ?_
    refine r_iload C 3 (q := 93) dX6_lockOf_91 rfl rfl ?_
    refine r_iadd C (q := 94) dX6_lockOf_93 rfl ?_
    obtain ⟨v_94, e_94, h⟩ := bs h
    refine r_iald C (q := 95) dX6_lockOf_94 (kf_X6_13 hx0) e_94 rfl ?_
    refine r_iadd C (q := 96) dX6_lockOf_95 rfl ?_
    obtain ⟨y_96, e_96, h⟩ := bs h
    refine r_topI (Option.some.inj e_96) ?_
    refine r_istore_n C (lv' := [(3, .int y_96), (0, .ref ((xG X).1 x0)), (1, .int x1), (4, .int x4)]) (q := 97) dX6_lockOf_96 rfl (by decide) rfl rfl ?_
    obtain ⟨y_97, e_97, h⟩ := bs h
    refine r_iinc C (v := y_97) (lv' := [(4, .int y_97), (3, .int y_96), (0, .ref ((xG X).1 x0)), (1, .int x1)]) (q := 100) 3 dX6_lockOf_97 rfl (Option.some.inj e_97) (by decide) rfl rfl ?_
    refine r_goto C (tgt := 74) dX6_lockOf_100 (by decide) ?_
    refine r_sub (lv' := [(0, .ref ((xG X).1 x0)), (1, .int x1), (3, .int y_96), (4, .int y_97)]) [2, 3, 1, 0] rfl ?_
    exact hk_74 _ _ _ _ _ hx0 h

theorem w_X6_lockOf_l74 {X : CX} (C : Cok X RX6 cX6_lockOf 5 2 43) {σ' : St} {r : Int32} (hr : RtI X cX6_lockOf r σ') (n : Nat) : ∀ (σ : St) (x0 : Nat) (x1 : Int32) (x3 : Int32) (x4 : Int32), kd x0 = 7 → f_X6_lockOf_l74 n σ x0 x1 x3 x4 = some (r, σ') → V X σ 74 [(0, .ref ((xG X).1 x0)), (1, .int x1), (3, .int x3), (4, .int x4)] [] := by
  induction n with
  | zero =>
    intro σ x0 x1 x3 x4 hx0 h
    exact nomatch (show (none : Option (Int32 × St)) = some (r, σ') from h)
  | succ n ih =>
    intro σ x0 x1 x3 x4 hx0 h
    exact w_X6_lockOf_b74 C hr _ ih σ x0 x1 x3 x4 hx0 h
set_option maxHeartbeats 4000000 in
set_option maxRecDepth 100000 in
theorem w_X6_lockOf_b46 {X : CX} (C : Cok X RX6 cX6_lockOf 5 2 43) {σ' : St} {r : Int32} (hr : RtI X cX6_lockOf r σ') (σ : St) (x0 : Nat) (x1 : Int32) (x2 : Int32) (hx0 : kd x0 = 7) (h : f_X6_lockOf_b46 σ x0 x1 x2 = some (r, σ')) : V X σ 46 [(0, .ref ((xG X).1 x0)), (1, .int x1), (2, .int x2)] [] := by
  unfold f_X6_lockOf_b46 at h
  refine r_iload_n C 2 (q := 47) dX6_lockOf_46 rfl rfl ?_
  refine r_if_ne C (tgt := 57) (q := 50) dX6_lockOf_47 (by decide) rfl (fun c_47 => ?_) (fun c_47 => ?_)
  · replace h := (if_neg c_47).symm.trans h
    refine r_iload_n C 2 (q := 58) dX6_lockOf_57 rfl rfl ?_
    refine r_iconst C (v := 1) (q := 59) dX6_lockOf_58 (by decide) rfl ?_
    refine r_icmp_eq C (tgt := 69) (q := 62) dX6_lockOf_59 (by decide) rfl (fun c_59 => ?_) (fun c_59 => ?_)
    · replace h := (if_pos c_59).symm.trans h
      refine r_iconst C (v := 0) (q := 70) dX6_lockOf_69 (by decide) rfl ?_
      refine r_istore_n C (lv' := [(3, .int 0), (0, .ref ((xG X).1 x0)), (1, .int x1), (2, .int x2)]) (q := 71) dX6_lockOf_70 rfl (by decide) rfl rfl ?_
      refine r_iconst C (v := 0) (q := 72) dX6_lockOf_71 (by decide) rfl ?_
      refine r_istore C (lv' := [(4, .int 0), (3, .int 0), (0, .ref ((xG X).1 x0)), (1, .int x1), (2, .int x2)]) (q := 74) dX6_lockOf_72 (by decide) rfl rfl ?_
      refine r_sub (lv' := [(0, .ref ((xG X).1 x0)), (1, .int x1), (3, .int 0), (4, .int 0)]) [2, 3, 1, 0] rfl ?_
      exact w_X6_lockOf_l74 C hr  FU _ _ _ _ _ hx0 h
    · replace h := (if_neg c_59).symm.trans h
      refine r_aload_n C 0 (q := 63) dX6_lockOf_62 rfl rfl ?_
      refine r_bipush C (v := (-2)) (q := 65) dX6_lockOf_63 (by decide) rfl ?_
      obtain ⟨v_65, s_65, e_65, h⟩ := bs2 h
      refine r_callV C (ci := 6) (st := []) (st2 := [.int v_65]) (q := 68) (m_X6_no (xG X) (xl X) hx0 e_65) ok_X6_no hx0 rfl ⟨_, rfl⟩ q_1084 rfl ⟨Nat.le_of_ble_eq_true rfl, Nat.le_of_ble_eq_true rfl⟩ rfl rfl (Nat.le_of_ble_eq_true rfl) dX6_lockOf_65 rfl (fun hp_65 => ?_)
      obtain ⟨rfl, rfl⟩ := Prod.mk.inj (Option.some.inj h)
      exact hr _ _ dX6_lockOf_68
  · replace h := (if_pos c_47).symm.trans h
    refine r_aload_n C 0 (q := 51) dX6_lockOf_50 rfl rfl ?_
    refine g_X6_12 C (q := 54) dX6_lockOf_51 q_1001 hx0 rfl ?_
    refine r_iload_n C 1 (q := 55) dX6_lockOf_54 rfl rfl ?_
    obtain ⟨v_55, e_55, h⟩ := bs h
    refine r_iald C (q := 56) dX6_lockOf_55 (kf_X6_12 hx0) e_55 rfl ?_
    obtain ⟨rfl, rfl⟩ := Prod.mk.inj (Option.some.inj h)
    exact hr _ _ dX6_lockOf_56

set_option maxHeartbeats 4000000 in
set_option maxRecDepth 100000 in
theorem w_X6_lockOf_b0 {X : CX} (C : Cok X RX6 cX6_lockOf 5 2 43) {σ' : St} {r : Int32} (hr : RtI X cX6_lockOf r σ') (σ : St) (x0 : Nat) (x1 : Int32) (x2 : Int32) (hx0 : kd x0 = 7) (h : f_X6_lockOf σ x0 x1 x2 = some (r, σ')) : V X σ 0 [(0, .ref ((xG X).1 x0)), (1, .int x1), (2, .int x2)] [] := by
  unfold f_X6_lockOf at h
  refine r_aload_n C 0 (q := 1) dX6_lockOf_0 rfl rfl ?_
  refine r_iload_n C 1 (q := 2) dX6_lockOf_1 rfl rfl ?_
  obtain ⟨v_2, e_2, h⟩ := bs h
  refine r_callV C (ci := 6) (st := []) (st2 := [.int v_2]) (q := 5) (m_X6_isLock (xG X) (xl X) hx0 e_2) ok_X6_isLock hx0 rfl ⟨_, rfl⟩ q_1187 rfl ⟨Nat.le_of_ble_eq_true rfl, Nat.le_of_ble_eq_true rfl⟩ rfl rfl (Nat.le_of_ble_eq_true rfl) dX6_lockOf_2 rfl (fun hp_2 => ?_)
  refine r_if_ne C (tgt := 15) (q := 8) dX6_lockOf_5 (by decide) rfl (fun c_5 => ?_) (fun c_5 => ?_)
  · replace h := (if_neg c_5).symm.trans h
    refine r_iload_n C 2 (q := 16) dX6_lockOf_15 rfl rfl ?_
    refine r_bipush C (v := 10) (q := 18) dX6_lockOf_16 (by decide) rfl ?_
    refine r_icmp_lt C (tgt := 46) (q := 21) dX6_lockOf_18 (by decide) rfl (fun c_18 => ?_) (fun c_18 => ?_)
    · replace h := (if_pos c_18).symm.trans h
      exact w_X6_lockOf_b46 C hr  _ _ _ _ hx0 h
    · replace h := (if_neg c_18).symm.trans h
      refine r_aload_n C 0 (q := 22) dX6_lockOf_21 rfl rfl ?_
      refine r_iload_n C 2 (q := 23) dX6_lockOf_22 rfl rfl ?_
      refine r_bipush C (v := 10) (q := 25) dX6_lockOf_23 (by decide) rfl ?_
      refine r_isub C (q := 26) dX6_lockOf_25 rfl ?_
      obtain ⟨v_26, e_26, h⟩ := bs h
      refine r_callV C (ci := 6) (st := []) (st2 := [.int v_26]) (q := 29) (m_X6_isPlace (xG X) (xl X) hx0 e_26) ok_X6_isPlace hx0 rfl ⟨_, rfl⟩ q_1191 rfl ⟨Nat.le_of_ble_eq_true rfl, Nat.le_of_ble_eq_true rfl⟩ rfl rfl (Nat.le_of_ble_eq_true rfl) dX6_lockOf_26 rfl (fun hp_26 => ?_)
      refine r_if_eq C (tgt := 46) (q := 32) dX6_lockOf_29 (by decide) rfl (fun c_29 => ?_) (fun c_29 => ?_)
      · replace h := (if_pos c_29).symm.trans h
        exact w_X6_lockOf_b46 C hr  _ _ _ _ hx0 h
      · replace h := (if_neg c_29).symm.trans h
        refine r_aload_n C 0 (q := 33) dX6_lockOf_32 rfl rfl ?_
        refine g_X6_13 C (q := 36) dX6_lockOf_33 q_1002 hx0 rfl ?_
        refine r_iconst C (v := 5) (q := 37) dX6_lockOf_36 (by decide) rfl ?_
        refine r_iload_n C 1 (q := 38) dX6_lockOf_37 rfl rfl ?_
        refine r_imul C (q := 39) dX6_lockOf_38 rfl ?_
        refine r_iload_n C 2 (q := 40) dX6_lockOf_39 rfl rfl ?_
        refine r_iadd C (q := 41) dX6_lockOf_40 rfl ?_
        refine r_bipush C (v := 10) (q := 43) dX6_lockOf_41 (by decide) rfl ?_
        refine r_isub C (q := 44) dX6_lockOf_43 rfl ?_
        obtain ⟨v_44, e_44, h⟩ := bs h
        refine r_iald C (q := 45) dX6_lockOf_44 (kf_X6_13 hx0) e_44 rfl ?_
        obtain ⟨rfl, rfl⟩ := Prod.mk.inj (Option.some.inj h)
        exact hr _ _ dX6_lockOf_45
  · replace h := (if_pos c_5).symm.trans h
    refine r_aload_n C 0 (q := 9) dX6_lockOf_8 rfl rfl ?_
    refine r_bipush C (v := (-2)) (q := 11) dX6_lockOf_9 (by decide) rfl ?_
    obtain ⟨v_11, s_11, e_11, h⟩ := bs2 h
    refine r_callV C (ci := 6) (st := []) (st2 := [.int v_11]) (q := 14) (m_X6_no (xG X) (xl X) hx0 e_11) ok_X6_no hx0 rfl ⟨_, rfl⟩ q_1084 rfl ⟨Nat.le_of_ble_eq_true rfl, Nat.le_of_ble_eq_true rfl⟩ rfl rfl (Nat.le_of_ble_eq_true rfl) dX6_lockOf_11 rfl (fun hp_11 => ?_)
    obtain ⟨rfl, rfl⟩ := Prod.mk.inj (Option.some.inj h)
    exact hr _ _ dX6_lockOf_14

theorem m_X6_lockOf (G : Gm) (l : Launch) {σ σ' : St} {x0 : Nat} {x1 : Int32} {x2 : Int32} (hx0 : kd x0 = 7) {r : Int32} (h : f_X6_lockOf σ x0 x1 x2 = some (r, σ')) : Ctr G l yX6_lockOf cX6_lockOf 5 (some .int) 2 43 [.ref (G.1 x0), .int x1, .int x2] σ (some (.int r)) True σ' := by
  refine Ctr.i (by decide) (Nat.le_of_ble_eq_true rfl) ?_
  intro X hG C hr
  subst hG
  exact w_X6_lockOf_b0 C hr _ _ _ _ hx0 h
-- X6_opens
set_option maxHeartbeats 4000000 in
set_option maxRecDepth 100000 in
theorem w_X6_opens_b57 {X : CX} (C : Cok X RX6 cX6_opens 4 5 112) {σ' : St} {r : Int32} (hr : RtI X cX6_opens r σ') (σ : St) (h : f_X6_opens_b57 σ = some (r, σ')) : V X σ 57 [] [] := by
  unfold f_X6_opens_b57 at h
  refine r_iconst C (v := 1) (q := 58) dX6_opens_57 (by decide) rfl ?_
  refine r_goto C (tgt := 62) dX6_opens_58 (by decide) ?_
  obtain ⟨rfl, rfl⟩ := Prod.mk.inj (Option.some.inj h)
  exact hr _ _ dX6_opens_62

set_option maxHeartbeats 4000000 in
set_option maxRecDepth 100000 in
theorem w_X6_opens_b25 {X : CX} (C : Cok X RX6 cX6_opens 4 5 112) {σ' : St} {r : Int32} (hr : RtI X cX6_opens r σ') (σ : St) (x0 : Nat) (hx0 : kd x0 = 7) (h : f_X6_opens_b25 σ x0 = some (r, σ')) : V X σ 25 [(0, .ref ((xG X).1 x0))] [] := by
  unfold f_X6_opens_b25 at h
  refine r_aload_n C 0 (q := 26) dX6_opens_25 rfl rfl ?_
  refine r_bipush C (v := (-2)) (q := 28) dX6_opens_26 (by decide) rfl ?_
  obtain ⟨v_28, s_28, e_28, h⟩ := bs2 h
  refine r_callV C (ci := 6) (st := []) (st2 := [.int v_28]) (q := 31) (m_X6_no (xG X) (xl X) hx0 e_28) ok_X6_no hx0 rfl ⟨_, rfl⟩ q_1084 rfl ⟨Nat.le_of_ble_eq_true rfl, Nat.le_of_ble_eq_true rfl⟩ rfl rfl (Nat.le_of_ble_eq_true rfl) dX6_opens_28 rfl (fun hp_28 => ?_)
  obtain ⟨rfl, rfl⟩ := Prod.mk.inj (Option.some.inj h)
  exact hr _ _ dX6_opens_31

set_option maxHeartbeats 4000000 in
set_option maxRecDepth 100000 in
theorem w_X6_opens_b0 {X : CX} (C : Cok X RX6 cX6_opens 4 5 112) {σ' : St} {r : Int32} (hr : RtI X cX6_opens r σ') (σ : St) (x0 : Nat) (x1 : Int32) (x2 : Int32) (x3 : Int32) (hx0 : kd x0 = 7) (h : f_X6_opens σ x0 x1 x2 x3 = some (r, σ')) : V X σ 0 [(0, .ref ((xG X).1 x0)), (1, .int x1), (2, .int x2), (3, .int x3)] [] := by
  unfold f_X6_opens at h
  refine r_aload_n C 0 (q := 1) dX6_opens_0 rfl rfl ?_
  refine r_iload_n C 1 (q := 2) dX6_opens_1 rfl rfl ?_
  obtain ⟨v_2, e_2, h⟩ := bs h
  refine r_callV C (ci := 6) (st := []) (st2 := [.int v_2]) (q := 5) (m_X6_isKey (xG X) (xl X) hx0 e_2) ok_X6_isKey hx0 rfl ⟨_, rfl⟩ q_1116 rfl ⟨Nat.le_of_ble_eq_true rfl, Nat.le_of_ble_eq_true rfl⟩ rfl rfl (Nat.le_of_ble_eq_true rfl) dX6_opens_2 rfl (fun hp_2 => ?_)
  refine r_if_eq C (tgt := 25) (q := 8) dX6_opens_5 (by decide) rfl (fun c_5 => ?_) (fun c_5 => ?_)
  · replace h := (if_pos c_5).symm.trans h
    refine r_sub (lv' := [(0, .ref ((xG X).1 x0))]) [0] rfl ?_
    exact w_X6_opens_b25 C hr  _ _ hx0 h
  · replace h := (if_neg c_5).symm.trans h
    refine r_aload_n C 0 (q := 9) dX6_opens_8 rfl rfl ?_
    refine r_iload_n C 2 (q := 10) dX6_opens_9 rfl rfl ?_
    obtain ⟨v_10, e_10, h⟩ := bs h
    refine r_callV C (ci := 6) (st := []) (st2 := [.int v_10]) (q := 13) (m_X6_isLock (xG X) (xl X) hx0 e_10) ok_X6_isLock hx0 rfl ⟨_, rfl⟩ q_1187 rfl ⟨Nat.le_of_ble_eq_true rfl, Nat.le_of_ble_eq_true rfl⟩ rfl rfl (Nat.le_of_ble_eq_true rfl) dX6_opens_10 rfl (fun hp_10 => ?_)
    refine r_if_eq C (tgt := 25) (q := 16) dX6_opens_13 (by decide) rfl (fun c_13 => ?_) (fun c_13 => ?_)
    · replace h := (if_pos c_13).symm.trans h
      refine r_sub (lv' := [(0, .ref ((xG X).1 x0))]) [0] rfl ?_
      exact w_X6_opens_b25 C hr  _ _ hx0 h
    · replace h := (if_neg c_13).symm.trans h
      refine r_iload_n C 3 (q := 17) dX6_opens_16 rfl rfl ?_
      refine r_iconst C (v := 0) (q := 18) dX6_opens_17 (by decide) rfl ?_
      refine r_iconst C (v := 1) (q := 19) dX6_opens_18 (by decide) rfl ?_
      obtain ⟨v_19, e_19, h⟩ := bs h
      refine r_callS C (st := []) (st2 := [.int v_19]) (q := 22) (m_X6_within (xG X) (xl X) e_19) ok_X6_within q_1081 rfl ⟨Nat.le_of_ble_eq_true rfl, Nat.le_of_ble_eq_true rfl⟩ rfl rfl (Nat.le_of_ble_eq_true rfl) dX6_opens_19 rfl (fun hp_19 => ?_)
      refine r_if_ne C (tgt := 32) (q := 25) dX6_opens_22 (by decide) rfl (fun c_22 => ?_) (fun c_22 => ?_)
      · replace h := (if_neg c_22).symm.trans h
        refine r_iload_n C 3 (q := 33) dX6_opens_32 rfl rfl ?_
        refine r_if_ne C (tgt := 48) (q := 36) dX6_opens_33 (by decide) rfl (fun c_33 => ?_) (fun c_33 => ?_)
        · replace h := (if_neg c_33).symm.trans h
          refine r_aload_n C 0 (q := 49) dX6_opens_48 rfl rfl ?_
          refine r_iload_n C 1 (q := 50) dX6_opens_49 rfl rfl ?_
          refine r_iload_n C 2 (q := 51) dX6_opens_50 rfl rfl ?_
          obtain ⟨v_51, e_51, h⟩ := bs h
          refine r_callV C (ci := 6) (st := []) (st2 := [.int v_51]) (q := 54) (m_X6_opensIt (xG X) (xl X) hx0 e_51) ok_X6_opensIt hx0 rfl ⟨_, rfl⟩ q_1131 rfl ⟨Nat.le_of_ble_eq_true rfl, Nat.le_of_ble_eq_true rfl⟩ rfl rfl (Nat.le_of_ble_eq_true rfl) dX6_opens_51 rfl (fun hp_51 => ?_)
          refine r_if_eq C (tgt := 61) (q := 57) dX6_opens_54 (by decide) rfl (fun c_54 => ?_) (fun c_54 => ?_)
          · replace h := (if_pos c_54).symm.trans h
            refine r_iconst C (v := 0) (q := 62) dX6_opens_61 (by decide) rfl ?_
            obtain ⟨rfl, rfl⟩ := Prod.mk.inj (Option.some.inj h)
            exact hr _ _ dX6_opens_62
          · replace h := (if_neg c_54).symm.trans h
            refine r_sub (lv' := []) [] rfl ?_
            exact w_X6_opens_b57 C hr  _   h
        · replace h := (if_pos c_33).symm.trans h
          refine r_aload_n C 0 (q := 37) dX6_opens_36 rfl rfl ?_
          refine r_iload_n C 1 (q := 38) dX6_opens_37 rfl rfl ?_
          refine r_iload_n C 2 (q := 39) dX6_opens_38 rfl rfl ?_
          obtain ⟨v_39, e_39, h⟩ := bs h
          refine r_callV C (ci := 6) (st := []) (st2 := [.int v_39]) (q := 42) (m_X6_fits (xG X) (xl X) hx0 e_39) ok_X6_fits hx0 rfl ⟨_, rfl⟩ q_1139 rfl ⟨Nat.le_of_ble_eq_true rfl, Nat.le_of_ble_eq_true rfl⟩ rfl rfl (Nat.le_of_ble_eq_true rfl) dX6_opens_39 rfl (fun hp_39 => ?_)
          refine r_if_eq C (tgt := 61) (q := 45) dX6_opens_42 (by decide) rfl (fun c_42 => ?_) (fun c_42 => ?_)
          · replace h := (if_pos c_42).symm.trans h
            refine r_iconst C (v := 0) (q := 62) dX6_opens_61 (by decide) rfl ?_
            obtain ⟨rfl, rfl⟩ := Prod.mk.inj (Option.some.inj h)
            exact hr _ _ dX6_opens_62
          · replace h := (if_neg c_42).symm.trans h
            refine r_goto C (tgt := 57) dX6_opens_45 (by decide) ?_
            refine r_sub (lv' := []) [] rfl ?_
            exact w_X6_opens_b57 C hr  _   h
      · replace h := (if_pos c_22).symm.trans h
        refine r_sub (lv' := [(0, .ref ((xG X).1 x0))]) [0] rfl ?_
        exact w_X6_opens_b25 C hr  _ _ hx0 h

theorem m_X6_opens (G : Gm) (l : Launch) {σ σ' : St} {x0 : Nat} {x1 : Int32} {x2 : Int32} {x3 : Int32} (hx0 : kd x0 = 7) {r : Int32} (h : f_X6_opens σ x0 x1 x2 x3 = some (r, σ')) : Ctr G l yX6_opens cX6_opens 4 (some .int) 5 112 [.ref (G.1 x0), .int x1, .int x2, .int x3] σ (some (.int r)) True σ' := by
  refine Ctr.i (by decide) (Nat.le_of_ble_eq_true rfl) ?_
  intro X hG C hr
  subst hG
  exact w_X6_opens_b0 C hr _ _ _ _ _ hx0 h
-- X6_opened
set_option maxHeartbeats 4000000 in
set_option maxRecDepth 100000 in
theorem w_X6_opened_b0 {X : CX} (C : Cok X RX6 cX6_opened 2 6 135) {σ' : St} {r : Int32} (hr : RtI X cX6_opened r σ') (σ : St) (x0 : Nat) (x1 : Int32) (hx0 : kd x0 = 7) (h : f_X6_opened σ x0 x1 = some (r, σ')) : V X σ 0 [(0, .ref ((xG X).1 x0)), (1, .int x1)] [] := by
  unfold f_X6_opened at h
  refine r_aload_n C 0 (q := 1) dX6_opened_0 rfl rfl ?_
  refine r_iload_n C 1 (q := 2) dX6_opened_1 rfl rfl ?_
  obtain ⟨v_2, e_2, h⟩ := bs h
  refine r_callV C (ci := 6) (st := []) (st2 := [.int v_2]) (q := 5) (m_X6_isKey (xG X) (xl X) hx0 e_2) ok_X6_isKey hx0 rfl ⟨_, rfl⟩ q_1116 rfl ⟨Nat.le_of_ble_eq_true rfl, Nat.le_of_ble_eq_true rfl⟩ rfl rfl (Nat.le_of_ble_eq_true rfl) dX6_opened_2 rfl (fun hp_2 => ?_)
  refine r_if_eq C (tgt := 16) (q := 8) dX6_opened_5 (by decide) rfl (fun c_5 => ?_) (fun c_5 => ?_)
  · replace h := (if_pos c_5).symm.trans h
    refine r_aload_n C 0 (q := 17) dX6_opened_16 rfl rfl ?_
    refine r_bipush C (v := (-2)) (q := 19) dX6_opened_17 (by decide) rfl ?_
    obtain ⟨v_19, s_19, e_19, h⟩ := bs2 h
    refine r_callV C (ci := 6) (st := []) (st2 := [.int v_19]) (q := 22) (m_X6_no (xG X) (xl X) hx0 e_19) ok_X6_no hx0 rfl ⟨_, rfl⟩ q_1084 rfl ⟨Nat.le_of_ble_eq_true rfl, Nat.le_of_ble_eq_true rfl⟩ rfl rfl (Nat.le_of_ble_eq_true rfl) dX6_opened_19 rfl (fun hp_19 => ?_)
    obtain ⟨rfl, rfl⟩ := Prod.mk.inj (Option.some.inj h)
    exact hr _ _ dX6_opened_22
  · replace h := (if_neg c_5).symm.trans h
    refine r_aload_n C 0 (q := 9) dX6_opened_8 rfl rfl ?_
    refine r_iload_n C 1 (q := 10) dX6_opened_9 rfl rfl ?_
    obtain ⟨v_10, e_10, h⟩ := bs h
    refine r_callV C (ci := 6) (st := []) (st2 := [.int v_10]) (q := 13) (m_X6_openedBy (xG X) (xl X) hx0 e_10) ok_X6_openedBy hx0 rfl ⟨_, rfl⟩ q_1159 rfl ⟨Nat.le_of_ble_eq_true rfl, Nat.le_of_ble_eq_true rfl⟩ rfl rfl (Nat.le_of_ble_eq_true rfl) dX6_opened_10 rfl (fun hp_10 => ?_)
    refine r_goto C (tgt := 22) dX6_opened_13 (by decide) ?_
    obtain ⟨rfl, rfl⟩ := Prod.mk.inj (Option.some.inj h)
    exact hr _ _ dX6_opened_22

theorem m_X6_opened (G : Gm) (l : Launch) {σ σ' : St} {x0 : Nat} {x1 : Int32} (hx0 : kd x0 = 7) {r : Int32} (h : f_X6_opened σ x0 x1 = some (r, σ')) : Ctr G l yX6_opened cX6_opened 2 (some .int) 6 135 [.ref (G.1 x0), .int x1] σ (some (.int r)) True σ' := by
  refine Ctr.i (by decide) (Nat.le_of_ble_eq_true rfl) ?_
  intro X hG C hr
  subst hG
  exact w_X6_opened_b0 C hr _ _ _ hx0 h
-- X6_whoOpens
set_option maxHeartbeats 4000000 in
set_option maxRecDepth 100000 in
theorem w_X6_whoOpens_b27 {X : CX} (C : Cok X RX6 cX6_whoOpens 4 5 112) {σ : St} {r : Int32} (hr : RtI X cX6_whoOpens r σ) (k_4 : Nat → Int32 → Int32 → Int32 → Option Int32) (hk_4 : ∀ (x0 : Nat) (x1 : Int32) (x2 : Int32) (x3 : Int32), kd x0 = 7 → k_4 x0 x1 x2 x3 = some r → V X σ 4 [(0, .ref ((xG X).1 x0)), (1, .int x1), (2, .int x2), (3, .int x3)] []) (x0 : Nat) (x1 : Int32) (x2 : Int32) (x3 : Int32) (hx0 : kd x0 = 7) (h : f_X6_whoOpens_b27 σ k_4 x0 x1 x2 x3 = some r) : V X σ 27 [(0, .ref ((xG X).1 x0)), (1, .int x1), (2, .int x2), (3, .int x3)] [] := by
  unfold f_X6_whoOpens_b27 at h
  obtain ⟨y_27, e_27, h⟩ := bs h
  refine r_iinc C (v := y_27) (lv' := [(3, .int y_27), (0, .ref ((xG X).1 x0)), (1, .int x1), (2, .int x2)]) (q := 30) 3 dX6_whoOpens_27 rfl (Option.some.inj e_27) (by decide) rfl rfl ?_
  refine r_goto C (tgt := 4) dX6_whoOpens_30 (by decide) ?_
  refine r_sub (lv' := [(0, .ref ((xG X).1 x0)), (1, .int x1), (2, .int x2), (3, .int y_27)]) [1, 2, 3, 0] rfl ?_
  exact hk_4 _ _ _ _ hx0 h

set_option maxHeartbeats 4000000 in
set_option maxRecDepth 100000 in
theorem w_X6_whoOpens_b4 {X : CX} (C : Cok X RX6 cX6_whoOpens 4 5 112) {σ : St} {r : Int32} (hr : RtI X cX6_whoOpens r σ) (k_4 : Nat → Int32 → Int32 → Int32 → Option Int32) (hk_4 : ∀ (x0 : Nat) (x1 : Int32) (x2 : Int32) (x3 : Int32), kd x0 = 7 → k_4 x0 x1 x2 x3 = some r → V X σ 4 [(0, .ref ((xG X).1 x0)), (1, .int x1), (2, .int x2), (3, .int x3)] []) (x0 : Nat) (x1 : Int32) (x2 : Int32) (x3 : Int32) (hx0 : kd x0 = 7) (h : f_X6_whoOpens_b4 σ k_4 x0 x1 x2 x3 = some r) : V X σ 4 [(0, .ref ((xG X).1 x0)), (1, .int x1), (2, .int x2), (3, .int x3)] [] := by
  unfold f_X6_whoOpens_b4 at h
  refine r_iload_n C 3 (q := 5) dX6_whoOpens_4 rfl rfl ?_
  refine r_aload_n C 0 (q := 6) dX6_whoOpens_5 rfl rfl ?_
  refine g_X6_6 C (q := 9) dX6_whoOpens_6 q_995 hx0 rfl ?_
  refine r_icmp_ge C (tgt := 33) (q := 12) dX6_whoOpens_9 (by decide) rfl (fun c_9 => ?_) (fun c_9 => ?_)
  · replace h := (if_pos c_9).symm.trans h
    refine r_iload_n C 2 (q := 34) dX6_whoOpens_33 rfl rfl ?_
    obtain rfl := Option.some.inj h
    exact hr _ _ dX6_whoOpens_34
  · replace h := (if_neg c_9).symm.trans h
    refine r_aload_n C 0 (q := 13) dX6_whoOpens_12 rfl rfl ?_
    refine r_iload_n C 3 (q := 14) dX6_whoOpens_13 rfl rfl ?_
    refine r_iload_n C 1 (q := 15) dX6_whoOpens_14 rfl rfl ?_
    obtain ⟨v_15, e_15, h⟩ := bs h
    refine r_callV C (ci := 6) (st := []) (st2 := [.int v_15]) (q := 18) (m_X6_opensIt (xG X) (xl X) hx0 e_15) ok_X6_opensIt hx0 rfl ⟨_, rfl⟩ q_1131 rfl ⟨Nat.le_of_ble_eq_true rfl, Nat.le_of_ble_eq_true rfl⟩ rfl rfl (Nat.le_of_ble_eq_true rfl) dX6_whoOpens_15 rfl (fun hp_15 => ?_)
    refine r_if_eq C (tgt := 27) (q := 21) dX6_whoOpens_18 (by decide) rfl (fun c_18 => ?_) (fun c_18 => ?_)
    · replace h := (if_pos c_18).symm.trans h
      exact w_X6_whoOpens_b27 C hr _ hk_4 _ _ _ _ hx0 h
    · replace h := (if_neg c_18).symm.trans h
      refine r_iload_n C 2 (q := 22) dX6_whoOpens_21 rfl rfl ?_
      refine r_iconst C (v := 1) (q := 23) dX6_whoOpens_22 (by decide) rfl ?_
      refine r_iload_n C 3 (q := 24) dX6_whoOpens_23 rfl rfl ?_
      refine r_ishl C (q := 25) dX6_whoOpens_24 rfl ?_
      refine r_ior C (q := 26) dX6_whoOpens_25 rfl ?_
      obtain ⟨y_26, e_26, h⟩ := bs h
      refine r_topI (Option.some.inj e_26) ?_
      refine r_istore_n C (lv' := [(2, .int y_26), (0, .ref ((xG X).1 x0)), (1, .int x1), (3, .int x3)]) (q := 27) dX6_whoOpens_26 rfl (by decide) rfl rfl ?_
      refine r_sub (lv' := [(0, .ref ((xG X).1 x0)), (1, .int x1), (2, .int y_26), (3, .int x3)]) [1, 2, 0, 3] rfl ?_
      exact w_X6_whoOpens_b27 C hr _ hk_4 _ _ _ _ hx0 h

theorem w_X6_whoOpens_l4 {X : CX} (C : Cok X RX6 cX6_whoOpens 4 5 112) {σ : St} {r : Int32} (hr : RtI X cX6_whoOpens r σ) (n : Nat) : ∀ (x0 : Nat) (x1 : Int32) (x2 : Int32) (x3 : Int32), kd x0 = 7 → f_X6_whoOpens_l4 σ n x0 x1 x2 x3 = some r → V X σ 4 [(0, .ref ((xG X).1 x0)), (1, .int x1), (2, .int x2), (3, .int x3)] [] := by
  induction n with
  | zero =>
    intro x0 x1 x2 x3 hx0 h
    exact nomatch (show (none : Option Int32) = some r from h)
  | succ n ih =>
    intro x0 x1 x2 x3 hx0 h
    exact w_X6_whoOpens_b4 C hr _ ih x0 x1 x2 x3 hx0 h
set_option maxHeartbeats 4000000 in
set_option maxRecDepth 100000 in
theorem w_X6_whoOpens_b0 {X : CX} (C : Cok X RX6 cX6_whoOpens 4 5 112) {σ : St} {r : Int32} (hr : RtI X cX6_whoOpens r σ) (x0 : Nat) (x1 : Int32) (hx0 : kd x0 = 7) (h : f_X6_whoOpens σ x0 x1 = some r) : V X σ 0 [(0, .ref ((xG X).1 x0)), (1, .int x1)] [] := by
  unfold f_X6_whoOpens at h
  refine r_iconst C (v := 0) (q := 1) dX6_whoOpens_0 (by decide) rfl ?_
  refine r_istore_n C (lv' := [(2, .int 0), (0, .ref ((xG X).1 x0)), (1, .int x1)]) (q := 2) dX6_whoOpens_1 rfl (by decide) rfl rfl ?_
  refine r_iconst C (v := 0) (q := 3) dX6_whoOpens_2 (by decide) rfl ?_
  refine r_istore_n C (lv' := [(3, .int 0), (2, .int 0), (0, .ref ((xG X).1 x0)), (1, .int x1)]) (q := 4) dX6_whoOpens_3 rfl (by decide) rfl rfl ?_
  refine r_sub (lv' := [(0, .ref ((xG X).1 x0)), (1, .int x1), (2, .int 0), (3, .int 0)]) [2, 3, 1, 0] rfl ?_
  exact w_X6_whoOpens_l4 C hr  FU _ _ _ _ hx0 h

theorem m_X6_whoOpens (G : Gm) (l : Launch) {σ : St} {x0 : Nat} {x1 : Int32} (hx0 : kd x0 = 7) {r : Int32} (h : f_X6_whoOpens σ x0 x1 = some r) : Ctr G l yX6_whoOpens cX6_whoOpens 4 (some .int) 5 112 [.ref (G.1 x0), .int x1] σ (some (.int r)) True σ := by
  refine Ctr.i (by decide) (Nat.le_of_ble_eq_true rfl) ?_
  intro X hG C hr
  subst hG
  exact w_X6_whoOpens_b0 C hr _ _ hx0 h
-- X6_who
set_option maxHeartbeats 4000000 in
set_option maxRecDepth 100000 in
theorem w_X6_who_b0 {X : CX} (C : Cok X RX6 cX6_who 2 6 135) {σ' : St} {r : Int32} (hr : RtI X cX6_who r σ') (σ : St) (x0 : Nat) (x1 : Int32) (hx0 : kd x0 = 7) (h : f_X6_who σ x0 x1 = some (r, σ')) : V X σ 0 [(0, .ref ((xG X).1 x0)), (1, .int x1)] [] := by
  unfold f_X6_who at h
  refine r_aload_n C 0 (q := 1) dX6_who_0 rfl rfl ?_
  refine r_iload_n C 1 (q := 2) dX6_who_1 rfl rfl ?_
  obtain ⟨v_2, e_2, h⟩ := bs h
  refine r_callV C (ci := 6) (st := []) (st2 := [.int v_2]) (q := 5) (m_X6_isLock (xG X) (xl X) hx0 e_2) ok_X6_isLock hx0 rfl ⟨_, rfl⟩ q_1187 rfl ⟨Nat.le_of_ble_eq_true rfl, Nat.le_of_ble_eq_true rfl⟩ rfl rfl (Nat.le_of_ble_eq_true rfl) dX6_who_2 rfl (fun hp_2 => ?_)
  refine r_if_eq C (tgt := 16) (q := 8) dX6_who_5 (by decide) rfl (fun c_5 => ?_) (fun c_5 => ?_)
  · replace h := (if_pos c_5).symm.trans h
    refine r_aload_n C 0 (q := 17) dX6_who_16 rfl rfl ?_
    refine r_bipush C (v := (-2)) (q := 19) dX6_who_17 (by decide) rfl ?_
    obtain ⟨v_19, s_19, e_19, h⟩ := bs2 h
    refine r_callV C (ci := 6) (st := []) (st2 := [.int v_19]) (q := 22) (m_X6_no (xG X) (xl X) hx0 e_19) ok_X6_no hx0 rfl ⟨_, rfl⟩ q_1084 rfl ⟨Nat.le_of_ble_eq_true rfl, Nat.le_of_ble_eq_true rfl⟩ rfl rfl (Nat.le_of_ble_eq_true rfl) dX6_who_19 rfl (fun hp_19 => ?_)
    obtain ⟨rfl, rfl⟩ := Prod.mk.inj (Option.some.inj h)
    exact hr _ _ dX6_who_22
  · replace h := (if_neg c_5).symm.trans h
    refine r_aload_n C 0 (q := 9) dX6_who_8 rfl rfl ?_
    refine r_iload_n C 1 (q := 10) dX6_who_9 rfl rfl ?_
    obtain ⟨v_10, e_10, h⟩ := bs h
    refine r_callV C (ci := 6) (st := []) (st2 := [.int v_10]) (q := 13) (m_X6_whoOpens (xG X) (xl X) hx0 e_10) ok_X6_whoOpens hx0 rfl ⟨_, rfl⟩ q_1279 rfl ⟨Nat.le_of_ble_eq_true rfl, Nat.le_of_ble_eq_true rfl⟩ rfl rfl (Nat.le_of_ble_eq_true rfl) dX6_who_10 rfl (fun hp_10 => ?_)
    refine r_goto C (tgt := 22) dX6_who_13 (by decide) ?_
    obtain ⟨rfl, rfl⟩ := Prod.mk.inj (Option.some.inj h)
    exact hr _ _ dX6_who_22

theorem m_X6_who (G : Gm) (l : Launch) {σ σ' : St} {x0 : Nat} {x1 : Int32} (hx0 : kd x0 = 7) {r : Int32} (h : f_X6_who σ x0 x1 = some (r, σ')) : Ctr G l yX6_who cX6_who 2 (some .int) 6 135 [.ref (G.1 x0), .int x1] σ (some (.int r)) True σ' := by
  refine Ctr.i (by decide) (Nat.le_of_ble_eq_true rfl) ?_
  intro X hG C hr
  subst hG
  exact w_X6_who_b0 C hr _ _ _ hx0 h
-- X6_wrong
set_option maxHeartbeats 4000000 in
set_option maxRecDepth 100000 in
theorem w_X6_wrong_b12 {X : CX} (C : Cok X RX6 cX6_wrong 3 5 112) {σ : St} {r : Int32} (hr : RtI X cX6_wrong r σ) (k_2 : Nat → Int32 → Option Int32) (hk_2 : ∀ (x0 : Nat) (x1 : Int32), kd x0 = 7 → k_2 x0 x1 = some r → V X σ 2 [(0, .ref ((xG X).1 x0)), (1, .int x1)] []) (k_12 : Nat → Int32 → Int32 → Option Int32) (hk_12 : ∀ (x0 : Nat) (x1 : Int32) (x2 : Int32), kd x0 = 7 → k_12 x0 x1 x2 = some r → V X σ 12 [(0, .ref ((xG X).1 x0)), (1, .int x1), (2, .int x2)] []) (x0 : Nat) (x1 : Int32) (x2 : Int32) (hx0 : kd x0 = 7) (h : f_X6_wrong_b12 σ k_2 k_12 x0 x1 x2 = some r) : V X σ 12 [(0, .ref ((xG X).1 x0)), (1, .int x1), (2, .int x2)] [] := by
  unfold f_X6_wrong_b12 at h
  refine r_iload_n C 2 (q := 13) dX6_wrong_12 rfl rfl ?_
  refine r_aload_n C 0 (q := 14) dX6_wrong_13 rfl rfl ?_
  refine g_X6_11 C (q := 17) dX6_wrong_14 q_1000 hx0 rfl ?_
  refine r_icmp_ge C (tgt := 52) (q := 20) dX6_wrong_17 (by decide) rfl (fun c_17 => ?_) (fun c_17 => ?_)
  · replace h := (if_pos c_17).symm.trans h
    obtain ⟨y_52, e_52, h⟩ := bs h
    refine r_iinc C (v := y_52) (lv' := [(1, .int y_52), (0, .ref ((xG X).1 x0)), (2, .int x2)]) (q := 55) 1 dX6_wrong_52 rfl (Option.some.inj e_52) (by decide) rfl rfl ?_
    refine r_goto C (tgt := 2) dX6_wrong_55 (by decide) ?_
    refine r_sub (lv' := [(0, .ref ((xG X).1 x0)), (1, .int y_52)]) [1, 0] rfl ?_
    exact hk_2 _ _ hx0 h
  · replace h := (if_neg c_17).symm.trans h
    refine r_aload_n C 0 (q := 21) dX6_wrong_20 rfl rfl ?_
    refine g_X6_9 C (q := 24) dX6_wrong_21 q_998 hx0 rfl ?_
    refine r_iload_n C 1 (q := 25) dX6_wrong_24 rfl rfl ?_
    obtain ⟨v_25, e_25, h⟩ := bs h
    refine r_iald C (q := 26) dX6_wrong_25 (kf_X6_9 hx0) e_25 rfl ?_
    refine r_iload_n C 2 (q := 27) dX6_wrong_26 rfl rfl ?_
    obtain ⟨v_27, e_27, h⟩ := bs h
    refine r_callS C (st := []) (st2 := [.int v_27]) (q := 30) (m_X6_has (xG X) (xl X) e_27) ok_X6_has q_1199 rfl ⟨Nat.le_of_ble_eq_true rfl, Nat.le_of_ble_eq_true rfl⟩ rfl rfl (Nat.le_of_ble_eq_true rfl) dX6_wrong_27 rfl (fun hp_27 => ?_)
    refine r_aload_n C 0 (q := 31) dX6_wrong_30 rfl rfl ?_
    refine r_iload_n C 1 (q := 32) dX6_wrong_31 rfl rfl ?_
    refine r_iload_n C 2 (q := 33) dX6_wrong_32 rfl rfl ?_
    obtain ⟨v_33, e_33, h⟩ := bs h
    refine r_callV C (ci := 6) (st := [.int v_27]) (st2 := [.int v_33, .int v_27]) (q := 36) (m_X6_opensIt (xG X) (xl X) hx0 e_33) ok_X6_opensIt hx0 rfl ⟨_, rfl⟩ q_1131 rfl ⟨Nat.le_of_ble_eq_true rfl, Nat.le_of_ble_eq_true rfl⟩ rfl rfl (Nat.le_of_ble_eq_true rfl) dX6_wrong_33 rfl (fun hp_33 => ?_)
    refine r_icmp_eq C (tgt := 46) (q := 39) dX6_wrong_36 (by decide) rfl (fun c_36 => ?_) (fun c_36 => ?_)
    · replace h := (if_pos c_36).symm.trans h
      obtain ⟨y_46, e_46, h⟩ := bs h
      refine r_iinc C (v := y_46) (lv' := [(2, .int y_46), (0, .ref ((xG X).1 x0)), (1, .int x1)]) (q := 49) 2 dX6_wrong_46 rfl (Option.some.inj e_46) (by decide) rfl rfl ?_
      refine r_goto C (tgt := 12) dX6_wrong_49 (by decide) ?_
      refine r_sub (lv' := [(0, .ref ((xG X).1 x0)), (1, .int x1), (2, .int y_46)]) [1, 2, 0] rfl ?_
      exact hk_12 _ _ _ hx0 h
    · replace h := (if_neg c_36).symm.trans h
      refine r_bipush C (v := 10) (q := 41) dX6_wrong_39 (by decide) rfl ?_
      refine r_iload_n C 1 (q := 42) dX6_wrong_41 rfl rfl ?_
      refine r_imul C (q := 43) dX6_wrong_42 rfl ?_
      refine r_iload_n C 2 (q := 44) dX6_wrong_43 rfl rfl ?_
      refine r_iadd C (q := 45) dX6_wrong_44 rfl ?_
      obtain rfl := Option.some.inj h
      exact hr _ _ dX6_wrong_45

theorem w_X6_wrong_l12 {X : CX} (C : Cok X RX6 cX6_wrong 3 5 112) {σ : St} {r : Int32} (hr : RtI X cX6_wrong r σ) (k_2 : Nat → Int32 → Option Int32) (hk_2 : ∀ (x0 : Nat) (x1 : Int32), kd x0 = 7 → k_2 x0 x1 = some r → V X σ 2 [(0, .ref ((xG X).1 x0)), (1, .int x1)] []) (n : Nat) : ∀ (x0 : Nat) (x1 : Int32) (x2 : Int32), kd x0 = 7 → f_X6_wrong_l12 σ k_2 n x0 x1 x2 = some r → V X σ 12 [(0, .ref ((xG X).1 x0)), (1, .int x1), (2, .int x2)] [] := by
  induction n with
  | zero =>
    intro x0 x1 x2 hx0 h
    exact nomatch (show (none : Option Int32) = some r from h)
  | succ n ih =>
    intro x0 x1 x2 hx0 h
    exact w_X6_wrong_b12 C hr k_2 hk_2 _ ih x0 x1 x2 hx0 h
set_option maxHeartbeats 4000000 in
set_option maxRecDepth 100000 in
theorem w_X6_wrong_b2 {X : CX} (C : Cok X RX6 cX6_wrong 3 5 112) {σ : St} {r : Int32} (hr : RtI X cX6_wrong r σ) (k_2 : Nat → Int32 → Option Int32) (hk_2 : ∀ (x0 : Nat) (x1 : Int32), kd x0 = 7 → k_2 x0 x1 = some r → V X σ 2 [(0, .ref ((xG X).1 x0)), (1, .int x1)] []) (x0 : Nat) (x1 : Int32) (hx0 : kd x0 = 7) (h : f_X6_wrong_b2 σ k_2 x0 x1 = some r) : V X σ 2 [(0, .ref ((xG X).1 x0)), (1, .int x1)] [] := by
  unfold f_X6_wrong_b2 at h
  refine r_iload_n C 1 (q := 3) dX6_wrong_2 rfl rfl ?_
  refine r_aload_n C 0 (q := 4) dX6_wrong_3 rfl rfl ?_
  refine g_X6_6 C (q := 7) dX6_wrong_4 q_995 hx0 rfl ?_
  refine r_icmp_ge C (tgt := 58) (q := 10) dX6_wrong_7 (by decide) rfl (fun c_7 => ?_) (fun c_7 => ?_)
  · replace h := (if_pos c_7).symm.trans h
    refine r_iconst C (v := (-1)) (q := 59) dX6_wrong_58 (by decide) rfl ?_
    obtain rfl := Option.some.inj h
    exact hr _ _ dX6_wrong_59
  · replace h := (if_neg c_7).symm.trans h
    refine r_iconst C (v := 0) (q := 11) dX6_wrong_10 (by decide) rfl ?_
    refine r_istore_n C (lv' := [(2, .int 0), (0, .ref ((xG X).1 x0)), (1, .int x1)]) (q := 12) dX6_wrong_11 rfl (by decide) rfl rfl ?_
    refine r_sub (lv' := [(0, .ref ((xG X).1 x0)), (1, .int x1), (2, .int 0)]) [1, 2, 0] rfl ?_
    exact w_X6_wrong_l12 C hr _ hk_2 FU _ _ _ hx0 h

theorem w_X6_wrong_l2 {X : CX} (C : Cok X RX6 cX6_wrong 3 5 112) {σ : St} {r : Int32} (hr : RtI X cX6_wrong r σ) (n : Nat) : ∀ (x0 : Nat) (x1 : Int32), kd x0 = 7 → f_X6_wrong_l2 σ n x0 x1 = some r → V X σ 2 [(0, .ref ((xG X).1 x0)), (1, .int x1)] [] := by
  induction n with
  | zero =>
    intro x0 x1 hx0 h
    exact nomatch (show (none : Option Int32) = some r from h)
  | succ n ih =>
    intro x0 x1 hx0 h
    exact w_X6_wrong_b2 C hr _ ih x0 x1 hx0 h
set_option maxHeartbeats 4000000 in
set_option maxRecDepth 100000 in
theorem w_X6_wrong_b0 {X : CX} (C : Cok X RX6 cX6_wrong 3 5 112) {σ : St} {r : Int32} (hr : RtI X cX6_wrong r σ) (x0 : Nat) (hx0 : kd x0 = 7) (h : f_X6_wrong σ x0 = some r) : V X σ 0 [(0, .ref ((xG X).1 x0))] [] := by
  unfold f_X6_wrong at h
  refine r_iconst C (v := 0) (q := 1) dX6_wrong_0 (by decide) rfl ?_
  refine r_istore_n C (lv' := [(1, .int 0), (0, .ref ((xG X).1 x0))]) (q := 2) dX6_wrong_1 rfl (by decide) rfl rfl ?_
  refine r_sub (lv' := [(0, .ref ((xG X).1 x0)), (1, .int 0)]) [1, 0] rfl ?_
  exact w_X6_wrong_l2 C hr  FU _ _ hx0 h

theorem m_X6_wrong (G : Gm) (l : Launch) {σ : St} {x0 : Nat} (hx0 : kd x0 = 7) {r : Int32} (h : f_X6_wrong σ x0 = some r) : Ctr G l yX6_wrong cX6_wrong 3 (some .int) 5 112 [.ref (G.1 x0)] σ (some (.int r)) True σ := by
  refine Ctr.i (by decide) (Nat.le_of_ble_eq_true rfl) ?_
  intro X hG C hr
  subst hG
  exact w_X6_wrong_b0 C hr _ hx0 h
-- X6_wrongs
set_option maxHeartbeats 4000000 in
set_option maxRecDepth 100000 in
theorem w_X6_wrongs_b4 {X : CX} (C : Cok X RX6 cX6_wrongs 3 6 135) {σ : St} {r : Int32} (hr : RtI X cX6_wrongs r σ) (k_4 : Nat → Int32 → Int32 → Option Int32) (hk_4 : ∀ (x0 : Nat) (x1 : Int32) (x2 : Int32), kd x0 = 7 → k_4 x0 x1 x2 = some r → V X σ 4 [(0, .ref ((xG X).1 x0)), (1, .int x1), (2, .int x2)] []) (x0 : Nat) (x1 : Int32) (x2 : Int32) (hx0 : kd x0 = 7) (h : f_X6_wrongs_b4 σ k_4 x0 x1 x2 = some r) : V X σ 4 [(0, .ref ((xG X).1 x0)), (1, .int x1), (2, .int x2)] [] := by
  unfold f_X6_wrongs_b4 at h
  refine r_iload_n C 2 (q := 5) dX6_wrongs_4 rfl rfl ?_
  refine r_aload_n C 0 (q := 6) dX6_wrongs_5 rfl rfl ?_
  refine g_X6_6 C (q := 9) dX6_wrongs_6 q_995 hx0 rfl ?_
  refine r_icmp_ge C (tgt := 36) (q := 12) dX6_wrongs_9 (by decide) rfl (fun c_9 => ?_) (fun c_9 => ?_)
  · replace h := (if_pos c_9).symm.trans h
    refine r_iload_n C 1 (q := 37) dX6_wrongs_36 rfl rfl ?_
    obtain rfl := Option.some.inj h
    exact hr _ _ dX6_wrongs_37
  · replace h := (if_neg c_9).symm.trans h
    refine r_iload_n C 1 (q := 13) dX6_wrongs_12 rfl rfl ?_
    refine r_aload_n C 0 (q := 14) dX6_wrongs_13 rfl rfl ?_
    refine g_X6_9 C (q := 17) dX6_wrongs_14 q_998 hx0 rfl ?_
    refine r_iload_n C 2 (q := 18) dX6_wrongs_17 rfl rfl ?_
    obtain ⟨v_18, e_18, h⟩ := bs h
    refine r_iald C (q := 19) dX6_wrongs_18 (kf_X6_9 hx0) e_18 rfl ?_
    refine r_aload_n C 0 (q := 20) dX6_wrongs_19 rfl rfl ?_
    refine r_iload_n C 2 (q := 21) dX6_wrongs_20 rfl rfl ?_
    obtain ⟨v_21, e_21, h⟩ := bs h
    refine r_callV C (ci := 6) (st := [.int v_18, .int x1]) (st2 := [.int v_21, .int v_18, .int x1]) (q := 24) (m_X6_openedBy (xG X) (xl X) hx0 e_21) ok_X6_openedBy hx0 rfl ⟨_, rfl⟩ q_1159 rfl ⟨Nat.le_of_ble_eq_true rfl, Nat.le_of_ble_eq_true rfl⟩ rfl rfl (Nat.le_of_ble_eq_true rfl) dX6_wrongs_21 rfl (fun hp_21 => ?_)
    refine r_ixor C (q := 25) dX6_wrongs_24 rfl ?_
    obtain ⟨v_25, e_25, h⟩ := bs h
    refine r_callS C (st := [.int x1]) (st2 := [.int v_25, .int x1]) (q := 28) (m_J6_bitCount_0f7a4 (xG X) (xl X) e_25) ok_J6_bitCount_0f7a4 q_1291 rfl ⟨Nat.le_of_ble_eq_true rfl, Nat.le_of_ble_eq_true rfl⟩ rfl rfl (Nat.le_of_ble_eq_true rfl) dX6_wrongs_25 rfl (fun hp_25 => ?_)
    refine r_iadd C (q := 29) dX6_wrongs_28 rfl ?_
    obtain ⟨y_29, e_29, h⟩ := bs h
    refine r_topI (Option.some.inj e_29) ?_
    refine r_istore_n C (lv' := [(1, .int y_29), (0, .ref ((xG X).1 x0)), (2, .int x2)]) (q := 30) dX6_wrongs_29 rfl (by decide) rfl rfl ?_
    obtain ⟨y_30, e_30, h⟩ := bs h
    refine r_iinc C (v := y_30) (lv' := [(2, .int y_30), (1, .int y_29), (0, .ref ((xG X).1 x0))]) (q := 33) 2 dX6_wrongs_30 rfl (Option.some.inj e_30) (by decide) rfl rfl ?_
    refine r_goto C (tgt := 4) dX6_wrongs_33 (by decide) ?_
    refine r_sub (lv' := [(0, .ref ((xG X).1 x0)), (1, .int y_29), (2, .int y_30)]) [2, 1, 0] rfl ?_
    exact hk_4 _ _ _ hx0 h

theorem w_X6_wrongs_l4 {X : CX} (C : Cok X RX6 cX6_wrongs 3 6 135) {σ : St} {r : Int32} (hr : RtI X cX6_wrongs r σ) (n : Nat) : ∀ (x0 : Nat) (x1 : Int32) (x2 : Int32), kd x0 = 7 → f_X6_wrongs_l4 σ n x0 x1 x2 = some r → V X σ 4 [(0, .ref ((xG X).1 x0)), (1, .int x1), (2, .int x2)] [] := by
  induction n with
  | zero =>
    intro x0 x1 x2 hx0 h
    exact nomatch (show (none : Option Int32) = some r from h)
  | succ n ih =>
    intro x0 x1 x2 hx0 h
    exact w_X6_wrongs_b4 C hr _ ih x0 x1 x2 hx0 h
set_option maxHeartbeats 4000000 in
set_option maxRecDepth 100000 in
theorem w_X6_wrongs_b0 {X : CX} (C : Cok X RX6 cX6_wrongs 3 6 135) {σ : St} {r : Int32} (hr : RtI X cX6_wrongs r σ) (x0 : Nat) (hx0 : kd x0 = 7) (h : f_X6_wrongs σ x0 = some r) : V X σ 0 [(0, .ref ((xG X).1 x0))] [] := by
  unfold f_X6_wrongs at h
  refine r_iconst C (v := 0) (q := 1) dX6_wrongs_0 (by decide) rfl ?_
  refine r_istore_n C (lv' := [(1, .int 0), (0, .ref ((xG X).1 x0))]) (q := 2) dX6_wrongs_1 rfl (by decide) rfl rfl ?_
  refine r_iconst C (v := 0) (q := 3) dX6_wrongs_2 (by decide) rfl ?_
  refine r_istore_n C (lv' := [(2, .int 0), (1, .int 0), (0, .ref ((xG X).1 x0))]) (q := 4) dX6_wrongs_3 rfl (by decide) rfl rfl ?_
  refine r_sub (lv' := [(0, .ref ((xG X).1 x0)), (1, .int 0), (2, .int 0)]) [2, 1, 0] rfl ?_
  exact w_X6_wrongs_l4 C hr  FU _ _ _ hx0 h

theorem m_X6_wrongs (G : Gm) (l : Launch) {σ : St} {x0 : Nat} (hx0 : kd x0 = 7) {r : Int32} (h : f_X6_wrongs σ x0 = some r) : Ctr G l yX6_wrongs cX6_wrongs 3 (some .int) 6 135 [.ref (G.1 x0)] σ (some (.int r)) True σ := by
  refine Ctr.i (by decide) (Nat.le_of_ble_eq_true rfl) ?_
  intro X hG C hr
  subst hG
  exact w_X6_wrongs_b0 C hr _ hx0 h
-- X6_noList
set_option maxHeartbeats 4000000 in
set_option maxRecDepth 100000 in
theorem w_X6_noList_b0 {X : CX} (C : Cok X RX6 cX6_noList 3 2 43) {σ : St} {r : Int32} (hr : RtI X cX6_noList r σ) (x0 : Nat) (x1 : Int32) (hx0 : kd x0 = 7) (h : f_X6_noList σ x0 x1 = some r) : V X σ 0 [(0, .ref ((xG X).1 x0)), (1, .int x1)] [] := by
  unfold f_X6_noList at h
  refine r_aload_n C 0 (q := 1) dX6_noList_0 rfl rfl ?_
  refine r_iload_n C 1 (q := 2) dX6_noList_1 rfl rfl ?_
  obtain ⟨v_2, e_2, h⟩ := bs h
  refine r_callV C (ci := 6) (st := []) (st2 := [.int v_2]) (q := 5) (m_X6_noRow (xG X) (xl X) hx0 e_2) ok_X6_noRow hx0 rfl ⟨_, rfl⟩ q_1092 rfl ⟨Nat.le_of_ble_eq_true rfl, Nat.le_of_ble_eq_true rfl⟩ rfl rfl (Nat.le_of_ble_eq_true rfl) dX6_noList_2 rfl (fun hp_2 => ?_)
  refine r_istore_n C (lv' := [(2, .int v_2), (0, .ref ((xG X).1 x0)), (1, .int x1)]) (q := 6) dX6_noList_5 rfl (by decide) rfl rfl ?_
  refine r_iload_n C 0 (q := 7) dX6_noList_6 rfl rfl ?_
  refine r_if_ge C (tgt := 12) (q := 10) dX6_noList_7 (by decide) rfl (fun c_7 => ?_) (fun c_7 => ?_)
  · replace h := (if_pos c_7).symm.trans h
    refine r_aload_n C 1 (q := 13) dX6_noList_12 rfl rfl ?_
    refine g_X6_1 C (q := 16) dX6_noList_13 q_990 hx0 rfl ?_
    refine r_iload_n C 2 (q := 17) dX6_noList_16 rfl rfl ?_
    obtain ⟨v_17, e_17, h⟩ := bs h
    refine r_iald C (q := 18) dX6_noList_17 (kf_X6_1 hx0) e_17 rfl ?_
    refine r_aload_n C 1 (q := 19) dX6_noList_18 rfl rfl ?_
    refine g_X6_6 C (q := 22) dX6_noList_19 q_995 hx0 rfl ?_
    refine r_icmp_ge C (tgt := 30) (q := 25) dX6_noList_22 (by decide) rfl (fun c_22 => ?_) (fun c_22 => ?_)
    · replace h := (if_pos c_22).symm.trans h
      refine r_iconst C (v := 0) (q := 31) dX6_noList_30 (by decide) rfl ?_
      obtain rfl := Option.some.inj h
      exact hr _ _ dX6_noList_31
    · replace h := (if_neg c_22).symm.trans h
      refine r_bipush C (v := (-2)) (q := 27) dX6_noList_25 (by decide) rfl ?_
      refine r_goto C (tgt := 31) dX6_noList_27 (by decide) ?_
      obtain rfl := Option.some.inj h
      exact hr _ _ dX6_noList_31
  · replace h := (if_neg c_7).symm.trans h
    refine r_iload_n C 0 (q := 11) dX6_noList_10 rfl rfl ?_
    obtain rfl := Option.some.inj h
    exact hr _ _ dX6_noList_11

theorem m_X6_noList (G : Gm) (l : Launch) {σ : St} {x0 : Nat} {x1 : Int32} (hx0 : kd x0 = 7) {r : Int32} (h : f_X6_noList σ x0 x1 = some r) : Ctr G l yX6_noList cX6_noList 3 (some .int) 2 43 [.ref (G.1 x0), .int x1] σ (some (.int r)) True σ := by
  refine Ctr.i (by decide) (Nat.le_of_ble_eq_true rfl) ?_
  intro X hG C hr
  subst hG
  exact w_X6_noList_b0 C hr _ _ hx0 h
-- X6_listed
set_option maxHeartbeats 4000000 in
set_option maxRecDepth 100000 in
theorem w_X6_listed_b0 {X : CX} (C : Cok X RX6 cX6_listed 3 0 0) {σ : St} {r : Int32} (hr : RtI X cX6_listed r σ) (x0 : Nat) (x1 : Int32) (x2 : Int32) (hx0 : kd x0 = 7) (h : f_X6_listed σ x0 x1 x2 = some r) : V X σ 0 [(0, .ref ((xG X).1 x0)), (1, .int x1), (2, .int x2)] [] := by
  unfold f_X6_listed at h
  refine r_aload_n C 0 (q := 1) dX6_listed_0 rfl rfl ?_
  refine g_X6_2 C (q := 4) dX6_listed_1 q_991 hx0 rfl ?_
  refine r_bipush C (v := 40) (q := 6) dX6_listed_4 (by decide) rfl ?_
  refine r_iload_n C 1 (q := 7) dX6_listed_6 rfl rfl ?_
  refine r_imul C (q := 8) dX6_listed_7 rfl ?_
  refine r_iload_n C 2 (q := 9) dX6_listed_8 rfl rfl ?_
  refine r_iadd C (q := 10) dX6_listed_9 rfl ?_
  obtain ⟨v_10, e_10, h⟩ := bs h
  refine r_lald C (q := 11) dX6_listed_10 (kf_X6_2 hx0) e_10 rfl ?_
  refine r_l2i C (q := 12) dX6_listed_11 rfl ?_
  refine r_iconst C (v := 1) (q := 13) dX6_listed_12 (by decide) rfl ?_
  refine r_aload_n C 0 (q := 14) dX6_listed_13 rfl rfl ?_
  refine g_X6_11 C (q := 17) dX6_listed_14 q_1000 hx0 rfl ?_
  refine r_ishl C (q := 18) dX6_listed_17 rfl ?_
  refine r_iconst C (v := 1) (q := 19) dX6_listed_18 (by decide) rfl ?_
  refine r_isub C (q := 20) dX6_listed_19 rfl ?_
  refine r_iand C (q := 21) dX6_listed_20 rfl ?_
  obtain rfl := Option.some.inj h
  exact hr _ _ dX6_listed_21

theorem m_X6_listed (G : Gm) (l : Launch) {σ : St} {x0 : Nat} {x1 : Int32} {x2 : Int32} (hx0 : kd x0 = 7) {r : Int32} (h : f_X6_listed σ x0 x1 x2 = some r) : Ctr G l yX6_listed cX6_listed 3 (some .int) 0 0 [.ref (G.1 x0), .int x1, .int x2] σ (some (.int r)) True σ := by
  refine Ctr.i (by decide) (Nat.le_of_ble_eq_true rfl) ?_
  intro X hG C hr
  subst hG
  exact w_X6_listed_b0 C hr _ _ _ hx0 h
-- X6_judge
set_option maxHeartbeats 4000000 in
set_option maxRecDepth 100000 in
theorem w_X6_judge_b18 {X : CX} (C : Cok X RX6 cX6_judge 4 6 135) {σ' : St} {r : Int32} (hr : RtI X cX6_judge r σ') (k_18 : St → Nat → Int32 → Int32 → Option (Int32 × St)) (hk_18 : ∀ (σ : St) (x0 : Nat) (x1 : Int32) (x3 : Int32), kd x0 = 7 → k_18 σ x0 x1 x3 = some (r, σ') → V X σ 18 [(0, .ref ((xG X).1 x0)), (1, .int x1), (3, .int x3)] []) (σ : St) (x0 : Nat) (x1 : Int32) (x3 : Int32) (hx0 : kd x0 = 7) (h : f_X6_judge_b18 k_18 σ x0 x1 x3 = some (r, σ')) : V X σ 18 [(0, .ref ((xG X).1 x0)), (1, .int x1), (3, .int x3)] [] := by
  unfold f_X6_judge_b18 at h
  refine r_iload_n C 2 (q := 19) dX6_judge_18 rfl rfl ?_
  refine r_aload_n C 0 (q := 20) dX6_judge_19 rfl rfl ?_
  refine g_X6_6 C (q := 23) dX6_judge_20 q_995 hx0 rfl ?_
  refine r_icmp_ge C (tgt := 48) (q := 26) dX6_judge_23 (by decide) rfl (fun c_23 => ?_) (fun c_23 => ?_)
  · replace h := (if_pos c_23).symm.trans h
    refine r_iconst C (v := (-1)) (q := 49) dX6_judge_48 (by decide) rfl ?_
    obtain ⟨rfl, rfl⟩ := Prod.mk.inj (Option.some.inj h)
    exact hr _ _ dX6_judge_49
  · replace h := (if_neg c_23).symm.trans h
    refine r_aload_n C 0 (q := 27) dX6_judge_26 rfl rfl ?_
    refine r_iload_n C 2 (q := 28) dX6_judge_27 rfl rfl ?_
    obtain ⟨v_28, e_28, h⟩ := bs h
    refine r_callV C (ci := 6) (st := []) (st2 := [.int v_28]) (q := 31) (m_X6_openedBy (xG X) (xl X) hx0 e_28) ok_X6_openedBy hx0 rfl ⟨_, rfl⟩ q_1159 rfl ⟨Nat.le_of_ble_eq_true rfl, Nat.le_of_ble_eq_true rfl⟩ rfl rfl (Nat.le_of_ble_eq_true rfl) dX6_judge_28 rfl (fun hp_28 => ?_)
    refine r_aload_n C 0 (q := 32) dX6_judge_31 rfl rfl ?_
    refine r_iload_n C 1 (q := 33) dX6_judge_32 rfl rfl ?_
    refine r_iload_n C 2 (q := 34) dX6_judge_33 rfl rfl ?_
    obtain ⟨v_34, e_34, h⟩ := bs h
    refine r_callV C (ci := 6) (st := [.int v_28]) (st2 := [.int v_34, .int v_28]) (q := 37) (m_X6_listed (xG X) (xl X) hx0 e_34) ok_X6_listed hx0 rfl ⟨_, rfl⟩ q_1300 rfl ⟨Nat.le_of_ble_eq_true rfl, Nat.le_of_ble_eq_true rfl⟩ rfl rfl (Nat.le_of_ble_eq_true rfl) dX6_judge_34 rfl (fun hp_34 => ?_)
    refine r_icmp_eq C (tgt := 42) (q := 40) dX6_judge_37 (by decide) rfl (fun c_37 => ?_) (fun c_37 => ?_)
    · replace h := (if_pos c_37).symm.trans h
      obtain ⟨y_42, e_42, h⟩ := bs h
      refine r_iinc C (v := y_42) (lv' := [(3, .int y_42), (0, .ref ((xG X).1 x0)), (1, .int x1)]) (q := 45) 2 dX6_judge_42 rfl (Option.some.inj e_42) (by decide) rfl rfl ?_
      refine r_goto C (tgt := 18) dX6_judge_45 (by decide) ?_
      refine r_sub (lv' := [(0, .ref ((xG X).1 x0)), (1, .int x1), (3, .int y_42)]) [1, 2, 0] rfl ?_
      exact hk_18 _ _ _ _ hx0 h
    · replace h := (if_neg c_37).symm.trans h
      refine r_iload_n C 2 (q := 41) dX6_judge_40 rfl rfl ?_
      obtain ⟨rfl, rfl⟩ := Prod.mk.inj (Option.some.inj h)
      exact hr _ _ dX6_judge_41

theorem w_X6_judge_l18 {X : CX} (C : Cok X RX6 cX6_judge 4 6 135) {σ' : St} {r : Int32} (hr : RtI X cX6_judge r σ') (n : Nat) : ∀ (σ : St) (x0 : Nat) (x1 : Int32) (x3 : Int32), kd x0 = 7 → f_X6_judge_l18 n σ x0 x1 x3 = some (r, σ') → V X σ 18 [(0, .ref ((xG X).1 x0)), (1, .int x1), (3, .int x3)] [] := by
  induction n with
  | zero =>
    intro σ x0 x1 x3 hx0 h
    exact nomatch (show (none : Option (Int32 × St)) = some (r, σ') from h)
  | succ n ih =>
    intro σ x0 x1 x3 hx0 h
    exact w_X6_judge_b18 C hr _ ih σ x0 x1 x3 hx0 h
set_option maxHeartbeats 4000000 in
set_option maxRecDepth 100000 in
theorem w_X6_judge_b0 {X : CX} (C : Cok X RX6 cX6_judge 4 6 135) {σ' : St} {r : Int32} (hr : RtI X cX6_judge r σ') (σ : St) (x0 : Nat) (x1 : Int32) (hx0 : kd x0 = 7) (h : f_X6_judge σ x0 x1 = some (r, σ')) : V X σ 0 [(0, .ref ((xG X).1 x0)), (1, .int x1)] [] := by
  unfold f_X6_judge at h
  refine r_aload_n C 0 (q := 1) dX6_judge_0 rfl rfl ?_
  refine r_iload_n C 1 (q := 2) dX6_judge_1 rfl rfl ?_
  obtain ⟨v_2, e_2, h⟩ := bs h
  refine r_callV C (ci := 6) (st := []) (st2 := [.int v_2]) (q := 5) (m_X6_noList (xG X) (xl X) hx0 e_2) ok_X6_noList hx0 rfl ⟨_, rfl⟩ q_1296 rfl ⟨Nat.le_of_ble_eq_true rfl, Nat.le_of_ble_eq_true rfl⟩ rfl rfl (Nat.le_of_ble_eq_true rfl) dX6_judge_2 rfl (fun hp_2 => ?_)
  refine r_istore_n C (lv' := [(2, .int v_2), (0, .ref ((xG X).1 x0)), (1, .int x1)]) (q := 6) dX6_judge_5 rfl (by decide) rfl rfl ?_
  refine r_iload_n C 0 (q := 7) dX6_judge_6 rfl rfl ?_
  refine r_if_ge C (tgt := 16) (q := 10) dX6_judge_7 (by decide) rfl (fun c_7 => ?_) (fun c_7 => ?_)
  · replace h := (if_pos c_7).symm.trans h
    refine r_iconst C (v := 0) (q := 17) dX6_judge_16 (by decide) rfl ?_
    refine r_istore_n C (lv' := [(3, .int 0), (2, .int v_2), (0, .ref ((xG X).1 x0)), (1, .int x1)]) (q := 18) dX6_judge_17 rfl (by decide) rfl rfl ?_
    refine r_sub (lv' := [(0, .ref ((xG X).1 x0)), (1, .int x1), (3, .int 0)]) [2, 3, 0] rfl ?_
    exact w_X6_judge_l18 C hr  FU _ _ _ _ hx0 h
  · replace h := (if_neg c_7).symm.trans h
    refine r_aload_n C 1 (q := 11) dX6_judge_10 rfl rfl ?_
    refine r_iload_n C 0 (q := 12) dX6_judge_11 rfl rfl ?_
    obtain ⟨v_12, s_12, e_12, h⟩ := bs2 h
    refine r_callV C (ci := 6) (st := []) (st2 := [.int v_12]) (q := 15) (m_X6_no (xG X) (xl X) hx0 e_12) ok_X6_no hx0 rfl ⟨_, rfl⟩ q_1084 rfl ⟨Nat.le_of_ble_eq_true rfl, Nat.le_of_ble_eq_true rfl⟩ rfl rfl (Nat.le_of_ble_eq_true rfl) dX6_judge_12 rfl (fun hp_12 => ?_)
    obtain ⟨rfl, rfl⟩ := Prod.mk.inj (Option.some.inj h)
    exact hr _ _ dX6_judge_15

theorem m_X6_judge (G : Gm) (l : Launch) {σ σ' : St} {x0 : Nat} {x1 : Int32} (hx0 : kd x0 = 7) {r : Int32} (h : f_X6_judge σ x0 x1 = some (r, σ')) : Ctr G l yX6_judge cX6_judge 4 (some .int) 6 135 [.ref (G.1 x0), .int x1] σ (some (.int r)) True σ' := by
  refine Ctr.i (by decide) (Nat.le_of_ble_eq_true rfl) ?_
  intro X hG C hr
  subst hG
  exact w_X6_judge_b0 C hr _ _ _ hx0 h
