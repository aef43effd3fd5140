-- X6_over
set_option maxHeartbeats 4000000 in
set_option maxRecDepth 100000 in
theorem w_X6_over_b54 {X : CX} (C : Cok X RX6 cX6_over 4 6 135) {σ' : St} {r : Int32} (hr : RtI X cX6_over r σ') (k_19 : St → Nat → Int32 → Int32 → Int32 → Option (Int32 × St)) (hk_19 : ∀ (σ : St) (x0 : Nat) (x1 : Int32) (x2 : Int32) (x3 : Int32), kd x0 = 7 → k_19 σ x0 x1 x2 x3 = some (r, σ') → V X σ 19 [(0, .ref ((xG X).1 x0)), (1, .int x1), (2, .int x2), (3, .int x3)] []) (σ : St) (x0 : Nat) (x1 : Int32) (x2 : Int32) (x3 : Int32) (hx0 : kd x0 = 7) (h : f_X6_over_b54 k_19 σ x0 x1 x2 x3 = some (r, σ')) : V X σ 54 [(0, .ref ((xG X).1 x0)), (1, .int x1), (2, .int x2), (3, .int x3)] [] := by
  unfold f_X6_over_b54 at h
  obtain ⟨y_54, e_54, h⟩ := bs h
  refine r_iinc C (v := y_54) (lv' := [(3, .int y_54), (0, .ref ((xG X).1 x0)), (1, .int x1), (2, .int x2)]) (q := 57) 3 dX6_over_54 rfl (Option.some.inj e_54) (by decide) rfl rfl ?_
  refine r_goto C (tgt := 19) dX6_over_57 (by decide) ?_
  refine r_sub (lv' := [(0, .ref ((xG X).1 x0)), (1, .int x1), (2, .int x2), (3, .int y_54)]) [1, 2, 3, 0] rfl ?_
  exact hk_19 _ _ _ _ _ hx0 h

set_option maxHeartbeats 4000000 in
set_option maxRecDepth 100000 in
theorem w_X6_over_b19 {X : CX} (C : Cok X RX6 cX6_over 4 6 135) {σ' : St} {r : Int32} (hr : RtI X cX6_over r σ') (k_19 : St → Nat → Int32 → Int32 → Int32 → Option (Int32 × St)) (hk_19 : ∀ (σ : St) (x0 : Nat) (x1 : Int32) (x2 : Int32) (x3 : Int32), kd x0 = 7 → k_19 σ x0 x1 x2 x3 = some (r, σ') → V X σ 19 [(0, .ref ((xG X).1 x0)), (1, .int x1), (2, .int x2), (3, .int x3)] []) (σ : St) (x0 : Nat) (x1 : Int32) (x2 : Int32) (x3 : Int32) (hx0 : kd x0 = 7) (h : f_X6_over_b19 k_19 σ x0 x1 x2 x3 = some (r, σ')) : V X σ 19 [(0, .ref ((xG X).1 x0)), (1, .int x1), (2, .int x2), (3, .int x3)] [] := by
  unfold f_X6_over_b19 at h
  refine r_iload_n C 3 (q := 20) dX6_over_19 rfl rfl ?_
  refine r_aload_n C 0 (q := 21) dX6_over_20 rfl rfl ?_
  refine g_X6_6 C (q := 24) dX6_over_21 q_995 hx0 rfl ?_
  refine r_icmp_ge C (tgt := 60) (q := 27) dX6_over_24 (by decide) rfl (fun c_24 => ?_) (fun c_24 => ?_)
  · replace h := (if_pos c_24).symm.trans h
    refine r_iload_n C 2 (q := 61) dX6_over_60 rfl rfl ?_
    obtain ⟨rfl, rfl⟩ := Prod.mk.inj (Option.some.inj h)
    exact hr _ _ dX6_over_61
  · replace h := (if_neg c_24).symm.trans h
    refine r_iload_n C 3 (q := 28) dX6_over_27 rfl rfl ?_
    refine r_iload_n C 1 (q := 29) dX6_over_28 rfl rfl ?_
    refine r_icmp_eq C (tgt := 54) (q := 32) dX6_over_29 (by decide) rfl (fun c_29 => ?_) (fun c_29 => ?_)
    · replace h := (if_pos c_29).symm.trans h
      exact w_X6_over_b54 C hr _ hk_19 _ _ _ _ _ hx0 h
    · replace h := (if_neg c_29).symm.trans h
      refine r_aload_n C 0 (q := 33) dX6_over_32 rfl rfl ?_
      refine r_iload_n C 1 (q := 34) dX6_over_33 rfl rfl ?_
      obtain ⟨v_34, e_34, h⟩ := bs h
      refine r_callV C (ci := 6) (st := []) (st2 := [.int v_34]) (q := 37) (m_X6_openedBy (xG X) (xl X) hx0 e_34) ok_X6_openedBy hx0 rfl ⟨_, rfl⟩ q_1159 rfl ⟨Nat.le_of_ble_eq_true rfl, Nat.le_of_ble_eq_true rfl⟩ rfl rfl (Nat.le_of_ble_eq_true rfl) dX6_over_34 rfl (fun hp_34 => ?_)
      refine r_aload_n C 0 (q := 38) dX6_over_37 rfl rfl ?_
      refine r_iload_n C 3 (q := 39) dX6_over_38 rfl rfl ?_
      obtain ⟨v_39, e_39, h⟩ := bs h
      refine r_callV C (ci := 6) (st := [.int v_34]) (st2 := [.int v_39, .int v_34]) (q := 42) (m_X6_openedBy (xG X) (xl X) hx0 e_39) ok_X6_openedBy hx0 rfl ⟨_, rfl⟩ q_1159 rfl ⟨Nat.le_of_ble_eq_true rfl, Nat.le_of_ble_eq_true rfl⟩ rfl rfl (Nat.le_of_ble_eq_true rfl) dX6_over_39 rfl (fun hp_39 => ?_)
      refine r_iconst C (v := (-1)) (q := 43) dX6_over_42 (by decide) rfl ?_
      refine r_ixor C (q := 44) dX6_over_43 rfl ?_
      refine r_iand C (q := 45) dX6_over_44 rfl ?_
      refine r_if_ne C (tgt := 54) (q := 48) dX6_over_45 (by decide) rfl (fun c_45 => ?_) (fun c_45 => ?_)
      · replace h := (if_neg c_45).symm.trans h
        exact w_X6_over_b54 C hr _ hk_19 _ _ _ _ _ hx0 h
      · replace h := (if_pos c_45).symm.trans h
        refine r_iload_n C 2 (q := 49) dX6_over_48 rfl rfl ?_
        refine r_iconst C (v := 1) (q := 50) dX6_over_49 (by decide) rfl ?_
        refine r_iload_n C 3 (q := 51) dX6_over_50 rfl rfl ?_
        refine r_ishl C (q := 52) dX6_over_51 rfl ?_
        refine r_ior C (q := 53) dX6_over_52 rfl ?_
        obtain ⟨y_53, e_53, h⟩ := bs h
        refine r_topI (Option.some.inj e_53) ?_
        refine r_istore_n C (lv' := [(2, .int y_53), (0, .ref ((xG X).1 x0)), (1, .int x1), (3, .int x3)]) (q := 54) dX6_over_53 rfl (by decide) rfl rfl ?_
        refine r_sub (lv' := [(0, .ref ((xG X).1 x0)), (1, .int x1), (2, .int y_53), (3, .int x3)]) [1, 2, 0, 3] rfl ?_
        exact w_X6_over_b54 C hr _ hk_19 _ _ _ _ _ hx0 h

theorem w_X6_over_l19 {X : CX} (C : Cok X RX6 cX6_over 4 6 135) {σ' : St} {r : Int32} (hr : RtI X cX6_over r σ') (n : Nat) : ∀ (σ : St) (x0 : Nat) (x1 : Int32) (x2 : Int32) (x3 : Int32), kd x0 = 7 → f_X6_over_l19 n σ x0 x1 x2 x3 = some (r, σ') → V X σ 19 [(0, .ref ((xG X).1 x0)), (1, .int x1), (2, .int x2), (3, .int x3)] [] := by
  induction n with
  | zero =>
    intro σ x0 x1 x2 x3 hx0 h
    exact nomatch (show (none : Option (Int32 × St)) = some (r, σ') from h)
  | succ n ih =>
    intro σ x0 x1 x2 x3 hx0 h
    exact w_X6_over_b19 C hr _ ih σ x0 x1 x2 x3 hx0 h
set_option maxHeartbeats 4000000 in
set_option maxRecDepth 100000 in
theorem w_X6_over_b0 {X : CX} (C : Cok X RX6 cX6_over 4 6 135) {σ' : St} {r : Int32} (hr : RtI X cX6_over r σ') (σ : St) (x0 : Nat) (x1 : Int32) (hx0 : kd x0 = 7) (h : f_X6_over σ x0 x1 = some (r, σ')) : V X σ 0 [(0, .ref ((xG X).1 x0)), (1, .int x1)] [] := by
  unfold f_X6_over at h
  refine r_aload_n C 0 (q := 1) dX6_over_0 rfl rfl ?_
  refine r_iload_n C 1 (q := 2) dX6_over_1 rfl rfl ?_
  obtain ⟨v_2, e_2, h⟩ := bs h
  refine r_callV C (ci := 6) (st := []) (st2 := [.int v_2]) (q := 5) (m_X6_isKey (xG X) (xl X) hx0 e_2) ok_X6_isKey hx0 rfl ⟨_, rfl⟩ q_1116 rfl ⟨Nat.le_of_ble_eq_true rfl, Nat.le_of_ble_eq_true rfl⟩ rfl rfl (Nat.le_of_ble_eq_true rfl) dX6_over_2 rfl (fun hp_2 => ?_)
  refine r_if_ne C (tgt := 15) (q := 8) dX6_over_5 (by decide) rfl (fun c_5 => ?_) (fun c_5 => ?_)
  · replace h := (if_neg c_5).symm.trans h
    refine r_iconst C (v := 0) (q := 16) dX6_over_15 (by decide) rfl ?_
    refine r_istore_n C (lv' := [(2, .int 0), (0, .ref ((xG X).1 x0)), (1, .int x1)]) (q := 17) dX6_over_16 rfl (by decide) rfl rfl ?_
    refine r_iconst C (v := 0) (q := 18) dX6_over_17 (by decide) rfl ?_
    refine r_istore_n C (lv' := [(3, .int 0), (2, .int 0), (0, .ref ((xG X).1 x0)), (1, .int x1)]) (q := 19) dX6_over_18 rfl (by decide) rfl rfl ?_
    refine r_sub (lv' := [(0, .ref ((xG X).1 x0)), (1, .int x1), (2, .int 0), (3, .int 0)]) [2, 3, 1, 0] rfl ?_
    exact w_X6_over_l19 C hr  FU _ _ _ _ _ hx0 h
  · replace h := (if_pos c_5).symm.trans h
    refine r_aload_n C 0 (q := 9) dX6_over_8 rfl rfl ?_
    refine r_bipush C (v := (-2)) (q := 11) dX6_over_9 (by decide) rfl ?_
    obtain ⟨v_11, s_11, e_11, h⟩ := bs2 h
    refine r_callV C (ci := 6) (st := []) (st2 := [.int v_11]) (q := 14) (m_X6_no (xG X) (xl X) hx0 e_11) ok_X6_no hx0 rfl ⟨_, rfl⟩ q_1084 rfl ⟨Nat.le_of_ble_eq_true rfl, Nat.le_of_ble_eq_true rfl⟩ rfl rfl (Nat.le_of_ble_eq_true rfl) dX6_over_11 rfl (fun hp_11 => ?_)
    obtain ⟨rfl, rfl⟩ := Prod.mk.inj (Option.some.inj h)
    exact hr _ _ dX6_over_14

theorem m_X6_over (G : Gm) (l : Launch) {σ σ' : St} {x0 : Nat} {x1 : Int32} (hx0 : kd x0 = 7) {r : Int32} (h : f_X6_over σ x0 x1 = some (r, σ')) : Ctr G l yX6_over cX6_over 4 (some .int) 6 135 [.ref (G.1 x0), .int x1] σ (some (.int r)) True σ' := by
  refine Ctr.i (by decide) (Nat.le_of_ble_eq_true rfl) ?_
  intro X hG C hr
  subst hG
  exact w_X6_over_b0 C hr _ _ _ hx0 h
-- X6_chain
set_option maxHeartbeats 4000000 in
set_option maxRecDepth 100000 in
theorem w_X6_chain_b128 {X : CX} (C : Cok X RX6 cX6_chain 6 6 135) {σ' : St} {r : Int32} (hr : RtI X cX6_chain r σ') (k_14 : St → Nat → Int32 → Int32 → Int32 → Option (Int32 × St)) (hk_14 : ∀ (σ : St) (x0 : Nat) (x1 : Int32) (x2 : Int32) (x3 : Int32), kd x0 = 7 → k_14 σ x0 x1 x2 x3 = some (r, σ') → V X σ 14 [(0, .ref ((xG X).1 x0)), (1, .int x1), (2, .int x2), (3, .int x3)] []) (σ : St) (x0 : Nat) (x1 : Int32) (x2 : Int32) (x3 : Int32) (hx0 : kd x0 = 7) (h : f_X6_chain_b128 k_14 σ x0 x1 x2 x3 = some (r, σ')) : V X σ 128 [(0, .ref ((xG X).1 x0)), (1, .int x1), (2, .int x2), (3, .int x3)] [] := by
  unfold f_X6_chain_b128 at h
  obtain ⟨y_128, e_128, h⟩ := bs h
  refine r_iinc C (v := y_128) (lv' := [(3, .int y_128), (0, .ref ((xG X).1 x0)), (1, .int x1), (2, .int x2)]) (q := 131) 3 dX6_chain_128 rfl (Option.some.inj e_128) (by decide) rfl rfl ?_
  refine r_goto C (tgt := 14) dX6_chain_131 (by decide) ?_
  refine r_sub (lv' := [(0, .ref ((xG X).1 x0)), (1, .int x1), (2, .int x2), (3, .int y_128)]) [1, 2, 3, 0] rfl ?_
  exact hk_14 _ _ _ _ _ hx0 h

set_option maxHeartbeats 4000000 in
set_option maxRecDepth 100000 in
theorem w_X6_chain_b111 {X : CX} (C : Cok X RX6 cX6_chain 6 6 135) {σ' : St} {r : Int32} (hr : RtI X cX6_chain r σ') (k_47 : St → Nat → Int32 → Int32 → Int32 → Int32 → Option (Int32 × St)) (hk_47 : ∀ (σ : St) (x0 : Nat) (x1 : Int32) (x2 : Int32) (x3 : Int32) (x4 : Int32), kd x0 = 7 → k_47 σ x0 x1 x2 x3 x4 = some (r, σ') → V X σ 47 [(0, .ref ((xG X).1 x0)), (1, .int x1), (2, .int x2), (3, .int x3), (4, .int x4)] []) (σ : St) (x0 : Nat) (x1 : Int32) (x2 : Int32) (x3 : Int32) (x4 : Int32) (hx0 : kd x0 = 7) (h : f_X6_chain_b111 k_47 σ x0 x1 x2 x3 x4 = some (r, σ')) : V X σ 111 [(0, .ref ((xG X).1 x0)), (1, .int x1), (2, .int x2), (3, .int x3), (4, .int x4)] [] := by
  unfold f_X6_chain_b111 at h
  obtain ⟨y_111, e_111, h⟩ := bs h
  refine r_iinc C (v := y_111) (lv' := [(4, .int y_111), (0, .ref ((xG X).1 x0)), (1, .int x1), (2, .int x2), (3, .int x3)]) (q := 114) 4 dX6_chain_111 rfl (Option.some.inj e_111) (by decide) rfl rfl ?_
  refine r_goto C (tgt := 47) dX6_chain_114 (by decide) ?_
  refine r_sub (lv' := [(0, .ref ((xG X).1 x0)), (1, .int x1), (2, .int x2), (3, .int x3), (4, .int y_111)]) [1, 2, 3, 4, 0] rfl ?_
  exact hk_47 _ _ _ _ _ _ hx0 h

set_option maxHeartbeats 4000000 in
set_option maxRecDepth 100000 in
theorem w_X6_chain_b47 {X : CX} (C : Cok X RX6 cX6_chain 6 6 135) {σ' : St} {r : Int32} (hr : RtI X cX6_chain r σ') (k_14 : St → Nat → Int32 → Int32 → Int32 → Option (Int32 × St)) (hk_14 : ∀ (σ : St) (x0 : Nat) (x1 : Int32) (x2 : Int32) (x3 : Int32), kd x0 = 7 → k_14 σ x0 x1 x2 x3 = some (r, σ') → V X σ 14 [(0, .ref ((xG X).1 x0)), (1, .int x1), (2, .int x2), (3, .int x3)] []) (k_47 : St → Nat → Int32 → Int32 → Int32 → Int32 → Option (Int32 × St)) (hk_47 : ∀ (σ : St) (x0 : Nat) (x1 : Int32) (x2 : Int32) (x3 : Int32) (x4 : Int32), kd x0 = 7 → k_47 σ x0 x1 x2 x3 x4 = some (r, σ') → V X σ 47 [(0, .ref ((xG X).1 x0)), (1, .int x1), (2, .int x2), (3, .int x3), (4, .int x4)] []) (σ : St) (x0 : Nat) (x1 : Int32) (x2 : Int32) (x3 : Int32) (x4 : Int32) (hx0 : kd x0 = 7) (h : f_X6_chain_b47 k_14 k_47 σ x0 x1 x2 x3 x4 = some (r, σ')) : V X σ 47 [(0, .ref ((xG X).1 x0)), (1, .int x1), (2, .int x2), (3, .int x3), (4, .int x4)] [] := by
  unfold f_X6_chain_b47 at h
  refine r_iload C 4 (q := 49) dX6_chain_47 rfl rfl ?_
  refine r_aload_n C 0 (q := 50) dX6_chain_49 rfl rfl ?_
  refine g_X6_6 C (q := 53) dX6_chain_50 q_995 hx0 rfl ?_
  refine r_icmp_ge C (tgt := 117) (q := 56) dX6_chain_53 (by decide) rfl (fun c_53 => ?_) (fun c_53 => ?_)
  · replace h := (if_pos c_53).symm.trans h
    refine r_iload_n C 1 (q := 118) dX6_chain_117 rfl rfl ?_
    refine r_aload_n C 0 (q := 119) dX6_chain_118 rfl rfl ?_
    refine g_X6_28 C (q := 122) dX6_chain_119 q_1017 hx0 rfl ?_
    refine r_iload_n C 3 (q := 123) dX6_chain_122 rfl rfl ?_
    obtain ⟨v_123, e_123, h⟩ := bs h
    refine r_iald C (q := 124) dX6_chain_123 (kf_X6_28 hx0) e_123 rfl ?_
    refine r_max C (st := []) (q := 127) dX6_chain_124 q_1158 ok_max ⟨Nat.le_of_ble_eq_true rfl, Nat.le_of_ble_eq_true rfl⟩ rfl ?_
    obtain ⟨y_127, e_127, h⟩ := bs h
    refine r_topI (Option.some.inj e_127) ?_
    refine r_istore_n C (lv' := [(1, .int y_127), (0, .ref ((xG X).1 x0)), (2, .int x2), (3, .int x3), (4, .int x4)]) (q := 128) dX6_chain_127 rfl (by decide) rfl rfl ?_
    refine r_sub (lv' := [(0, .ref ((xG X).1 x0)), (1, .int y_127), (2, .int x2), (3, .int x3)]) [1, 0, 2, 3] rfl ?_
    exact w_X6_chain_b128 C hr _ hk_14 _ _ _ _ _ hx0 h
  · replace h := (if_neg c_53).symm.trans h
    refine r_aload_n C 0 (q := 57) dX6_chain_56 rfl rfl ?_
    refine r_iload C 4 (q := 59) dX6_chain_57 rfl rfl ?_
    obtain ⟨v_59, e_59, h⟩ := bs h
    refine r_callV C (ci := 6) (st := []) (st2 := [.int v_59]) (q := 62) (m_X6_openedBy (xG X) (xl X) hx0 e_59) ok_X6_openedBy hx0 rfl ⟨_, rfl⟩ q_1159 rfl ⟨Nat.le_of_ble_eq_true rfl, Nat.le_of_ble_eq_true rfl⟩ rfl rfl (Nat.le_of_ble_eq_true rfl) dX6_chain_59 rfl (fun hp_59 => ?_)
    refine r_istore C (lv' := [(5, .int v_59), (0, .ref ((xG X).1 x0)), (1, .int x1), (2, .int x2), (3, .int x3), (4, .int x4)]) (q := 64) dX6_chain_62 (by decide) rfl rfl ?_
    refine r_iload C 0 (q := 66) dX6_chain_64 rfl rfl ?_
    refine r_aload_n C 1 (q := 67) dX6_chain_66 rfl rfl ?_
    refine r_iload_n C 4 (q := 68) dX6_chain_67 rfl rfl ?_
    obtain ⟨v_68, e_68, h⟩ := bs h
    refine r_callV C (ci := 6) (st := [.int v_59]) (st2 := [.int v_68, .int v_59]) (q := 71) (m_X6_openedBy (xG X) (xl X) hx0 e_68) ok_X6_openedBy hx0 rfl ⟨_, rfl⟩ q_1159 rfl ⟨Nat.le_of_ble_eq_true rfl, Nat.le_of_ble_eq_true rfl⟩ rfl rfl (Nat.le_of_ble_eq_true rfl) dX6_chain_68 rfl (fun hp_68 => ?_)
    refine r_icmp_eq C (tgt := 111) (q := 74) dX6_chain_71 (by decide) rfl (fun c_71 => ?_) (fun c_71 => ?_)
    · replace h := (if_pos c_71).symm.trans h
      refine r_sub (lv' := [(0, .ref ((xG X).1 x0)), (1, .int x1), (2, .int x2), (3, .int x3), (4, .int x4)]) [1, 2, 3, 4, 5] rfl ?_
      exact w_X6_chain_b111 C hr _ hk_47 _ _ _ _ _ _ hx0 h
    · replace h := (if_neg c_71).symm.trans h
      refine r_iload C 0 (q := 76) dX6_chain_74 rfl rfl ?_
      refine r_aload_n C 1 (q := 77) dX6_chain_76 rfl rfl ?_
      refine r_iload_n C 4 (q := 78) dX6_chain_77 rfl rfl ?_
      obtain ⟨v_78, e_78, h⟩ := bs h
      refine r_callV C (ci := 6) (st := [.int v_59]) (st2 := [.int v_78, .int v_59]) (q := 81) (m_X6_openedBy (xG X) (xl X) hx0 e_78) ok_X6_openedBy hx0 rfl ⟨_, rfl⟩ q_1159 rfl ⟨Nat.le_of_ble_eq_true rfl, Nat.le_of_ble_eq_true rfl⟩ rfl rfl (Nat.le_of_ble_eq_true rfl) dX6_chain_78 rfl (fun hp_78 => ?_)
      refine r_iconst C (v := (-1)) (q := 82) dX6_chain_81 (by decide) rfl ?_
      refine r_ixor C (q := 83) dX6_chain_82 rfl ?_
      refine r_iand C (q := 84) dX6_chain_83 rfl ?_
      refine r_if_ne C (tgt := 111) (q := 87) dX6_chain_84 (by decide) rfl (fun c_84 => ?_) (fun c_84 => ?_)
      · replace h := (if_neg c_84).symm.trans h
        refine r_sub (lv' := [(0, .ref ((xG X).1 x0)), (1, .int x1), (2, .int x2), (3, .int x3), (4, .int x4)]) [1, 2, 3, 4, 5] rfl ?_
        exact w_X6_chain_b111 C hr _ hk_47 _ _ _ _ _ _ hx0 h
      · replace h := (if_pos c_84).symm.trans h
        refine r_aload_n C 1 (q := 88) dX6_chain_87 rfl rfl ?_
        refine g_X6_28 C (q := 91) dX6_chain_88 q_1017 hx0 rfl ?_
        refine r_iload_n C 4 (q := 92) dX6_chain_91 rfl rfl ?_
        refine r_aload_n C 1 (q := 93) dX6_chain_92 rfl rfl ?_
        refine g_X6_28 C (q := 96) dX6_chain_93 q_1017 hx0 rfl ?_
        refine r_iload_n C 4 (q := 97) dX6_chain_96 rfl rfl ?_
        obtain ⟨v_97, e_97, h⟩ := bs h
        refine r_iald C (q := 98) dX6_chain_97 (kf_X6_28 hx0) e_97 rfl ?_
        refine r_aload_n C 1 (q := 99) dX6_chain_98 rfl rfl ?_
        refine g_X6_28 C (q := 102) dX6_chain_99 q_1017 hx0 rfl ?_
        refine r_iload C 5 (q := 104) dX6_chain_102 rfl rfl ?_
        obtain ⟨v_104, e_104, h⟩ := bs h
        refine r_iald C (q := 105) dX6_chain_104 (kf_X6_28 hx0) e_104 rfl ?_
        refine r_iconst C (v := 1) (q := 106) dX6_chain_105 (by decide) rfl ?_
        refine r_iadd C (q := 107) dX6_chain_106 rfl ?_
        refine r_max C (st := [.int x3, .ref ((xG X).1 109)]) (q := 110) dX6_chain_107 q_1158 ok_max ⟨Nat.le_of_ble_eq_true rfl, Nat.le_of_ble_eq_true rfl⟩ rfl ?_
        obtain ⟨s_110, e_110, h⟩ := bs h
        refine r_iast C (q := 111) dX6_chain_110 (kf_X6_28 hx0) e_110 rfl ?_
        refine r_sub (lv' := [(0, .ref ((xG X).1 x0)), (1, .int x1), (2, .int x2), (3, .int x3), (4, .int x4)]) [1, 2, 3, 4, 5] rfl ?_
        exact w_X6_chain_b111 C hr _ hk_47 _ _ _ _ _ _ hx0 h

theorem w_X6_chain_l47 {X : CX} (C : Cok X RX6 cX6_chain 6 6 135) {σ' : St} {r : Int32} (hr : RtI X cX6_chain r σ') (k_14 : St → Nat → Int32 → Int32 → Int32 → Option (Int32 × St)) (hk_14 : ∀ (σ : St) (x0 : Nat) (x1 : Int32) (x2 : Int32) (x3 : Int32), kd x0 = 7 → k_14 σ x0 x1 x2 x3 = some (r, σ') → V X σ 14 [(0, .ref ((xG X).1 x0)), (1, .int x1), (2, .int x2), (3, .int x3)] []) (n : Nat) : ∀ (σ : St) (x0 : Nat) (x1 : Int32) (x2 : Int32) (x3 : Int32) (x4 : Int32), kd x0 = 7 → f_X6_chain_l47 k_14 n σ x0 x1 x2 x3 x4 = some (r, σ') → V X σ 47 [(0, .ref ((xG X).1 x0)), (1, .int x1), (2, .int x2), (3, .int x3), (4, .int x4)] [] := by
  induction n with
  | zero =>
    intro σ x0 x1 x2 x3 x4 hx0 h
    exact nomatch (show (none : Option (Int32 × St)) = some (r, σ') from h)
  | succ n ih =>
    intro σ x0 x1 x2 x3 x4 hx0 h
    exact w_X6_chain_b47 C hr k_14 hk_14 _ ih σ x0 x1 x2 x3 x4 hx0 h
set_option maxHeartbeats 4000000 in
set_option maxRecDepth 100000 in
theorem w_X6_chain_b14 {X : CX} (C : Cok X RX6 cX6_chain 6 6 135) {σ' : St} {r : Int32} (hr : RtI X cX6_chain r σ') (k_4 : St → Nat → Int32 → Int32 → Option (Int32 × St)) (hk_4 : ∀ (σ : St) (x0 : Nat) (x1 : Int32) (x2 : Int32), kd x0 = 7 → k_4 σ x0 x1 x2 = some (r, σ') → V X σ 4 [(0, .ref ((xG X).1 x0)), (1, .int x1), (2, .int x2)] []) (k_14 : St → Nat → Int32 → Int32 → Int32 → Option (Int32 × St)) (hk_14 : ∀ (σ : St) (x0 : Nat) (x1 : Int32) (x2 : Int32) (x3 : Int32), kd x0 = 7 → k_14 σ x0 x1 x2 x3 = some (r, σ') → V X σ 14 [(0, .ref ((xG X).1 x0)), (1, .int x1), (2, .int x2), (3, .int x3)] []) (σ : St) (x0 : Nat) (x1 : Int32) (x2 : Int32) (x3 : Int32) (hx0 : kd x0 = 7) (h : f_X6_chain_b14 k_4 k_14 σ x0 x1 x2 x3 = some (r, σ')) : V X σ 14 [(0, .ref ((xG X).1 x0)), (1, .int x1), (2, .int x2), (3, .int x3)] [] := by
  unfold f_X6_chain_b14 at h
  refine r_iload_n C 3 (q := 15) dX6_chain_14 rfl rfl ?_
  refine r_aload_n C 0 (q := 16) dX6_chain_15 rfl rfl ?_
  refine g_X6_6 C (q := 19) dX6_chain_16 q_995 hx0 rfl ?_
  refine r_icmp_ge C (tgt := 134) (q := 22) dX6_chain_19 (by decide) rfl (fun c_19 => ?_) (fun c_19 => ?_)
  · replace h := (if_pos c_19).symm.trans h
    obtain ⟨y_134, e_134, h⟩ := bs h
    refine r_iinc C (v := y_134) (lv' := [(2, .int y_134), (0, .ref ((xG X).1 x0)), (1, .int x1), (3, .int x3)]) (q := 137) 2 dX6_chain_134 rfl (Option.some.inj e_134) (by decide) rfl rfl ?_
    refine r_goto C (tgt := 4) dX6_chain_137 (by decide) ?_
    refine r_sub (lv' := [(0, .ref ((xG X).1 x0)), (1, .int x1), (2, .int y_134)]) [1, 2, 0] rfl ?_
    exact hk_4 _ _ _ _ hx0 h
  · replace h := (if_neg c_19).symm.trans h
    refine r_aload_n C 0 (q := 23) dX6_chain_22 rfl rfl ?_
    refine r_iload_n C 3 (q := 24) dX6_chain_23 rfl rfl ?_
    obtain ⟨v_24, e_24, h⟩ := bs h
    refine r_callV C (ci := 6) (st := []) (st2 := [.int v_24]) (q := 27) (m_X6_openedBy (xG X) (xl X) hx0 e_24) ok_X6_openedBy hx0 rfl ⟨_, rfl⟩ q_1159 rfl ⟨Nat.le_of_ble_eq_true rfl, Nat.le_of_ble_eq_true rfl⟩ rfl rfl (Nat.le_of_ble_eq_true rfl) dX6_chain_24 rfl (fun hp_24 => ?_)
    obtain ⟨v_27, e_27, h⟩ := bs h
    refine r_callS C (st := []) (st2 := [.int v_27]) (q := 30) (m_J6_bitCount_0f7a4 (xG X) (xl X) e_27) ok_J6_bitCount_0f7a4 q_1291 rfl ⟨Nat.le_of_ble_eq_true rfl, Nat.le_of_ble_eq_true rfl⟩ rfl rfl (Nat.le_of_ble_eq_true rfl) dX6_chain_27 rfl (fun hp_27 => ?_)
    refine r_iload_n C 2 (q := 31) dX6_chain_30 rfl rfl ?_
    refine r_icmp_eq C (tgt := 37) (q := 34) dX6_chain_31 (by decide) rfl (fun c_31 => ?_) (fun c_31 => ?_)
    · replace h := (if_pos c_31).symm.trans h
      refine r_aload_n C 0 (q := 38) dX6_chain_37 rfl rfl ?_
      refine g_X6_28 C (q := 41) dX6_chain_38 q_1017 hx0 rfl ?_
      refine r_iload_n C 3 (q := 42) dX6_chain_41 rfl rfl ?_
      refine r_iconst C (v := 1) (q := 43) dX6_chain_42 (by decide) rfl ?_
      obtain ⟨s_43, e_43, h⟩ := bs h
      refine r_iast C (q := 44) dX6_chain_43 (kf_X6_28 hx0) e_43 rfl ?_
      refine r_iconst C (v := 0) (q := 45) dX6_chain_44 (by decide) rfl ?_
      refine r_istore C (lv' := [(4, .int 0), (0, .ref ((xG X).1 x0)), (1, .int x1), (2, .int x2), (3, .int x3)]) (q := 47) dX6_chain_45 (by decide) rfl rfl ?_
      refine r_sub (lv' := [(0, .ref ((xG X).1 x0)), (1, .int x1), (2, .int x2), (3, .int x3), (4, .int 0)]) [1, 2, 3, 4, 0] rfl ?_
      exact w_X6_chain_l47 C hr _ hk_14 FU _ _ _ _ _ _ hx0 h
    · replace h := (if_neg c_31).symm.trans h
      refine r_goto C (tgt := 128) dX6_chain_34 (by decide) ?_
      exact w_X6_chain_b128 C hr _ hk_14 _ _ _ _ _ hx0 h

theorem w_X6_chain_l14 {X : CX} (C : Cok X RX6 cX6_chain 6 6 135) {σ' : St} {r : Int32} (hr : RtI X cX6_chain r σ') (k_4 : St → Nat → Int32 → Int32 → Option (Int32 × St)) (hk_4 : ∀ (σ : St) (x0 : Nat) (x1 : Int32) (x2 : Int32), kd x0 = 7 → k_4 σ x0 x1 x2 = some (r, σ') → V X σ 4 [(0, .ref ((xG X).1 x0)), (1, .int x1), (2, .int x2)] []) (n : Nat) : ∀ (σ : St) (x0 : Nat) (x1 : Int32) (x2 : Int32) (x3 : Int32), kd x0 = 7 → f_X6_chain_l14 k_4 n σ x0 x1 x2 x3 = some (r, σ') → V X σ 14 [(0, .ref ((xG X).1 x0)), (1, .int x1), (2, .int x2), (3, .int x3)] [] := by
  induction n with
  | zero =>
    intro σ x0 x1 x2 x3 hx0 h
    exact nomatch (show (none : Option (Int32 × St)) = some (r, σ') from h)
  | succ n ih =>
    intro σ x0 x1 x2 x3 hx0 h
    exact w_X6_chain_b14 C hr k_4 hk_4 _ ih σ x0 x1 x2 x3 hx0 h
set_option maxHeartbeats 4000000 in
set_option maxRecDepth 100000 in
theorem w_X6_chain_b4 {X : CX} (C : Cok X RX6 cX6_chain 6 6 135) {σ' : St} {r : Int32} (hr : RtI X cX6_chain r σ') (k_4 : St → Nat → Int32 → Int32 → Option (Int32 × St)) (hk_4 : ∀ (σ : St) (x0 : Nat) (x1 : Int32) (x2 : Int32), kd x0 = 7 → k_4 σ x0 x1 x2 = some (r, σ') → V X σ 4 [(0, .ref ((xG X).1 x0)), (1, .int x1), (2, .int x2)] []) (σ : St) (x0 : Nat) (x1 : Int32) (x2 : Int32) (hx0 : kd x0 = 7) (h : f_X6_chain_b4 k_4 σ x0 x1 x2 = some (r, σ')) : V X σ 4 [(0, .ref ((xG X).1 x0)), (1, .int x1), (2, .int x2)] [] := by
  unfold f_X6_chain_b4 at h
  refine r_iload_n C 2 (q := 5) dX6_chain_4 rfl rfl ?_
  refine r_aload_n C 0 (q := 6) dX6_chain_5 rfl rfl ?_
  refine g_X6_11 C (q := 9) dX6_chain_6 q_1000 hx0 rfl ?_
  refine r_icmp_gt C (tgt := 140) (q := 12) dX6_chain_9 (by decide) rfl (fun c_9 => ?_) (fun c_9 => ?_)
  · replace h := (if_pos c_9).symm.trans h
    refine r_iload_n C 1 (q := 141) dX6_chain_140 rfl rfl ?_
    obtain ⟨rfl, rfl⟩ := Prod.mk.inj (Option.some.inj h)
    exact hr _ _ dX6_chain_141
  · replace h := (if_neg c_9).symm.trans h
    refine r_iconst C (v := 0) (q := 13) dX6_chain_12 (by decide) rfl ?_
    refine r_istore_n C (lv' := [(3, .int 0), (0, .ref ((xG X).1 x0)), (1, .int x1), (2, .int x2)]) (q := 14) dX6_chain_13 rfl (by decide) rfl rfl ?_
    refine r_sub (lv' := [(0, .ref ((xG X).1 x0)), (1, .int x1), (2, .int x2), (3, .int 0)]) [1, 2, 3, 0] rfl ?_
    exact w_X6_chain_l14 C hr _ hk_4 FU _ _ _ _ _ hx0 h

theorem w_X6_chain_l4 {X : CX} (C : Cok X RX6 cX6_chain 6 6 135) {σ' : St} {r : Int32} (hr : RtI X cX6_chain r σ') (n : Nat) : ∀ (σ : St) (x0 : Nat) (x1 : Int32) (x2 : Int32), kd x0 = 7 → f_X6_chain_l4 n σ x0 x1 x2 = some (r, σ') → V X σ 4 [(0, .ref ((xG X).1 x0)), (1, .int x1), (2, .int x2)] [] := by
  induction n with
  | zero =>
    intro σ x0 x1 x2 hx0 h
    exact nomatch (show (none : Option (Int32 × St)) = some (r, σ') from h)
  | succ n ih =>
    intro σ x0 x1 x2 hx0 h
    exact w_X6_chain_b4 C hr _ ih σ x0 x1 x2 hx0 h
set_option maxHeartbeats 4000000 in
set_option maxRecDepth 100000 in
theorem w_X6_chain_b0 {X : CX} (C : Cok X RX6 cX6_chain 6 6 135) {σ' : St} {r : Int32} (hr : RtI X cX6_chain r σ') (σ : St) (x0 : Nat) (hx0 : kd x0 = 7) (h : f_X6_chain σ x0 = some (r, σ')) : V X σ 0 [(0, .ref ((xG X).1 x0))] [] := by
  unfold f_X6_chain at h
  refine r_iconst C (v := 0) (q := 1) dX6_chain_0 (by decide) rfl ?_
  refine r_istore_n C (lv' := [(1, .int 0), (0, .ref ((xG X).1 x0))]) (q := 2) dX6_chain_1 rfl (by decide) rfl rfl ?_
  refine r_iconst C (v := 0) (q := 3) dX6_chain_2 (by decide) rfl ?_
  refine r_istore_n C (lv' := [(2, .int 0), (1, .int 0), (0, .ref ((xG X).1 x0))]) (q := 4) dX6_chain_3 rfl (by decide) rfl rfl ?_
  refine r_sub (lv' := [(0, .ref ((xG X).1 x0)), (1, .int 0), (2, .int 0)]) [2, 1, 0] rfl ?_
  exact w_X6_chain_l4 C hr  FU _ _ _ _ hx0 h

theorem m_X6_chain (G : Gm) (l : Launch) {σ σ' : St} {x0 : Nat} (hx0 : kd x0 = 7) {r : Int32} (h : f_X6_chain σ x0 = some (r, σ')) : Ctr G l yX6_chain cX6_chain 6 (some .int) 6 135 [.ref (G.1 x0)] σ (some (.int r)) True σ' := by
  refine Ctr.i (by decide) (Nat.le_of_ble_eq_true rfl) ?_
  intro X hG C hr
  subst hG
  exact w_X6_chain_b0 C hr _ _ hx0 h
-- X6_pairs
set_option maxHeartbeats 4000000 in
set_option maxRecDepth 100000 in
theorem w_X6_pairs_b4 {X : CX} (C : Cok X RX6 cX6_pairs 3 6 135) {σ : St} {r : Int32} (hr : RtI X cX6_pairs r σ) (k_4 : Nat → Int32 → Int32 → Option Int32) (hk_4 : ∀ (x0 : Nat) (x1 : Int32) (x2 : Int32), kd x0 = 7 → k_4 x0 x1 x2 = some r → V X σ 4 [(0, .ref ((xG X).1 x0)), (1, .int x1), (2, .int x2)] []) (x0 : Nat) (x1 : Int32) (x2 : Int32) (hx0 : kd x0 = 7) (h : f_X6_pairs_b4 σ k_4 x0 x1 x2 = some r) : V X σ 4 [(0, .ref ((xG X).1 x0)), (1, .int x1), (2, .int x2)] [] := by
  unfold f_X6_pairs_b4 at h
  refine r_iload_n C 2 (q := 5) dX6_pairs_4 rfl rfl ?_
  refine r_aload_n C 0 (q := 6) dX6_pairs_5 rfl rfl ?_
  refine g_X6_6 C (q := 9) dX6_pairs_6 q_995 hx0 rfl ?_
  refine r_icmp_ge C (tgt := 29) (q := 12) dX6_pairs_9 (by decide) rfl (fun c_9 => ?_) (fun c_9 => ?_)
  · replace h := (if_pos c_9).symm.trans h
    refine r_iload_n C 1 (q := 30) dX6_pairs_29 rfl rfl ?_
    obtain rfl := Option.some.inj h
    exact hr _ _ dX6_pairs_30
  · replace h := (if_neg c_9).symm.trans h
    refine r_iload_n C 1 (q := 13) dX6_pairs_12 rfl rfl ?_
    refine r_aload_n C 0 (q := 14) dX6_pairs_13 rfl rfl ?_
    refine r_iload_n C 2 (q := 15) dX6_pairs_14 rfl rfl ?_
    obtain ⟨v_15, e_15, h⟩ := bs h
    refine r_callV C (ci := 6) (st := [.int x1]) (st2 := [.int v_15, .int x1]) (q := 18) (m_X6_openedBy (xG X) (xl X) hx0 e_15) ok_X6_openedBy hx0 rfl ⟨_, rfl⟩ q_1159 rfl ⟨Nat.le_of_ble_eq_true rfl, Nat.le_of_ble_eq_true rfl⟩ rfl rfl (Nat.le_of_ble_eq_true rfl) dX6_pairs_15 rfl (fun hp_15 => ?_)
    obtain ⟨v_18, e_18, h⟩ := bs h
    refine r_callS C (st := [.int x1]) (st2 := [.int v_18, .int x1]) (q := 21) (m_J6_bitCount_0f7a4 (xG X) (xl X) e_18) ok_J6_bitCount_0f7a4 q_1291 rfl ⟨Nat.le_of_ble_eq_true rfl, Nat.le_of_ble_eq_true rfl⟩ rfl rfl (Nat.le_of_ble_eq_true rfl) dX6_pairs_18 rfl (fun hp_18 => ?_)
    refine r_iadd C (q := 22) dX6_pairs_21 rfl ?_
    obtain ⟨y_22, e_22, h⟩ := bs h
    refine r_topI (Option.some.inj e_22) ?_
    refine r_istore_n C (lv' := [(1, .int y_22), (0, .ref ((xG X).1 x0)), (2, .int x2)]) (q := 23) dX6_pairs_22 rfl (by decide) rfl rfl ?_
    obtain ⟨y_23, e_23, h⟩ := bs h
    refine r_iinc C (v := y_23) (lv' := [(2, .int y_23), (1, .int y_22), (0, .ref ((xG X).1 x0))]) (q := 26) 2 dX6_pairs_23 rfl (Option.some.inj e_23) (by decide) rfl rfl ?_
    refine r_goto C (tgt := 4) dX6_pairs_26 (by decide) ?_
    refine r_sub (lv' := [(0, .ref ((xG X).1 x0)), (1, .int y_22), (2, .int y_23)]) [2, 1, 0] rfl ?_
    exact hk_4 _ _ _ hx0 h

theorem w_X6_pairs_l4 {X : CX} (C : Cok X RX6 cX6_pairs 3 6 135) {σ : St} {r : Int32} (hr : RtI X cX6_pairs r σ) (n : Nat) : ∀ (x0 : Nat) (x1 : Int32) (x2 : Int32), kd x0 = 7 → f_X6_pairs_l4 σ n x0 x1 x2 = some r → V X σ 4 [(0, .ref ((xG X).1 x0)), (1, .int x1), (2, .int x2)] [] := by
  induction n with
  | zero =>
    intro x0 x1 x2 hx0 h
    exact nomatch (show (none : Option Int32) = some r from h)
  | succ n ih =>
    intro x0 x1 x2 hx0 h
    exact w_X6_pairs_b4 C hr _ ih x0 x1 x2 hx0 h
set_option maxHeartbeats 4000000 in
set_option maxRecDepth 100000 in
theorem w_X6_pairs_b0 {X : CX} (C : Cok X RX6 cX6_pairs 3 6 135) {σ : St} {r : Int32} (hr : RtI X cX6_pairs r σ) (x0 : Nat) (hx0 : kd x0 = 7) (h : f_X6_pairs σ x0 = some r) : V X σ 0 [(0, .ref ((xG X).1 x0))] [] := by
  unfold f_X6_pairs at h
  refine r_iconst C (v := 0) (q := 1) dX6_pairs_0 (by decide) rfl ?_
  refine r_istore_n C (lv' := [(1, .int 0), (0, .ref ((xG X).1 x0))]) (q := 2) dX6_pairs_1 rfl (by decide) rfl rfl ?_
  refine r_iconst C (v := 0) (q := 3) dX6_pairs_2 (by decide) rfl ?_
  refine r_istore_n C (lv' := [(2, .int 0), (1, .int 0), (0, .ref ((xG X).1 x0))]) (q := 4) dX6_pairs_3 rfl (by decide) rfl rfl ?_
  refine r_sub (lv' := [(0, .ref ((xG X).1 x0)), (1, .int 0), (2, .int 0)]) [2, 1, 0] rfl ?_
  exact w_X6_pairs_l4 C hr  FU _ _ _ hx0 h

theorem m_X6_pairs (G : Gm) (l : Launch) {σ : St} {x0 : Nat} (hx0 : kd x0 = 7) {r : Int32} (h : f_X6_pairs σ x0 = some r) : Ctr G l yX6_pairs cX6_pairs 3 (some .int) 6 135 [.ref (G.1 x0)] σ (some (.int r)) True σ := by
  refine Ctr.i (by decide) (Nat.le_of_ble_eq_true rfl) ?_
  intro X hG C hr
  subst hG
  exact w_X6_pairs_b0 C hr _ hx0 h
-- X6_ward
set_option maxHeartbeats 4000000 in
set_option maxRecDepth 100000 in
theorem w_X6_ward_b0 {X : CX} (C : Cok X RX6 cX6_ward 4 7 157) {σ' : St} {r : Int32} (hr : RtI X cX6_ward r σ') (σ : St) (x0 : Nat) (x1 : Int32) (hx0 : kd x0 = 7) (h : f_X6_ward σ x0 x1 = some (r, σ')) : V X σ 0 [(0, .ref ((xG X).1 x0)), (1, .int x1)] [] := by
  unfold f_X6_ward at h
  refine r_aload_n C 0 (q := 1) dX6_ward_0 rfl rfl ?_
  refine r_iload_n C 1 (q := 2) dX6_ward_1 rfl rfl ?_
  obtain ⟨v_2, e_2, h⟩ := bs h
  refine r_callV C (ci := 6) (st := []) (st2 := [.int v_2]) (q := 5) (m_X6_isLock (xG X) (xl X) hx0 e_2) ok_X6_isLock hx0 rfl ⟨_, rfl⟩ q_1187 rfl ⟨Nat.le_of_ble_eq_true rfl, Nat.le_of_ble_eq_true rfl⟩ rfl rfl (Nat.le_of_ble_eq_true rfl) dX6_ward_2 rfl (fun hp_2 => ?_)
  refine r_if_ne C (tgt := 15) (q := 8) dX6_ward_5 (by decide) rfl (fun c_5 => ?_) (fun c_5 => ?_)
  · replace h := (if_neg c_5).symm.trans h
    refine r_aload_n C 0 (q := 16) dX6_ward_15 rfl rfl ?_
    refine g_X6_12 C (q := 19) dX6_ward_16 q_1001 hx0 rfl ?_
    refine r_iload_n C 1 (q := 20) dX6_ward_19 rfl rfl ?_
    obtain ⟨v_20, e_20, h⟩ := bs h
    refine r_iald C (q := 21) dX6_ward_20 (kf_X6_12 hx0) e_20 rfl ?_
    refine r_iconst C (v := 1) (q := 22) dX6_ward_21 (by decide) rfl ?_
    refine r_icmp_ne C (tgt := 32) (q := 25) dX6_ward_22 (by decide) rfl (fun c_22 => ?_) (fun c_22 => ?_)
    · replace h := (if_neg c_22).symm.trans h
      refine r_aload_n C 0 (q := 33) dX6_ward_32 rfl rfl ?_
      obtain ⟨v_33, e_33, h⟩ := bs h
      refine r_callV C (ci := 6) (st := []) (st2 := [.int v_33]) (q := 36) (m_X6_pairs (xG X) (xl X) hx0 e_33) ok_X6_pairs hx0 rfl ⟨_, rfl⟩ q_1412 rfl ⟨Nat.le_of_ble_eq_true rfl, Nat.le_of_ble_eq_true rfl⟩ rfl rfl (Nat.le_of_ble_eq_true rfl) dX6_ward_33 rfl (fun hp_33 => ?_)
      refine r_istore_n C (lv' := [(2, .int v_33), (0, .ref ((xG X).1 x0)), (1, .int x1)]) (q := 37) dX6_ward_36 rfl (by decide) rfl rfl ?_
      refine r_aload_n C 1 (q := 38) dX6_ward_37 rfl rfl ?_
      refine g_X6_12 C (q := 41) dX6_ward_38 q_1001 hx0 rfl ?_
      refine r_iload_n C 2 (q := 42) dX6_ward_41 rfl rfl ?_
      refine r_iconst C (v := 1) (q := 43) dX6_ward_42 (by decide) rfl ?_
      obtain ⟨s_43, e_43, h⟩ := bs h
      refine r_iast C (q := 44) dX6_ward_43 (kf_X6_12 hx0) e_43 rfl ?_
      refine r_aload_n C 1 (q := 45) dX6_ward_44 rfl rfl ?_
      obtain ⟨v_45, e_45, h⟩ := bs h
      refine r_callV C (ci := 6) (st := []) (st2 := [.int v_45]) (q := 48) (m_X6_pairs (xG X) (xl X) hx0 e_45) ok_X6_pairs hx0 rfl ⟨_, rfl⟩ q_1412 rfl ⟨Nat.le_of_ble_eq_true rfl, Nat.le_of_ble_eq_true rfl⟩ rfl rfl (Nat.le_of_ble_eq_true rfl) dX6_ward_45 rfl (fun hp_45 => ?_)
      refine r_istore_n C (lv' := [(3, .int v_45), (2, .int v_33), (0, .ref ((xG X).1 x0)), (1, .int x1)]) (q := 49) dX6_ward_48 rfl (by decide) rfl rfl ?_
      refine r_aload_n C 2 (q := 50) dX6_ward_49 rfl rfl ?_
      refine g_X6_12 C (q := 53) dX6_ward_50 q_1001 hx0 rfl ?_
      refine r_iload_n C 3 (q := 54) dX6_ward_53 rfl rfl ?_
      refine r_iconst C (v := 0) (q := 55) dX6_ward_54 (by decide) rfl ?_
      obtain ⟨s_55, e_55, h⟩ := bs h
      refine r_iast C (q := 56) dX6_ward_55 (kf_X6_12 hx0) e_55 rfl ?_
      refine r_iload_n C 1 (q := 57) dX6_ward_56 rfl rfl ?_
      refine r_iload_n C 0 (q := 58) dX6_ward_57 rfl rfl ?_
      refine r_isub C (q := 59) dX6_ward_58 rfl ?_
      obtain ⟨rfl, rfl⟩ := Prod.mk.inj (Option.some.inj h)
      exact hr _ _ dX6_ward_59
    · replace h := (if_pos c_22).symm.trans h
      refine r_aload_n C 0 (q := 26) dX6_ward_25 rfl rfl ?_
      refine r_bipush C (v := (-5)) (q := 28) dX6_ward_26 (by decide) rfl ?_
      obtain ⟨v_28, s_28, e_28, h⟩ := bs2 h
      refine r_callV C (ci := 6) (st := []) (st2 := [.int v_28]) (q := 31) (m_X6_no (xG X) (xl X) hx0 e_28) ok_X6_no hx0 rfl ⟨_, rfl⟩ q_1084 rfl ⟨Nat.le_of_ble_eq_true rfl, Nat.le_of_ble_eq_true rfl⟩ rfl rfl (Nat.le_of_ble_eq_true rfl) dX6_ward_28 rfl (fun hp_28 => ?_)
      obtain ⟨rfl, rfl⟩ := Prod.mk.inj (Option.some.inj h)
      exact hr _ _ dX6_ward_31
  · replace h := (if_pos c_5).symm.trans h
    refine r_aload_n C 0 (q := 9) dX6_ward_8 rfl rfl ?_
    refine r_bipush C (v := (-2)) (q := 11) dX6_ward_9 (by decide) rfl ?_
    obtain ⟨v_11, s_11, e_11, h⟩ := bs2 h
    refine r_callV C (ci := 6) (st := []) (st2 := [.int v_11]) (q := 14) (m_X6_no (xG X) (xl X) hx0 e_11) ok_X6_no hx0 rfl ⟨_, rfl⟩ q_1084 rfl ⟨Nat.le_of_ble_eq_true rfl, Nat.le_of_ble_eq_true rfl⟩ rfl rfl (Nat.le_of_ble_eq_true rfl) dX6_ward_11 rfl (fun hp_11 => ?_)
    obtain ⟨rfl, rfl⟩ := Prod.mk.inj (Option.some.inj h)
    exact hr _ _ dX6_ward_14

theorem m_X6_ward (G : Gm) (l : Launch) {σ σ' : St} {x0 : Nat} {x1 : Int32} (hx0 : kd x0 = 7) {r : Int32} (h : f_X6_ward σ x0 x1 = some (r, σ')) : Ctr G l yX6_ward cX6_ward 4 (some .int) 7 157 [.ref (G.1 x0), .int x1] σ (some (.int r)) True σ' := by
  refine Ctr.i (by decide) (Nat.le_of_ble_eq_true rfl) ?_
  intro X hG C hr
  subst hG
  exact w_X6_ward_b0 C hr _ _ _ hx0 h
-- X6_found
set_option maxHeartbeats 4000000 in
set_option maxRecDepth 100000 in
theorem w_X6_found_b350 {X : CX} (C : Cok X RX6 cX6_found 9 6 135) {σ' : St} {r : Int32} (hr : RtI X cX6_found r σ') (k_138 : St → Nat → Int32 → Int32 → Int32 → Int32 → Option (Int32 × St)) (hk_138 : ∀ (σ : St) (x0 : Nat) (x1 : Int32) (x2 : Int32) (x4 : Int32) (x5 : Int32), kd x0 = 7 → k_138 σ x0 x1 x2 x4 x5 = some (r, σ') → V X σ 138 [(0, .ref ((xG X).1 x0)), (1, .int x1), (2, .int x2), (4, .int x4), (5, .int x5)] []) (σ : St) (x0 : Nat) (x1 : Int32) (x2 : Int32) (x4 : Int32) (x5 : Int32) (hx0 : kd x0 = 7) (h : f_X6_found_b350 k_138 σ x0 x1 x2 x4 x5 = some (r, σ')) : V X σ 350 [(0, .ref ((xG X).1 x0)), (1, .int x1), (2, .int x2), (4, .int x4), (5, .int x5)] [] := by
  unfold f_X6_found_b350 at h
  obtain ⟨y_350, e_350, h⟩ := bs h
  refine r_iinc C (v := y_350) (lv' := [(5, .int y_350), (0, .ref ((xG X).1 x0)), (1, .int x1), (2, .int x2), (4, .int x4)]) (q := 353) 4 dX6_found_350 rfl (Option.some.inj e_350) (by decide) rfl rfl ?_
  refine r_goto C (tgt := 138) dX6_found_353 (by decide) ?_
  refine r_sub (lv' := [(0, .ref ((xG X).1 x0)), (1, .int x1), (2, .int x2), (4, .int x4), (5, .int y_350)]) [1, 2, 3, 4, 0] rfl ?_
  exact hk_138 _ _ _ _ _ _ hx0 h

set_option maxHeartbeats 4000000 in
set_option maxRecDepth 100000 in
theorem w_X6_found_b316 {X : CX} (C : Cok X RX6 cX6_found 9 6 135) {σ' : St} {r : Int32} (hr : RtI X cX6_found r σ') (k_138 : St → Nat → Int32 → Int32 → Int32 → Int32 → Option (Int32 × St)) (hk_138 : ∀ (σ : St) (x0 : Nat) (x1 : Int32) (x2 : Int32) (x4 : Int32) (x5 : Int32), kd x0 = 7 → k_138 σ x0 x1 x2 x4 x5 = some (r, σ') → V X σ 138 [(0, .ref ((xG X).1 x0)), (1, .int x1), (2, .int x2), (4, .int x4), (5, .int x5)] []) (k_316 : St → Nat → Int32 → Int32 → Int32 → Int32 → Int32 → Option (Int32 × St)) (hk_316 : ∀ (σ : St) (x0 : Nat) (x1 : Int32) (x2 : Int32) (x4 : Int32) (x5 : Int32) (x7 : Int32), kd x0 = 7 → k_316 σ x0 x1 x2 x4 x5 x7 = some (r, σ') → V X σ 316 [(0, .ref ((xG X).1 x0)), (1, .int x1), (2, .int x2), (4, .int x4), (5, .int x5), (7, .int x7)] []) (σ : St) (x0 : Nat) (x1 : Int32) (x2 : Int32) (x4 : Int32) (x5 : Int32) (x7 : Int32) (hx0 : kd x0 = 7) (h : f_X6_found_b316 k_138 k_316 σ x0 x1 x2 x4 x5 x7 = some (r, σ')) : V X σ 316 [(0, .ref ((xG X).1 x0)), (1, .int x1), (2, .int x2), (4, .int x4), (5, .int x5), (7, .int x7)] [] := by
  unfold f_X6_found_b316 at h
  refine r_iload C 5 (q := 318) dX6_found_316 rfl rfl ?_
  refine r_aload_n C 0 (q := 319) dX6_found_318 rfl rfl ?_
  refine g_X6_3 C (q := 322) dX6_found_319 q_992 hx0 rfl ?_
  refine r_icmp_ge C (tgt := 350) (q := 325) dX6_found_322 (by decide) rfl (fun c_322 => ?_) (fun c_322 => ?_)
  · replace h := (if_pos c_322).symm.trans h
    refine r_sub (lv' := [(0, .ref ((xG X).1 x0)), (1, .int x1), (2, .int x2), (4, .int x4), (5, .int x5)]) [0, 1, 2, 3, 4] rfl ?_
    exact w_X6_found_b350 C hr _ hk_138 _ _ _ _ _ _ hx0 h
  · replace h := (if_neg c_322).symm.trans h
    refine r_aload_n C 0 (q := 326) dX6_found_325 rfl rfl ?_
    refine g_X6_10 C (q := 329) dX6_found_326 q_999 hx0 rfl ?_
    refine r_iconst C (v := 5) (q := 330) dX6_found_329 (by decide) rfl ?_
    refine r_iload C 4 (q := 332) dX6_found_330 rfl rfl ?_
    refine r_imul C (q := 333) dX6_found_332 rfl ?_
    refine r_iload C 5 (q := 335) dX6_found_333 rfl rfl ?_
    refine r_iadd C (q := 336) dX6_found_335 rfl ?_
    refine r_aload_n C 0 (q := 337) dX6_found_336 rfl rfl ?_
    refine g_X6_26 C (q := 340) dX6_found_337 q_1015 hx0 rfl ?_
    refine r_iload C 5 (q := 342) dX6_found_340 rfl rfl ?_
    obtain ⟨v_342, e_342, h⟩ := bs h
    refine r_iald C (q := 343) dX6_found_342 (kf_X6_26 hx0) e_342 rfl ?_
    obtain ⟨s_343, e_343, h⟩ := bs h
    refine r_iast C (q := 344) dX6_found_343 (kf_X6_10 hx0) e_343 rfl ?_
    obtain ⟨y_344, e_344, h⟩ := bs h
    refine r_iinc C (v := y_344) (lv' := [(7, .int y_344), (0, .ref ((xG X).1 x0)), (1, .int x1), (2, .int x2), (4, .int x4), (5, .int x5)]) (q := 347) 5 dX6_found_344 rfl (Option.some.inj e_344) (by decide) rfl rfl ?_
    refine r_goto C (tgt := 316) dX6_found_347 (by decide) ?_
    refine r_sub (lv' := [(0, .ref ((xG X).1 x0)), (1, .int x1), (2, .int x2), (4, .int x4), (5, .int x5), (7, .int y_344)]) [1, 2, 3, 4, 5, 0] rfl ?_
    exact hk_316 _ _ _ _ _ _ _ hx0 h

theorem w_X6_found_l316 {X : CX} (C : Cok X RX6 cX6_found 9 6 135) {σ' : St} {r : Int32} (hr : RtI X cX6_found r σ') (k_138 : St → Nat → Int32 → Int32 → Int32 → Int32 → Option (Int32 × St)) (hk_138 : ∀ (σ : St) (x0 : Nat) (x1 : Int32) (x2 : Int32) (x4 : Int32) (x5 : Int32), kd x0 = 7 → k_138 σ x0 x1 x2 x4 x5 = some (r, σ') → V X σ 138 [(0, .ref ((xG X).1 x0)), (1, .int x1), (2, .int x2), (4, .int x4), (5, .int x5)] []) (n : Nat) : ∀ (σ : St) (x0 : Nat) (x1 : Int32) (x2 : Int32) (x4 : Int32) (x5 : Int32) (x7 : Int32), kd x0 = 7 → f_X6_found_l316 k_138 n σ x0 x1 x2 x4 x5 x7 = some (r, σ') → V X σ 316 [(0, .ref ((xG X).1 x0)), (1, .int x1), (2, .int x2), (4, .int x4), (5, .int x5), (7, .int x7)] [] := by
  induction n with
  | zero =>
    intro σ x0 x1 x2 x4 x5 x7 hx0 h
    exact nomatch (show (none : Option (Int32 × St)) = some (r, σ') from h)
  | succ n ih =>
    intro σ x0 x1 x2 x4 x5 x7 hx0 h
    exact w_X6_found_b316 C hr k_138 hk_138 _ ih σ x0 x1 x2 x4 x5 x7 hx0 h
set_option maxHeartbeats 4000000 in
set_option maxRecDepth 100000 in
theorem w_X6_found_b313 {X : CX} (C : Cok X RX6 cX6_found 9 6 135) {σ' : St} {r : Int32} (hr : RtI X cX6_found r σ') (k_138 : St → Nat → Int32 → Int32 → Int32 → Int32 → Option (Int32 × St)) (hk_138 : ∀ (σ : St) (x0 : Nat) (x1 : Int32) (x2 : Int32) (x4 : Int32) (x5 : Int32), kd x0 = 7 → k_138 σ x0 x1 x2 x4 x5 = some (r, σ') → V X σ 138 [(0, .ref ((xG X).1 x0)), (1, .int x1), (2, .int x2), (4, .int x4), (5, .int x5)] []) (σ : St) (x0 : Nat) (x1 : Int32) (x2 : Int32) (x4 : Int32) (x5 : Int32) (hx0 : kd x0 = 7) (h : f_X6_found_b313 k_138 σ x0 x1 x2 x4 x5 = some (r, σ')) : V X σ 313 [(0, .ref ((xG X).1 x0)), (1, .int x1), (2, .int x2), (4, .int x4), (5, .int x5)] [] := by
  unfold f_X6_found_b313 at h
  refine r_iconst C (v := 0) (q := 314) dX6_found_313 (by decide) rfl ?_
  refine r_istore C (lv' := [(7, .int 0), (0, .ref ((xG X).1 x0)), (1, .int x1), (2, .int x2), (4, .int x4), (5, .int x5)]) (q := 316) dX6_found_314 (by decide) rfl rfl ?_
  refine r_sub (lv' := [(0, .ref ((xG X).1 x0)), (1, .int x1), (2, .int x2), (4, .int x4), (5, .int x5), (7, .int 0)]) [1, 2, 3, 4, 5, 0] rfl ?_
  exact w_X6_found_l316 C hr _ hk_138 FU _ _ _ _ _ _ _ hx0 h

set_option maxHeartbeats 4000000 in
set_option maxRecDepth 100000 in
theorem w_X6_found_b251 {X : CX} (C : Cok X RX6 cX6_found 9 6 135) {σ' : St} {r : Int32} (hr : RtI X cX6_found r σ') (k_138 : St → Nat → Int32 → Int32 → Int32 → Int32 → Option (Int32 × St)) (hk_138 : ∀ (σ : St) (x0 : Nat) (x1 : Int32) (x2 : Int32) (x4 : Int32) (x5 : Int32), kd x0 = 7 → k_138 σ x0 x1 x2 x4 x5 = some (r, σ') → V X σ 138 [(0, .ref ((xG X).1 x0)), (1, .int x1), (2, .int x2), (4, .int x4), (5, .int x5)] []) (k_251 : St → Nat → Int32 → Int32 → Int32 → Int32 → Int32 → Option (Int32 × St)) (hk_251 : ∀ (σ : St) (x0 : Nat) (x1 : Int32) (x2 : Int32) (x4 : Int32) (x5 : Int32) (x7 : Int32), kd x0 = 7 → k_251 σ x0 x1 x2 x4 x5 x7 = some (r, σ') → V X σ 251 [(0, .ref ((xG X).1 x0)), (1, .int x1), (2, .int x2), (4, .int x4), (5, .int x5), (7, .int x7)] []) (σ : St) (x0 : Nat) (x1 : Int32) (x2 : Int32) (x4 : Int32) (x5 : Int32) (x7 : Int32) (hx0 : kd x0 = 7) (h : f_X6_found_b251 k_138 k_251 σ x0 x1 x2 x4 x5 x7 = some (r, σ')) : V X σ 251 [(0, .ref ((xG X).1 x0)), (1, .int x1), (2, .int x2), (4, .int x4), (5, .int x5), (7, .int x7)] [] := by
  unfold f_X6_found_b251 at h
  refine r_iload C 5 (q := 253) dX6_found_251 rfl rfl ?_
  refine r_aload_n C 0 (q := 254) dX6_found_253 rfl rfl ?_
  refine g_X6_3 C (q := 257) dX6_found_254 q_992 hx0 rfl ?_
  refine r_icmp_ge C (tgt := 291) (q := 260) dX6_found_257 (by decide) rfl (fun c_257 => ?_) (fun c_257 => ?_)
  · replace h := (if_pos c_257).symm.trans h
    refine r_iload_n C 2 (q := 292) dX6_found_291 rfl rfl ?_
    refine r_aload_n C 0 (q := 293) dX6_found_292 rfl rfl ?_
    refine r_iload C 4 (q := 295) dX6_found_293 rfl rfl ?_
    obtain ⟨v_295, e_295, h⟩ := bs h
    refine r_callV C (ci := 6) (st := [.int x2]) (st2 := [.int v_295, .int x2]) (q := 298) (m_X6_openedBy (xG X) (xl X) hx0 e_295) ok_X6_openedBy hx0 rfl ⟨_, rfl⟩ q_1159 rfl ⟨Nat.le_of_ble_eq_true rfl, Nat.le_of_ble_eq_true rfl⟩ rfl rfl (Nat.le_of_ble_eq_true rfl) dX6_found_295 rfl (fun hp_295 => ?_)
    refine r_iconst C (v := (-1)) (q := 299) dX6_found_298 (by decide) rfl ?_
    refine r_ixor C (q := 300) dX6_found_299 rfl ?_
    refine r_iand C (q := 301) dX6_found_300 rfl ?_
    refine r_if_ne C (tgt := 313) (q := 304) dX6_found_301 (by decide) rfl (fun c_301 => ?_) (fun c_301 => ?_)
    · replace h := (if_neg c_301).symm.trans h
      refine r_sub (lv' := [(0, .ref ((xG X).1 x0)), (1, .int x1), (2, .int x2), (4, .int x4), (5, .int x5)]) [0, 1, 2, 3, 4] rfl ?_
      exact w_X6_found_b313 C hr _ hk_138 _ _ _ _ _ _ hx0 h
    · replace h := (if_pos c_301).symm.trans h
      refine r_iload C 3 (q := 306) dX6_found_304 rfl rfl ?_
      refine r_iconst C (v := 1) (q := 307) dX6_found_306 (by decide) rfl ?_
      refine r_iload C 4 (q := 309) dX6_found_307 rfl rfl ?_
      refine r_ishl C (q := 310) dX6_found_309 rfl ?_
      refine r_ior C (q := 311) dX6_found_310 rfl ?_
      obtain ⟨y_311, e_311, h⟩ := bs h
      refine r_topI (Option.some.inj e_311) ?_
      refine r_istore C (lv' := [(4, .int y_311), (0, .ref ((xG X).1 x0)), (1, .int x1), (2, .int x2), (5, .int x5), (7, .int x7)]) (q := 313) dX6_found_311 (by decide) rfl rfl ?_
      refine r_sub (lv' := [(0, .ref ((xG X).1 x0)), (1, .int x1), (2, .int x2), (4, .int y_311), (5, .int x5)]) [1, 2, 3, 0, 4] rfl ?_
      exact w_X6_found_b313 C hr _ hk_138 _ _ _ _ _ _ hx0 h
  · replace h := (if_neg c_257).symm.trans h
    refine r_aload_n C 0 (q := 261) dX6_found_260 rfl rfl ?_
    refine g_X6_10 C (q := 264) dX6_found_261 q_999 hx0 rfl ?_
    refine r_iconst C (v := 5) (q := 265) dX6_found_264 (by decide) rfl ?_
    refine r_iload C 4 (q := 267) dX6_found_265 rfl rfl ?_
    refine r_imul C (q := 268) dX6_found_267 rfl ?_
    refine r_iload C 5 (q := 270) dX6_found_268 rfl rfl ?_
    refine r_iadd C (q := 271) dX6_found_270 rfl ?_
    refine r_aload_n C 0 (q := 272) dX6_found_271 rfl rfl ?_
    refine g_X6_2 C (q := 275) dX6_found_272 q_991 hx0 rfl ?_
    refine r_bipush C (v := 40) (q := 277) dX6_found_275 (by decide) rfl ?_
    refine r_iload_n C 1 (q := 278) dX6_found_277 rfl rfl ?_
    refine r_imul C (q := 279) dX6_found_278 rfl ?_
    refine r_iload C 5 (q := 281) dX6_found_279 rfl rfl ?_
    refine r_iadd C (q := 282) dX6_found_281 rfl ?_
    obtain ⟨v_282, e_282, h⟩ := bs h
    refine r_lald C (q := 283) dX6_found_282 (kf_X6_2 hx0) e_282 rfl ?_
    refine r_l2i C (q := 284) dX6_found_283 rfl ?_
    obtain ⟨s_284, e_284, h⟩ := bs h
    refine r_iast C (q := 285) dX6_found_284 (kf_X6_10 hx0) e_284 rfl ?_
    obtain ⟨y_285, e_285, h⟩ := bs h
    refine r_iinc C (v := y_285) (lv' := [(7, .int y_285), (0, .ref ((xG X).1 x0)), (1, .int x1), (2, .int x2), (4, .int x4), (5, .int x5)]) (q := 288) 5 dX6_found_285 rfl (Option.some.inj e_285) (by decide) rfl rfl ?_
    refine r_goto C (tgt := 251) dX6_found_288 (by decide) ?_
    refine r_sub (lv' := [(0, .ref ((xG X).1 x0)), (1, .int x1), (2, .int x2), (4, .int x4), (5, .int x5), (7, .int y_285)]) [1, 2, 3, 4, 5, 0] rfl ?_
    exact hk_251 _ _ _ _ _ _ _ hx0 h

theorem w_X6_found_l251 {X : CX} (C : Cok X RX6 cX6_found 9 6 135) {σ' : St} {r : Int32} (hr : RtI X cX6_found r σ') (k_138 : St → Nat → Int32 → Int32 → Int32 → Int32 → Option (Int32 × St)) (hk_138 : ∀ (σ : St) (x0 : Nat) (x1 : Int32) (x2 : Int32) (x4 : Int32) (x5 : Int32), kd x0 = 7 → k_138 σ x0 x1 x2 x4 x5 = some (r, σ') → V X σ 138 [(0, .ref ((xG X).1 x0)), (1, .int x1), (2, .int x2), (4, .int x4), (5, .int x5)] []) (n : Nat) : ∀ (σ : St) (x0 : Nat) (x1 : Int32) (x2 : Int32) (x4 : Int32) (x5 : Int32) (x7 : Int32), kd x0 = 7 → f_X6_found_l251 k_138 n σ x0 x1 x2 x4 x5 x7 = some (r, σ') → V X σ 251 [(0, .ref ((xG X).1 x0)), (1, .int x1), (2, .int x2), (4, .int x4), (5, .int x5), (7, .int x7)] [] := by
  induction n with
  | zero =>
    intro σ x0 x1 x2 x4 x5 x7 hx0 h
    exact nomatch (show (none : Option (Int32 × St)) = some (r, σ') from h)
  | succ n ih =>
    intro σ x0 x1 x2 x4 x5 x7 hx0 h
    exact w_X6_found_b251 C hr k_138 hk_138 _ ih σ x0 x1 x2 x4 x5 x7 hx0 h
set_option maxHeartbeats 4000000 in
set_option maxRecDepth 100000 in
theorem w_X6_found_b234 {X : CX} (C : Cok X RX6 cX6_found 9 6 135) {σ' : St} {r : Int32} (hr : RtI X cX6_found r σ') (k_153 : St → Nat → Int32 → Int32 → Int32 → Int32 → Int32 → Int32 → Option (Int32 × St)) (hk_153 : ∀ (σ : St) (x0 : Nat) (x1 : Int32) (x2 : Int32) (x4 : Int32) (x5 : Int32) (x6 : Int32) (x7 : Int32), kd x0 = 7 → k_153 σ x0 x1 x2 x4 x5 x6 x7 = some (r, σ') → V X σ 153 [(0, .ref ((xG X).1 x0)), (1, .int x1), (2, .int x2), (4, .int x4), (5, .int x5), (6, .int x6), (7, .int x7)] []) (σ : St) (x0 : Nat) (x1 : Int32) (x2 : Int32) (x4 : Int32) (x5 : Int32) (x6 : Int32) (x7 : Int32) (hx0 : kd x0 = 7) (h : f_X6_found_b234 k_153 σ x0 x1 x2 x4 x5 x6 x7 = some (r, σ')) : V X σ 234 [(0, .ref ((xG X).1 x0)), (1, .int x1), (2, .int x2), (4, .int x4), (5, .int x5), (6, .int x6), (7, .int x7)] [] := by
  unfold f_X6_found_b234 at h
  obtain ⟨y_234, e_234, h⟩ := bs h
  refine r_iinc C (v := y_234) (lv' := [(7, .int y_234), (0, .ref ((xG X).1 x0)), (1, .int x1), (2, .int x2), (4, .int x4), (5, .int x5), (6, .int x6)]) (q := 237) 6 dX6_found_234 rfl (Option.some.inj e_234) (by decide) rfl rfl ?_
  refine r_goto C (tgt := 153) dX6_found_237 (by decide) ?_
  refine r_sub (lv' := [(0, .ref ((xG X).1 x0)), (1, .int x1), (2, .int x2), (4, .int x4), (5, .int x5), (6, .int x6), (7, .int y_234)]) [1, 2, 3, 4, 5, 6, 0] rfl ?_
  exact hk_153 _ _ _ _ _ _ _ _ hx0 h

set_option maxHeartbeats 4000000 in
set_option maxRecDepth 100000 in
theorem w_X6_found_b231 {X : CX} (C : Cok X RX6 cX6_found 9 6 135) {σ' : St} {r : Int32} (hr : RtI X cX6_found r σ') (k_153 : St → Nat → Int32 → Int32 → Int32 → Int32 → Int32 → Int32 → Option (Int32 × St)) (hk_153 : ∀ (σ : St) (x0 : Nat) (x1 : Int32) (x2 : Int32) (x4 : Int32) (x5 : Int32) (x6 : Int32) (x7 : Int32), kd x0 = 7 → k_153 σ x0 x1 x2 x4 x5 x6 x7 = some (r, σ') → V X σ 153 [(0, .ref ((xG X).1 x0)), (1, .int x1), (2, .int x2), (4, .int x4), (5, .int x5), (6, .int x6), (7, .int x7)] []) (σ : St) (x0 : Nat) (x1 : Int32) (x2 : Int32) (x4 : Int32) (x5 : Int32) (x7 : Int32) (hx0 : kd x0 = 7) (h : f_X6_found_b231 k_153 σ x0 x1 x2 x4 x5 x7 = some (r, σ')) : V X σ 231 [(0, .ref ((xG X).1 x0)), (1, .int x1), (2, .int x2), (4, .int x4), (5, .int x5), (7, .int x7)] [] := by
  unfold f_X6_found_b231 at h
  refine r_iconst C (v := 0) (q := 232) dX6_found_231 (by decide) rfl ?_
  refine r_istore C (lv' := [(6, .int 0), (0, .ref ((xG X).1 x0)), (1, .int x1), (2, .int x2), (4, .int x4), (5, .int x5), (7, .int x7)]) (q := 234) dX6_found_232 (by decide) rfl rfl ?_
  refine r_sub (lv' := [(0, .ref ((xG X).1 x0)), (1, .int x1), (2, .int x2), (4, .int x4), (5, .int x5), (6, .int 0), (7, .int x7)]) [1, 2, 3, 4, 5, 0, 6] rfl ?_
  exact w_X6_found_b234 C hr _ hk_153 _ _ _ _ _ _ _ _ hx0 h

set_option maxHeartbeats 4000000 in
set_option maxRecDepth 100000 in
theorem w_X6_found_b153 {X : CX} (C : Cok X RX6 cX6_found 9 6 135) {σ' : St} {r : Int32} (hr : RtI X cX6_found r σ') (k_138 : St → Nat → Int32 → Int32 → Int32 → Int32 → Option (Int32 × St)) (hk_138 : ∀ (σ : St) (x0 : Nat) (x1 : Int32) (x2 : Int32) (x4 : Int32) (x5 : Int32), kd x0 = 7 → k_138 σ x0 x1 x2 x4 x5 = some (r, σ') → V X σ 138 [(0, .ref ((xG X).1 x0)), (1, .int x1), (2, .int x2), (4, .int x4), (5, .int x5)] []) (k_153 : St → Nat → Int32 → Int32 → Int32 → Int32 → Int32 → Int32 → Option (Int32 × St)) (hk_153 : ∀ (σ : St) (x0 : Nat) (x1 : Int32) (x2 : Int32) (x4 : Int32) (x5 : Int32) (x6 : Int32) (x7 : Int32), kd x0 = 7 → k_153 σ x0 x1 x2 x4 x5 x6 x7 = some (r, σ') → V X σ 153 [(0, .ref ((xG X).1 x0)), (1, .int x1), (2, .int x2), (4, .int x4), (5, .int x5), (6, .int x6), (7, .int x7)] []) (σ : St) (x0 : Nat) (x1 : Int32) (x2 : Int32) (x4 : Int32) (x5 : Int32) (x6 : Int32) (x7 : Int32) (hx0 : kd x0 = 7) (h : f_X6_found_b153 k_138 k_153 σ x0 x1 x2 x4 x5 x6 x7 = some (r, σ')) : V X σ 153 [(0, .ref ((xG X).1 x0)), (1, .int x1), (2, .int x2), (4, .int x4), (5, .int x5), (6, .int x6), (7, .int x7)] [] := by
  unfold f_X6_found_b153 at h
  refine r_iload C 6 (q := 155) dX6_found_153 rfl rfl ?_
  refine r_aload_n C 0 (q := 156) dX6_found_155 rfl rfl ?_
  refine g_X6_3 C (q := 159) dX6_found_156 q_992 hx0 rfl ?_
  refine r_icmp_ge C (tgt := 240) (q := 162) dX6_found_159 (by decide) rfl (fun c_159 => ?_) (fun c_159 => ?_)
  · replace h := (if_pos c_159).symm.trans h
    refine r_iload C 5 (q := 242) dX6_found_240 rfl rfl ?_
    refine r_if_ne C (tgt := 248) (q := 245) dX6_found_242 (by decide) rfl (fun c_242 => ?_) (fun c_242 => ?_)
    · replace h := (if_neg c_242).symm.trans h
      refine r_iconst C (v := 0) (q := 249) dX6_found_248 (by decide) rfl ?_
      refine r_istore C (lv' := [(7, .int 0), (0, .ref ((xG X).1 x0)), (1, .int x1), (2, .int x2), (4, .int x4), (5, .int x5), (6, .int x6)]) (q := 251) dX6_found_249 (by decide) rfl rfl ?_
      refine r_sub (lv' := [(0, .ref ((xG X).1 x0)), (1, .int x1), (2, .int x2), (4, .int x4), (5, .int x5), (7, .int 0)]) [1, 2, 3, 4, 5, 0] rfl ?_
      exact w_X6_found_l251 C hr _ hk_138 FU _ _ _ _ _ _ _ hx0 h
    · replace h := (if_pos c_242).symm.trans h
      refine r_goto C (tgt := 350) dX6_found_245 (by decide) ?_
      refine r_sub (lv' := [(0, .ref ((xG X).1 x0)), (1, .int x1), (2, .int x2), (4, .int x4), (5, .int x5)]) [0, 1, 2, 3, 4] rfl ?_
      exact w_X6_found_b350 C hr _ hk_138 _ _ _ _ _ _ hx0 h
  · replace h := (if_neg c_159).symm.trans h
    refine r_aload_n C 0 (q := 163) dX6_found_162 rfl rfl ?_
    refine g_X6_26 C (q := 166) dX6_found_163 q_1015 hx0 rfl ?_
    refine r_iload C 6 (q := 168) dX6_found_166 rfl rfl ?_
    refine r_aload_n C 0 (q := 169) dX6_found_168 rfl rfl ?_
    refine g_X6_10 C (q := 172) dX6_found_169 q_999 hx0 rfl ?_
    refine r_iconst C (v := 5) (q := 173) dX6_found_172 (by decide) rfl ?_
    refine r_iload C 4 (q := 175) dX6_found_173 rfl rfl ?_
    refine r_imul C (q := 176) dX6_found_175 rfl ?_
    refine r_iload C 6 (q := 178) dX6_found_176 rfl rfl ?_
    refine r_iadd C (q := 179) dX6_found_178 rfl ?_
    obtain ⟨v_179, e_179, h⟩ := bs h
    refine r_iald C (q := 180) dX6_found_179 (kf_X6_10 hx0) e_179 rfl ?_
    obtain ⟨s_180, e_180, h⟩ := bs h
    refine r_iast C (q := 181) dX6_found_180 (kf_X6_26 hx0) e_180 rfl ?_
    refine r_aload_n C 0 (q := 182) dX6_found_181 rfl rfl ?_
    refine g_X6_2 C (q := 185) dX6_found_182 q_991 hx0 rfl ?_
    refine r_bipush C (v := 40) (q := 187) dX6_found_185 (by decide) rfl ?_
    refine r_iload_n C 1 (q := 188) dX6_found_187 rfl rfl ?_
    refine r_imul C (q := 189) dX6_found_188 rfl ?_
    refine r_iload C 6 (q := 191) dX6_found_189 rfl rfl ?_
    refine r_iadd C (q := 192) dX6_found_191 rfl ?_
    obtain ⟨v_192, e_192, h⟩ := bs h
    refine r_lald C (q := 193) dX6_found_192 (kf_X6_2 hx0) e_192 rfl ?_
    refine r_l2i C (q := 194) dX6_found_193 rfl ?_
    obtain ⟨y_194, e_194, h⟩ := bs h
    refine r_topI (Option.some.inj e_194) ?_
    refine r_istore C (lv' := [(8, .int y_194), (0, .ref ((xG X).1 x0)), (1, .int x1), (2, .int x2), (4, .int x4), (5, .int x5), (6, .int x6), (7, .int x7)]) (q := 196) dX6_found_194 (by decide) rfl rfl ?_
    refine r_aload_n C 1 (q := 197) dX6_found_196 rfl rfl ?_
    refine g_X6_26 C (q := 200) dX6_found_197 q_1015 hx0 rfl ?_
    refine r_iload C 7 (q := 202) dX6_found_200 rfl rfl ?_
    obtain ⟨v_202, e_202, h⟩ := bs h
    refine r_iald C (q := 203) dX6_found_202 (kf_X6_26 hx0) e_202 rfl ?_
    refine r_iload C 0 (q := 205) dX6_found_203 rfl rfl ?_
    refine r_icmp_gt C (tgt := 231) (q := 208) dX6_found_205 (by decide) rfl (fun c_205 => ?_) (fun c_205 => ?_)
    · replace h := (if_pos c_205).symm.trans h
      refine r_sub (lv' := [(0, .ref ((xG X).1 x0)), (1, .int x1), (2, .int x2), (4, .int x4), (5, .int x5), (7, .int x7)]) [1, 2, 3, 4, 5, 7] rfl ?_
      exact w_X6_found_b231 C hr _ hk_153 _ _ _ _ _ _ _ hx0 h
    · replace h := (if_neg c_205).symm.trans h
      refine r_aload_n C 1 (q := 209) dX6_found_208 rfl rfl ?_
      refine g_X6_26 C (q := 212) dX6_found_209 q_1015 hx0 rfl ?_
      refine r_iload C 7 (q := 214) dX6_found_212 rfl rfl ?_
      obtain ⟨v_214, e_214, h⟩ := bs h
      refine r_iald C (q := 215) dX6_found_214 (kf_X6_26 hx0) e_214 rfl ?_
      refine r_iload C 0 (q := 217) dX6_found_215 rfl rfl ?_
      refine r_icmp_ge C (tgt := 234) (q := 220) dX6_found_217 (by decide) rfl (fun c_217 => ?_) (fun c_217 => ?_)
      · replace h := (if_pos c_217).symm.trans h
        refine r_sub (lv' := [(0, .ref ((xG X).1 x0)), (1, .int x1), (2, .int x2), (4, .int x4), (5, .int x5), (6, .int x6), (7, .int x7)]) [1, 2, 3, 4, 5, 6, 7] rfl ?_
        exact w_X6_found_b234 C hr _ hk_153 _ _ _ _ _ _ _ _ hx0 h
      · replace h := (if_neg c_217).symm.trans h
        refine r_aload_n C 1 (q := 221) dX6_found_220 rfl rfl ?_
        refine g_X6_7 C (q := 224) dX6_found_221 q_996 hx0 rfl ?_
        refine r_iload C 5 (q := 226) dX6_found_224 rfl rfl ?_
        obtain ⟨v_226, e_226, h⟩ := bs h
        refine r_iald C (q := 227) dX6_found_226 (kf_X6_7 hx0) e_226 rfl ?_
        refine r_iconst C (v := 4) (q := 228) dX6_found_227 (by decide) rfl ?_
        refine r_icmp_ne C (tgt := 234) (q := 231) dX6_found_228 (by decide) rfl (fun c_228 => ?_) (fun c_228 => ?_)
        · replace h := (if_neg c_228).symm.trans h
          refine r_sub (lv' := [(0, .ref ((xG X).1 x0)), (1, .int x1), (2, .int x2), (4, .int x4), (5, .int x5), (6, .int x6), (7, .int x7)]) [1, 2, 3, 4, 5, 6, 7] rfl ?_
          exact w_X6_found_b234 C hr _ hk_153 _ _ _ _ _ _ _ _ hx0 h
        · replace h := (if_pos c_228).symm.trans h
          refine r_sub (lv' := [(0, .ref ((xG X).1 x0)), (1, .int x1), (2, .int x2), (4, .int x4), (5, .int x5), (7, .int x7)]) [1, 2, 3, 4, 5, 7] rfl ?_
          exact w_X6_found_b231 C hr _ hk_153 _ _ _ _ _ _ _ hx0 h

theorem w_X6_found_l153 {X : CX} (C : Cok X RX6 cX6_found 9 6 135) {σ' : St} {r : Int32} (hr : RtI X cX6_found r σ') (k_138 : St → Nat → Int32 → Int32 → Int32 → Int32 → Option (Int32 × St)) (hk_138 : ∀ (σ : St) (x0 : Nat) (x1 : Int32) (x2 : Int32) (x4 : Int32) (x5 : Int32), kd x0 = 7 → k_138 σ x0 x1 x2 x4 x5 = some (r, σ') → V X σ 138 [(0, .ref ((xG X).1 x0)), (1, .int x1), (2, .int x2), (4, .int x4), (5, .int x5)] []) (n : Nat) : ∀ (σ : St) (x0 : Nat) (x1 : Int32) (x2 : Int32) (x4 : Int32) (x5 : Int32) (x6 : Int32) (x7 : Int32), kd x0 = 7 → f_X6_found_l153 k_138 n σ x0 x1 x2 x4 x5 x6 x7 = some (r, σ') → V X σ 153 [(0, .ref ((xG X).1 x0)), (1, .int x1), (2, .int x2), (4, .int x4), (5, .int x5), (6, .int x6), (7, .int x7)] [] := by
  induction n with
  | zero =>
    intro σ x0 x1 x2 x4 x5 x6 x7 hx0 h
    exact nomatch (show (none : Option (Int32 × St)) = some (r, σ') from h)
  | succ n ih =>
    intro σ x0 x1 x2 x4 x5 x6 x7 hx0 h
    exact w_X6_found_b153 C hr k_138 hk_138 _ ih σ x0 x1 x2 x4 x5 x6 x7 hx0 h
set_option maxHeartbeats 4000000 in
set_option maxRecDepth 100000 in
theorem w_X6_found_b138 {X : CX} (C : Cok X RX6 cX6_found 9 6 135) {σ' : St} {r : Int32} (hr : RtI X cX6_found r σ') (k_138 : St → Nat → Int32 → Int32 → Int32 → Int32 → Option (Int32 × St)) (hk_138 : ∀ (σ : St) (x0 : Nat) (x1 : Int32) (x2 : Int32) (x4 : Int32) (x5 : Int32), kd x0 = 7 → k_138 σ x0 x1 x2 x4 x5 = some (r, σ') → V X σ 138 [(0, .ref ((xG X).1 x0)), (1, .int x1), (2, .int x2), (4, .int x4), (5, .int x5)] []) (σ : St) (x0 : Nat) (x1 : Int32) (x2 : Int32) (x4 : Int32) (x5 : Int32) (hx0 : kd x0 = 7) (h : f_X6_found_b138 k_138 σ x0 x1 x2 x4 x5 = some (r, σ')) : V X σ 138 [(0, .ref ((xG X).1 x0)), (1, .int x1), (2, .int x2), (4, .int x4), (5, .int x5)] [] := by
  unfold f_X6_found_b138 at h
  refine r_iload C 4 (q := 140) dX6_found_138 rfl rfl ?_
  refine r_aload_n C 0 (q := 141) dX6_found_140 rfl rfl ?_
  refine g_X6_6 C (q := 144) dX6_found_141 q_995 hx0 rfl ?_
  refine r_icmp_ge C (tgt := 356) (q := 147) dX6_found_144 (by decide) rfl (fun c_144 => ?_) (fun c_144 => ?_)
  · replace h := (if_pos c_144).symm.trans h
    refine r_iload C 3 (q := 358) dX6_found_356 rfl rfl ?_
    obtain ⟨rfl, rfl⟩ := Prod.mk.inj (Option.some.inj h)
    exact hr _ _ dX6_found_358
  · replace h := (if_neg c_144).symm.trans h
    refine r_iconst C (v := 1) (q := 148) dX6_found_147 (by decide) rfl ?_
    refine r_istore C (lv' := [(6, .int 1), (0, .ref ((xG X).1 x0)), (1, .int x1), (2, .int x2), (4, .int x4), (5, .int x5)]) (q := 150) dX6_found_148 (by decide) rfl rfl ?_
    refine r_iconst C (v := 0) (q := 151) dX6_found_150 (by decide) rfl ?_
    refine r_istore C (lv' := [(7, .int 0), (6, .int 1), (0, .ref ((xG X).1 x0)), (1, .int x1), (2, .int x2), (4, .int x4), (5, .int x5)]) (q := 153) dX6_found_151 (by decide) rfl rfl ?_
    refine r_sub (lv' := [(0, .ref ((xG X).1 x0)), (1, .int x1), (2, .int x2), (4, .int x4), (5, .int x5), (6, .int 1), (7, .int 0)]) [2, 3, 4, 5, 6, 1, 0] rfl ?_
    exact w_X6_found_l153 C hr _ hk_138 FU _ _ _ _ _ _ _ _ hx0 h

theorem w_X6_found_l138 {X : CX} (C : Cok X RX6 cX6_found 9 6 135) {σ' : St} {r : Int32} (hr : RtI X cX6_found r σ') (n : Nat) : ∀ (σ : St) (x0 : Nat) (x1 : Int32) (x2 : Int32) (x4 : Int32) (x5 : Int32), kd x0 = 7 → f_X6_found_l138 n σ x0 x1 x2 x4 x5 = some (r, σ') → V X σ 138 [(0, .ref ((xG X).1 x0)), (1, .int x1), (2, .int x2), (4, .int x4), (5, .int x5)] [] := by
  induction n with
  | zero =>
    intro σ x0 x1 x2 x4 x5 hx0 h
    exact nomatch (show (none : Option (Int32 × St)) = some (r, σ') from h)
  | succ n ih =>
    intro σ x0 x1 x2 x4 x5 hx0 h
    exact w_X6_found_b138 C hr _ ih σ x0 x1 x2 x4 x5 hx0 h
set_option maxHeartbeats 4000000 in
set_option maxRecDepth 100000 in
theorem w_X6_found_b119 {X : CX} (C : Cok X RX6 cX6_found 9 6 135) {σ' : St} {r : Int32} (hr : RtI X cX6_found r σ') (σ : St) (x0 : Nat) (hx0 : kd x0 = 7) (h : f_X6_found_b119 σ x0 = some (r, σ')) : V X σ 119 [(0, .ref ((xG X).1 x0))] [] := by
  unfold f_X6_found_b119 at h
  refine r_aload_n C 0 (q := 120) dX6_found_119 rfl rfl ?_
  refine r_bipush C (v := (-2)) (q := 122) dX6_found_120 (by decide) rfl ?_
  obtain ⟨v_122, s_122, e_122, h⟩ := bs2 h
  refine r_callV C (ci := 6) (st := []) (st2 := [.int v_122]) (q := 125) (m_X6_no (xG X) (xl X) hx0 e_122) ok_X6_no hx0 rfl ⟨_, rfl⟩ q_1084 rfl ⟨Nat.le_of_ble_eq_true rfl, Nat.le_of_ble_eq_true rfl⟩ rfl rfl (Nat.le_of_ble_eq_true rfl) dX6_found_122 rfl (fun hp_122 => ?_)
  obtain ⟨rfl, rfl⟩ := Prod.mk.inj (Option.some.inj h)
  exact hr _ _ dX6_found_125

set_option maxHeartbeats 4000000 in
set_option maxRecDepth 100000 in
theorem w_X6_found_b72 {X : CX} (C : Cok X RX6 cX6_found 9 6 135) {σ' : St} {r : Int32} (hr : RtI X cX6_found r σ') (k_72 : St → Nat → Int32 → Int32 → Int32 → Option (Int32 × St)) (hk_72 : ∀ (σ : St) (x0 : Nat) (x1 : Int32) (x2 : Int32) (x4 : Int32), kd x0 = 7 → k_72 σ x0 x1 x2 x4 = some (r, σ') → V X σ 72 [(0, .ref ((xG X).1 x0)), (1, .int x1), (2, .int x2), (4, .int x4)] []) (σ : St) (x0 : Nat) (x1 : Int32) (x2 : Int32) (x4 : Int32) (hx0 : kd x0 = 7) (h : f_X6_found_b72 k_72 σ x0 x1 x2 x4 = some (r, σ')) : V X σ 72 [(0, .ref ((xG X).1 x0)), (1, .int x1), (2, .int x2), (4, .int x4)] [] := by
  unfold f_X6_found_b72 at h
  refine r_iload C 3 (q := 74) dX6_found_72 rfl rfl ?_
  refine r_aload_n C 0 (q := 75) dX6_found_74 rfl rfl ?_
  refine g_X6_3 C (q := 78) dX6_found_75 q_992 hx0 rfl ?_
  refine r_icmp_ge C (tgt := 132) (q := 81) dX6_found_78 (by decide) rfl (fun c_78 => ?_) (fun c_78 => ?_)
  · replace h := (if_pos c_78).symm.trans h
    refine r_iconst C (v := 0) (q := 133) dX6_found_132 (by decide) rfl ?_
    refine r_istore C (lv' := [(4, .int 0), (0, .ref ((xG X).1 x0)), (1, .int x1), (2, .int x2)]) (q := 135) dX6_found_133 (by decide) rfl rfl ?_
    refine r_iconst C (v := 0) (q := 136) dX6_found_135 (by decide) rfl ?_
    refine r_istore C (lv' := [(5, .int 0), (4, .int 0), (0, .ref ((xG X).1 x0)), (1, .int x1), (2, .int x2)]) (q := 138) dX6_found_136 (by decide) rfl rfl ?_
    refine r_sub (lv' := [(0, .ref ((xG X).1 x0)), (1, .int x1), (2, .int x2), (4, .int 0), (5, .int 0)]) [2, 3, 4, 1, 0] rfl ?_
    exact w_X6_found_l138 C hr  FU _ _ _ _ _ _ hx0 h
  · replace h := (if_neg c_78).symm.trans h
    refine r_aload_n C 0 (q := 82) dX6_found_81 rfl rfl ?_
    refine g_X6_2 C (q := 85) dX6_found_82 q_991 hx0 rfl ?_
    refine r_bipush C (v := 40) (q := 87) dX6_found_85 (by decide) rfl ?_
    refine r_iload_n C 1 (q := 88) dX6_found_87 rfl rfl ?_
    refine r_imul C (q := 89) dX6_found_88 rfl ?_
    refine r_iload C 3 (q := 91) dX6_found_89 rfl rfl ?_
    refine r_iadd C (q := 92) dX6_found_91 rfl ?_
    obtain ⟨v_92, e_92, h⟩ := bs h
    refine r_lald C (q := 93) dX6_found_92 (kf_X6_2 hx0) e_92 rfl ?_
    refine r_lconst C (v := 0) (q := 94) dX6_found_93 (by decide) rfl ?_
    refine r_lcmp C (q := 95) dX6_found_94 rfl ?_
    refine r_if_lt C (tgt := 119) (q := 98) dX6_found_95 (by decide) rfl (fun c_95 => ?_) (fun c_95 => ?_)
    · replace h := (if_pos c_95).symm.trans h
      refine r_sub (lv' := [(0, .ref ((xG X).1 x0))]) [0] rfl ?_
      exact w_X6_found_b119 C hr  _ _ hx0 h
    · replace h := (if_neg c_95).symm.trans h
      refine r_aload_n C 0 (q := 99) dX6_found_98 rfl rfl ?_
      refine g_X6_2 C (q := 102) dX6_found_99 q_991 hx0 rfl ?_
      refine r_bipush C (v := 40) (q := 104) dX6_found_102 (by decide) rfl ?_
      refine r_iload_n C 1 (q := 105) dX6_found_104 rfl rfl ?_
      refine r_imul C (q := 106) dX6_found_105 rfl ?_
      refine r_iload C 3 (q := 108) dX6_found_106 rfl rfl ?_
      refine r_iadd C (q := 109) dX6_found_108 rfl ?_
      obtain ⟨v_109, e_109, h⟩ := bs h
      refine r_lald C (q := 110) dX6_found_109 (kf_X6_2 hx0) e_109 rfl ?_
      refine r_aload_n C 0 (q := 111) dX6_found_110 rfl rfl ?_
      refine g_X6_4 C (q := 114) dX6_found_111 q_993 hx0 rfl ?_
      refine r_i2l C (q := 115) dX6_found_114 rfl ?_
      refine r_lcmp C (q := 116) dX6_found_115 rfl ?_
      refine r_if_le C (tgt := 126) (q := 119) dX6_found_116 (by decide) rfl (fun c_116 => ?_) (fun c_116 => ?_)
      · replace h := (if_pos c_116).symm.trans h
        obtain ⟨y_126, e_126, h⟩ := bs h
        refine r_iinc C (v := y_126) (lv' := [(4, .int y_126), (0, .ref ((xG X).1 x0)), (1, .int x1), (2, .int x2)]) (q := 129) 3 dX6_found_126 rfl (Option.some.inj e_126) (by decide) rfl rfl ?_
        refine r_goto C (tgt := 72) dX6_found_129 (by decide) ?_
        refine r_sub (lv' := [(0, .ref ((xG X).1 x0)), (1, .int x1), (2, .int x2), (4, .int y_126)]) [1, 2, 3, 0] rfl ?_
        exact hk_72 _ _ _ _ _ hx0 h
      · replace h := (if_neg c_116).symm.trans h
        refine r_sub (lv' := [(0, .ref ((xG X).1 x0))]) [0] rfl ?_
        exact w_X6_found_b119 C hr  _ _ hx0 h

theorem w_X6_found_l72 {X : CX} (C : Cok X RX6 cX6_found 9 6 135) {σ' : St} {r : Int32} (hr : RtI X cX6_found r σ') (n : Nat) : ∀ (σ : St) (x0 : Nat) (x1 : Int32) (x2 : Int32) (x4 : Int32), kd x0 = 7 → f_X6_found_l72 n σ x0 x1 x2 x4 = some (r, σ') → V X σ 72 [(0, .ref ((xG X).1 x0)), (1, .int x1), (2, .int x2), (4, .int x4)] [] := by
  induction n with
  | zero =>
    intro σ x0 x1 x2 x4 hx0 h
    exact nomatch (show (none : Option (Int32 × St)) = some (r, σ') from h)
  | succ n ih =>
    intro σ x0 x1 x2 x4 hx0 h
    exact w_X6_found_b72 C hr _ ih σ x0 x1 x2 x4 hx0 h
set_option maxHeartbeats 4000000 in
set_option maxRecDepth 100000 in
theorem w_X6_found_b26 {X : CX} (C : Cok X RX6 cX6_found 9 6 135) {σ' : St} {r : Int32} (hr : RtI X cX6_found r σ') (σ : St) (x0 : Nat) (hx0 : kd x0 = 7) (h : f_X6_found_b26 σ x0 = some (r, σ')) : V X σ 26 [(0, .ref ((xG X).1 x0))] [] := by
  unfold f_X6_found_b26 at h
  refine r_aload_n C 0 (q := 27) dX6_found_26 rfl rfl ?_
  refine r_bipush C (v := (-2)) (q := 29) dX6_found_27 (by decide) rfl ?_
  obtain ⟨v_29, s_29, e_29, h⟩ := bs2 h
  refine r_callV C (ci := 6) (st := []) (st2 := [.int v_29]) (q := 32) (m_X6_no (xG X) (xl X) hx0 e_29) ok_X6_no hx0 rfl ⟨_, rfl⟩ q_1084 rfl ⟨Nat.le_of_ble_eq_true rfl, Nat.le_of_ble_eq_true rfl⟩ rfl rfl (Nat.le_of_ble_eq_true rfl) dX6_found_29 rfl (fun hp_29 => ?_)
  obtain ⟨rfl, rfl⟩ := Prod.mk.inj (Option.some.inj h)
  exact hr _ _ dX6_found_32

set_option maxHeartbeats 4000000 in
set_option maxRecDepth 100000 in
theorem w_X6_found_b0 {X : CX} (C : Cok X RX6 cX6_found 9 6 135) {σ' : St} {r : Int32} (hr : RtI X cX6_found r σ') (σ : St) (x0 : Nat) (x1 : Int32) (x2 : Int32) (hx0 : kd x0 = 7) (h : f_X6_found σ x0 x1 x2 = some (r, σ')) : V X σ 0 [(0, .ref ((xG X).1 x0)), (1, .int x1), (2, .int x2)] [] := by
  unfold f_X6_found at h
  refine r_iload_n C 1 (q := 1) dX6_found_0 rfl rfl ?_
  refine r_iconst C (v := 0) (q := 2) dX6_found_1 (by decide) rfl ?_
  refine r_bipush C (v := 7) (q := 4) dX6_found_2 (by decide) rfl ?_
  obtain ⟨v_4, e_4, h⟩ := bs h
  refine r_callS C (st := []) (st2 := [.int v_4]) (q := 7) (m_X6_within (xG X) (xl X) e_4) ok_X6_within q_1081 rfl ⟨Nat.le_of_ble_eq_true rfl, Nat.le_of_ble_eq_true rfl⟩ rfl rfl (Nat.le_of_ble_eq_true rfl) dX6_found_4 rfl (fun hp_4 => ?_)
  refine r_if_eq C (tgt := 26) (q := 10) dX6_found_7 (by decide) rfl (fun c_7 => ?_) (fun c_7 => ?_)
  · replace h := (if_pos c_7).symm.trans h
    refine r_sub (lv' := [(0, .ref ((xG X).1 x0))]) [0] rfl ?_
    exact w_X6_found_b26 C hr  _ _ hx0 h
  · replace h := (if_neg c_7).symm.trans h
    refine r_iload_n C 2 (q := 11) dX6_found_10 rfl rfl ?_
    refine r_iconst C (v := 0) (q := 12) dX6_found_11 (by decide) rfl ?_
    refine r_iconst C (v := 1) (q := 13) dX6_found_12 (by decide) rfl ?_
    refine r_aload_n C 0 (q := 14) dX6_found_13 rfl rfl ?_
    refine g_X6_11 C (q := 17) dX6_found_14 q_1000 hx0 rfl ?_
    refine r_ishl C (q := 18) dX6_found_17 rfl ?_
    refine r_iconst C (v := 1) (q := 19) dX6_found_18 (by decide) rfl ?_
    refine r_isub C (q := 20) dX6_found_19 rfl ?_
    obtain ⟨v_20, e_20, h⟩ := bs h
    refine r_callS C (st := []) (st2 := [.int v_20]) (q := 23) (m_X6_within (xG X) (xl X) e_20) ok_X6_within q_1081 rfl ⟨Nat.le_of_ble_eq_true rfl, Nat.le_of_ble_eq_true rfl⟩ rfl rfl (Nat.le_of_ble_eq_true rfl) dX6_found_20 rfl (fun hp_20 => ?_)
    refine r_if_ne C (tgt := 33) (q := 26) dX6_found_23 (by decide) rfl (fun c_23 => ?_) (fun c_23 => ?_)
    · replace h := (if_neg c_23).symm.trans h
      refine r_aload_n C 0 (q := 34) dX6_found_33 rfl rfl ?_
      refine r_iload_n C 1 (q := 35) dX6_found_34 rfl rfl ?_
      obtain ⟨v_35, e_35, h⟩ := bs h
      refine r_callV C (ci := 6) (st := []) (st2 := [.int v_35]) (q := 38) (m_X6_noRow (xG X) (xl X) hx0 e_35) ok_X6_noRow hx0 rfl ⟨_, rfl⟩ q_1092 rfl ⟨Nat.le_of_ble_eq_true rfl, Nat.le_of_ble_eq_true rfl⟩ rfl rfl (Nat.le_of_ble_eq_true rfl) dX6_found_35 rfl (fun hp_35 => ?_)
      refine r_istore_n C (lv' := [(3, .int v_35), (0, .ref ((xG X).1 x0)), (1, .int x1), (2, .int x2)]) (q := 39) dX6_found_38 rfl (by decide) rfl rfl ?_
      refine r_iload_n C 0 (q := 40) dX6_found_39 rfl rfl ?_
      refine r_if_ge C (tgt := 49) (q := 43) dX6_found_40 (by decide) rfl (fun c_40 => ?_) (fun c_40 => ?_)
      · replace h := (if_pos c_40).symm.trans h
        refine r_aload_n C 1 (q := 50) dX6_found_49 rfl rfl ?_
        refine g_X6_1 C (q := 53) dX6_found_50 q_990 hx0 rfl ?_
        refine r_iload_n C 2 (q := 54) dX6_found_53 rfl rfl ?_
        obtain ⟨v_54, e_54, h⟩ := bs h
        refine r_iald C (q := 55) dX6_found_54 (kf_X6_1 hx0) e_54 rfl ?_
        refine r_aload_n C 1 (q := 56) dX6_found_55 rfl rfl ?_
        refine g_X6_3 C (q := 59) dX6_found_56 q_992 hx0 rfl ?_
        refine r_icmp_ge C (tgt := 69) (q := 62) dX6_found_59 (by decide) rfl (fun c_59 => ?_) (fun c_59 => ?_)
        · replace h := (if_pos c_59).symm.trans h
          refine r_iconst C (v := 0) (q := 70) dX6_found_69 (by decide) rfl ?_
          refine r_istore C (lv' := [(4, .int 0), (3, .int v_35), (0, .ref ((xG X).1 x0)), (1, .int x1), (2, .int x2)]) (q := 72) dX6_found_70 (by decide) rfl rfl ?_
          refine r_sub (lv' := [(0, .ref ((xG X).1 x0)), (1, .int x1), (2, .int x2), (4, .int 0)]) [2, 3, 4, 0] rfl ?_
          exact w_X6_found_l72 C hr  FU _ _ _ _ _ hx0 h
        · replace h := (if_neg c_59).symm.trans h
          refine r_aload_n C 1 (q := 63) dX6_found_62 rfl rfl ?_
          refine r_bipush C (v := (-2)) (q := 65) dX6_found_63 (by decide) rfl ?_
          obtain ⟨v_65, s_65, e_65, h⟩ := bs2 h
          refine r_callV C (ci := 6) (st := []) (st2 := [.int v_65]) (q := 68) (m_X6_no (xG X) (xl X) hx0 e_65) ok_X6_no hx0 rfl ⟨_, rfl⟩ q_1084 rfl ⟨Nat.le_of_ble_eq_true rfl, Nat.le_of_ble_eq_true rfl⟩ rfl rfl (Nat.le_of_ble_eq_true rfl) dX6_found_65 rfl (fun hp_65 => ?_)
          obtain ⟨rfl, rfl⟩ := Prod.mk.inj (Option.some.inj h)
          exact hr _ _ dX6_found_68
      · replace h := (if_neg c_40).symm.trans h
        refine r_aload_n C 1 (q := 44) dX6_found_43 rfl rfl ?_
        refine r_iload_n C 0 (q := 45) dX6_found_44 rfl rfl ?_
        obtain ⟨v_45, s_45, e_45, h⟩ := bs2 h
        refine r_callV C (ci := 6) (st := []) (st2 := [.int v_45]) (q := 48) (m_X6_no (xG X) (xl X) hx0 e_45) ok_X6_no hx0 rfl ⟨_, rfl⟩ q_1084 rfl ⟨Nat.le_of_ble_eq_true rfl, Nat.le_of_ble_eq_true rfl⟩ rfl rfl (Nat.le_of_ble_eq_true rfl) dX6_found_45 rfl (fun hp_45 => ?_)
        obtain ⟨rfl, rfl⟩ := Prod.mk.inj (Option.some.inj h)
        exact hr _ _ dX6_found_48
    · replace h := (if_pos c_23).symm.trans h
      refine r_sub (lv' := [(0, .ref ((xG X).1 x0))]) [0] rfl ?_
      exact w_X6_found_b26 C hr  _ _ hx0 h

theorem m_X6_found (G : Gm) (l : Launch) {σ σ' : St} {x0 : Nat} {x1 : Int32} {x2 : Int32} (hx0 : kd x0 = 7) {r : Int32} (h : f_X6_found σ x0 x1 x2 = some (r, σ')) : Ctr G l yX6_found cX6_found 9 (some .int) 6 135 [.ref (G.1 x0), .int x1, .int x2] σ (some (.int r)) True σ' := by
  refine Ctr.i (by decide) (Nat.le_of_ble_eq_true rfl) ?_
  intro X hG C hr
  subst hG
  exact w_X6_found_b0 C hr _ _ _ _ hx0 h
-- X6_draw
set_option maxHeartbeats 4000000 in
set_option maxRecDepth 100000 in
theorem w_X6_draw_b0 {X : CX} (C : Cok X RX6 cX6_draw 2 0 0) {σ' : St} {r : Int32} (hr : RtI X cX6_draw r σ') (σ : St) (x0 : Nat) (x1 : Int32) (hx0 : kd x0 = 7) (h : f_X6_draw σ x0 x1 = some (r, σ')) : V X σ 0 [(0, .ref ((xG X).1 x0)), (1, .int x1)] [] := by
  unfold f_X6_draw at h
  refine r_aload_n C 0 (q := 1) dX6_draw_0 rfl rfl ?_
  refine r_aload_n C 0 (q := 2) dX6_draw_1 rfl rfl ?_
  refine g_X6_15 C (q := 5) dX6_draw_2 q_1004 hx0 rfl ?_
  refine r_ldcw C (v := 1103515245) (q := 8) dX6_draw_5 q_1432 rfl ?_
  refine r_imul C (q := 9) dX6_draw_8 rfl ?_
  refine r_sipush C (v := 12345) (q := 12) dX6_draw_9 (by decide) rfl ?_
  refine r_iadd C (q := 13) dX6_draw_12 rfl ?_
  obtain ⟨s_13, e_13, h⟩ := bs h
  refine p_X6_15 C (q := 16) dX6_draw_13 q_1004 hx0 e_13 rfl ?_
  refine r_aload_n C 0 (q := 17) dX6_draw_16 rfl rfl ?_
  refine g_X6_15 C (q := 20) dX6_draw_17 q_1004 hx0 rfl ?_
  refine r_bipush C (v := 16) (q := 22) dX6_draw_20 (by decide) rfl ?_
  refine r_iushr C (q := 23) dX6_draw_22 rfl ?_
  refine r_iload_n C 1 (q := 24) dX6_draw_23 rfl rfl ?_
  obtain ⟨v_24, e_24, h⟩ := bs h
  refine r_irem C (q := 25) dX6_draw_24 e_24 rfl ?_
  obtain ⟨rfl, rfl⟩ := Prod.mk.inj (Option.some.inj h)
  exact hr _ _ dX6_draw_25

theorem m_X6_draw (G : Gm) (l : Launch) {σ σ' : St} {x0 : Nat} {x1 : Int32} (hx0 : kd x0 = 7) {r : Int32} (h : f_X6_draw σ x0 x1 = some (r, σ')) : Ctr G l yX6_draw cX6_draw 2 (some .int) 0 0 [.ref (G.1 x0), .int x1] σ (some (.int r)) True σ' := by
  refine Ctr.i (by decide) (Nat.le_of_ble_eq_true rfl) ?_
  intro X hG C hr
  subst hG
  exact w_X6_draw_b0 C hr _ _ _ hx0 h
-- X6_wears
set_option maxHeartbeats 4000000 in
set_option maxRecDepth 100000 in
theorem w_X6_wears_b0 {X : CX} (C : Cok X RX6 cX6_wears 3 1 21) {σ' : St} {r : Int32} (hr : RtI X cX6_wears r σ') (σ : St) (x0 : Nat) (x1 : Int32) (hx0 : kd x0 = 7) (h : f_X6_wears σ x0 x1 = some (r, σ')) : V X σ 0 [(0, .ref ((xG X).1 x0)), (1, .int x1)] [] := by
  unfold f_X6_wears at h
  refine r_aload_n C 0 (q := 1) dX6_wears_0 rfl rfl ?_
  refine r_iconst C (v := 4) (q := 2) dX6_wears_1 (by decide) rfl ?_
  obtain ⟨v_2, s_2, e_2, h⟩ := bs2 h
  refine r_callV C (ci := 6) (st := []) (st2 := [.int v_2]) (q := 5) (m_X6_draw (xG X) (xl X) hx0 e_2) ok_X6_draw hx0 rfl ⟨_, rfl⟩ q_1428 rfl ⟨Nat.le_of_ble_eq_true rfl, Nat.le_of_ble_eq_true rfl⟩ rfl rfl (Nat.le_of_ble_eq_true rfl) dX6_wears_2 rfl (fun hp_2 => ?_)
  refine r_if_eq C (tgt := 10) (q := 8) dX6_wears_5 (by decide) rfl (fun c_5 => ?_) (fun c_5 => ?_)
  · replace h := (if_pos c_5).symm.trans h
    refine r_aload_n C 0 (q := 11) dX6_wears_10 rfl rfl ?_
    refine r_aload_n C 0 (q := 12) dX6_wears_11 rfl rfl ?_
    refine g_X6_3 C (q := 15) dX6_wears_12 q_992 hx0 rfl ?_
    obtain ⟨v_15, s_15, e_15, h⟩ := bs2 h
    refine r_callV C (ci := 6) (st := []) (st2 := [.int v_15]) (q := 18) (m_X6_draw (xG X) (xl X) hx0 e_15) ok_X6_draw hx0 rfl ⟨_, rfl⟩ q_1428 rfl ⟨Nat.le_of_ble_eq_true rfl, Nat.le_of_ble_eq_true rfl⟩ rfl rfl (Nat.le_of_ble_eq_true rfl) dX6_wears_15 rfl (fun hp_15 => ?_)
    refine r_istore_n C (lv' := [(2, .int v_15), (0, .ref ((xG X).1 x0)), (1, .int x1)]) (q := 19) dX6_wears_18 rfl (by decide) rfl rfl ?_
    refine r_aload_n C 1 (q := 20) dX6_wears_19 rfl rfl ?_
    refine g_X6_10 C (q := 23) dX6_wears_20 q_999 hx0 rfl ?_
    refine r_iconst C (v := 5) (q := 24) dX6_wears_23 (by decide) rfl ?_
    refine r_iload_n C 2 (q := 25) dX6_wears_24 rfl rfl ?_
    refine r_imul C (q := 26) dX6_wears_25 rfl ?_
    refine r_iload_n C 0 (q := 27) dX6_wears_26 rfl rfl ?_
    refine r_iadd C (q := 28) dX6_wears_27 rfl ?_
    obtain ⟨v_28, e_28, h⟩ := bs h
    refine r_iald C (q := 29) dX6_wears_28 (kf_X6_10 hx0) e_28 rfl ?_
    refine r_aload_n C 1 (q := 30) dX6_wears_29 rfl rfl ?_
    refine g_X6_4 C (q := 33) dX6_wears_30 q_993 hx0 rfl ?_
    refine r_icmp_ne C (tgt := 38) (q := 36) dX6_wears_33 (by decide) rfl (fun c_33 => ?_) (fun c_33 => ?_)
    · replace h := (if_neg c_33).symm.trans h
      refine r_aload_n C 1 (q := 39) dX6_wears_38 rfl rfl ?_
      refine g_X6_10 C (q := 42) dX6_wears_39 q_999 hx0 rfl ?_
      refine r_iconst C (v := 5) (q := 43) dX6_wears_42 (by decide) rfl ?_
      refine r_iload_n C 2 (q := 44) dX6_wears_43 rfl rfl ?_
      refine r_imul C (q := 45) dX6_wears_44 rfl ?_
      refine r_iload_n C 0 (q := 46) dX6_wears_45 rfl rfl ?_
      refine r_iadd C (q := 47) dX6_wears_46 rfl ?_
      refine r_dup2 C (q := 48) dX6_wears_47 rfl rfl rfl ?_
      obtain ⟨v_48, e_48, h⟩ := bs h
      refine r_iald C (q := 49) dX6_wears_48 (kf_X6_10 hx0) e_48 rfl ?_
      refine r_iconst C (v := 1) (q := 50) dX6_wears_49 (by decide) rfl ?_
      refine r_iadd C (q := 51) dX6_wears_50 rfl ?_
      obtain ⟨s_51, e_51, h⟩ := bs h
      refine r_iast C (q := 52) dX6_wears_51 (kf_X6_10 hx0) e_51 rfl ?_
      refine r_iconst C (v := 1) (q := 53) dX6_wears_52 (by decide) rfl ?_
      obtain ⟨rfl, rfl⟩ := Prod.mk.inj (Option.some.inj h)
      exact hr _ _ dX6_wears_53
    · replace h := (if_pos c_33).symm.trans h
      refine r_iconst C (v := 0) (q := 37) dX6_wears_36 (by decide) rfl ?_
      obtain ⟨rfl, rfl⟩ := Prod.mk.inj (Option.some.inj h)
      exact hr _ _ dX6_wears_37
  · replace h := (if_neg c_5).symm.trans h
    refine r_iconst C (v := 0) (q := 9) dX6_wears_8 (by decide) rfl ?_
    obtain ⟨rfl, rfl⟩ := Prod.mk.inj (Option.some.inj h)
    exact hr _ _ dX6_wears_9

theorem m_X6_wears (G : Gm) (l : Launch) {σ σ' : St} {x0 : Nat} {x1 : Int32} (hx0 : kd x0 = 7) {r : Int32} (h : f_X6_wears σ x0 x1 = some (r, σ')) : Ctr G l yX6_wears cX6_wears 3 (some .int) 1 21 [.ref (G.1 x0), .int x1] σ (some (.int r)) True σ' := by
  refine Ctr.i (by decide) (Nat.le_of_ble_eq_true rfl) ?_
  intro X hG C hr
  subst hG
  exact w_X6_wears_b0 C hr _ _ _ hx0 h
-- X6_use
set_option maxHeartbeats 4000000 in
set_option maxRecDepth 100000 in
theorem w_X6_use_b16 {X : CX} (C : Cok X RX6 cX6_use 3 5 112) {σ' : St} {r : Int32} (hr : RtI X cX6_use r σ') (σ : St) (x0 : Nat) (hx0 : kd x0 = 7) (h : f_X6_use_b16 σ x0 = some (r, σ')) : V X σ 16 [(0, .ref ((xG X).1 x0))] [] := by
  unfold f_X6_use_b16 at h
  refine r_aload_n C 0 (q := 17) dX6_use_16 rfl rfl ?_
  refine r_bipush C (v := (-2)) (q := 19) dX6_use_17 (by decide) rfl ?_
  obtain ⟨v_19, s_19, e_19, h⟩ := bs2 h
  refine r_callV C (ci := 6) (st := []) (st2 := [.int v_19]) (q := 22) (m_X6_no (xG X) (xl X) hx0 e_19) ok_X6_no hx0 rfl ⟨_, rfl⟩ q_1084 rfl ⟨Nat.le_of_ble_eq_true rfl, Nat.le_of_ble_eq_true rfl⟩ rfl rfl (Nat.le_of_ble_eq_true rfl) dX6_use_19 rfl (fun hp_19 => ?_)
  obtain ⟨rfl, rfl⟩ := Prod.mk.inj (Option.some.inj h)
  exact hr _ _ dX6_use_22

set_option maxHeartbeats 4000000 in
set_option maxRecDepth 100000 in
theorem w_X6_use_b0 {X : CX} (C : Cok X RX6 cX6_use 3 5 112) {σ' : St} {r : Int32} (hr : RtI X cX6_use r σ') (σ : St) (x0 : Nat) (x1 : Int32) (x2 : Int32) (hx0 : kd x0 = 7) (h : f_X6_use σ x0 x1 x2 = some (r, σ')) : V X σ 0 [(0, .ref ((xG X).1 x0)), (1, .int x1), (2, .int x2)] [] := by
  unfold f_X6_use at h
  refine r_aload_n C 0 (q := 1) dX6_use_0 rfl rfl ?_
  refine r_iload_n C 1 (q := 2) dX6_use_1 rfl rfl ?_
  obtain ⟨v_2, e_2, h⟩ := bs h
  refine r_callV C (ci := 6) (st := []) (st2 := [.int v_2]) (q := 5) (m_X6_isKey (xG X) (xl X) hx0 e_2) ok_X6_isKey hx0 rfl ⟨_, rfl⟩ q_1116 rfl ⟨Nat.le_of_ble_eq_true rfl, Nat.le_of_ble_eq_true rfl⟩ rfl rfl (Nat.le_of_ble_eq_true rfl) dX6_use_2 rfl (fun hp_2 => ?_)
  refine r_if_eq C (tgt := 16) (q := 8) dX6_use_5 (by decide) rfl (fun c_5 => ?_) (fun c_5 => ?_)
  · replace h := (if_pos c_5).symm.trans h
    refine r_sub (lv' := [(0, .ref ((xG X).1 x0))]) [0] rfl ?_
    exact w_X6_use_b16 C hr  _ _ hx0 h
  · replace h := (if_neg c_5).symm.trans h
    refine r_aload_n C 0 (q := 9) dX6_use_8 rfl rfl ?_
    refine r_iload_n C 2 (q := 10) dX6_use_9 rfl rfl ?_
    obtain ⟨v_10, e_10, h⟩ := bs h
    refine r_callV C (ci := 6) (st := []) (st2 := [.int v_10]) (q := 13) (m_X6_isLock (xG X) (xl X) hx0 e_10) ok_X6_isLock hx0 rfl ⟨_, rfl⟩ q_1187 rfl ⟨Nat.le_of_ble_eq_true rfl, Nat.le_of_ble_eq_true rfl⟩ rfl rfl (Nat.le_of_ble_eq_true rfl) dX6_use_10 rfl (fun hp_10 => ?_)
    refine r_if_ne C (tgt := 23) (q := 16) dX6_use_13 (by decide) rfl (fun c_13 => ?_) (fun c_13 => ?_)
    · replace h := (if_neg c_13).symm.trans h
      refine r_aload_n C 0 (q := 24) dX6_use_23 rfl rfl ?_
      refine r_iload_n C 1 (q := 25) dX6_use_24 rfl rfl ?_
      refine r_iload_n C 2 (q := 26) dX6_use_25 rfl rfl ?_
      obtain ⟨v_26, e_26, h⟩ := bs h
      refine r_callV C (ci := 6) (st := []) (st2 := [.int v_26]) (q := 29) (m_X6_opensIt (xG X) (xl X) hx0 e_26) ok_X6_opensIt hx0 rfl ⟨_, rfl⟩ q_1131 rfl ⟨Nat.le_of_ble_eq_true rfl, Nat.le_of_ble_eq_true rfl⟩ rfl rfl (Nat.le_of_ble_eq_true rfl) dX6_use_26 rfl (fun hp_26 => ?_)
      refine r_if_eq C (tgt := 40) (q := 32) dX6_use_29 (by decide) rfl (fun c_29 => ?_) (fun c_29 => ?_)
      · replace h := (if_pos c_29).symm.trans h
        refine r_aload_n C 0 (q := 41) dX6_use_40 rfl rfl ?_
        refine r_bipush C (v := (-5)) (q := 43) dX6_use_41 (by decide) rfl ?_
        obtain ⟨v_43, s_43, e_43, h⟩ := bs2 h
        refine r_callV C (ci := 6) (st := []) (st2 := [.int v_43]) (q := 46) (m_X6_no (xG X) (xl X) hx0 e_43) ok_X6_no hx0 rfl ⟨_, rfl⟩ q_1084 rfl ⟨Nat.le_of_ble_eq_true rfl, Nat.le_of_ble_eq_true rfl⟩ rfl rfl (Nat.le_of_ble_eq_true rfl) dX6_use_43 rfl (fun hp_43 => ?_)
        obtain ⟨rfl, rfl⟩ := Prod.mk.inj (Option.some.inj h)
        exact hr _ _ dX6_use_46
      · replace h := (if_neg c_29).symm.trans h
        refine r_aload_n C 0 (q := 33) dX6_use_32 rfl rfl ?_
        refine r_iload_n C 1 (q := 34) dX6_use_33 rfl rfl ?_
        obtain ⟨v_34, s_34, e_34, h⟩ := bs2 h
        refine r_callV C (ci := 6) (st := []) (st2 := [.int v_34]) (q := 37) (m_X6_wears (xG X) (xl X) hx0 e_34) ok_X6_wears hx0 rfl ⟨_, rfl⟩ q_1424 rfl ⟨Nat.le_of_ble_eq_true rfl, Nat.le_of_ble_eq_true rfl⟩ rfl rfl (Nat.le_of_ble_eq_true rfl) dX6_use_34 rfl (fun hp_34 => ?_)
        refine r_goto C (tgt := 46) dX6_use_37 (by decide) ?_
        obtain ⟨rfl, rfl⟩ := Prod.mk.inj (Option.some.inj h)
        exact hr _ _ dX6_use_46
    · replace h := (if_pos c_13).symm.trans h
      refine r_sub (lv' := [(0, .ref ((xG X).1 x0))]) [0] rfl ?_
      exact w_X6_use_b16 C hr  _ _ hx0 h

theorem m_X6_use (G : Gm) (l : Launch) {σ σ' : St} {x0 : Nat} {x1 : Int32} {x2 : Int32} (hx0 : kd x0 = 7) {r : Int32} (h : f_X6_use σ x0 x1 x2 = some (r, σ')) : Ctr G l yX6_use cX6_use 3 (some .int) 5 112 [.ref (G.1 x0), .int x1, .int x2] σ (some (.int r)) True σ' := by
  refine Ctr.i (by decide) (Nat.le_of_ble_eq_true rfl) ?_
  intro X hG C hr
  subst hG
  exact w_X6_use_b0 C hr _ _ _ _ hx0 h
-- X6_days
set_option maxHeartbeats 4000000 in
set_option maxRecDepth 100000 in
theorem w_X6_days_b91 {X : CX} (C : Cok X RX6 cX6_days 6 5 112) {σ' : St} {r : Int32} (hr : RtI X cX6_days r σ') (k_42 : St → Nat → Int32 → Int32 → Int32 → Option (Int32 × St)) (hk_42 : ∀ (σ : St) (x0 : Nat) (x1 : Int32) (x2 : Int32) (x3 : Int32), kd x0 = 7 → k_42 σ x0 x1 x2 x3 = some (r, σ') → V X σ 42 [(0, .ref ((xG X).1 x0)), (1, .int x1), (2, .int x2), (3, .int x3)] []) (σ : St) (x0 : Nat) (x1 : Int32) (x2 : Int32) (x3 : Int32) (hx0 : kd x0 = 7) (h : f_X6_days_b91 k_42 σ x0 x1 x2 x3 = some (r, σ')) : V X σ 91 [(0, .ref ((xG X).1 x0)), (1, .int x1), (2, .int x2), (3, .int x3)] [] := by
  unfold f_X6_days_b91 at h
  obtain ⟨y_91, e_91, h⟩ := bs h
  refine r_iinc C (v := y_91) (lv' := [(3, .int y_91), (0, .ref ((xG X).1 x0)), (1, .int x1), (2, .int x2)]) (q := 94) 3 dX6_days_91 rfl (Option.some.inj e_91) (by decide) rfl rfl ?_
  refine r_goto C (tgt := 42) dX6_days_94 (by decide) ?_
  refine r_sub (lv' := [(0, .ref ((xG X).1 x0)), (1, .int x1), (2, .int x2), (3, .int y_91)]) [1, 2, 3, 0] rfl ?_
  exact hk_42 _ _ _ _ _ hx0 h

set_option maxHeartbeats 4000000 in
set_option maxRecDepth 100000 in
theorem w_X6_days_b42 {X : CX} (C : Cok X RX6 cX6_days 6 5 112) {σ' : St} {r : Int32} (hr : RtI X cX6_days r σ') (k_42 : St → Nat → Int32 → Int32 → Int32 → Option (Int32 × St)) (hk_42 : ∀ (σ : St) (x0 : Nat) (x1 : Int32) (x2 : Int32) (x3 : Int32), kd x0 = 7 → k_42 σ x0 x1 x2 x3 = some (r, σ') → V X σ 42 [(0, .ref ((xG X).1 x0)), (1, .int x1), (2, .int x2), (3, .int x3)] []) (σ : St) (x0 : Nat) (x1 : Int32) (x2 : Int32) (x3 : Int32) (hx0 : kd x0 = 7) (h : f_X6_days_b42 k_42 σ x0 x1 x2 x3 = some (r, σ')) : V X σ 42 [(0, .ref ((xG X).1 x0)), (1, .int x1), (2, .int x2), (3, .int x3)] [] := by
  unfold f_X6_days_b42 at h
  refine r_iload_n C 3 (q := 43) dX6_days_42 rfl rfl ?_
  refine r_iload_n C 1 (q := 44) dX6_days_43 rfl rfl ?_
  refine r_icmp_ge C (tgt := 97) (q := 47) dX6_days_44 (by decide) rfl (fun c_44 => ?_) (fun c_44 => ?_)
  · replace h := (if_pos c_44).symm.trans h
    refine r_iload_n C 2 (q := 98) dX6_days_97 rfl rfl ?_
    obtain ⟨rfl, rfl⟩ := Prod.mk.inj (Option.some.inj h)
    exact hr _ _ dX6_days_98
  · replace h := (if_neg c_44).symm.trans h
    refine r_aload_n C 0 (q := 48) dX6_days_47 rfl rfl ?_
    refine r_aload_n C 0 (q := 49) dX6_days_48 rfl rfl ?_
    refine g_X6_6 C (q := 52) dX6_days_49 q_995 hx0 rfl ?_
    obtain ⟨v_52, s_52, e_52, h⟩ := bs2 h
    refine r_callV C (ci := 6) (st := []) (st2 := [.int v_52]) (q := 55) (m_X6_draw (xG X) (xl X) hx0 e_52) ok_X6_draw hx0 rfl ⟨_, rfl⟩ q_1428 rfl ⟨Nat.le_of_ble_eq_true rfl, Nat.le_of_ble_eq_true rfl⟩ rfl rfl (Nat.le_of_ble_eq_true rfl) dX6_days_52 rfl (fun hp_52 => ?_)
    refine r_istore C (lv' := [(4, .int v_52), (0, .ref ((xG X).1 x0)), (1, .int x1), (2, .int x2), (3, .int x3)]) (q := 57) dX6_days_55 (by decide) rfl rfl ?_
    refine r_aload_n C 1 (q := 58) dX6_days_57 rfl rfl ?_
    refine r_aload_n C 1 (q := 59) dX6_days_58 rfl rfl ?_
    refine g_X6_11 C (q := 62) dX6_days_59 q_1000 hx0 rfl ?_
    obtain ⟨v_62, s_62, e_62, h⟩ := bs2 h
    refine r_callV C (ci := 6) (st := []) (st2 := [.int v_62]) (q := 65) (m_X6_draw (xG X) (xl X) hx0 e_62) ok_X6_draw hx0 rfl ⟨_, rfl⟩ q_1428 rfl ⟨Nat.le_of_ble_eq_true rfl, Nat.le_of_ble_eq_true rfl⟩ rfl rfl (Nat.le_of_ble_eq_true rfl) dX6_days_62 rfl (fun hp_62 => ?_)
    refine r_istore C (lv' := [(5, .int v_62), (4, .int v_52), (0, .ref ((xG X).1 x0)), (1, .int x1), (2, .int x2), (3, .int x3)]) (q := 67) dX6_days_65 (by decide) rfl rfl ?_
    refine r_aload_n C 2 (q := 68) dX6_days_67 rfl rfl ?_
    refine r_iload C 1 (q := 70) dX6_days_68 rfl rfl ?_
    refine r_iload C 0 (q := 72) dX6_days_70 rfl rfl ?_
    obtain ⟨v_72, e_72, h⟩ := bs h
    refine r_callV C (ci := 6) (st := []) (st2 := [.int v_72]) (q := 75) (m_X6_opensIt (xG X) (xl X) hx0 e_72) ok_X6_opensIt hx0 rfl ⟨_, rfl⟩ q_1131 rfl ⟨Nat.le_of_ble_eq_true rfl, Nat.le_of_ble_eq_true rfl⟩ rfl rfl (Nat.le_of_ble_eq_true rfl) dX6_days_72 rfl (fun hp_72 => ?_)
    refine r_if_ne C (tgt := 81) (q := 78) dX6_days_75 (by decide) rfl (fun c_75 => ?_) (fun c_75 => ?_)
    · replace h := (if_neg c_75).symm.trans h
      obtain ⟨y_81, e_81, h⟩ := bs h
      refine r_iinc C (v := y_81) (lv' := [(2, .int y_81), (5, .int v_62), (4, .int v_52), (0, .ref ((xG X).1 x0)), (1, .int x1), (3, .int x3)]) (q := 84) 4 dX6_days_81 rfl (Option.some.inj e_81) (by decide) rfl rfl ?_
      refine r_aload_n C 3 (q := 85) dX6_days_84 rfl rfl ?_
      refine r_iload C 2 (q := 87) dX6_days_85 rfl rfl ?_
      obtain ⟨v_87, s_87, e_87, h⟩ := bs2 h
      refine r_callV C (ci := 6) (st := []) (st2 := [.int v_87]) (q := 90) (m_X6_wears (xG X) (xl X) hx0 e_87) ok_X6_wears hx0 rfl ⟨_, rfl⟩ q_1424 rfl ⟨Nat.le_of_ble_eq_true rfl, Nat.le_of_ble_eq_true rfl⟩ rfl rfl (Nat.le_of_ble_eq_true rfl) dX6_days_87 rfl (fun hp_87 => ?_)
      refine r_pop C (q := 91) dX6_days_90 rfl rfl ?_
      refine r_sub (lv' := [(0, .ref ((xG X).1 x0)), (1, .int x1), (2, .int y_81), (3, .int x3)]) [3, 4, 0, 5] rfl ?_
      exact w_X6_days_b91 C hr _ hk_42 _ _ _ _ _ hx0 h
    · replace h := (if_pos c_75).symm.trans h
      refine r_goto C (tgt := 91) dX6_days_78 (by decide) ?_
      refine r_sub (lv' := [(0, .ref ((xG X).1 x0)), (1, .int x1), (2, .int x2), (3, .int x3)]) [2, 3, 4, 5] rfl ?_
      exact w_X6_days_b91 C hr _ hk_42 _ _ _ _ _ hx0 h

theorem w_X6_days_l42 {X : CX} (C : Cok X RX6 cX6_days 6 5 112) {σ' : St} {r : Int32} (hr : RtI X cX6_days r σ') (n : Nat) : ∀ (σ : St) (x0 : Nat) (x1 : Int32) (x2 : Int32) (x3 : Int32), kd x0 = 7 → f_X6_days_l42 n σ x0 x1 x2 x3 = some (r, σ') → V X σ 42 [(0, .ref ((xG X).1 x0)), (1, .int x1), (2, .int x2), (3, .int x3)] [] := by
  induction n with
  | zero =>
    intro σ x0 x1 x2 x3 hx0 h
    exact nomatch (show (none : Option (Int32 × St)) = some (r, σ') from h)
  | succ n ih =>
    intro σ x0 x1 x2 x3 hx0 h
    exact w_X6_days_b42 C hr _ ih σ x0 x1 x2 x3 hx0 h
set_option maxHeartbeats 4000000 in
set_option maxRecDepth 100000 in
theorem w_X6_days_b31 {X : CX} (C : Cok X RX6 cX6_days 6 5 112) {σ' : St} {r : Int32} (hr : RtI X cX6_days r σ') (σ : St) (x0 : Nat) (hx0 : kd x0 = 7) (h : f_X6_days_b31 σ x0 = some (r, σ')) : V X σ 31 [(0, .ref ((xG X).1 x0))] [] := by
  unfold f_X6_days_b31 at h
  refine r_aload_n C 0 (q := 32) dX6_days_31 rfl rfl ?_
  refine r_bipush C (v := (-5)) (q := 34) dX6_days_32 (by decide) rfl ?_
  obtain ⟨v_34, s_34, e_34, h⟩ := bs2 h
  refine r_callV C (ci := 6) (st := []) (st2 := [.int v_34]) (q := 37) (m_X6_no (xG X) (xl X) hx0 e_34) ok_X6_no hx0 rfl ⟨_, rfl⟩ q_1084 rfl ⟨Nat.le_of_ble_eq_true rfl, Nat.le_of_ble_eq_true rfl⟩ rfl rfl (Nat.le_of_ble_eq_true rfl) dX6_days_34 rfl (fun hp_34 => ?_)
  obtain ⟨rfl, rfl⟩ := Prod.mk.inj (Option.some.inj h)
  exact hr _ _ dX6_days_37

set_option maxHeartbeats 4000000 in
set_option maxRecDepth 100000 in
theorem w_X6_days_b0 {X : CX} (C : Cok X RX6 cX6_days 6 5 112) {σ' : St} {r : Int32} (hr : RtI X cX6_days r σ') (σ : St) (x0 : Nat) (x1 : Int32) (hx0 : kd x0 = 7) (h : f_X6_days σ x0 x1 = some (r, σ')) : V X σ 0 [(0, .ref ((xG X).1 x0)), (1, .int x1)] [] := by
  unfold f_X6_days at h
  refine r_iload_n C 1 (q := 1) dX6_days_0 rfl rfl ?_
  refine r_iconst C (v := 1) (q := 2) dX6_days_1 (by decide) rfl ?_
  refine r_bipush C (v := 40) (q := 4) dX6_days_2 (by decide) rfl ?_
  obtain ⟨v_4, e_4, h⟩ := bs h
  refine r_callS C (st := []) (st2 := [.int v_4]) (q := 7) (m_X6_within (xG X) (xl X) e_4) ok_X6_within q_1081 rfl ⟨Nat.le_of_ble_eq_true rfl, Nat.le_of_ble_eq_true rfl⟩ rfl rfl (Nat.le_of_ble_eq_true rfl) dX6_days_4 rfl (fun hp_4 => ?_)
  refine r_if_ne C (tgt := 17) (q := 10) dX6_days_7 (by decide) rfl (fun c_7 => ?_) (fun c_7 => ?_)
  · replace h := (if_neg c_7).symm.trans h
    refine r_aload_n C 0 (q := 18) dX6_days_17 rfl rfl ?_
    refine g_X6_6 C (q := 21) dX6_days_18 q_995 hx0 rfl ?_
    refine r_if_eq C (tgt := 31) (q := 24) dX6_days_21 (by decide) rfl (fun c_21 => ?_) (fun c_21 => ?_)
    · replace h := (if_pos c_21).symm.trans h
      refine r_sub (lv' := [(0, .ref ((xG X).1 x0))]) [0] rfl ?_
      exact w_X6_days_b31 C hr  _ _ hx0 h
    · replace h := (if_neg c_21).symm.trans h
      refine r_aload_n C 0 (q := 25) dX6_days_24 rfl rfl ?_
      refine g_X6_11 C (q := 28) dX6_days_25 q_1000 hx0 rfl ?_
      refine r_if_ne C (tgt := 38) (q := 31) dX6_days_28 (by decide) rfl (fun c_28 => ?_) (fun c_28 => ?_)
      · replace h := (if_neg c_28).symm.trans h
        refine r_iconst C (v := 0) (q := 39) dX6_days_38 (by decide) rfl ?_
        refine r_istore_n C (lv' := [(2, .int 0), (0, .ref ((xG X).1 x0)), (1, .int x1)]) (q := 40) dX6_days_39 rfl (by decide) rfl rfl ?_
        refine r_iconst C (v := 0) (q := 41) dX6_days_40 (by decide) rfl ?_
        refine r_istore_n C (lv' := [(3, .int 0), (2, .int 0), (0, .ref ((xG X).1 x0)), (1, .int x1)]) (q := 42) dX6_days_41 rfl (by decide) rfl rfl ?_
        refine r_sub (lv' := [(0, .ref ((xG X).1 x0)), (1, .int x1), (2, .int 0), (3, .int 0)]) [2, 3, 1, 0] rfl ?_
        exact w_X6_days_l42 C hr  FU _ _ _ _ _ hx0 h
      · replace h := (if_pos c_28).symm.trans h
        refine r_sub (lv' := [(0, .ref ((xG X).1 x0))]) [0] rfl ?_
        exact w_X6_days_b31 C hr  _ _ hx0 h
  · replace h := (if_pos c_7).symm.trans h
    refine r_aload_n C 0 (q := 11) dX6_days_10 rfl rfl ?_
    refine r_bipush C (v := (-2)) (q := 13) dX6_days_11 (by decide) rfl ?_
    obtain ⟨v_13, s_13, e_13, h⟩ := bs2 h
    refine r_callV C (ci := 6) (st := []) (st2 := [.int v_13]) (q := 16) (m_X6_no (xG X) (xl X) hx0 e_13) ok_X6_no hx0 rfl ⟨_, rfl⟩ q_1084 rfl ⟨Nat.le_of_ble_eq_true rfl, Nat.le_of_ble_eq_true rfl⟩ rfl rfl (Nat.le_of_ble_eq_true rfl) dX6_days_13 rfl (fun hp_13 => ?_)
    obtain ⟨rfl, rfl⟩ := Prod.mk.inj (Option.some.inj h)
    exact hr _ _ dX6_days_16

theorem m_X6_days (G : Gm) (l : Launch) {σ σ' : St} {x0 : Nat} {x1 : Int32} (hx0 : kd x0 = 7) {r : Int32} (h : f_X6_days σ x0 x1 = some (r, σ')) : Ctr G l yX6_days cX6_days 6 (some .int) 5 112 [.ref (G.1 x0), .int x1] σ (some (.int r)) True σ' := by
  refine Ctr.i (by decide) (Nat.le_of_ble_eq_true rfl) ?_
  intro X hG C hr
  subst hG
  exact w_X6_days_b0 C hr _ _ _ hx0 h
-- X6_renew
set_option maxHeartbeats 4000000 in
set_option maxRecDepth 100000 in
theorem w_X6_renew_b46 {X : CX} (C : Cok X RX6 cX6_renew 4 3 63) {σ' : St} {r : Int32} (hr : RtI X cX6_renew r σ') (k_46 : St → Nat → Int32 → Int32 → Int32 → Option (Int32 × St)) (hk_46 : ∀ (σ : St) (x0 : Nat) (x1 : Int32) (x2 : Int32) (x3 : Int32), kd x0 = 7 → k_46 σ x0 x1 x2 x3 = some (r, σ') → V X σ 46 [(0, .ref ((xG X).1 x0)), (1, .int x1), (2, .int x2), (3, .int x3)] []) (σ : St) (x0 : Nat) (x1 : Int32) (x2 : Int32) (x3 : Int32) (hx0 : kd x0 = 7) (h : f_X6_renew_b46 k_46 σ x0 x1 x2 x3 = some (r, σ')) : V X σ 46 [(0, .ref ((xG X).1 x0)), (1, .int x1), (2, .int x2), (3, .int x3)] [] := by
  unfold f_X6_renew_b46 at h
  refine r_iload_n C 3 (q := 47) dX6_renew_46 rfl rfl ?_
  refine r_iconst C (v := 5) (q := 48) dX6_renew_47 (by decide) rfl ?_
  refine r_icmp_ge C (tgt := 68) (q := 51) dX6_renew_48 (by decide) rfl (fun c_48 => ?_) (fun c_48 => ?_)
  · replace h := (if_pos c_48).symm.trans h
    refine r_iload_n C 2 (q := 69) dX6_renew_68 rfl rfl ?_
    obtain ⟨rfl, rfl⟩ := Prod.mk.inj (Option.some.inj h)
    exact hr _ _ dX6_renew_69
  · replace h := (if_neg c_48).symm.trans h
    refine r_aload_n C 0 (q := 52) dX6_renew_51 rfl rfl ?_
    refine g_X6_10 C (q := 55) dX6_renew_52 q_999 hx0 rfl ?_
    refine r_iconst C (v := 5) (q := 56) dX6_renew_55 (by decide) rfl ?_
    refine r_iload_n C 1 (q := 57) dX6_renew_56 rfl rfl ?_
    refine r_imul C (q := 58) dX6_renew_57 rfl ?_
    refine r_iload_n C 3 (q := 59) dX6_renew_58 rfl rfl ?_
    refine r_iadd C (q := 60) dX6_renew_59 rfl ?_
    refine r_iconst C (v := 0) (q := 61) dX6_renew_60 (by decide) rfl ?_
    obtain ⟨s_61, e_61, h⟩ := bs h
    refine r_iast C (q := 62) dX6_renew_61 (kf_X6_10 hx0) e_61 rfl ?_
    obtain ⟨y_62, e_62, h⟩ := bs h
    refine r_iinc C (v := y_62) (lv' := [(3, .int y_62), (0, .ref ((xG X).1 x0)), (1, .int x1), (2, .int x2)]) (q := 65) 3 dX6_renew_62 rfl (Option.some.inj e_62) (by decide) rfl rfl ?_
    refine r_goto C (tgt := 46) dX6_renew_65 (by decide) ?_
    refine r_sub (lv' := [(0, .ref ((xG X).1 x0)), (1, .int x1), (2, .int x2), (3, .int y_62)]) [1, 2, 3, 0] rfl ?_
    exact hk_46 _ _ _ _ _ hx0 h

theorem w_X6_renew_l46 {X : CX} (C : Cok X RX6 cX6_renew 4 3 63) {σ' : St} {r : Int32} (hr : RtI X cX6_renew r σ') (n : Nat) : ∀ (σ : St) (x0 : Nat) (x1 : Int32) (x2 : Int32) (x3 : Int32), kd x0 = 7 → f_X6_renew_l46 n σ x0 x1 x2 x3 = some (r, σ') → V X σ 46 [(0, .ref ((xG X).1 x0)), (1, .int x1), (2, .int x2), (3, .int x3)] [] := by
  induction n with
  | zero =>
    intro σ x0 x1 x2 x3 hx0 h
    exact nomatch (show (none : Option (Int32 × St)) = some (r, σ') from h)
  | succ n ih =>
    intro σ x0 x1 x2 x3 hx0 h
    exact w_X6_renew_b46 C hr _ ih σ x0 x1 x2 x3 hx0 h
set_option maxHeartbeats 4000000 in
set_option maxRecDepth 100000 in
theorem w_X6_renew_b0 {X : CX} (C : Cok X RX6 cX6_renew 4 3 63) {σ' : St} {r : Int32} (hr : RtI X cX6_renew r σ') (σ : St) (x0 : Nat) (x1 : Int32) (hx0 : kd x0 = 7) (h : f_X6_renew σ x0 x1 = some (r, σ')) : V X σ 0 [(0, .ref ((xG X).1 x0)), (1, .int x1)] [] := by
  unfold f_X6_renew at h
  refine r_aload_n C 0 (q := 1) dX6_renew_0 rfl rfl ?_
  refine r_iload_n C 1 (q := 2) dX6_renew_1 rfl rfl ?_
  obtain ⟨v_2, e_2, h⟩ := bs h
  refine r_callV C (ci := 6) (st := []) (st2 := [.int v_2]) (q := 5) (m_X6_isKey (xG X) (xl X) hx0 e_2) ok_X6_isKey hx0 rfl ⟨_, rfl⟩ q_1116 rfl ⟨Nat.le_of_ble_eq_true rfl, Nat.le_of_ble_eq_true rfl⟩ rfl rfl (Nat.le_of_ble_eq_true rfl) dX6_renew_2 rfl (fun hp_2 => ?_)
  refine r_if_ne C (tgt := 15) (q := 8) dX6_renew_5 (by decide) rfl (fun c_5 => ?_) (fun c_5 => ?_)
  · replace h := (if_neg c_5).symm.trans h
    refine r_aload_n C 0 (q := 16) dX6_renew_15 rfl rfl ?_
    refine r_iload_n C 1 (q := 17) dX6_renew_16 rfl rfl ?_
    obtain ⟨v_17, e_17, h⟩ := bs h
    refine r_callV C (ci := 6) (st := []) (st2 := [.int v_17]) (q := 20) (m_X6_broken (xG X) (xl X) hx0 e_17) ok_X6_broken hx0 rfl ⟨_, rfl⟩ q_1150 rfl ⟨Nat.le_of_ble_eq_true rfl, Nat.le_of_ble_eq_true rfl⟩ rfl rfl (Nat.le_of_ble_eq_true rfl) dX6_renew_17 rfl (fun hp_17 => ?_)
    refine r_if_ne C (tgt := 30) (q := 23) dX6_renew_20 (by decide) rfl (fun c_20 => ?_) (fun c_20 => ?_)
    · replace h := (if_neg c_20).symm.trans h
      refine r_aload_n C 0 (q := 31) dX6_renew_30 rfl rfl ?_
      refine g_X6_7 C (q := 34) dX6_renew_31 q_996 hx0 rfl ?_
      refine r_iload_n C 1 (q := 35) dX6_renew_34 rfl rfl ?_
      obtain ⟨v_35, e_35, h⟩ := bs h
      refine r_iald C (q := 36) dX6_renew_35 (kf_X6_7 hx0) e_35 rfl ?_
      refine r_istore_n C (lv' := [(2, .int v_35), (0, .ref ((xG X).1 x0)), (1, .int x1)]) (q := 37) dX6_renew_36 rfl (by decide) rfl rfl ?_
      refine r_aload_n C 1 (q := 38) dX6_renew_37 rfl rfl ?_
      refine g_X6_7 C (q := 41) dX6_renew_38 q_996 hx0 rfl ?_
      refine r_iload_n C 2 (q := 42) dX6_renew_41 rfl rfl ?_
      refine r_iconst C (v := 0) (q := 43) dX6_renew_42 (by decide) rfl ?_
      obtain ⟨s_43, e_43, h⟩ := bs h
      refine r_iast C (q := 44) dX6_renew_43 (kf_X6_7 hx0) e_43 rfl ?_
      refine r_iconst C (v := 0) (q := 45) dX6_renew_44 (by decide) rfl ?_
      refine r_istore_n C (lv' := [(3, .int 0), (2, .int v_35), (0, .ref ((xG X).1 x0)), (1, .int x1)]) (q := 46) dX6_renew_45 rfl (by decide) rfl rfl ?_
      refine r_sub (lv' := [(0, .ref ((xG X).1 x0)), (1, .int x1), (2, .int v_35), (3, .int 0)]) [2, 3, 1, 0] rfl ?_
      exact w_X6_renew_l46 C hr  FU _ _ _ _ _ hx0 h
    · replace h := (if_pos c_20).symm.trans h
      refine r_aload_n C 0 (q := 24) dX6_renew_23 rfl rfl ?_
      refine r_bipush C (v := (-5)) (q := 26) dX6_renew_24 (by decide) rfl ?_
      obtain ⟨v_26, s_26, e_26, h⟩ := bs2 h
      refine r_callV C (ci := 6) (st := []) (st2 := [.int v_26]) (q := 29) (m_X6_no (xG X) (xl X) hx0 e_26) ok_X6_no hx0 rfl ⟨_, rfl⟩ q_1084 rfl ⟨Nat.le_of_ble_eq_true rfl, Nat.le_of_ble_eq_true rfl⟩ rfl rfl (Nat.le_of_ble_eq_true rfl) dX6_renew_26 rfl (fun hp_26 => ?_)
      obtain ⟨rfl, rfl⟩ := Prod.mk.inj (Option.some.inj h)
      exact hr _ _ dX6_renew_29
  · replace h := (if_pos c_5).symm.trans h
    refine r_aload_n C 0 (q := 9) dX6_renew_8 rfl rfl ?_
    refine r_bipush C (v := (-2)) (q := 11) dX6_renew_9 (by decide) rfl ?_
    obtain ⟨v_11, s_11, e_11, h⟩ := bs2 h
    refine r_callV C (ci := 6) (st := []) (st2 := [.int v_11]) (q := 14) (m_X6_no (xG X) (xl X) hx0 e_11) ok_X6_no hx0 rfl ⟨_, rfl⟩ q_1084 rfl ⟨Nat.le_of_ble_eq_true rfl, Nat.le_of_ble_eq_true rfl⟩ rfl rfl (Nat.le_of_ble_eq_true rfl) dX6_renew_11 rfl (fun hp_11 => ?_)
    obtain ⟨rfl, rfl⟩ := Prod.mk.inj (Option.some.inj h)
    exact hr _ _ dX6_renew_14

theorem m_X6_renew (G : Gm) (l : Launch) {σ σ' : St} {x0 : Nat} {x1 : Int32} (hx0 : kd x0 = 7) {r : Int32} (h : f_X6_renew σ x0 x1 = some (r, σ')) : Ctr G l yX6_renew cX6_renew 4 (some .int) 3 63 [.ref (G.1 x0), .int x1] σ (some (.int r)) True σ' := by
  refine Ctr.i (by decide) (Nat.le_of_ble_eq_true rfl) ?_
  intro X hG C hr
  subst hG
  exact w_X6_renew_b0 C hr _ _ _ hx0 h
-- X6_seed
set_option maxHeartbeats 4000000 in
set_option maxRecDepth 100000 in
theorem w_X6_seed_b0 {X : CX} (C : Cok X RX6 cX6_seed 3 0 0) {σ' : St} {r : Int32} (hr : RtI X cX6_seed r σ') (σ : St) (x0 : Nat) (x1 : Int32) (hx0 : kd x0 = 7) (h : f_X6_seed σ x0 x1 = some (r, σ')) : V X σ 0 [(0, .ref ((xG X).1 x0)), (1, .int x1)] [] := by
  unfold f_X6_seed at h
  refine r_aload_n C 0 (q := 1) dX6_seed_0 rfl rfl ?_
  refine g_X6_15 C (q := 4) dX6_seed_1 q_1004 hx0 rfl ?_
  obtain ⟨y_4, e_4, h⟩ := bs h
  refine r_topI (Option.some.inj e_4) ?_
  refine r_istore_n C (lv' := [(2, .int y_4), (0, .ref ((xG X).1 x0)), (1, .int x1)]) (q := 5) dX6_seed_4 rfl (by decide) rfl rfl ?_
  refine r_aload_n C 1 (q := 6) dX6_seed_5 rfl rfl ?_
  refine r_iload_n C 2 (q := 7) dX6_seed_6 rfl rfl ?_
  obtain ⟨s_7, e_7, h⟩ := bs h
  refine p_X6_15 C (q := 10) dX6_seed_7 q_1004 hx0 e_7 rfl ?_
  refine r_iload_n C 0 (q := 11) dX6_seed_10 rfl rfl ?_
  obtain ⟨rfl, rfl⟩ := Prod.mk.inj (Option.some.inj h)
  exact hr _ _ dX6_seed_11

theorem m_X6_seed (G : Gm) (l : Launch) {σ σ' : St} {x0 : Nat} {x1 : Int32} (hx0 : kd x0 = 7) {r : Int32} (h : f_X6_seed σ x0 x1 = some (r, σ')) : Ctr G l yX6_seed cX6_seed 3 (some .int) 0 0 [.ref (G.1 x0), .int x1] σ (some (.int r)) True σ' := by
  refine Ctr.i (by decide) (Nat.le_of_ble_eq_true rfl) ?_
  intro X hG C hr
  subst hG
  exact w_X6_seed_b0 C hr _ _ _ hx0 h
-- X6_image
set_option maxHeartbeats 4000000 in
set_option maxRecDepth 100000 in
theorem w_X6_image_b0 {X : CX} (C : Cok X RX6 cX6_image 1 1 22) {σ' : St} {r : Int32} (hr : RtI X cX6_image r σ') (σ : St) (x0 : Nat) (hx0 : kd x0 = 7) (h : f_X6_image σ x0 = some (r, σ')) : V X σ 0 [(0, .ref ((xG X).1 x0))] [] := by
  unfold f_X6_image at h
  refine r_aload_n C 0 (q := 1) dX6_image_0 rfl rfl ?_
  refine r_iconst C (v := 1) (q := 2) dX6_image_1 (by decide) rfl ?_
  obtain ⟨s_2, e_2, h⟩ := bs h
  refine p_X6_23 C (q := 5) dX6_image_2 q_1012 hx0 e_2 (Or.inr rfl) rfl ?_
  refine r_aload_n C 0 (q := 6) dX6_image_5 rfl rfl ?_
  refine r_aload_n C 0 (q := 7) dX6_image_6 rfl rfl ?_
  refine g_X6_24 C (q := 10) dX6_image_7 q_1013 hx0 rfl ?_
  obtain ⟨s_10, e_10, h⟩ := bs h
  refine r_callV C (ci := 6) (st := []) (st2 := []) (q := 13) (m_X6_keep (xG X) (xl X) hx0 (kf_X6_24 hx0) e_10) ok_X6_keep hx0 rfl ⟨_, rfl⟩ q_1218 rfl ⟨Nat.le_of_ble_eq_true rfl, Nat.le_of_ble_eq_true rfl⟩ rfl rfl (Nat.le_of_ble_eq_true rfl) dX6_image_10 rfl (fun hp_10 => ?_)
  refine r_iconst C (v := 1) (q := 14) dX6_image_13 (by decide) rfl ?_
  obtain ⟨rfl, rfl⟩ := Prod.mk.inj (Option.some.inj h)
  exact hr _ _ dX6_image_14

theorem m_X6_image (G : Gm) (l : Launch) {σ σ' : St} {x0 : Nat} (hx0 : kd x0 = 7) {r : Int32} (h : f_X6_image σ x0 = some (r, σ')) : Ctr G l yX6_image cX6_image 1 (some .int) 1 22 [.ref (G.1 x0)] σ (some (.int r)) True σ' := by
  refine Ctr.i (by decide) (Nat.le_of_ble_eq_true rfl) ?_
  intro X hG C hr
  subst hG
  exact w_X6_image_b0 C hr _ _ hx0 h
-- X6_back
set_option maxHeartbeats 4000000 in
set_option maxRecDepth 100000 in
theorem w_X6_back_b53 {X : CX} (C : Cok X RX6 cX6_back 2 1 22) {σ' : St} {r : Int32} (hr : RtI X cX6_back r σ') (k_24 : St → Nat → Int32 → Option (Int32 × St)) (hk_24 : ∀ (σ : St) (x0 : Nat) (x1 : Int32), kd x0 = 7 → k_24 σ x0 x1 = some (r, σ') → V X σ 24 [(0, .ref ((xG X).1 x0)), (1, .int x1)] []) (σ : St) (x0 : Nat) (x1 : Int32) (hx0 : kd x0 = 7) (h : f_X6_back_b53 k_24 σ x0 x1 = some (r, σ')) : V X σ 53 [(0, .ref ((xG X).1 x0)), (1, .int x1)] [] := by
  unfold f_X6_back_b53 at h
  obtain ⟨y_53, e_53, h⟩ := bs h
  refine r_iinc C (v := y_53) (lv' := [(1, .int y_53), (0, .ref ((xG X).1 x0))]) (q := 56) 1 dX6_back_53 rfl (Option.some.inj e_53) (by decide) rfl rfl ?_
  refine r_goto C (tgt := 24) dX6_back_56 (by decide) ?_
  refine r_sub (lv' := [(0, .ref ((xG X).1 x0)), (1, .int y_53)]) [1, 0] rfl ?_
  exact hk_24 _ _ _ hx0 h

set_option maxHeartbeats 4000000 in
set_option maxRecDepth 100000 in
theorem w_X6_back_b24 {X : CX} (C : Cok X RX6 cX6_back 2 1 22) {σ' : St} {r : Int32} (hr : RtI X cX6_back r σ') (k_24 : St → Nat → Int32 → Option (Int32 × St)) (hk_24 : ∀ (σ : St) (x0 : Nat) (x1 : Int32), kd x0 = 7 → k_24 σ x0 x1 = some (r, σ') → V X σ 24 [(0, .ref ((xG X).1 x0)), (1, .int x1)] []) (σ : St) (x0 : Nat) (x1 : Int32) (hx0 : kd x0 = 7) (h : f_X6_back_b24 k_24 σ x0 x1 = some (r, σ')) : V X σ 24 [(0, .ref ((xG X).1 x0)), (1, .int x1)] [] := by
  unfold f_X6_back_b24 at h
  refine r_iload_n C 1 (q := 25) dX6_back_24 rfl rfl ?_
  refine r_bipush C (v := 8) (q := 27) dX6_back_25 (by decide) rfl ?_
  refine r_icmp_ge C (tgt := 59) (q := 30) dX6_back_27 (by decide) rfl (fun c_27 => ?_) (fun c_27 => ?_)
  · replace h := (if_pos c_27).symm.trans h
    refine r_iconst C (v := 1) (q := 60) dX6_back_59 (by decide) rfl ?_
    obtain ⟨rfl, rfl⟩ := Prod.mk.inj (Option.some.inj h)
    exact hr _ _ dX6_back_60
  · replace h := (if_neg c_27).symm.trans h
    refine r_aload_n C 0 (q := 31) dX6_back_30 rfl rfl ?_
    refine g_X6_0 C (q := 34) dX6_back_31 q_989 hx0 rfl ?_
    refine r_iload_n C 1 (q := 35) dX6_back_34 rfl rfl ?_
    obtain ⟨v_35, e_35, h⟩ := bs h
    refine r_iald C (q := 36) dX6_back_35 (kf_X6_0 hx0) e_35 rfl ?_
    refine r_bipush C (v := 10) (q := 38) dX6_back_36 (by decide) rfl ?_
    refine r_aload_n C 0 (q := 39) dX6_back_38 rfl rfl ?_
    refine g_X6_6 C (q := 42) dX6_back_39 q_995 hx0 rfl ?_
    refine r_iadd C (q := 43) dX6_back_42 rfl ?_
    refine r_icmp_lt C (tgt := 53) (q := 46) dX6_back_43 (by decide) rfl (fun c_43 => ?_) (fun c_43 => ?_)
    · replace h := (if_pos c_43).symm.trans h
      exact w_X6_back_b53 C hr _ hk_24 _ _ _ hx0 h
    · replace h := (if_neg c_43).symm.trans h
      refine r_aload_n C 0 (q := 47) dX6_back_46 rfl rfl ?_
      refine g_X6_0 C (q := 50) dX6_back_47 q_989 hx0 rfl ?_
      refine r_iload_n C 1 (q := 51) dX6_back_50 rfl rfl ?_
      refine r_iconst C (v := (-1)) (q := 52) dX6_back_51 (by decide) rfl ?_
      obtain ⟨s_52, e_52, h⟩ := bs h
      refine r_iast C (q := 53) dX6_back_52 (kf_X6_0 hx0) e_52 rfl ?_
      exact w_X6_back_b53 C hr _ hk_24 _ _ _ hx0 h

theorem w_X6_back_l24 {X : CX} (C : Cok X RX6 cX6_back 2 1 22) {σ' : St} {r : Int32} (hr : RtI X cX6_back r σ') (n : Nat) : ∀ (σ : St) (x0 : Nat) (x1 : Int32), kd x0 = 7 → f_X6_back_l24 n σ x0 x1 = some (r, σ') → V X σ 24 [(0, .ref ((xG X).1 x0)), (1, .int x1)] [] := by
  induction n with
  | zero =>
    intro σ x0 x1 hx0 h
    exact nomatch (show (none : Option (Int32 × St)) = some (r, σ') from h)
  | succ n ih =>
    intro σ x0 x1 hx0 h
    exact w_X6_back_b24 C hr _ ih σ x0 x1 hx0 h
set_option maxHeartbeats 4000000 in
set_option maxRecDepth 100000 in
theorem w_X6_back_b0 {X : CX} (C : Cok X RX6 cX6_back 2 1 22) {σ' : St} {r : Int32} (hr : RtI X cX6_back r σ') (σ : St) (x0 : Nat) (hx0 : kd x0 = 7) (h : f_X6_back σ x0 = some (r, σ')) : V X σ 0 [(0, .ref ((xG X).1 x0))] [] := by
  unfold f_X6_back at h
  refine r_aload_n C 0 (q := 1) dX6_back_0 rfl rfl ?_
  refine g_X6_23 C (q := 4) dX6_back_1 q_1012 hx0 rfl ?_
  refine r_if_ne C (tgt := 14) (q := 7) dX6_back_4 (by decide) rfl (fun c_4 => ?_) (fun c_4 => ?_)
  · replace h := (if_neg c_4).symm.trans h
    refine r_aload_n C 0 (q := 15) dX6_back_14 rfl rfl ?_
    refine r_aload_n C 0 (q := 16) dX6_back_15 rfl rfl ?_
    refine g_X6_24 C (q := 19) dX6_back_16 q_1013 hx0 rfl ?_
    obtain ⟨s_19, e_19, h⟩ := bs h
    refine r_callV C (ci := 6) (st := []) (st2 := []) (q := 22) (m_X6_again (xG X) (xl X) hx0 (kf_X6_24 hx0) e_19) ok_X6_again hx0 rfl ⟨_, rfl⟩ q_1255 rfl ⟨Nat.le_of_ble_eq_true rfl, Nat.le_of_ble_eq_true rfl⟩ rfl rfl (Nat.le_of_ble_eq_true rfl) dX6_back_19 rfl (fun hp_19 => ?_)
    refine r_iconst C (v := 0) (q := 23) dX6_back_22 (by decide) rfl ?_
    refine r_istore_n C (lv' := [(1, .int 0), (0, .ref ((xG X).1 x0))]) (q := 24) dX6_back_23 rfl (by decide) rfl rfl ?_
    refine r_sub (lv' := [(0, .ref ((xG X).1 x0)), (1, .int 0)]) [1, 0] rfl ?_
    exact w_X6_back_l24 C hr  FU _ _ _ hx0 h
  · replace h := (if_pos c_4).symm.trans h
    refine r_aload_n C 0 (q := 8) dX6_back_7 rfl rfl ?_
    refine r_bipush C (v := (-5)) (q := 10) dX6_back_8 (by decide) rfl ?_
    obtain ⟨v_10, s_10, e_10, h⟩ := bs2 h
    refine r_callV C (ci := 6) (st := []) (st2 := [.int v_10]) (q := 13) (m_X6_no (xG X) (xl X) hx0 e_10) ok_X6_no hx0 rfl ⟨_, rfl⟩ q_1084 rfl ⟨Nat.le_of_ble_eq_true rfl, Nat.le_of_ble_eq_true rfl⟩ rfl rfl (Nat.le_of_ble_eq_true rfl) dX6_back_10 rfl (fun hp_10 => ?_)
    obtain ⟨rfl, rfl⟩ := Prod.mk.inj (Option.some.inj h)
    exact hr _ _ dX6_back_13

theorem m_X6_back (G : Gm) (l : Launch) {σ σ' : St} {x0 : Nat} (hx0 : kd x0 = 7) {r : Int32} (h : f_X6_back σ x0 = some (r, σ')) : Ctr G l yX6_back cX6_back 2 (some .int) 1 22 [.ref (G.1 x0)] σ (some (.int r)) True σ' := by
  refine Ctr.i (by decide) (Nat.le_of_ble_eq_true rfl) ?_
  intro X hG C hr
  subst hG
  exact w_X6_back_b0 C hr _ _ hx0 h
-- X6_status
set_option maxHeartbeats 4000000 in
set_option maxRecDepth 100000 in
theorem w_X6_status_b182 {X : CX} (C : Cok X RX6 cX6_status 4 3 63) {σ : St} {r : Int32} (hr : RtI X cX6_status r σ) (k_163 : Nat → Int32 → Int32 → Option Int32) (hk_163 : ∀ (x0 : Nat) (x2 : Int32) (x3 : Int32), kd x0 = 7 → k_163 x0 x2 x3 = some r → V X σ 163 [(0, .ref ((xG X).1 x0)), (2, .int x2), (3, .int x3)] []) (x0 : Nat) (x2 : Int32) (x3 : Int32) (hx0 : kd x0 = 7) (h : f_X6_status_b182 σ k_163 x0 x2 x3 = some r) : V X σ 182 [(0, .ref ((xG X).1 x0)), (2, .int x2), (3, .int x3)] [] := by
  unfold f_X6_status_b182 at h
  obtain ⟨y_182, e_182, h⟩ := bs h
  refine r_iinc C (v := y_182) (lv' := [(3, .int y_182), (0, .ref ((xG X).1 x0)), (2, .int x2)]) (q := 185) 2 dX6_status_182 rfl (Option.some.inj e_182) (by decide) rfl rfl ?_
  refine r_goto C (tgt := 163) dX6_status_185 (by decide) ?_
  refine r_sub (lv' := [(0, .ref ((xG X).1 x0)), (2, .int x2), (3, .int y_182)]) [1, 2, 0] rfl ?_
  exact hk_163 _ _ _ hx0 h

set_option maxHeartbeats 4000000 in
set_option maxRecDepth 100000 in
theorem w_X6_status_b163 {X : CX} (C : Cok X RX6 cX6_status 4 3 63) {σ : St} {r : Int32} (hr : RtI X cX6_status r σ) (k_163 : Nat → Int32 → Int32 → Option Int32) (hk_163 : ∀ (x0 : Nat) (x2 : Int32) (x3 : Int32), kd x0 = 7 → k_163 x0 x2 x3 = some r → V X σ 163 [(0, .ref ((xG X).1 x0)), (2, .int x2), (3, .int x3)] []) (x0 : Nat) (x2 : Int32) (x3 : Int32) (hx0 : kd x0 = 7) (h : f_X6_status_b163 σ k_163 x0 x2 x3 = some r) : V X σ 163 [(0, .ref ((xG X).1 x0)), (2, .int x2), (3, .int x3)] [] := by
  unfold f_X6_status_b163 at h
  refine r_iload_n C 2 (q := 164) dX6_status_163 rfl rfl ?_
  refine r_bipush C (v := 8) (q := 166) dX6_status_164 (by decide) rfl ?_
  refine r_icmp_ge C (tgt := 188) (q := 169) dX6_status_166 (by decide) rfl (fun c_166 => ?_) (fun c_166 => ?_)
  · replace h := (if_pos c_166).symm.trans h
    refine r_iload_n C 1 (q := 189) dX6_status_188 rfl rfl ?_
    obtain rfl := Option.some.inj h
    exact hr _ _ dX6_status_189
  · replace h := (if_neg c_166).symm.trans h
    refine r_aload_n C 0 (q := 170) dX6_status_169 rfl rfl ?_
    refine g_X6_0 C (q := 173) dX6_status_170 q_989 hx0 rfl ?_
    refine r_iload_n C 2 (q := 174) dX6_status_173 rfl rfl ?_
    obtain ⟨v_174, e_174, h⟩ := bs h
    refine r_iald C (q := 175) dX6_status_174 (kf_X6_0 hx0) e_174 rfl ?_
    refine r_iconst C (v := (-1)) (q := 176) dX6_status_175 (by decide) rfl ?_
    refine r_icmp_eq C (tgt := 182) (q := 179) dX6_status_176 (by decide) rfl (fun c_176 => ?_) (fun c_176 => ?_)
    · replace h := (if_pos c_176).symm.trans h
      exact w_X6_status_b182 C hr _ hk_163 _ _ _ hx0 h
    · replace h := (if_neg c_176).symm.trans h
      obtain ⟨y_179, e_179, h⟩ := bs h
      refine r_iinc C (v := y_179) (lv' := [(2, .int y_179), (0, .ref ((xG X).1 x0)), (3, .int x3)]) (q := 182) 1 dX6_status_179 rfl (Option.some.inj e_179) (by decide) rfl rfl ?_
      refine r_sub (lv' := [(0, .ref ((xG X).1 x0)), (2, .int y_179), (3, .int x3)]) [1, 0, 2] rfl ?_
      exact w_X6_status_b182 C hr _ hk_163 _ _ _ hx0 h

theorem w_X6_status_l163 {X : CX} (C : Cok X RX6 cX6_status 4 3 63) {σ : St} {r : Int32} (hr : RtI X cX6_status r σ) (n : Nat) : ∀ (x0 : Nat) (x2 : Int32) (x3 : Int32), kd x0 = 7 → f_X6_status_l163 σ n x0 x2 x3 = some r → V X σ 163 [(0, .ref ((xG X).1 x0)), (2, .int x2), (3, .int x3)] [] := by
  induction n with
  | zero =>
    intro x0 x2 x3 hx0 h
    exact nomatch (show (none : Option Int32) = some r from h)
  | succ n ih =>
    intro x0 x2 x3 hx0 h
    exact w_X6_status_b163 C hr _ ih x0 x2 x3 hx0 h
set_option maxHeartbeats 4000000 in
set_option maxRecDepth 100000 in
theorem w_X6_status_b124 {X : CX} (C : Cok X RX6 cX6_status 4 3 63) {σ : St} {r : Int32} (hr : RtI X cX6_status r σ) (k_124 : Nat → Int32 → Int32 → Option Int32) (hk_124 : ∀ (x0 : Nat) (x2 : Int32) (x3 : Int32), kd x0 = 7 → k_124 x0 x2 x3 = some r → V X σ 124 [(0, .ref ((xG X).1 x0)), (2, .int x2), (3, .int x3)] []) (x0 : Nat) (x2 : Int32) (x3 : Int32) (hx0 : kd x0 = 7) (h : f_X6_status_b124 σ k_124 x0 x2 x3 = some r) : V X σ 124 [(0, .ref ((xG X).1 x0)), (2, .int x2), (3, .int x3)] [] := by
  unfold f_X6_status_b124 at h
  refine r_iload_n C 2 (q := 125) dX6_status_124 rfl rfl ?_
  refine r_aload_n C 0 (q := 126) dX6_status_125 rfl rfl ?_
  refine g_X6_11 C (q := 129) dX6_status_126 q_1000 hx0 rfl ?_
  refine r_icmp_ge C (tgt := 149) (q := 132) dX6_status_129 (by decide) rfl (fun c_129 => ?_) (fun c_129 => ?_)
  · replace h := (if_pos c_129).symm.trans h
    refine r_iload_n C 1 (q := 150) dX6_status_149 rfl rfl ?_
    obtain rfl := Option.some.inj h
    exact hr _ _ dX6_status_150
  · replace h := (if_neg c_129).symm.trans h
    refine r_iload_n C 1 (q := 133) dX6_status_132 rfl rfl ?_
    refine r_aload_n C 0 (q := 134) dX6_status_133 rfl rfl ?_
    refine g_X6_12 C (q := 137) dX6_status_134 q_1001 hx0 rfl ?_
    refine r_iload_n C 2 (q := 138) dX6_status_137 rfl rfl ?_
    obtain ⟨v_138, e_138, h⟩ := bs h
    refine r_iald C (q := 139) dX6_status_138 (kf_X6_12 hx0) e_138 rfl ?_
    refine r_iload_n C 2 (q := 140) dX6_status_139 rfl rfl ?_
    refine r_ishl C (q := 141) dX6_status_140 rfl ?_
    refine r_ior C (q := 142) dX6_status_141 rfl ?_
    obtain ⟨y_142, e_142, h⟩ := bs h
    refine r_topI (Option.some.inj e_142) ?_
    refine r_istore_n C (lv' := [(2, .int y_142), (0, .ref ((xG X).1 x0)), (3, .int x3)]) (q := 143) dX6_status_142 rfl (by decide) rfl rfl ?_
    obtain ⟨y_143, e_143, h⟩ := bs h
    refine r_iinc C (v := y_143) (lv' := [(3, .int y_143), (2, .int y_142), (0, .ref ((xG X).1 x0))]) (q := 146) 2 dX6_status_143 rfl (Option.some.inj e_143) (by decide) rfl rfl ?_
    refine r_goto C (tgt := 124) dX6_status_146 (by decide) ?_
    refine r_sub (lv' := [(0, .ref ((xG X).1 x0)), (2, .int y_142), (3, .int y_143)]) [2, 1, 0] rfl ?_
    exact hk_124 _ _ _ hx0 h

theorem w_X6_status_l124 {X : CX} (C : Cok X RX6 cX6_status 4 3 63) {σ : St} {r : Int32} (hr : RtI X cX6_status r σ) (n : Nat) : ∀ (x0 : Nat) (x2 : Int32) (x3 : Int32), kd x0 = 7 → f_X6_status_l124 σ n x0 x2 x3 = some r → V X σ 124 [(0, .ref ((xG X).1 x0)), (2, .int x2), (3, .int x3)] [] := by
  induction n with
  | zero =>
    intro x0 x2 x3 hx0 h
    exact nomatch (show (none : Option Int32) = some r from h)
  | succ n ih =>
    intro x0 x2 x3 hx0 h
    exact w_X6_status_b124 C hr _ ih x0 x2 x3 hx0 h
set_option maxHeartbeats 4000000 in
set_option maxRecDepth 100000 in
theorem w_X6_status_b114 {X : CX} (C : Cok X RX6 cX6_status 4 3 63) {σ : St} {r : Int32} (hr : RtI X cX6_status r σ) (k_92 : Nat → Int32 → Int32 → Option Int32) (hk_92 : ∀ (x0 : Nat) (x2 : Int32) (x3 : Int32), kd x0 = 7 → k_92 x0 x2 x3 = some r → V X σ 92 [(0, .ref ((xG X).1 x0)), (2, .int x2), (3, .int x3)] []) (x0 : Nat) (x2 : Int32) (x3 : Int32) (hx0 : kd x0 = 7) (h : f_X6_status_b114 σ k_92 x0 x2 x3 = some r) : V X σ 114 [(0, .ref ((xG X).1 x0)), (2, .int x2), (3, .int x3)] [] := by
  unfold f_X6_status_b114 at h
  obtain ⟨y_114, e_114, h⟩ := bs h
  refine r_iinc C (v := y_114) (lv' := [(3, .int y_114), (0, .ref ((xG X).1 x0)), (2, .int x2)]) (q := 117) 2 dX6_status_114 rfl (Option.some.inj e_114) (by decide) rfl rfl ?_
  refine r_goto C (tgt := 92) dX6_status_117 (by decide) ?_
  refine r_sub (lv' := [(0, .ref ((xG X).1 x0)), (2, .int x2), (3, .int y_114)]) [1, 2, 0] rfl ?_
  exact hk_92 _ _ _ hx0 h

set_option maxHeartbeats 4000000 in
set_option maxRecDepth 100000 in
theorem w_X6_status_b92 {X : CX} (C : Cok X RX6 cX6_status 4 3 63) {σ : St} {r : Int32} (hr : RtI X cX6_status r σ) (k_92 : Nat → Int32 → Int32 → Option Int32) (hk_92 : ∀ (x0 : Nat) (x2 : Int32) (x3 : Int32), kd x0 = 7 → k_92 x0 x2 x3 = some r → V X σ 92 [(0, .ref ((xG X).1 x0)), (2, .int x2), (3, .int x3)] []) (x0 : Nat) (x2 : Int32) (x3 : Int32) (hx0 : kd x0 = 7) (h : f_X6_status_b92 σ k_92 x0 x2 x3 = some r) : V X σ 92 [(0, .ref ((xG X).1 x0)), (2, .int x2), (3, .int x3)] [] := by
  unfold f_X6_status_b92 at h
  refine r_iload_n C 2 (q := 93) dX6_status_92 rfl rfl ?_
  refine r_aload_n C 0 (q := 94) dX6_status_93 rfl rfl ?_
  refine g_X6_6 C (q := 97) dX6_status_94 q_995 hx0 rfl ?_
  refine r_icmp_ge C (tgt := 120) (q := 100) dX6_status_97 (by decide) rfl (fun c_97 => ?_) (fun c_97 => ?_)
  · replace h := (if_pos c_97).symm.trans h
    refine r_iload_n C 1 (q := 121) dX6_status_120 rfl rfl ?_
    obtain rfl := Option.some.inj h
    exact hr _ _ dX6_status_121
  · replace h := (if_neg c_97).symm.trans h
    refine r_aload_n C 0 (q := 101) dX6_status_100 rfl rfl ?_
    refine r_iload_n C 2 (q := 102) dX6_status_101 rfl rfl ?_
    obtain ⟨v_102, e_102, h⟩ := bs h
    refine r_callV C (ci := 6) (st := []) (st2 := [.int v_102]) (q := 105) (m_X6_broken (xG X) (xl X) hx0 e_102) ok_X6_broken hx0 rfl ⟨_, rfl⟩ q_1150 rfl ⟨Nat.le_of_ble_eq_true rfl, Nat.le_of_ble_eq_true rfl⟩ rfl rfl (Nat.le_of_ble_eq_true rfl) dX6_status_102 rfl (fun hp_102 => ?_)
    refine r_if_eq C (tgt := 114) (q := 108) dX6_status_105 (by decide) rfl (fun c_105 => ?_) (fun c_105 => ?_)
    · replace h := (if_pos c_105).symm.trans h
      exact w_X6_status_b114 C hr _ hk_92 _ _ _ hx0 h
    · replace h := (if_neg c_105).symm.trans h
      refine r_iload_n C 1 (q := 109) dX6_status_108 rfl rfl ?_
      refine r_iconst C (v := 1) (q := 110) dX6_status_109 (by decide) rfl ?_
      refine r_iload_n C 2 (q := 111) dX6_status_110 rfl rfl ?_
      refine r_ishl C (q := 112) dX6_status_111 rfl ?_
      refine r_ior C (q := 113) dX6_status_112 rfl ?_
      obtain ⟨y_113, e_113, h⟩ := bs h
      refine r_topI (Option.some.inj e_113) ?_
      refine r_istore_n C (lv' := [(2, .int y_113), (0, .ref ((xG X).1 x0)), (3, .int x3)]) (q := 114) dX6_status_113 rfl (by decide) rfl rfl ?_
      refine r_sub (lv' := [(0, .ref ((xG X).1 x0)), (2, .int y_113), (3, .int x3)]) [1, 0, 2] rfl ?_
      exact w_X6_status_b114 C hr _ hk_92 _ _ _ hx0 h

theorem w_X6_status_l92 {X : CX} (C : Cok X RX6 cX6_status 4 3 63) {σ : St} {r : Int32} (hr : RtI X cX6_status r σ) (n : Nat) : ∀ (x0 : Nat) (x2 : Int32) (x3 : Int32), kd x0 = 7 → f_X6_status_l92 σ n x0 x2 x3 = some r → V X σ 92 [(0, .ref ((xG X).1 x0)), (2, .int x2), (3, .int x3)] [] := by
  induction n with
  | zero =>
    intro x0 x2 x3 hx0 h
    exact nomatch (show (none : Option Int32) = some r from h)
  | succ n ih =>
    intro x0 x2 x3 hx0 h
    exact w_X6_status_b92 C hr _ ih x0 x2 x3 hx0 h
set_option maxHeartbeats 4000000 in
set_option maxRecDepth 100000 in
theorem w_X6_status_b0 {X : CX} (C : Cok X RX6 cX6_status 4 3 63) {σ : St} {r : Int32} (hr : RtI X cX6_status r σ) (x0 : Nat) (x1 : Int32) (hx0 : kd x0 = 7) (h : f_X6_status σ x0 x1 = some r) : V X σ 0 [(0, .ref ((xG X).1 x0)), (1, .int x1)] [] := by
  unfold f_X6_status at h
  refine r_iconst C (v := 0) (q := 1) dX6_status_0 (by decide) rfl ?_
  refine r_istore_n C (lv' := [(2, .int 0), (0, .ref ((xG X).1 x0)), (1, .int x1)]) (q := 2) dX6_status_1 rfl (by decide) rfl rfl ?_
  refine r_iload_n C 2 (q := 3) dX6_status_2 rfl rfl ?_
  by_cases c_3_0 : x1 = 0
  · replace h := (if_pos c_3_0).symm.trans h
    refine r_tabIn C (tgt := 60) (off := 57) dX6_status_3 (by rw [c_3_0]; decide) (by rw [c_3_0]; decide) (by rw [c_3_0]; rfl) (by decide) ?_
    refine r_aload_n C 1 (q := 61) dX6_status_60 rfl rfl ?_
    refine g_X6_6 C (q := 64) dX6_status_61 q_995 hx0 rfl ?_
    obtain rfl := Option.some.inj h
    exact hr _ _ dX6_status_64
  · replace h := (if_neg c_3_0).symm.trans h
    by_cases c_3_1 : x1 = 1
    · replace h := (if_pos c_3_1).symm.trans h
      refine r_tabIn C (tgt := 65) (off := 62) dX6_status_3 (by rw [c_3_1]; decide) (by rw [c_3_1]; decide) (by rw [c_3_1]; rfl) (by decide) ?_
      refine r_aload_n C 1 (q := 66) dX6_status_65 rfl rfl ?_
      refine g_X6_11 C (q := 69) dX6_status_66 q_1000 hx0 rfl ?_
      obtain rfl := Option.some.inj h
      exact hr _ _ dX6_status_69
    · replace h := (if_neg c_3_1).symm.trans h
      by_cases c_3_2 : x1 = 2
      · replace h := (if_pos c_3_2).symm.trans h
        refine r_tabIn C (tgt := 70) (off := 67) dX6_status_3 (by rw [c_3_2]; decide) (by rw [c_3_2]; decide) (by rw [c_3_2]; rfl) (by decide) ?_
        refine r_aload_n C 1 (q := 71) dX6_status_70 rfl rfl ?_
        refine g_X6_3 C (q := 74) dX6_status_71 q_992 hx0 rfl ?_
        obtain rfl := Option.some.inj h
        exact hr _ _ dX6_status_74
      · replace h := (if_neg c_3_2).symm.trans h
        by_cases c_3_3 : x1 = 3
        · replace h := (if_pos c_3_3).symm.trans h
          refine r_tabIn C (tgt := 75) (off := 72) dX6_status_3 (by rw [c_3_3]; decide) (by rw [c_3_3]; decide) (by rw [c_3_3]; rfl) (by decide) ?_
          refine r_aload_n C 1 (q := 76) dX6_status_75 rfl rfl ?_
          refine g_X6_4 C (q := 79) dX6_status_76 q_993 hx0 rfl ?_
          obtain rfl := Option.some.inj h
          exact hr _ _ dX6_status_79
        · replace h := (if_neg c_3_3).symm.trans h
          by_cases c_3_4 : x1 = 4
          · replace h := (if_pos c_3_4).symm.trans h
            refine r_tabIn C (tgt := 80) (off := 77) dX6_status_3 (by rw [c_3_4]; decide) (by rw [c_3_4]; decide) (by rw [c_3_4]; rfl) (by decide) ?_
            refine r_aload_n C 1 (q := 81) dX6_status_80 rfl rfl ?_
            refine g_X6_5 C (q := 84) dX6_status_81 q_994 hx0 rfl ?_
            obtain rfl := Option.some.inj h
            exact hr _ _ dX6_status_84
          · replace h := (if_neg c_3_4).symm.trans h
            by_cases c_3_5 : x1 = 5
            · replace h := (if_pos c_3_5).symm.trans h
              refine r_tabIn C (tgt := 85) (off := 82) dX6_status_3 (by rw [c_3_5]; decide) (by rw [c_3_5]; decide) (by rw [c_3_5]; rfl) (by decide) ?_
              refine r_aload_n C 1 (q := 86) dX6_status_85 rfl rfl ?_
              refine g_X6_14 C (q := 89) dX6_status_86 q_1003 hx0 rfl ?_
              obtain rfl := Option.some.inj h
              exact hr _ _ dX6_status_89
            · replace h := (if_neg c_3_5).symm.trans h
              by_cases c_3_6 : x1 = 6
              · replace h := (if_pos c_3_6).symm.trans h
                refine r_tabIn C (tgt := 90) (off := 87) dX6_status_3 (by rw [c_3_6]; decide) (by rw [c_3_6]; decide) (by rw [c_3_6]; rfl) (by decide) ?_
                refine r_iconst C (v := 0) (q := 91) dX6_status_90 (by decide) rfl ?_
                refine r_istore_n C (lv' := [(3, .int 0), (2, .int 0), (0, .ref ((xG X).1 x0)), (1, .int x1)]) (q := 92) dX6_status_91 rfl (by decide) rfl rfl ?_
                refine r_sub (lv' := [(0, .ref ((xG X).1 x0)), (2, .int 0), (3, .int 0)]) [2, 1, 0] rfl ?_
                exact w_X6_status_l92 C hr  FU _ _ _ hx0 h
              · replace h := (if_neg c_3_6).symm.trans h
                by_cases c_3_7 : x1 = 7
                · replace h := (if_pos c_3_7).symm.trans h
                  refine r_tabIn C (tgt := 122) (off := 119) dX6_status_3 (by rw [c_3_7]; decide) (by rw [c_3_7]; decide) (by rw [c_3_7]; rfl) (by decide) ?_
                  refine r_iconst C (v := 0) (q := 123) dX6_status_122 (by decide) rfl ?_
                  refine r_istore_n C (lv' := [(3, .int 0), (2, .int 0), (0, .ref ((xG X).1 x0)), (1, .int x1)]) (q := 124) dX6_status_123 rfl (by decide) rfl rfl ?_
                  refine r_sub (lv' := [(0, .ref ((xG X).1 x0)), (2, .int 0), (3, .int 0)]) [2, 1, 0] rfl ?_
                  exact w_X6_status_l124 C hr  FU _ _ _ hx0 h
                · replace h := (if_neg c_3_7).symm.trans h
                  by_cases c_3_8 : x1 = 8
                  · replace h := (if_pos c_3_8).symm.trans h
                    refine r_tabIn C (tgt := 151) (off := 148) dX6_status_3 (by rw [c_3_8]; decide) (by rw [c_3_8]; decide) (by rw [c_3_8]; rfl) (by decide) ?_
                    refine r_aload_n C 1 (q := 152) dX6_status_151 rfl rfl ?_
                    refine g_X6_16 C (q := 155) dX6_status_152 q_1005 hx0 rfl ?_
                    obtain rfl := Option.some.inj h
                    exact hr _ _ dX6_status_155
                  · replace h := (if_neg c_3_8).symm.trans h
                    by_cases c_3_9 : x1 = 9
                    · replace h := (if_pos c_3_9).symm.trans h
                      refine r_tabIn C (tgt := 156) (off := 153) dX6_status_3 (by rw [c_3_9]; decide) (by rw [c_3_9]; decide) (by rw [c_3_9]; rfl) (by decide) ?_
                      refine r_aload_n C 1 (q := 157) dX6_status_156 rfl rfl ?_
                      refine g_X6_15 C (q := 160) dX6_status_157 q_1004 hx0 rfl ?_
                      obtain rfl := Option.some.inj h
                      exact hr _ _ dX6_status_160
                    · replace h := (if_neg c_3_9).symm.trans h
                      by_cases c_3_10 : x1 = 10
                      · replace h := (if_pos c_3_10).symm.trans h
                        refine r_tabIn C (tgt := 161) (off := 158) dX6_status_3 (by rw [c_3_10]; decide) (by rw [c_3_10]; decide) (by rw [c_3_10]; rfl) (by decide) ?_
                        refine r_iconst C (v := 0) (q := 162) dX6_status_161 (by decide) rfl ?_
                        refine r_istore_n C (lv' := [(3, .int 0), (2, .int 0), (0, .ref ((xG X).1 x0)), (1, .int x1)]) (q := 163) dX6_status_162 rfl (by decide) rfl rfl ?_
                        refine r_sub (lv' := [(0, .ref ((xG X).1 x0)), (2, .int 0), (3, .int 0)]) [2, 1, 0] rfl ?_
                        exact w_X6_status_l163 C hr  FU _ _ _ hx0 h
                      · replace h := (if_neg c_3_10).symm.trans h
                        refine r_tabOut C (tgt := 190) dX6_status_3 (tab_out (lt_s (lt_s (lt_s (lt_s (lt_s (lt_s (lt_s (lt_s (lt_s (lt_s (lt_s lt_0 c_3_0) c_3_1) c_3_2) c_3_3) c_3_4) c_3_5) c_3_6) c_3_7) c_3_8) c_3_9) c_3_10) (by decide)) (by decide) ?_
                        refine r_iload_n C 2 (q := 191) dX6_status_190 rfl rfl ?_
                        refine r_bipush C (v := 12) (q := 193) dX6_status_191 (by decide) rfl ?_
                        refine r_bipush C (v := 16) (q := 195) dX6_status_193 (by decide) rfl ?_
                        obtain ⟨v_195, e_195, h⟩ := bs h
                        refine r_callS C (st := []) (st2 := [.int v_195]) (q := 198) (m_X6_within (xG X) (xl X) e_195) ok_X6_within q_1081 rfl ⟨Nat.le_of_ble_eq_true rfl, Nat.le_of_ble_eq_true rfl⟩ rfl rfl (Nat.le_of_ble_eq_true rfl) dX6_status_195 rfl (fun hp_195 => ?_)
                        refine r_if_eq C (tgt := 213) (q := 201) dX6_status_198 (by decide) rfl (fun c_198 => ?_) (fun c_198 => ?_)
                        · replace h := (if_pos c_198).symm.trans h
                          refine r_iconst C (v := (-1)) (q := 214) dX6_status_213 (by decide) rfl ?_
                          obtain rfl := Option.some.inj h
                          exact hr _ _ dX6_status_214
                        · replace h := (if_neg c_198).symm.trans h
                          refine r_aload_n C 1 (q := 202) dX6_status_201 rfl rfl ?_
                          refine g_X6_22 C (q := 205) dX6_status_202 q_1011 hx0 rfl ?_
                          refine r_iload_n C 2 (q := 206) dX6_status_205 rfl rfl ?_
                          refine r_bipush C (v := 10) (q := 208) dX6_status_206 (by decide) rfl ?_
                          refine r_isub C (q := 209) dX6_status_208 rfl ?_
                          obtain ⟨v_209, e_209, h⟩ := bs h
                          refine r_iald C (q := 210) dX6_status_209 (kf_X6_22 hx0) e_209 rfl ?_
                          refine r_goto C (tgt := 214) dX6_status_210 (by decide) ?_
                          obtain rfl := Option.some.inj h
                          exact hr _ _ dX6_status_214

theorem m_X6_status (G : Gm) (l : Launch) {σ : St} {x0 : Nat} {x1 : Int32} (hx0 : kd x0 = 7) {r : Int32} (h : f_X6_status σ x0 x1 = some r) : Ctr G l yX6_status cX6_status 4 (some .int) 3 63 [.ref (G.1 x0), .int x1] σ (some (.int r)) True σ := by
  refine Ctr.i (by decide) (Nat.le_of_ble_eq_true rfl) ?_
  intro X hG C hr
  subst hG
  exact w_X6_status_b0 C hr _ _ hx0 h
