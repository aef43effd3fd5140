-- X6_list
set_option maxHeartbeats 4000000 in
set_option maxRecDepth 100000 in
theorem w_X6_list_b18 {X : CX} (C : Cok X RX6 cX6_list 4 3 65) {σ' : St} {r : Int32} (hr : RtI X cX6_list r σ') (k_18 : St → Nat → Int32 → Int32 → Option (Int32 × St)) (hk_18 : ∀ (σ : St) (x0 : Nat) (x1 : Int32) (x3 : Int32), kd x0 = 7 → k_18 σ x0 x1 x3 = some (r, σ') → V X σ 18 [(0, .ref ((xG X).1 x0)), (1, .int x1), (3, .int x3)] []) (σ : St) (x0 : Nat) (x1 : Int32) (x3 : Int32) (hx0 : kd x0 = 7) (h : f_X6_list_b18 k_18 σ x0 x1 x3 = some (r, σ')) : V X σ 18 [(0, .ref ((xG X).1 x0)), (1, .int x1), (3, .int x3)] [] := by
  unfold f_X6_list_b18 at h
  refine r_iload_n C 2 (q := 19) dX6_list_18 rfl rfl ?_
  refine r_aload_n C 0 (q := 20) dX6_list_19 rfl rfl ?_
  refine g_X6_6 C (q := 23) dX6_list_20 q_995 hx0 rfl ?_
  refine r_icmp_ge C (tgt := 44) (q := 26) dX6_list_23 (by decide) rfl (fun c_23 => ?_) (fun c_23 => ?_)
  · replace h := (if_pos c_23).symm.trans h
    refine r_aload_n C 0 (q := 45) dX6_list_44 rfl rfl ?_
    refine g_X6_6 C (q := 48) dX6_list_45 q_995 hx0 rfl ?_
    obtain ⟨rfl, rfl⟩ := Prod.mk.inj (Option.some.inj h)
    exact hr _ _ dX6_list_48
  · replace h := (if_neg c_23).symm.trans h
    refine r_aload_n C 0 (q := 27) dX6_list_26 rfl rfl ?_
    refine g_X6_9 C (q := 30) dX6_list_27 q_998 hx0 rfl ?_
    refine r_iload_n C 2 (q := 31) dX6_list_30 rfl rfl ?_
    refine r_aload_n C 0 (q := 32) dX6_list_31 rfl rfl ?_
    refine r_iload_n C 1 (q := 33) dX6_list_32 rfl rfl ?_
    refine r_iload_n C 2 (q := 34) dX6_list_33 rfl rfl ?_
    obtain ⟨v_34, e_34, h⟩ := bs h
    refine r_callV C (ci := 6) (st := [.int x3, .ref ((xG X).1 99)]) (st2 := [.int v_34, .int x3, .ref ((xG X).1 99)]) (q := 37) (m_X6_listed (xG X) (xl X) hx0 e_34) ok_X6_listed hx0 rfl ⟨_, rfl⟩ q_1300 rfl ⟨Nat.le_of_ble_eq_true rfl, Nat.le_of_ble_eq_true rfl⟩ rfl rfl (Nat.le_of_ble_eq_true rfl) dX6_list_34 rfl (fun hp_34 => ?_)
    obtain ⟨s_37, e_37, h⟩ := bs h
    refine r_iast C (q := 38) dX6_list_37 (kf_X6_9 hx0) e_37 rfl ?_
    obtain ⟨y_38, e_38, h⟩ := bs h
    refine r_iinc C (v := y_38) (lv' := [(3, .int y_38), (0, .ref ((xG X).1 x0)), (1, .int x1)]) (q := 41) 2 dX6_list_38 rfl (Option.some.inj e_38) (by decide) rfl rfl ?_
    refine r_goto C (tgt := 18) dX6_list_41 (by decide) ?_
    refine r_sub (lv' := [(0, .ref ((xG X).1 x0)), (1, .int x1), (3, .int y_38)]) [1, 2, 0] rfl ?_
    exact hk_18 _ _ _ _ hx0 h

theorem w_X6_list_l18 {X : CX} (C : Cok X RX6 cX6_list 4 3 65) {σ' : St} {r : Int32} (hr : RtI X cX6_list r σ') (n : Nat) : ∀ (σ : St) (x0 : Nat) (x1 : Int32) (x3 : Int32), kd x0 = 7 → f_X6_list_l18 n σ x0 x1 x3 = some (r, σ') → V X σ 18 [(0, .ref ((xG X).1 x0)), (1, .int x1), (3, .int x3)] [] := by
  induction n with
  | zero =>
    intro σ x0 x1 x3 hx0 h
    exact nomatch (show (none : Option (Int32 × St)) = some (r, σ') from h)
  | succ n ih =>
    intro σ x0 x1 x3 hx0 h
    exact w_X6_list_b18 C hr _ ih σ x0 x1 x3 hx0 h
set_option maxHeartbeats 4000000 in
set_option maxRecDepth 100000 in
theorem w_X6_list_b0 {X : CX} (C : Cok X RX6 cX6_list 4 3 65) {σ' : St} {r : Int32} (hr : RtI X cX6_list r σ') (σ : St) (x0 : Nat) (x1 : Int32) (hx0 : kd x0 = 7) (h : f_X6_list σ x0 x1 = some (r, σ')) : V X σ 0 [(0, .ref ((xG X).1 x0)), (1, .int x1)] [] := by
  unfold f_X6_list at h
  refine r_aload_n C 0 (q := 1) dX6_list_0 rfl rfl ?_
  refine r_iload_n C 1 (q := 2) dX6_list_1 rfl rfl ?_
  obtain ⟨v_2, e_2, h⟩ := bs h
  refine r_callV C (ci := 6) (st := []) (st2 := [.int v_2]) (q := 5) (m_X6_noList (xG X) (xl X) hx0 e_2) ok_X6_noList hx0 rfl ⟨_, rfl⟩ q_1296 rfl ⟨Nat.le_of_ble_eq_true rfl, Nat.le_of_ble_eq_true rfl⟩ rfl rfl (Nat.le_of_ble_eq_true rfl) dX6_list_2 rfl (fun hp_2 => ?_)
  refine r_istore_n C (lv' := [(2, .int v_2), (0, .ref ((xG X).1 x0)), (1, .int x1)]) (q := 6) dX6_list_5 rfl (by decide) rfl rfl ?_
  refine r_iload_n C 0 (q := 7) dX6_list_6 rfl rfl ?_
  refine r_if_ge C (tgt := 16) (q := 10) dX6_list_7 (by decide) rfl (fun c_7 => ?_) (fun c_7 => ?_)
  · replace h := (if_pos c_7).symm.trans h
    refine r_iconst C (v := 0) (q := 17) dX6_list_16 (by decide) rfl ?_
    refine r_istore_n C (lv' := [(3, .int 0), (2, .int v_2), (0, .ref ((xG X).1 x0)), (1, .int x1)]) (q := 18) dX6_list_17 rfl (by decide) rfl rfl ?_
    refine r_sub (lv' := [(0, .ref ((xG X).1 x0)), (1, .int x1), (3, .int 0)]) [2, 3, 0] rfl ?_
    exact w_X6_list_l18 C hr  FU _ _ _ _ hx0 h
  · replace h := (if_neg c_7).symm.trans h
    refine r_aload_n C 1 (q := 11) dX6_list_10 rfl rfl ?_
    refine r_iload_n C 0 (q := 12) dX6_list_11 rfl rfl ?_
    obtain ⟨v_12, s_12, e_12, h⟩ := bs2 h
    refine r_callV C (ci := 6) (st := []) (st2 := [.int v_12]) (q := 15) (m_X6_no (xG X) (xl X) hx0 e_12) ok_X6_no hx0 rfl ⟨_, rfl⟩ q_1084 rfl ⟨Nat.le_of_ble_eq_true rfl, Nat.le_of_ble_eq_true rfl⟩ rfl rfl (Nat.le_of_ble_eq_true rfl) dX6_list_12 rfl (fun hp_12 => ?_)
    obtain ⟨rfl, rfl⟩ := Prod.mk.inj (Option.some.inj h)
    exact hr _ _ dX6_list_15

theorem m_X6_list (G : Gm) (l : Launch) {σ σ' : St} {x0 : Nat} {x1 : Int32} (hx0 : kd x0 = 7) {r : Int32} (h : f_X6_list σ x0 x1 = some (r, σ')) : Ctr G l yX6_list cX6_list 4 (some .int) 3 65 [.ref (G.1 x0), .int x1] σ (some (.int r)) True σ' := by
  refine Ctr.i (by decide) (Nat.le_of_ble_eq_true rfl) ?_
  intro X hG C hr
  subst hG
  exact w_X6_list_b0 C hr _ _ _ hx0 h
-- X6_rows
set_option maxHeartbeats 4000000 in
set_option maxRecDepth 100000 in
theorem w_X6_rows_b4 {X : CX} (C : Cok X RX6 cX6_rows 3 0 0) {σ : St} {r : Int32} (hr : RtI X cX6_rows r σ) (k_4 : Nat → Int32 → Int32 → Option Int32) (hk_4 : ∀ (x0 : Nat) (x1 : Int32) (x2 : Int32), kd x0 = 7 → k_4 x0 x1 x2 = some r → V X σ 4 [(0, .ref ((xG X).1 x0)), (1, .int x1), (2, .int x2)] []) (x0 : Nat) (x1 : Int32) (x2 : Int32) (hx0 : kd x0 = 7) (h : f_X6_rows_b4 σ k_4 x0 x1 x2 = some r) : V X σ 4 [(0, .ref ((xG X).1 x0)), (1, .int x1), (2, .int x2)] [] := by
  unfold f_X6_rows_b4 at h
  refine r_iload_n C 2 (q := 5) dX6_rows_4 rfl rfl ?_
  refine r_aload_n C 0 (q := 6) dX6_rows_5 rfl rfl ?_
  refine g_X6_3 C (q := 9) dX6_rows_6 q_992 hx0 rfl ?_
  refine r_icmp_ge C (tgt := 27) (q := 12) dX6_rows_9 (by decide) rfl (fun c_9 => ?_) (fun c_9 => ?_)
  · replace h := (if_pos c_9).symm.trans h
    refine r_iload_n C 1 (q := 28) dX6_rows_27 rfl rfl ?_
    obtain rfl := Option.some.inj h
    exact hr _ _ dX6_rows_28
  · replace h := (if_neg c_9).symm.trans h
    refine r_iload_n C 1 (q := 13) dX6_rows_12 rfl rfl ?_
    refine r_aload_n C 0 (q := 14) dX6_rows_13 rfl rfl ?_
    refine g_X6_4 C (q := 17) dX6_rows_14 q_993 hx0 rfl ?_
    refine r_iconst C (v := 1) (q := 18) dX6_rows_17 (by decide) rfl ?_
    refine r_iadd C (q := 19) dX6_rows_18 rfl ?_
    refine r_imul C (q := 20) dX6_rows_19 rfl ?_
    obtain ⟨y_20, e_20, h⟩ := bs h
    refine r_topI (Option.some.inj e_20) ?_
    refine r_istore_n C (lv' := [(1, .int y_20), (0, .ref ((xG X).1 x0)), (2, .int x2)]) (q := 21) dX6_rows_20 rfl (by decide) rfl rfl ?_
    obtain ⟨y_21, e_21, h⟩ := bs h
    refine r_iinc C (v := y_21) (lv' := [(2, .int y_21), (1, .int y_20), (0, .ref ((xG X).1 x0))]) (q := 24) 2 dX6_rows_21 rfl (Option.some.inj e_21) (by decide) rfl rfl ?_
    refine r_goto C (tgt := 4) dX6_rows_24 (by decide) ?_
    refine r_sub (lv' := [(0, .ref ((xG X).1 x0)), (1, .int y_20), (2, .int y_21)]) [2, 1, 0] rfl ?_
    exact hk_4 _ _ _ hx0 h

theorem w_X6_rows_l4 {X : CX} (C : Cok X RX6 cX6_rows 3 0 0) {σ : St} {r : Int32} (hr : RtI X cX6_rows r σ) (n : Nat) : ∀ (x0 : Nat) (x1 : Int32) (x2 : Int32), kd x0 = 7 → f_X6_rows_l4 σ n x0 x1 x2 = some r → V X σ 4 [(0, .ref ((xG X).1 x0)), (1, .int x1), (2, .int x2)] [] := by
  induction n with
  | zero =>
    intro x0 x1 x2 hx0 h
    exact nomatch (show (none : Option Int32) = some r from h)
  | succ n ih =>
    intro x0 x1 x2 hx0 h
    exact w_X6_rows_b4 C hr _ ih x0 x1 x2 hx0 h
set_option maxHeartbeats 4000000 in
set_option maxRecDepth 100000 in
theorem w_X6_rows_b0 {X : CX} (C : Cok X RX6 cX6_rows 3 0 0) {σ : St} {r : Int32} (hr : RtI X cX6_rows r σ) (x0 : Nat) (hx0 : kd x0 = 7) (h : f_X6_rows σ x0 = some r) : V X σ 0 [(0, .ref ((xG X).1 x0))] [] := by
  unfold f_X6_rows at h
  refine r_iconst C (v := 1) (q := 1) dX6_rows_0 (by decide) rfl ?_
  refine r_istore_n C (lv' := [(1, .int 1), (0, .ref ((xG X).1 x0))]) (q := 2) dX6_rows_1 rfl (by decide) rfl rfl ?_
  refine r_iconst C (v := 0) (q := 3) dX6_rows_2 (by decide) rfl ?_
  refine r_istore_n C (lv' := [(2, .int 0), (1, .int 1), (0, .ref ((xG X).1 x0))]) (q := 4) dX6_rows_3 rfl (by decide) rfl rfl ?_
  refine r_sub (lv' := [(0, .ref ((xG X).1 x0)), (1, .int 1), (2, .int 0)]) [2, 1, 0] rfl ?_
  exact w_X6_rows_l4 C hr  FU _ _ _ hx0 h

theorem m_X6_rows (G : Gm) (l : Launch) {σ : St} {x0 : Nat} (hx0 : kd x0 = 7) {r : Int32} (h : f_X6_rows σ x0 = some r) : Ctr G l yX6_rows cX6_rows 3 (some .int) 0 0 [.ref (G.1 x0)] σ (some (.int r)) True σ := by
  refine Ctr.i (by decide) (Nat.le_of_ble_eq_true rfl) ?_
  intro X hG C hr
  subst hG
  exact w_X6_rows_b0 C hr _ hx0 h
-- X6_of
set_option maxHeartbeats 4000000 in
set_option maxRecDepth 100000 in
theorem w_X6_of_b7 {X : CX} (C : Cok X RX6 cX6_of 4 0 0) {σ : St} {r : Int32} (hr : RtI X cX6_of r σ) (k_7 : Nat → Int32 → Int32 → Int32 → Option Int32) (hk_7 : ∀ (x0 : Nat) (x1 : Int32) (x2 : Int32) (x3 : Int32), kd x0 = 7 → k_7 x0 x1 x2 x3 = some r → V X σ 7 [(0, .ref ((xG X).1 x0)), (1, .int x1), (2, .int x2), (3, .int x3)] []) (x0 : Nat) (x1 : Int32) (x2 : Int32) (x3 : Int32) (hx0 : kd x0 = 7) (h : f_X6_of_b7 σ k_7 x0 x1 x2 x3 = some r) : V X σ 7 [(0, .ref ((xG X).1 x0)), (1, .int x1), (2, .int x2), (3, .int x3)] [] := by
  unfold f_X6_of_b7 at h
  refine r_iload_n C 3 (q := 8) dX6_of_7 rfl rfl ?_
  refine r_iload_n C 2 (q := 9) dX6_of_8 rfl rfl ?_
  refine r_icmp_le C (tgt := 27) (q := 12) dX6_of_9 (by decide) rfl (fun c_9 => ?_) (fun c_9 => ?_)
  · replace h := (if_pos c_9).symm.trans h
    refine r_iload_n C 1 (q := 28) dX6_of_27 rfl rfl ?_
    refine r_aload_n C 0 (q := 29) dX6_of_28 rfl rfl ?_
    refine g_X6_4 C (q := 32) dX6_of_29 q_993 hx0 rfl ?_
    refine r_iconst C (v := 1) (q := 33) dX6_of_32 (by decide) rfl ?_
    refine r_iadd C (q := 34) dX6_of_33 rfl ?_
    obtain ⟨v_34, e_34, h⟩ := bs h
    refine r_irem C (q := 35) dX6_of_34 e_34 rfl ?_
    obtain rfl := Option.some.inj h
    exact hr _ _ dX6_of_35
  · replace h := (if_neg c_9).symm.trans h
    refine r_iload_n C 1 (q := 13) dX6_of_12 rfl rfl ?_
    refine r_aload_n C 0 (q := 14) dX6_of_13 rfl rfl ?_
    refine g_X6_4 C (q := 17) dX6_of_14 q_993 hx0 rfl ?_
    refine r_iconst C (v := 1) (q := 18) dX6_of_17 (by decide) rfl ?_
    refine r_iadd C (q := 19) dX6_of_18 rfl ?_
    obtain ⟨v_19, e_19, h⟩ := bs h
    refine r_idiv C (q := 20) dX6_of_19 e_19 rfl ?_
    refine r_istore_n C (lv' := [(1, .int v_19), (0, .ref ((xG X).1 x0)), (2, .int x2), (3, .int x3)]) (q := 21) dX6_of_20 rfl (by decide) rfl rfl ?_
    obtain ⟨y_21, e_21, h⟩ := bs h
    refine r_iinc C (v := y_21) (lv' := [(3, .int y_21), (1, .int v_19), (0, .ref ((xG X).1 x0)), (2, .int x2)]) (q := 24) 3 dX6_of_21 rfl (Option.some.inj e_21) (by decide) rfl rfl ?_
    refine r_goto C (tgt := 7) dX6_of_24 (by decide) ?_
    refine r_sub (lv' := [(0, .ref ((xG X).1 x0)), (1, .int v_19), (2, .int x2), (3, .int y_21)]) [2, 1, 3, 0] rfl ?_
    exact hk_7 _ _ _ _ hx0 h

theorem w_X6_of_l7 {X : CX} (C : Cok X RX6 cX6_of 4 0 0) {σ : St} {r : Int32} (hr : RtI X cX6_of r σ) (n : Nat) : ∀ (x0 : Nat) (x1 : Int32) (x2 : Int32) (x3 : Int32), kd x0 = 7 → f_X6_of_l7 σ n x0 x1 x2 x3 = some r → V X σ 7 [(0, .ref ((xG X).1 x0)), (1, .int x1), (2, .int x2), (3, .int x3)] [] := by
  induction n with
  | zero =>
    intro x0 x1 x2 x3 hx0 h
    exact nomatch (show (none : Option Int32) = some r from h)
  | succ n ih =>
    intro x0 x1 x2 x3 hx0 h
    exact w_X6_of_b7 C hr _ ih x0 x1 x2 x3 hx0 h
set_option maxHeartbeats 4000000 in
set_option maxRecDepth 100000 in
theorem w_X6_of_b0 {X : CX} (C : Cok X RX6 cX6_of 4 0 0) {σ : St} {r : Int32} (hr : RtI X cX6_of r σ) (x0 : Nat) (x1 : Int32) (x2 : Int32) (hx0 : kd x0 = 7) (h : f_X6_of σ x0 x1 x2 = some r) : V X σ 0 [(0, .ref ((xG X).1 x0)), (1, .int x1), (2, .int x2)] [] := by
  unfold f_X6_of at h
  refine r_aload_n C 0 (q := 1) dX6_of_0 rfl rfl ?_
  refine g_X6_3 C (q := 4) dX6_of_1 q_992 hx0 rfl ?_
  refine r_iconst C (v := 1) (q := 5) dX6_of_4 (by decide) rfl ?_
  refine r_isub C (q := 6) dX6_of_5 rfl ?_
  obtain ⟨y_6, e_6, h⟩ := bs h
  refine r_topI (Option.some.inj e_6) ?_
  refine r_istore_n C (lv' := [(3, .int y_6), (0, .ref ((xG X).1 x0)), (1, .int x1), (2, .int x2)]) (q := 7) dX6_of_6 rfl (by decide) rfl rfl ?_
  refine r_sub (lv' := [(0, .ref ((xG X).1 x0)), (1, .int x1), (2, .int x2), (3, .int y_6)]) [1, 2, 3, 0] rfl ?_
  exact w_X6_of_l7 C hr  FU _ _ _ _ hx0 h

theorem m_X6_of (G : Gm) (l : Launch) {σ : St} {x0 : Nat} {x1 : Int32} {x2 : Int32} (hx0 : kd x0 = 7) {r : Int32} (h : f_X6_of σ x0 x1 x2 = some r) : Ctr G l yX6_of cX6_of 4 (some .int) 0 0 [.ref (G.1 x0), .int x1, .int x2] σ (some (.int r)) True σ := by
  refine Ctr.i (by decide) (Nat.le_of_ble_eq_true rfl) ?_
  intro X hG C hr
  subst hG
  exact w_X6_of_b0 C hr _ _ _ hx0 h
-- X6_sum
set_option maxHeartbeats 4000000 in
set_option maxRecDepth 100000 in
theorem w_X6_sum_b4 {X : CX} (C : Cok X RX6 cX6_sum 4 1 23) {σ : St} {r : Int32} (hr : RtI X cX6_sum r σ) (k_4 : Nat → Int32 → Int32 → Int32 → Option Int32) (hk_4 : ∀ (x0 : Nat) (x1 : Int32) (x2 : Int32) (x3 : Int32), kd x0 = 7 → k_4 x0 x1 x2 x3 = some r → V X σ 4 [(0, .ref ((xG X).1 x0)), (1, .int x1), (2, .int x2), (3, .int x3)] []) (x0 : Nat) (x1 : Int32) (x2 : Int32) (x3 : Int32) (hx0 : kd x0 = 7) (h : f_X6_sum_b4 σ k_4 x0 x1 x2 x3 = some r) : V X σ 4 [(0, .ref ((xG X).1 x0)), (1, .int x1), (2, .int x2), (3, .int x3)] [] := by
  unfold f_X6_sum_b4 at h
  refine r_iload_n C 3 (q := 5) dX6_sum_4 rfl rfl ?_
  refine r_aload_n C 0 (q := 6) dX6_sum_5 rfl rfl ?_
  refine g_X6_3 C (q := 9) dX6_sum_6 q_992 hx0 rfl ?_
  refine r_icmp_ge C (tgt := 27) (q := 12) dX6_sum_9 (by decide) rfl (fun c_9 => ?_) (fun c_9 => ?_)
  · replace h := (if_pos c_9).symm.trans h
    refine r_iload_n C 2 (q := 28) dX6_sum_27 rfl rfl ?_
    obtain rfl := Option.some.inj h
    exact hr _ _ dX6_sum_28
  · replace h := (if_neg c_9).symm.trans h
    refine r_iload_n C 2 (q := 13) dX6_sum_12 rfl rfl ?_
    refine r_aload_n C 0 (q := 14) dX6_sum_13 rfl rfl ?_
    refine r_iload_n C 1 (q := 15) dX6_sum_14 rfl rfl ?_
    refine r_iload_n C 3 (q := 16) dX6_sum_15 rfl rfl ?_
    obtain ⟨v_16, e_16, h⟩ := bs h
    refine r_callV C (ci := 6) (st := [.int x2]) (st2 := [.int v_16, .int x2]) (q := 19) (m_X6_of (xG X) (xl X) hx0 e_16) ok_X6_of hx0 rfl ⟨_, rfl⟩ q_1324 rfl ⟨Nat.le_of_ble_eq_true rfl, Nat.le_of_ble_eq_true rfl⟩ rfl rfl (Nat.le_of_ble_eq_true rfl) dX6_sum_16 rfl (fun hp_16 => ?_)
    refine r_iadd C (q := 20) dX6_sum_19 rfl ?_
    obtain ⟨y_20, e_20, h⟩ := bs h
    refine r_topI (Option.some.inj e_20) ?_
    refine r_istore_n C (lv' := [(2, .int y_20), (0, .ref ((xG X).1 x0)), (1, .int x1), (3, .int x3)]) (q := 21) dX6_sum_20 rfl (by decide) rfl rfl ?_
    obtain ⟨y_21, e_21, h⟩ := bs h
    refine r_iinc C (v := y_21) (lv' := [(3, .int y_21), (2, .int y_20), (0, .ref ((xG X).1 x0)), (1, .int x1)]) (q := 24) 3 dX6_sum_21 rfl (Option.some.inj e_21) (by decide) rfl rfl ?_
    refine r_goto C (tgt := 4) dX6_sum_24 (by decide) ?_
    refine r_sub (lv' := [(0, .ref ((xG X).1 x0)), (1, .int x1), (2, .int y_20), (3, .int y_21)]) [2, 3, 1, 0] rfl ?_
    exact hk_4 _ _ _ _ hx0 h

theorem w_X6_sum_l4 {X : CX} (C : Cok X RX6 cX6_sum 4 1 23) {σ : St} {r : Int32} (hr : RtI X cX6_sum r σ) (n : Nat) : ∀ (x0 : Nat) (x1 : Int32) (x2 : Int32) (x3 : Int32), kd x0 = 7 → f_X6_sum_l4 σ n x0 x1 x2 x3 = some r → V X σ 4 [(0, .ref ((xG X).1 x0)), (1, .int x1), (2, .int x2), (3, .int x3)] [] := by
  induction n with
  | zero =>
    intro x0 x1 x2 x3 hx0 h
    exact nomatch (show (none : Option Int32) = some r from h)
  | succ n ih =>
    intro x0 x1 x2 x3 hx0 h
    exact w_X6_sum_b4 C hr _ ih x0 x1 x2 x3 hx0 h
set_option maxHeartbeats 4000000 in
set_option maxRecDepth 100000 in
theorem w_X6_sum_b0 {X : CX} (C : Cok X RX6 cX6_sum 4 1 23) {σ : St} {r : Int32} (hr : RtI X cX6_sum r σ) (x0 : Nat) (x1 : Int32) (hx0 : kd x0 = 7) (h : f_X6_sum σ x0 x1 = some r) : V X σ 0 [(0, .ref ((xG X).1 x0)), (1, .int x1)] [] := by
  unfold f_X6_sum at h
  refine r_iconst C (v := 0) (q := 1) dX6_sum_0 (by decide) rfl ?_
  refine r_istore_n C (lv' := [(2, .int 0), (0, .ref ((xG X).1 x0)), (1, .int x1)]) (q := 2) dX6_sum_1 rfl (by decide) rfl rfl ?_
  refine r_iconst C (v := 0) (q := 3) dX6_sum_2 (by decide) rfl ?_
  refine r_istore_n C (lv' := [(3, .int 0), (2, .int 0), (0, .ref ((xG X).1 x0)), (1, .int x1)]) (q := 4) dX6_sum_3 rfl (by decide) rfl rfl ?_
  refine r_sub (lv' := [(0, .ref ((xG X).1 x0)), (1, .int x1), (2, .int 0), (3, .int 0)]) [2, 3, 1, 0] rfl ?_
  exact w_X6_sum_l4 C hr  FU _ _ _ _ hx0 h

theorem m_X6_sum (G : Gm) (l : Launch) {σ : St} {x0 : Nat} {x1 : Int32} (hx0 : kd x0 = 7) {r : Int32} (h : f_X6_sum σ x0 x1 = some r) : Ctr G l yX6_sum cX6_sum 4 (some .int) 1 23 [.ref (G.1 x0), .int x1] σ (some (.int r)) True σ := by
  refine Ctr.i (by decide) (Nat.le_of_ble_eq_true rfl) ?_
  intro X hG C hr
  subst hG
  exact w_X6_sum_b0 C hr _ _ hx0 h
-- X6_rowFits
set_option maxHeartbeats 4000000 in
set_option maxRecDepth 100000 in
theorem w_X6_rowFits_b2 {X : CX} (C : Cok X RX6 cX6_rowFits 4 1 23) {σ : St} {r : Int32} (hr : RtZ X cX6_rowFits r σ) (k_2 : Nat → Int32 → Int32 → Int32 → Option Int32) (hk_2 : ∀ (x0 : Nat) (x1 : Int32) (x2 : Int32) (x3 : Int32), kd x0 = 7 → k_2 x0 x1 x2 x3 = some r → V X σ 2 [(0, .ref ((xG X).1 x0)), (1, .int x1), (2, .int x2), (3, .int x3)] []) (x0 : Nat) (x1 : Int32) (x2 : Int32) (x3 : Int32) (hx0 : kd x0 = 7) (h : f_X6_rowFits_b2 σ k_2 x0 x1 x2 x3 = some r) : V X σ 2 [(0, .ref ((xG X).1 x0)), (1, .int x1), (2, .int x2), (3, .int x3)] [] := by
  unfold f_X6_rowFits_b2 at h
  refine r_iload_n C 3 (q := 3) dX6_rowFits_2 rfl rfl ?_
  refine r_aload_n C 0 (q := 4) dX6_rowFits_3 rfl rfl ?_
  refine g_X6_3 C (q := 7) dX6_rowFits_4 q_992 hx0 rfl ?_
  refine r_icmp_ge C (tgt := 37) (q := 10) dX6_rowFits_7 (by decide) rfl (fun c_7 => ?_) (fun c_7 => ?_)
  · replace h := (if_pos c_7).symm.trans h
    refine r_iconst C (v := 1) (q := 38) dX6_rowFits_37 (by decide) rfl ?_
    obtain rfl := Option.some.inj h
    exact hr _ _ dX6_rowFits_38 (Or.inr rfl)
  · replace h := (if_neg c_7).symm.trans h
    refine r_aload_n C 0 (q := 11) dX6_rowFits_10 rfl rfl ?_
    refine r_iload_n C 1 (q := 12) dX6_rowFits_11 rfl rfl ?_
    refine r_iload_n C 3 (q := 13) dX6_rowFits_12 rfl rfl ?_
    obtain ⟨v_13, e_13, h⟩ := bs h
    refine r_callV C (ci := 6) (st := []) (st2 := [.int v_13]) (q := 16) (m_X6_of (xG X) (xl X) hx0 e_13) ok_X6_of hx0 rfl ⟨_, rfl⟩ q_1324 rfl ⟨Nat.le_of_ble_eq_true rfl, Nat.le_of_ble_eq_true rfl⟩ rfl rfl (Nat.le_of_ble_eq_true rfl) dX6_rowFits_13 rfl (fun hp_13 => ?_)
    refine r_aload_n C 0 (q := 17) dX6_rowFits_16 rfl rfl ?_
    refine g_X6_13 C (q := 20) dX6_rowFits_17 q_1002 hx0 rfl ?_
    refine r_iconst C (v := 5) (q := 21) dX6_rowFits_20 (by decide) rfl ?_
    refine r_iload_n C 2 (q := 22) dX6_rowFits_21 rfl rfl ?_
    refine r_imul C (q := 23) dX6_rowFits_22 rfl ?_
    refine r_iload_n C 3 (q := 24) dX6_rowFits_23 rfl rfl ?_
    refine r_iadd C (q := 25) dX6_rowFits_24 rfl ?_
    obtain ⟨v_25, e_25, h⟩ := bs h
    refine r_iald C (q := 26) dX6_rowFits_25 (kf_X6_13 hx0) e_25 rfl ?_
    refine r_icmp_ge C (tgt := 31) (q := 29) dX6_rowFits_26 (by decide) rfl (fun c_26 => ?_) (fun c_26 => ?_)
    · replace h := (if_pos c_26).symm.trans h
      obtain ⟨y_31, e_31, h⟩ := bs h
      refine r_iinc C (v := y_31) (lv' := [(3, .int y_31), (0, .ref ((xG X).1 x0)), (1, .int x1), (2, .int x2)]) (q := 34) 3 dX6_rowFits_31 rfl (Option.some.inj e_31) (by decide) rfl rfl ?_
      refine r_goto C (tgt := 2) dX6_rowFits_34 (by decide) ?_
      refine r_sub (lv' := [(0, .ref ((xG X).1 x0)), (1, .int x1), (2, .int x2), (3, .int y_31)]) [1, 2, 3, 0] rfl ?_
      exact hk_2 _ _ _ _ hx0 h
    · replace h := (if_neg c_26).symm.trans h
      refine r_iconst C (v := 0) (q := 30) dX6_rowFits_29 (by decide) rfl ?_
      obtain rfl := Option.some.inj h
      exact hr _ _ dX6_rowFits_30 (Or.inl rfl)

theorem w_X6_rowFits_l2 {X : CX} (C : Cok X RX6 cX6_rowFits 4 1 23) {σ : St} {r : Int32} (hr : RtZ X cX6_rowFits r σ) (n : Nat) : ∀ (x0 : Nat) (x1 : Int32) (x2 : Int32) (x3 : Int32), kd x0 = 7 → f_X6_rowFits_l2 σ n x0 x1 x2 x3 = some r → V X σ 2 [(0, .ref ((xG X).1 x0)), (1, .int x1), (2, .int x2), (3, .int x3)] [] := by
  induction n with
  | zero =>
    intro x0 x1 x2 x3 hx0 h
    exact nomatch (show (none : Option Int32) = some r from h)
  | succ n ih =>
    intro x0 x1 x2 x3 hx0 h
    exact w_X6_rowFits_b2 C hr _ ih x0 x1 x2 x3 hx0 h
set_option maxHeartbeats 4000000 in
set_option maxRecDepth 100000 in
theorem w_X6_rowFits_b0 {X : CX} (C : Cok X RX6 cX6_rowFits 4 1 23) {σ : St} {r : Int32} (hr : RtZ X cX6_rowFits r σ) (x0 : Nat) (x1 : Int32) (x2 : Int32) (hx0 : kd x0 = 7) (h : f_X6_rowFits σ x0 x1 x2 = some r) : V X σ 0 [(0, .ref ((xG X).1 x0)), (1, .int x1), (2, .int x2)] [] := by
  unfold f_X6_rowFits at h
  refine r_iconst C (v := 0) (q := 1) dX6_rowFits_0 (by decide) rfl ?_
  refine r_istore_n C (lv' := [(3, .int 0), (0, .ref ((xG X).1 x0)), (1, .int x1), (2, .int x2)]) (q := 2) dX6_rowFits_1 rfl (by decide) rfl rfl ?_
  refine r_sub (lv' := [(0, .ref ((xG X).1 x0)), (1, .int x1), (2, .int x2), (3, .int 0)]) [1, 2, 3, 0] rfl ?_
  exact w_X6_rowFits_l2 C hr  FU _ _ _ _ hx0 h

theorem m_X6_rowFits (G : Gm) (l : Launch) {σ : St} {x0 : Nat} {x1 : Int32} {x2 : Int32} (hx0 : kd x0 = 7) {r : Int32} (h : f_X6_rowFits σ x0 x1 x2 = some r) : Ctr G l yX6_rowFits cX6_rowFits 4 (some .boolean) 1 23 [.ref (G.1 x0), .int x1, .int x2] σ (some (.int r)) (r = 0 ∨ r = 1) σ := by
  refine Ctr.z (by decide) (Nat.le_of_ble_eq_true rfl) ?_
  intro X hG C hr
  subst hG
  exact w_X6_rowFits_b0 C hr _ _ _ hx0 h
-- X6_fitsJust
set_option maxHeartbeats 4000000 in
set_option maxRecDepth 100000 in
theorem w_X6_fitsJust_b2 {X : CX} (C : Cok X RX6 cX6_fitsJust 4 2 46) {σ : St} {r : Int32} (hr : RtZ X cX6_fitsJust r σ) (k_2 : Nat → Int32 → Int32 → Int32 → Option Int32) (hk_2 : ∀ (x0 : Nat) (x1 : Int32) (x2 : Int32) (x3 : Int32), kd x0 = 7 → k_2 x0 x1 x2 x3 = some r → V X σ 2 [(0, .ref ((xG X).1 x0)), (1, .int x1), (2, .int x2), (3, .int x3)] []) (x0 : Nat) (x1 : Int32) (x2 : Int32) (x3 : Int32) (hx0 : kd x0 = 7) (h : f_X6_fitsJust_b2 σ k_2 x0 x1 x2 x3 = some r) : V X σ 2 [(0, .ref ((xG X).1 x0)), (1, .int x1), (2, .int x2), (3, .int x3)] [] := by
  unfold f_X6_fitsJust_b2 at h
  refine r_iload_n C 3 (q := 3) dX6_fitsJust_2 rfl rfl ?_
  refine r_aload_n C 0 (q := 4) dX6_fitsJust_3 rfl rfl ?_
  refine g_X6_11 C (q := 7) dX6_fitsJust_4 q_1000 hx0 rfl ?_
  refine r_icmp_ge C (tgt := 32) (q := 10) dX6_fitsJust_7 (by decide) rfl (fun c_7 => ?_) (fun c_7 => ?_)
  · replace h := (if_pos c_7).symm.trans h
    refine r_iconst C (v := 1) (q := 33) dX6_fitsJust_32 (by decide) rfl ?_
    obtain rfl := Option.some.inj h
    exact hr _ _ dX6_fitsJust_33 (Or.inr rfl)
  · replace h := (if_neg c_7).symm.trans h
    refine r_aload_n C 0 (q := 11) dX6_fitsJust_10 rfl rfl ?_
    refine r_iload_n C 1 (q := 12) dX6_fitsJust_11 rfl rfl ?_
    refine r_iload_n C 3 (q := 13) dX6_fitsJust_12 rfl rfl ?_
    obtain ⟨v_13, e_13, h⟩ := bs h
    refine r_callV C (ci := 6) (st := []) (st2 := [.int v_13]) (q := 16) (m_X6_rowFits (xG X) (xl X) hx0 e_13) ok_X6_rowFits hx0 rfl ⟨_, rfl⟩ q_1320 rfl ⟨Nat.le_of_ble_eq_true rfl, Nat.le_of_ble_eq_true rfl⟩ rfl rfl (Nat.le_of_ble_eq_true rfl) dX6_fitsJust_13 rfl (fun hp_13 => ?_)
    refine r_iload_n C 2 (q := 17) dX6_fitsJust_16 rfl rfl ?_
    refine r_iload_n C 3 (q := 18) dX6_fitsJust_17 rfl rfl ?_
    obtain ⟨v_18, e_18, h⟩ := bs h
    refine r_callS C (st := [.int v_13]) (st2 := [.int v_18, .int v_13]) (q := 21) (m_X6_has (xG X) (xl X) e_18) ok_X6_has q_1199 rfl ⟨Nat.le_of_ble_eq_true rfl, Nat.le_of_ble_eq_true rfl⟩ rfl rfl (Nat.le_of_ble_eq_true rfl) dX6_fitsJust_18 rfl (fun hp_18 => ?_)
    refine r_icmp_eq C (tgt := 26) (q := 24) dX6_fitsJust_21 (by decide) rfl (fun c_21 => ?_) (fun c_21 => ?_)
    · replace h := (if_pos c_21).symm.trans h
      obtain ⟨y_26, e_26, h⟩ := bs h
      refine r_iinc C (v := y_26) (lv' := [(3, .int y_26), (0, .ref ((xG X).1 x0)), (1, .int x1), (2, .int x2)]) (q := 29) 3 dX6_fitsJust_26 rfl (Option.some.inj e_26) (by decide) rfl rfl ?_
      refine r_goto C (tgt := 2) dX6_fitsJust_29 (by decide) ?_
      refine r_sub (lv' := [(0, .ref ((xG X).1 x0)), (1, .int x1), (2, .int x2), (3, .int y_26)]) [1, 2, 3, 0] rfl ?_
      exact hk_2 _ _ _ _ hx0 h
    · replace h := (if_neg c_21).symm.trans h
      refine r_iconst C (v := 0) (q := 25) dX6_fitsJust_24 (by decide) rfl ?_
      obtain rfl := Option.some.inj h
      exact hr _ _ dX6_fitsJust_25 (Or.inl rfl)

theorem w_X6_fitsJust_l2 {X : CX} (C : Cok X RX6 cX6_fitsJust 4 2 46) {σ : St} {r : Int32} (hr : RtZ X cX6_fitsJust r σ) (n : Nat) : ∀ (x0 : Nat) (x1 : Int32) (x2 : Int32) (x3 : Int32), kd x0 = 7 → f_X6_fitsJust_l2 σ n x0 x1 x2 x3 = some r → V X σ 2 [(0, .ref ((xG X).1 x0)), (1, .int x1), (2, .int x2), (3, .int x3)] [] := by
  induction n with
  | zero =>
    intro x0 x1 x2 x3 hx0 h
    exact nomatch (show (none : Option Int32) = some r from h)
  | succ n ih =>
    intro x0 x1 x2 x3 hx0 h
    exact w_X6_fitsJust_b2 C hr _ ih x0 x1 x2 x3 hx0 h
set_option maxHeartbeats 4000000 in
set_option maxRecDepth 100000 in
theorem w_X6_fitsJust_b0 {X : CX} (C : Cok X RX6 cX6_fitsJust 4 2 46) {σ : St} {r : Int32} (hr : RtZ X cX6_fitsJust r σ) (x0 : Nat) (x1 : Int32) (x2 : Int32) (hx0 : kd x0 = 7) (h : f_X6_fitsJust σ x0 x1 x2 = some r) : V X σ 0 [(0, .ref ((xG X).1 x0)), (1, .int x1), (2, .int x2)] [] := by
  unfold f_X6_fitsJust at h
  refine r_iconst C (v := 0) (q := 1) dX6_fitsJust_0 (by decide) rfl ?_
  refine r_istore_n C (lv' := [(3, .int 0), (0, .ref ((xG X).1 x0)), (1, .int x1), (2, .int x2)]) (q := 2) dX6_fitsJust_1 rfl (by decide) rfl rfl ?_
  refine r_sub (lv' := [(0, .ref ((xG X).1 x0)), (1, .int x1), (2, .int x2), (3, .int 0)]) [1, 2, 3, 0] rfl ?_
  exact w_X6_fitsJust_l2 C hr  FU _ _ _ _ hx0 h

theorem m_X6_fitsJust (G : Gm) (l : Launch) {σ : St} {x0 : Nat} {x1 : Int32} {x2 : Int32} (hx0 : kd x0 = 7) {r : Int32} (h : f_X6_fitsJust σ x0 x1 x2 = some r) : Ctr G l yX6_fitsJust cX6_fitsJust 4 (some .boolean) 2 46 [.ref (G.1 x0), .int x1, .int x2] σ (some (.int r)) (r = 0 ∨ r = 1) σ := by
  refine Ctr.z (by decide) (Nat.le_of_ble_eq_true rfl) ?_
  intro X hG C hr
  subst hG
  exact w_X6_fitsJust_b0 C hr _ _ _ hx0 h
-- X6_cuts
set_option maxHeartbeats 4000000 in
set_option maxRecDepth 100000 in
theorem w_X6_cuts_b81 {X : CX} (C : Cok X RX6 cX6_cuts 5 3 69) {σ' : St} {r : Int32} (hr : RtI X cX6_cuts r σ') (k_41 : St → Nat → Int32 → Int32 → Int32 → Int32 → Option (Int32 × St)) (hk_41 : ∀ (σ : St) (x0 : Nat) (x1 : Int32) (x2 : Int32) (x3 : Int32) (x4 : Int32), kd x0 = 7 → k_41 σ x0 x1 x2 x3 x4 = some (r, σ') → V X σ 41 [(0, .ref ((xG X).1 x0)), (1, .int x1), (2, .int x2), (3, .int x3), (4, .int x4)] []) (σ : St) (x0 : Nat) (x1 : Int32) (x2 : Int32) (x3 : Int32) (x4 : Int32) (hx0 : kd x0 = 7) (h : f_X6_cuts_b81 k_41 σ x0 x1 x2 x3 x4 = some (r, σ')) : V X σ 81 [(0, .ref ((xG X).1 x0)), (1, .int x1), (2, .int x2), (3, .int x3), (4, .int x4)] [] := by
  unfold f_X6_cuts_b81 at h
  obtain ⟨y_81, e_81, h⟩ := bs h
  refine r_iinc C (v := y_81) (lv' := [(4, .int y_81), (0, .ref ((xG X).1 x0)), (1, .int x1), (2, .int x2), (3, .int x3)]) (q := 84) 4 dX6_cuts_81 rfl (Option.some.inj e_81) (by decide) rfl rfl ?_
  refine r_goto C (tgt := 41) dX6_cuts_84 (by decide) ?_
  refine r_sub (lv' := [(0, .ref ((xG X).1 x0)), (1, .int x1), (2, .int x2), (3, .int x3), (4, .int y_81)]) [1, 2, 3, 4, 0] rfl ?_
  exact hk_41 _ _ _ _ _ _ hx0 h

set_option maxHeartbeats 4000000 in
set_option maxRecDepth 100000 in
theorem w_X6_cuts_b78 {X : CX} (C : Cok X RX6 cX6_cuts 5 3 69) {σ' : St} {r : Int32} (hr : RtI X cX6_cuts r σ') (k_41 : St → Nat → Int32 → Int32 → Int32 → Int32 → Option (Int32 × St)) (hk_41 : ∀ (σ : St) (x0 : Nat) (x1 : Int32) (x2 : Int32) (x3 : Int32) (x4 : Int32), kd x0 = 7 → k_41 σ x0 x1 x2 x3 x4 = some (r, σ') → V X σ 41 [(0, .ref ((xG X).1 x0)), (1, .int x1), (2, .int x2), (3, .int x3), (4, .int x4)] []) (σ : St) (x0 : Nat) (x1 : Int32) (x2 : Int32) (x4 : Int32) (hx0 : kd x0 = 7) (h : f_X6_cuts_b78 k_41 σ x0 x1 x2 x4 = some (r, σ')) : V X σ 78 [(0, .ref ((xG X).1 x0)), (1, .int x1), (2, .int x2), (4, .int x4)] [] := by
  unfold f_X6_cuts_b78 at h
  refine r_iload C 3 (q := 80) dX6_cuts_78 rfl rfl ?_
  refine r_istore_n C (lv' := [(3, .int x4), (0, .ref ((xG X).1 x0)), (1, .int x1), (2, .int x2), (4, .int x4)]) (q := 81) dX6_cuts_80 rfl (by decide) rfl rfl ?_
  refine r_sub (lv' := [(0, .ref ((xG X).1 x0)), (1, .int x1), (2, .int x2), (3, .int x4), (4, .int x4)]) [1, 2, 3, 0, 4] rfl ?_
  exact w_X6_cuts_b81 C hr _ hk_41 _ _ _ _ _ _ hx0 h

set_option maxHeartbeats 4000000 in
set_option maxRecDepth 100000 in
theorem w_X6_cuts_b41 {X : CX} (C : Cok X RX6 cX6_cuts 5 3 69) {σ' : St} {r : Int32} (hr : RtI X cX6_cuts r σ') (k_41 : St → Nat → Int32 → Int32 → Int32 → Int32 → Option (Int32 × St)) (hk_41 : ∀ (σ : St) (x0 : Nat) (x1 : Int32) (x2 : Int32) (x3 : Int32) (x4 : Int32), kd x0 = 7 → k_41 σ x0 x1 x2 x3 x4 = some (r, σ') → V X σ 41 [(0, .ref ((xG X).1 x0)), (1, .int x1), (2, .int x2), (3, .int x3), (4, .int x4)] []) (σ : St) (x0 : Nat) (x1 : Int32) (x2 : Int32) (x3 : Int32) (x4 : Int32) (hx0 : kd x0 = 7) (h : f_X6_cuts_b41 k_41 σ x0 x1 x2 x3 x4 = some (r, σ')) : V X σ 41 [(0, .ref ((xG X).1 x0)), (1, .int x1), (2, .int x2), (3, .int x3), (4, .int x4)] [] := by
  unfold f_X6_cuts_b41 at h
  refine r_iload C 4 (q := 43) dX6_cuts_41 rfl rfl ?_
  refine r_aload_n C 0 (q := 44) dX6_cuts_43 rfl rfl ?_
  obtain ⟨v_44, e_44, h⟩ := bs h
  refine r_callV C (ci := 6) (st := [.int x4]) (st2 := [.int v_44, .int x4]) (q := 47) (m_X6_rows (xG X) (xl X) hx0 e_44) ok_X6_rows hx0 rfl ⟨_, rfl⟩ q_1312 rfl ⟨Nat.le_of_ble_eq_true rfl, Nat.le_of_ble_eq_true rfl⟩ rfl rfl (Nat.le_of_ble_eq_true rfl) dX6_cuts_44 rfl (fun hp_44 => ?_)
  refine r_icmp_ge C (tgt := 87) (q := 50) dX6_cuts_47 (by decide) rfl (fun c_47 => ?_) (fun c_47 => ?_)
  · replace h := (if_pos c_47).symm.trans h
    refine r_iload_n C 3 (q := 88) dX6_cuts_87 rfl rfl ?_
    refine r_if_ge C (tgt := 95) (q := 91) dX6_cuts_88 (by decide) rfl (fun c_88 => ?_) (fun c_88 => ?_)
    · replace h := (if_pos c_88).symm.trans h
      refine r_iload_n C 2 (q := 96) dX6_cuts_95 rfl rfl ?_
      refine r_iconst C (v := (-1)) (q := 97) dX6_cuts_96 (by decide) rfl ?_
      refine r_icmp_ne C (tgt := 108) (q := 100) dX6_cuts_97 (by decide) rfl (fun c_97 => ?_) (fun c_97 => ?_)
      · replace h := (if_neg c_97).symm.trans h
        refine r_aload_n C 0 (q := 109) dX6_cuts_108 rfl rfl ?_
        refine r_iload_n C 3 (q := 110) dX6_cuts_109 rfl rfl ?_
        refine r_iload_n C 2 (q := 111) dX6_cuts_110 rfl rfl ?_
        obtain ⟨v_111, e_111, h⟩ := bs h
        refine r_callV C (ci := 6) (st := []) (st2 := [.int v_111]) (q := 114) (m_X6_of (xG X) (xl X) hx0 e_111) ok_X6_of hx0 rfl ⟨_, rfl⟩ q_1324 rfl ⟨Nat.le_of_ble_eq_true rfl, Nat.le_of_ble_eq_true rfl⟩ rfl rfl (Nat.le_of_ble_eq_true rfl) dX6_cuts_111 rfl (fun hp_111 => ?_)
        obtain ⟨rfl, rfl⟩ := Prod.mk.inj (Option.some.inj h)
        exact hr _ _ dX6_cuts_114
      · replace h := (if_pos c_97).symm.trans h
        refine r_aload_n C 0 (q := 101) dX6_cuts_100 rfl rfl ?_
        refine r_iload_n C 3 (q := 102) dX6_cuts_101 rfl rfl ?_
        obtain ⟨v_102, e_102, h⟩ := bs h
        refine r_callV C (ci := 6) (st := []) (st2 := [.int v_102]) (q := 105) (m_X6_sum (xG X) (xl X) hx0 e_102) ok_X6_sum hx0 rfl ⟨_, rfl⟩ q_1328 rfl ⟨Nat.le_of_ble_eq_true rfl, Nat.le_of_ble_eq_true rfl⟩ rfl rfl (Nat.le_of_ble_eq_true rfl) dX6_cuts_102 rfl (fun hp_102 => ?_)
        refine r_goto C (tgt := 114) dX6_cuts_105 (by decide) ?_
        obtain ⟨rfl, rfl⟩ := Prod.mk.inj (Option.some.inj h)
        exact hr _ _ dX6_cuts_114
    · replace h := (if_neg c_88).symm.trans h
      refine r_iconst C (v := (-1)) (q := 92) dX6_cuts_91 (by decide) rfl ?_
      refine r_goto C (tgt := 114) dX6_cuts_92 (by decide) ?_
      obtain ⟨rfl, rfl⟩ := Prod.mk.inj (Option.some.inj h)
      exact hr _ _ dX6_cuts_114
  · replace h := (if_neg c_47).symm.trans h
    refine r_aload_n C 0 (q := 51) dX6_cuts_50 rfl rfl ?_
    refine r_iload C 4 (q := 53) dX6_cuts_51 rfl rfl ?_
    refine r_iload_n C 1 (q := 54) dX6_cuts_53 rfl rfl ?_
    obtain ⟨v_54, e_54, h⟩ := bs h
    refine r_callV C (ci := 6) (st := []) (st2 := [.int v_54]) (q := 57) (m_X6_fitsJust (xG X) (xl X) hx0 e_54) ok_X6_fitsJust hx0 rfl ⟨_, rfl⟩ q_1316 rfl ⟨Nat.le_of_ble_eq_true rfl, Nat.le_of_ble_eq_true rfl⟩ rfl rfl (Nat.le_of_ble_eq_true rfl) dX6_cuts_54 rfl (fun hp_54 => ?_)
    refine r_if_eq C (tgt := 81) (q := 60) dX6_cuts_57 (by decide) rfl (fun c_57 => ?_) (fun c_57 => ?_)
    · replace h := (if_pos c_57).symm.trans h
      exact w_X6_cuts_b81 C hr _ hk_41 _ _ _ _ _ _ hx0 h
    · replace h := (if_neg c_57).symm.trans h
      refine r_iload_n C 3 (q := 61) dX6_cuts_60 rfl rfl ?_
      refine r_if_lt C (tgt := 78) (q := 64) dX6_cuts_61 (by decide) rfl (fun c_61 => ?_) (fun c_61 => ?_)
      · replace h := (if_pos c_61).symm.trans h
        refine r_sub (lv' := [(0, .ref ((xG X).1 x0)), (1, .int x1), (2, .int x2), (4, .int x4)]) [0, 1, 2, 4] rfl ?_
        exact w_X6_cuts_b78 C hr _ hk_41 _ _ _ _ _ hx0 h
      · replace h := (if_neg c_61).symm.trans h
        refine r_aload_n C 0 (q := 65) dX6_cuts_64 rfl rfl ?_
        refine r_iload C 4 (q := 67) dX6_cuts_65 rfl rfl ?_
        obtain ⟨v_67, e_67, h⟩ := bs h
        refine r_callV C (ci := 6) (st := []) (st2 := [.int v_67]) (q := 70) (m_X6_sum (xG X) (xl X) hx0 e_67) ok_X6_sum hx0 rfl ⟨_, rfl⟩ q_1328 rfl ⟨Nat.le_of_ble_eq_true rfl, Nat.le_of_ble_eq_true rfl⟩ rfl rfl (Nat.le_of_ble_eq_true rfl) dX6_cuts_67 rfl (fun hp_67 => ?_)
        refine r_aload_n C 0 (q := 71) dX6_cuts_70 rfl rfl ?_
        refine r_iload_n C 3 (q := 72) dX6_cuts_71 rfl rfl ?_
        obtain ⟨v_72, e_72, h⟩ := bs h
        refine r_callV C (ci := 6) (st := [.int v_67]) (st2 := [.int v_72, .int v_67]) (q := 75) (m_X6_sum (xG X) (xl X) hx0 e_72) ok_X6_sum hx0 rfl ⟨_, rfl⟩ q_1328 rfl ⟨Nat.le_of_ble_eq_true rfl, Nat.le_of_ble_eq_true rfl⟩ rfl rfl (Nat.le_of_ble_eq_true rfl) dX6_cuts_72 rfl (fun hp_72 => ?_)
        refine r_icmp_ge C (tgt := 81) (q := 78) dX6_cuts_75 (by decide) rfl (fun c_75 => ?_) (fun c_75 => ?_)
        · replace h := (if_pos c_75).symm.trans h
          exact w_X6_cuts_b81 C hr _ hk_41 _ _ _ _ _ _ hx0 h
        · replace h := (if_neg c_75).symm.trans h
          refine r_sub (lv' := [(0, .ref ((xG X).1 x0)), (1, .int x1), (2, .int x2), (4, .int x4)]) [0, 1, 2, 4] rfl ?_
          exact w_X6_cuts_b78 C hr _ hk_41 _ _ _ _ _ hx0 h

theorem w_X6_cuts_l41 {X : CX} (C : Cok X RX6 cX6_cuts 5 3 69) {σ' : St} {r : Int32} (hr : RtI X cX6_cuts r σ') (n : Nat) : ∀ (σ : St) (x0 : Nat) (x1 : Int32) (x2 : Int32) (x3 : Int32) (x4 : Int32), kd x0 = 7 → f_X6_cuts_l41 n σ x0 x1 x2 x3 x4 = some (r, σ') → V X σ 41 [(0, .ref ((xG X).1 x0)), (1, .int x1), (2, .int x2), (3, .int x3), (4, .int x4)] [] := by
  induction n with
  | zero =>
    intro σ x0 x1 x2 x3 x4 hx0 h
    exact nomatch (show (none : Option (Int32 × St)) = some (r, σ') from h)
  | succ n ih =>
    intro σ x0 x1 x2 x3 x4 hx0 h
    exact w_X6_cuts_b41 C hr _ ih σ x0 x1 x2 x3 x4 hx0 h
set_option maxHeartbeats 4000000 in
set_option maxRecDepth 100000 in
theorem w_X6_cuts_b36 {X : CX} (C : Cok X RX6 cX6_cuts 5 3 69) {σ' : St} {r : Int32} (hr : RtI X cX6_cuts r σ') (σ : St) (x0 : Nat) (x1 : Int32) (x2 : Int32) (hx0 : kd x0 = 7) (h : f_X6_cuts_b36 σ x0 x1 x2 = some (r, σ')) : V X σ 36 [(0, .ref ((xG X).1 x0)), (1, .int x1), (2, .int x2)] [] := by
  unfold f_X6_cuts_b36 at h
  refine r_iconst C (v := (-1)) (q := 37) dX6_cuts_36 (by decide) rfl ?_
  refine r_istore_n C (lv' := [(3, .int (-1)), (0, .ref ((xG X).1 x0)), (1, .int x1), (2, .int x2)]) (q := 38) dX6_cuts_37 rfl (by decide) rfl rfl ?_
  refine r_iconst C (v := 0) (q := 39) dX6_cuts_38 (by decide) rfl ?_
  refine r_istore C (lv' := [(4, .int 0), (3, .int (-1)), (0, .ref ((xG X).1 x0)), (1, .int x1), (2, .int x2)]) (q := 41) dX6_cuts_39 (by decide) rfl rfl ?_
  refine r_sub (lv' := [(0, .ref ((xG X).1 x0)), (1, .int x1), (2, .int x2), (3, .int (-1)), (4, .int 0)]) [2, 3, 4, 1, 0] rfl ?_
  exact w_X6_cuts_l41 C hr  FU _ _ _ _ _ _ hx0 h

set_option maxHeartbeats 4000000 in
set_option maxRecDepth 100000 in
theorem w_X6_cuts_b29 {X : CX} (C : Cok X RX6 cX6_cuts 5 3 69) {σ' : St} {r : Int32} (hr : RtI X cX6_cuts r σ') (σ : St) (x0 : Nat) (hx0 : kd x0 = 7) (h : f_X6_cuts_b29 σ x0 = some (r, σ')) : V X σ 29 [(0, .ref ((xG X).1 x0))] [] := by
  unfold f_X6_cuts_b29 at h
  refine r_aload_n C 0 (q := 30) dX6_cuts_29 rfl rfl ?_
  refine r_bipush C (v := (-2)) (q := 32) dX6_cuts_30 (by decide) rfl ?_
  obtain ⟨v_32, s_32, e_32, h⟩ := bs2 h
  refine r_callV C (ci := 6) (st := []) (st2 := [.int v_32]) (q := 35) (m_X6_no (xG X) (xl X) hx0 e_32) ok_X6_no hx0 rfl ⟨_, rfl⟩ q_1084 rfl ⟨Nat.le_of_ble_eq_true rfl, Nat.le_of_ble_eq_true rfl⟩ rfl rfl (Nat.le_of_ble_eq_true rfl) dX6_cuts_32 rfl (fun hp_32 => ?_)
  obtain ⟨rfl, rfl⟩ := Prod.mk.inj (Option.some.inj h)
  exact hr _ _ dX6_cuts_35

set_option maxHeartbeats 4000000 in
set_option maxRecDepth 100000 in
theorem w_X6_cuts_b0 {X : CX} (C : Cok X RX6 cX6_cuts 5 3 69) {σ' : St} {r : Int32} (hr : RtI X cX6_cuts r σ') (σ : St) (x0 : Nat) (x1 : Int32) (x2 : Int32) (hx0 : kd x0 = 7) (h : f_X6_cuts σ x0 x1 x2 = some (r, σ')) : V X σ 0 [(0, .ref ((xG X).1 x0)), (1, .int x1), (2, .int x2)] [] := by
  unfold f_X6_cuts at h
  refine r_iload_n C 1 (q := 1) dX6_cuts_0 rfl rfl ?_
  refine r_iconst C (v := 0) (q := 2) dX6_cuts_1 (by decide) rfl ?_
  refine r_iconst C (v := 1) (q := 3) dX6_cuts_2 (by decide) rfl ?_
  refine r_aload_n C 0 (q := 4) dX6_cuts_3 rfl rfl ?_
  refine g_X6_11 C (q := 7) dX6_cuts_4 q_1000 hx0 rfl ?_
  refine r_ishl C (q := 8) dX6_cuts_7 rfl ?_
  refine r_iconst C (v := 1) (q := 9) dX6_cuts_8 (by decide) rfl ?_
  refine r_isub C (q := 10) dX6_cuts_9 rfl ?_
  obtain ⟨v_10, e_10, h⟩ := bs h
  refine r_callS C (st := []) (st2 := [.int v_10]) (q := 13) (m_X6_within (xG X) (xl X) e_10) ok_X6_within q_1081 rfl ⟨Nat.le_of_ble_eq_true rfl, Nat.le_of_ble_eq_true rfl⟩ rfl rfl (Nat.le_of_ble_eq_true rfl) dX6_cuts_10 rfl (fun hp_10 => ?_)
  refine r_if_eq C (tgt := 29) (q := 16) dX6_cuts_13 (by decide) rfl (fun c_13 => ?_) (fun c_13 => ?_)
  · replace h := (if_pos c_13).symm.trans h
    refine r_sub (lv' := [(0, .ref ((xG X).1 x0))]) [0] rfl ?_
    exact w_X6_cuts_b29 C hr  _ _ hx0 h
  · replace h := (if_neg c_13).symm.trans h
    refine r_iload_n C 2 (q := 17) dX6_cuts_16 rfl rfl ?_
    refine r_iconst C (v := (-1)) (q := 18) dX6_cuts_17 (by decide) rfl ?_
    refine r_icmp_eq C (tgt := 36) (q := 21) dX6_cuts_18 (by decide) rfl (fun c_18 => ?_) (fun c_18 => ?_)
    · replace h := (if_pos c_18).symm.trans h
      exact w_X6_cuts_b36 C hr  _ _ _ _ hx0 h
    · replace h := (if_neg c_18).symm.trans h
      refine r_aload_n C 0 (q := 22) dX6_cuts_21 rfl rfl ?_
      refine r_iload_n C 2 (q := 23) dX6_cuts_22 rfl rfl ?_
      obtain ⟨v_23, e_23, h⟩ := bs h
      refine r_callV C (ci := 6) (st := []) (st2 := [.int v_23]) (q := 26) (m_X6_isPlace (xG X) (xl X) hx0 e_23) ok_X6_isPlace hx0 rfl ⟨_, rfl⟩ q_1191 rfl ⟨Nat.le_of_ble_eq_true rfl, Nat.le_of_ble_eq_true rfl⟩ rfl rfl (Nat.le_of_ble_eq_true rfl) dX6_cuts_23 rfl (fun hp_23 => ?_)
      refine r_if_ne C (tgt := 36) (q := 29) dX6_cuts_26 (by decide) rfl (fun c_26 => ?_) (fun c_26 => ?_)
      · replace h := (if_neg c_26).symm.trans h
        exact w_X6_cuts_b36 C hr  _ _ _ _ hx0 h
      · replace h := (if_pos c_26).symm.trans h
        refine r_sub (lv' := [(0, .ref ((xG X).1 x0))]) [0] rfl ?_
        exact w_X6_cuts_b29 C hr  _ _ hx0 h

theorem m_X6_cuts (G : Gm) (l : Launch) {σ σ' : St} {x0 : Nat} {x1 : Int32} {x2 : Int32} (hx0 : kd x0 = 7) {r : Int32} (h : f_X6_cuts σ x0 x1 x2 = some (r, σ')) : Ctr G l yX6_cuts cX6_cuts 5 (some .int) 3 69 [.ref (G.1 x0), .int x1, .int x2] σ (some (.int r)) True σ' := by
  refine Ctr.i (by decide) (Nat.le_of_ble_eq_true rfl) ?_
  intro X hG C hr
  subst hG
  exact w_X6_cuts_b0 C hr _ _ _ _ hx0 h
-- X6_many
set_option maxHeartbeats 4000000 in
set_option maxRecDepth 100000 in
theorem w_X6_many_b47 {X : CX} (C : Cok X RX6 cX6_many 4 3 69) {σ' : St} {r : Int32} (hr : RtI X cX6_many r σ') (k_27 : St → Nat → Int32 → Int32 → Int32 → Option (Int32 × St)) (hk_27 : ∀ (σ : St) (x0 : Nat) (x1 : Int32) (x2 : Int32) (x3 : Int32), kd x0 = 7 → k_27 σ x0 x1 x2 x3 = some (r, σ') → V X σ 27 [(0, .ref ((xG X).1 x0)), (1, .int x1), (2, .int x2), (3, .int x3)] []) (σ : St) (x0 : Nat) (x1 : Int32) (x2 : Int32) (x3 : Int32) (hx0 : kd x0 = 7) (h : f_X6_many_b47 k_27 σ x0 x1 x2 x3 = some (r, σ')) : V X σ 47 [(0, .ref ((xG X).1 x0)), (1, .int x1), (2, .int x2), (3, .int x3)] [] := by
  unfold f_X6_many_b47 at h
  obtain ⟨y_47, e_47, h⟩ := bs h
  refine r_iinc C (v := y_47) (lv' := [(3, .int y_47), (0, .ref ((xG X).1 x0)), (1, .int x1), (2, .int x2)]) (q := 50) 3 dX6_many_47 rfl (Option.some.inj e_47) (by decide) rfl rfl ?_
  refine r_goto C (tgt := 27) dX6_many_50 (by decide) ?_
  refine r_sub (lv' := [(0, .ref ((xG X).1 x0)), (1, .int x1), (2, .int x2), (3, .int y_47)]) [1, 2, 3, 0] rfl ?_
  exact hk_27 _ _ _ _ _ hx0 h

set_option maxHeartbeats 4000000 in
set_option maxRecDepth 100000 in
theorem w_X6_many_b27 {X : CX} (C : Cok X RX6 cX6_many 4 3 69) {σ' : St} {r : Int32} (hr : RtI X cX6_many r σ') (k_27 : St → Nat → Int32 → Int32 → Int32 → Option (Int32 × St)) (hk_27 : ∀ (σ : St) (x0 : Nat) (x1 : Int32) (x2 : Int32) (x3 : Int32), kd x0 = 7 → k_27 σ x0 x1 x2 x3 = some (r, σ') → V X σ 27 [(0, .ref ((xG X).1 x0)), (1, .int x1), (2, .int x2), (3, .int x3)] []) (σ : St) (x0 : Nat) (x1 : Int32) (x2 : Int32) (x3 : Int32) (hx0 : kd x0 = 7) (h : f_X6_many_b27 k_27 σ x0 x1 x2 x3 = some (r, σ')) : V X σ 27 [(0, .ref ((xG X).1 x0)), (1, .int x1), (2, .int x2), (3, .int x3)] [] := by
  unfold f_X6_many_b27 at h
  refine r_iload_n C 3 (q := 28) dX6_many_27 rfl rfl ?_
  refine r_aload_n C 0 (q := 29) dX6_many_28 rfl rfl ?_
  obtain ⟨v_29, e_29, h⟩ := bs h
  refine r_callV C (ci := 6) (st := [.int x3]) (st2 := [.int v_29, .int x3]) (q := 32) (m_X6_rows (xG X) (xl X) hx0 e_29) ok_X6_rows hx0 rfl ⟨_, rfl⟩ q_1312 rfl ⟨Nat.le_of_ble_eq_true rfl, Nat.le_of_ble_eq_true rfl⟩ rfl rfl (Nat.le_of_ble_eq_true rfl) dX6_many_29 rfl (fun hp_29 => ?_)
  refine r_icmp_ge C (tgt := 53) (q := 35) dX6_many_32 (by decide) rfl (fun c_32 => ?_) (fun c_32 => ?_)
  · replace h := (if_pos c_32).symm.trans h
    refine r_iload_n C 2 (q := 54) dX6_many_53 rfl rfl ?_
    obtain ⟨rfl, rfl⟩ := Prod.mk.inj (Option.some.inj h)
    exact hr _ _ dX6_many_54
  · replace h := (if_neg c_32).symm.trans h
    refine r_aload_n C 0 (q := 36) dX6_many_35 rfl rfl ?_
    refine r_iload_n C 3 (q := 37) dX6_many_36 rfl rfl ?_
    refine r_iload_n C 1 (q := 38) dX6_many_37 rfl rfl ?_
    obtain ⟨v_38, e_38, h⟩ := bs h
    refine r_callV C (ci := 6) (st := []) (st2 := [.int v_38]) (q := 41) (m_X6_fitsJust (xG X) (xl X) hx0 e_38) ok_X6_fitsJust hx0 rfl ⟨_, rfl⟩ q_1316 rfl ⟨Nat.le_of_ble_eq_true rfl, Nat.le_of_ble_eq_true rfl⟩ rfl rfl (Nat.le_of_ble_eq_true rfl) dX6_many_38 rfl (fun hp_38 => ?_)
    refine r_if_eq C (tgt := 47) (q := 44) dX6_many_41 (by decide) rfl (fun c_41 => ?_) (fun c_41 => ?_)
    · replace h := (if_pos c_41).symm.trans h
      exact w_X6_many_b47 C hr _ hk_27 _ _ _ _ _ hx0 h
    · replace h := (if_neg c_41).symm.trans h
      obtain ⟨y_44, e_44, h⟩ := bs h
      refine r_iinc C (v := y_44) (lv' := [(2, .int y_44), (0, .ref ((xG X).1 x0)), (1, .int x1), (3, .int x3)]) (q := 47) 2 dX6_many_44 rfl (Option.some.inj e_44) (by decide) rfl rfl ?_
      refine r_sub (lv' := [(0, .ref ((xG X).1 x0)), (1, .int x1), (2, .int y_44), (3, .int x3)]) [1, 2, 0, 3] rfl ?_
      exact w_X6_many_b47 C hr _ hk_27 _ _ _ _ _ hx0 h

theorem w_X6_many_l27 {X : CX} (C : Cok X RX6 cX6_many 4 3 69) {σ' : St} {r : Int32} (hr : RtI X cX6_many r σ') (n : Nat) : ∀ (σ : St) (x0 : Nat) (x1 : Int32) (x2 : Int32) (x3 : Int32), kd x0 = 7 → f_X6_many_l27 n σ x0 x1 x2 x3 = some (r, σ') → V X σ 27 [(0, .ref ((xG X).1 x0)), (1, .int x1), (2, .int x2), (3, .int x3)] [] := by
  induction n with
  | zero =>
    intro σ x0 x1 x2 x3 hx0 h
    exact nomatch (show (none : Option (Int32 × St)) = some (r, σ') from h)
  | succ n ih =>
    intro σ x0 x1 x2 x3 hx0 h
    exact w_X6_many_b27 C hr _ ih σ x0 x1 x2 x3 hx0 h
set_option maxHeartbeats 4000000 in
set_option maxRecDepth 100000 in
theorem w_X6_many_b0 {X : CX} (C : Cok X RX6 cX6_many 4 3 69) {σ' : St} {r : Int32} (hr : RtI X cX6_many r σ') (σ : St) (x0 : Nat) (x1 : Int32) (hx0 : kd x0 = 7) (h : f_X6_many σ x0 x1 = some (r, σ')) : V X σ 0 [(0, .ref ((xG X).1 x0)), (1, .int x1)] [] := by
  unfold f_X6_many at h
  refine r_iload_n C 1 (q := 1) dX6_many_0 rfl rfl ?_
  refine r_iconst C (v := 0) (q := 2) dX6_many_1 (by decide) rfl ?_
  refine r_iconst C (v := 1) (q := 3) dX6_many_2 (by decide) rfl ?_
  refine r_aload_n C 0 (q := 4) dX6_many_3 rfl rfl ?_
  refine g_X6_11 C (q := 7) dX6_many_4 q_1000 hx0 rfl ?_
  refine r_ishl C (q := 8) dX6_many_7 rfl ?_
  refine r_iconst C (v := 1) (q := 9) dX6_many_8 (by decide) rfl ?_
  refine r_isub C (q := 10) dX6_many_9 rfl ?_
  obtain ⟨v_10, e_10, h⟩ := bs h
  refine r_callS C (st := []) (st2 := [.int v_10]) (q := 13) (m_X6_within (xG X) (xl X) e_10) ok_X6_within q_1081 rfl ⟨Nat.le_of_ble_eq_true rfl, Nat.le_of_ble_eq_true rfl⟩ rfl rfl (Nat.le_of_ble_eq_true rfl) dX6_many_10 rfl (fun hp_10 => ?_)
  refine r_if_ne C (tgt := 23) (q := 16) dX6_many_13 (by decide) rfl (fun c_13 => ?_) (fun c_13 => ?_)
  · replace h := (if_neg c_13).symm.trans h
    refine r_iconst C (v := 0) (q := 24) dX6_many_23 (by decide) rfl ?_
    refine r_istore_n C (lv' := [(2, .int 0), (0, .ref ((xG X).1 x0)), (1, .int x1)]) (q := 25) dX6_many_24 rfl (by decide) rfl rfl ?_
    refine r_iconst C (v := 0) (q := 26) dX6_many_25 (by decide) rfl ?_
    refine r_istore_n C (lv' := [(3, .int 0), (2, .int 0), (0, .ref ((xG X).1 x0)), (1, .int x1)]) (q := 27) dX6_many_26 rfl (by decide) rfl rfl ?_
    refine r_sub (lv' := [(0, .ref ((xG X).1 x0)), (1, .int x1), (2, .int 0), (3, .int 0)]) [2, 3, 1, 0] rfl ?_
    exact w_X6_many_l27 C hr  FU _ _ _ _ _ hx0 h
  · replace h := (if_pos c_13).symm.trans h
    refine r_aload_n C 0 (q := 17) dX6_many_16 rfl rfl ?_
    refine r_bipush C (v := (-2)) (q := 19) dX6_many_17 (by decide) rfl ?_
    obtain ⟨v_19, s_19, e_19, h⟩ := bs2 h
    refine r_callV C (ci := 6) (st := []) (st2 := [.int v_19]) (q := 22) (m_X6_no (xG X) (xl X) hx0 e_19) ok_X6_no hx0 rfl ⟨_, rfl⟩ q_1084 rfl ⟨Nat.le_of_ble_eq_true rfl, Nat.le_of_ble_eq_true rfl⟩ rfl rfl (Nat.le_of_ble_eq_true rfl) dX6_many_19 rfl (fun hp_19 => ?_)
    obtain ⟨rfl, rfl⟩ := Prod.mk.inj (Option.some.inj h)
    exact hr _ _ dX6_many_22

theorem m_X6_many (G : Gm) (l : Launch) {σ σ' : St} {x0 : Nat} {x1 : Int32} (hx0 : kd x0 = 7) {r : Int32} (h : f_X6_many σ x0 x1 = some (r, σ')) : Ctr G l yX6_many cX6_many 4 (some .int) 3 69 [.ref (G.1 x0), .int x1] σ (some (.int r)) True σ' := by
  refine Ctr.i (by decide) (Nat.le_of_ble_eq_true rfl) ?_
  intro X hG C hr
  subst hG
  exact w_X6_many_b0 C hr _ _ _ hx0 h
-- X6_asked
set_option maxHeartbeats 4000000 in
set_option maxRecDepth 100000 in
theorem w_X6_asked_b154 {X : CX} (C : Cok X RX6 cX6_asked 9 2 46) {σ' : St} {r : Int32} (hr : RtI X cX6_asked r σ') (k_41 : St → Nat → Int32 → Int32 → Int32 → Int32 → Option (Int32 × St)) (hk_41 : ∀ (σ : St) (x0 : Nat) (x1 : Int32) (x2 : Int32) (x3 : Int32) (x4 : Int32), kd x0 = 7 → k_41 σ x0 x1 x2 x3 x4 = some (r, σ') → V X σ 41 [(0, .ref ((xG X).1 x0)), (1, .int x1), (2, .int x2), (3, .int x3), (4, .int x4)] []) (σ : St) (x0 : Nat) (x1 : Int32) (x2 : Int32) (x3 : Int32) (x4 : Int32) (hx0 : kd x0 = 7) (h : f_X6_asked_b154 k_41 σ x0 x1 x2 x3 x4 = some (r, σ')) : V X σ 154 [(0, .ref ((xG X).1 x0)), (1, .int x1), (2, .int x2), (3, .int x3), (4, .int x4)] [] := by
  unfold f_X6_asked_b154 at h
  obtain ⟨y_154, e_154, h⟩ := bs h
  refine r_iinc C (v := y_154) (lv' := [(4, .int y_154), (0, .ref ((xG X).1 x0)), (1, .int x1), (2, .int x2), (3, .int x3)]) (q := 157) 4 dX6_asked_154 rfl (Option.some.inj e_154) (by decide) rfl rfl ?_
  refine r_goto C (tgt := 41) dX6_asked_157 (by decide) ?_
  refine r_sub (lv' := [(0, .ref ((xG X).1 x0)), (1, .int x1), (2, .int x2), (3, .int x3), (4, .int y_154)]) [1, 2, 3, 4, 0] rfl ?_
  exact hk_41 _ _ _ _ _ _ hx0 h

set_option maxHeartbeats 4000000 in
set_option maxRecDepth 100000 in
theorem w_X6_asked_b151 {X : CX} (C : Cok X RX6 cX6_asked 9 2 46) {σ' : St} {r : Int32} (hr : RtI X cX6_asked r σ') (k_41 : St → Nat → Int32 → Int32 → Int32 → Int32 → Option (Int32 × St)) (hk_41 : ∀ (σ : St) (x0 : Nat) (x1 : Int32) (x2 : Int32) (x3 : Int32) (x4 : Int32), kd x0 = 7 → k_41 σ x0 x1 x2 x3 x4 = some (r, σ') → V X σ 41 [(0, .ref ((xG X).1 x0)), (1, .int x1), (2, .int x2), (3, .int x3), (4, .int x4)] []) (σ : St) (x0 : Nat) (x1 : Int32) (x2 : Int32) (x4 : Int32) (hx0 : kd x0 = 7) (h : f_X6_asked_b151 k_41 σ x0 x1 x2 x4 = some (r, σ')) : V X σ 151 [(0, .ref ((xG X).1 x0)), (1, .int x1), (2, .int x2), (4, .int x4)] [] := by
  unfold f_X6_asked_b151 at h
  refine r_iload C 3 (q := 153) dX6_asked_151 rfl rfl ?_
  refine r_istore_n C (lv' := [(3, .int x4), (0, .ref ((xG X).1 x0)), (1, .int x1), (2, .int x2), (4, .int x4)]) (q := 154) dX6_asked_153 rfl (by decide) rfl rfl ?_
  refine r_sub (lv' := [(0, .ref ((xG X).1 x0)), (1, .int x1), (2, .int x2), (3, .int x4), (4, .int x4)]) [1, 2, 3, 0, 4] rfl ?_
  exact w_X6_asked_b154 C hr _ hk_41 _ _ _ _ _ _ hx0 h

set_option maxHeartbeats 4000000 in
set_option maxRecDepth 100000 in
theorem w_X6_asked_b122 {X : CX} (C : Cok X RX6 cX6_asked 9 2 46) {σ' : St} {r : Int32} (hr : RtI X cX6_asked r σ') (k_56 : St → Nat → Int32 → Int32 → Int32 → Int32 → Int32 → Int32 → Option (Int32 × St)) (hk_56 : ∀ (σ : St) (x0 : Nat) (x1 : Int32) (x2 : Int32) (x3 : Int32) (x4 : Int32) (x5 : Int32) (x6 : Int32), kd x0 = 7 → k_56 σ x0 x1 x2 x3 x4 x5 x6 = some (r, σ') → V X σ 56 [(0, .ref ((xG X).1 x0)), (1, .int x1), (2, .int x2), (3, .int x3), (4, .int x4), (5, .int x5), (6, .int x6)] []) (σ : St) (x0 : Nat) (x1 : Int32) (x2 : Int32) (x3 : Int32) (x4 : Int32) (x5 : Int32) (x6 : Int32) (hx0 : kd x0 = 7) (h : f_X6_asked_b122 k_56 σ x0 x1 x2 x3 x4 x5 x6 = some (r, σ')) : V X σ 122 [(0, .ref ((xG X).1 x0)), (1, .int x1), (2, .int x2), (3, .int x3), (4, .int x4), (5, .int x5), (6, .int x6)] [] := by
  unfold f_X6_asked_b122 at h
  obtain ⟨y_122, e_122, h⟩ := bs h
  refine r_iinc C (v := y_122) (lv' := [(6, .int y_122), (0, .ref ((xG X).1 x0)), (1, .int x1), (2, .int x2), (3, .int x3), (4, .int x4), (5, .int x5)]) (q := 125) 6 dX6_asked_122 rfl (Option.some.inj e_122) (by decide) rfl rfl ?_
  refine r_goto C (tgt := 56) dX6_asked_125 (by decide) ?_
  refine r_sub (lv' := [(0, .ref ((xG X).1 x0)), (1, .int x1), (2, .int x2), (3, .int x3), (4, .int x4), (5, .int x5), (6, .int y_122)]) [1, 2, 3, 4, 5, 6, 0] rfl ?_
  exact hk_56 _ _ _ _ _ _ _ _ hx0 h

set_option maxHeartbeats 4000000 in
set_option maxRecDepth 100000 in
theorem w_X6_asked_b102 {X : CX} (C : Cok X RX6 cX6_asked 9 2 46) {σ' : St} {r : Int32} (hr : RtI X cX6_asked r σ') (k_71 : St → Nat → Int32 → Int32 → Int32 → Int32 → Int32 → Int32 → Int32 → Int32 → Option (Int32 × St)) (hk_71 : ∀ (σ : St) (x0 : Nat) (x1 : Int32) (x2 : Int32) (x3 : Int32) (x4 : Int32) (x5 : Int32) (x6 : Int32) (x7 : Int32) (x8 : Int32), kd x0 = 7 → k_71 σ x0 x1 x2 x3 x4 x5 x6 x7 x8 = some (r, σ') → V X σ 71 [(0, .ref ((xG X).1 x0)), (1, .int x1), (2, .int x2), (3, .int x3), (4, .int x4), (5, .int x5), (6, .int x6), (7, .int x7), (8, .int x8)] []) (σ : St) (x0 : Nat) (x1 : Int32) (x2 : Int32) (x3 : Int32) (x4 : Int32) (x5 : Int32) (x6 : Int32) (x7 : Int32) (x8 : Int32) (hx0 : kd x0 = 7) (h : f_X6_asked_b102 k_71 σ x0 x1 x2 x3 x4 x5 x6 x7 x8 = some (r, σ')) : V X σ 102 [(0, .ref ((xG X).1 x0)), (1, .int x1), (2, .int x2), (3, .int x3), (4, .int x4), (5, .int x5), (6, .int x6), (7, .int x7), (8, .int x8)] [] := by
  unfold f_X6_asked_b102 at h
  obtain ⟨y_102, e_102, h⟩ := bs h
  refine r_iinc C (v := y_102) (lv' := [(8, .int y_102), (0, .ref ((xG X).1 x0)), (1, .int x1), (2, .int x2), (3, .int x3), (4, .int x4), (5, .int x5), (6, .int x6), (7, .int x7)]) (q := 105) 8 dX6_asked_102 rfl (Option.some.inj e_102) (by decide) rfl rfl ?_
  refine r_goto C (tgt := 71) dX6_asked_105 (by decide) ?_
  refine r_sub (lv' := [(0, .ref ((xG X).1 x0)), (1, .int x1), (2, .int x2), (3, .int x3), (4, .int x4), (5, .int x5), (6, .int x6), (7, .int x7), (8, .int y_102)]) [1, 2, 3, 4, 5, 6, 7, 8, 0] rfl ?_
  exact hk_71 _ _ _ _ _ _ _ _ _ _ hx0 h

set_option maxHeartbeats 4000000 in
set_option maxRecDepth 100000 in
theorem w_X6_asked_b71 {X : CX} (C : Cok X RX6 cX6_asked 9 2 46) {σ' : St} {r : Int32} (hr : RtI X cX6_asked r σ') (k_56 : St → Nat → Int32 → Int32 → Int32 → Int32 → Int32 → Int32 → Option (Int32 × St)) (hk_56 : ∀ (σ : St) (x0 : Nat) (x1 : Int32) (x2 : Int32) (x3 : Int32) (x4 : Int32) (x5 : Int32) (x6 : Int32), kd x0 = 7 → k_56 σ x0 x1 x2 x3 x4 x5 x6 = some (r, σ') → V X σ 56 [(0, .ref ((xG X).1 x0)), (1, .int x1), (2, .int x2), (3, .int x3), (4, .int x4), (5, .int x5), (6, .int x6)] []) (k_71 : St → Nat → Int32 → Int32 → Int32 → Int32 → Int32 → Int32 → Int32 → Int32 → Option (Int32 × St)) (hk_71 : ∀ (σ : St) (x0 : Nat) (x1 : Int32) (x2 : Int32) (x3 : Int32) (x4 : Int32) (x5 : Int32) (x6 : Int32) (x7 : Int32) (x8 : Int32), kd x0 = 7 → k_71 σ x0 x1 x2 x3 x4 x5 x6 x7 x8 = some (r, σ') → V X σ 71 [(0, .ref ((xG X).1 x0)), (1, .int x1), (2, .int x2), (3, .int x3), (4, .int x4), (5, .int x5), (6, .int x6), (7, .int x7), (8, .int x8)] []) (σ : St) (x0 : Nat) (x1 : Int32) (x2 : Int32) (x3 : Int32) (x4 : Int32) (x5 : Int32) (x6 : Int32) (x7 : Int32) (x8 : Int32) (hx0 : kd x0 = 7) (h : f_X6_asked_b71 k_56 k_71 σ x0 x1 x2 x3 x4 x5 x6 x7 x8 = some (r, σ')) : V X σ 71 [(0, .ref ((xG X).1 x0)), (1, .int x1), (2, .int x2), (3, .int x3), (4, .int x4), (5, .int x5), (6, .int x6), (7, .int x7), (8, .int x8)] [] := by
  unfold f_X6_asked_b71 at h
  refine r_iload C 8 (q := 73) dX6_asked_71 rfl rfl ?_
  refine r_aload_n C 0 (q := 74) dX6_asked_73 rfl rfl ?_
  refine g_X6_3 C (q := 77) dX6_asked_74 q_992 hx0 rfl ?_
  refine r_icmp_ge C (tgt := 108) (q := 80) dX6_asked_77 (by decide) rfl (fun c_77 => ?_) (fun c_77 => ?_)
  · replace h := (if_pos c_77).symm.trans h
    refine r_iload C 7 (q := 110) dX6_asked_108 rfl rfl ?_
    refine r_iload_n C 1 (q := 111) dX6_asked_110 rfl rfl ?_
    refine r_iload C 6 (q := 113) dX6_asked_111 rfl rfl ?_
    obtain ⟨v_113, e_113, h⟩ := bs h
    refine r_callS C (st := [.int x7]) (st2 := [.int v_113, .int x7]) (q := 116) (m_X6_has (xG X) (xl X) e_113) ok_X6_has q_1199 rfl ⟨Nat.le_of_ble_eq_true rfl, Nat.le_of_ble_eq_true rfl⟩ rfl rfl (Nat.le_of_ble_eq_true rfl) dX6_asked_113 rfl (fun hp_113 => ?_)
    refine r_icmp_eq C (tgt := 122) (q := 119) dX6_asked_116 (by decide) rfl (fun c_116 => ?_) (fun c_116 => ?_)
    · replace h := (if_pos c_116).symm.trans h
      refine r_sub (lv' := [(0, .ref ((xG X).1 x0)), (1, .int x1), (2, .int x2), (3, .int x3), (4, .int x4), (5, .int x5), (6, .int x6)]) [0, 1, 2, 3, 4, 5, 6] rfl ?_
      exact w_X6_asked_b122 C hr _ hk_56 _ _ _ _ _ _ _ _ hx0 h
    · replace h := (if_neg c_116).symm.trans h
      refine r_iconst C (v := 0) (q := 120) dX6_asked_119 (by decide) rfl ?_
      refine r_istore C (lv' := [(5, .int 0), (0, .ref ((xG X).1 x0)), (1, .int x1), (2, .int x2), (3, .int x3), (4, .int x4), (6, .int x6), (7, .int x7), (8, .int x8)]) (q := 122) dX6_asked_120 (by decide) rfl rfl ?_
      refine r_sub (lv' := [(0, .ref ((xG X).1 x0)), (1, .int x1), (2, .int x2), (3, .int x3), (4, .int x4), (5, .int 0), (6, .int x6)]) [1, 2, 3, 4, 5, 0, 6] rfl ?_
      exact w_X6_asked_b122 C hr _ hk_56 _ _ _ _ _ _ _ _ hx0 h
  · replace h := (if_neg c_77).symm.trans h
    refine r_aload_n C 0 (q := 81) dX6_asked_80 rfl rfl ?_
    refine r_iload C 6 (q := 83) dX6_asked_81 rfl rfl ?_
    refine r_iload C 8 (q := 85) dX6_asked_83 rfl rfl ?_
    obtain ⟨v_85, e_85, h⟩ := bs h
    refine r_callV C (ci := 6) (st := []) (st2 := [.int v_85]) (q := 88) (m_X6_depth (xG X) (xl X) hx0 e_85) ok_X6_depth hx0 rfl ⟨_, rfl⟩ q_1143 rfl ⟨Nat.le_of_ble_eq_true rfl, Nat.le_of_ble_eq_true rfl⟩ rfl rfl (Nat.le_of_ble_eq_true rfl) dX6_asked_85 rfl (fun hp_85 => ?_)
    refine r_aload_n C 0 (q := 89) dX6_asked_88 rfl rfl ?_
    refine r_iload C 4 (q := 91) dX6_asked_89 rfl rfl ?_
    refine r_iload C 8 (q := 93) dX6_asked_91 rfl rfl ?_
    obtain ⟨v_93, e_93, h⟩ := bs h
    refine r_callV C (ci := 6) (st := [.int v_85]) (st2 := [.int v_93, .int v_85]) (q := 96) (m_X6_of (xG X) (xl X) hx0 e_93) ok_X6_of hx0 rfl ⟨_, rfl⟩ q_1324 rfl ⟨Nat.le_of_ble_eq_true rfl, Nat.le_of_ble_eq_true rfl⟩ rfl rfl (Nat.le_of_ble_eq_true rfl) dX6_asked_93 rfl (fun hp_93 => ?_)
    refine r_icmp_ge C (tgt := 102) (q := 99) dX6_asked_96 (by decide) rfl (fun c_96 => ?_) (fun c_96 => ?_)
    · replace h := (if_pos c_96).symm.trans h
      exact w_X6_asked_b102 C hr _ hk_71 _ _ _ _ _ _ _ _ _ _ hx0 h
    · replace h := (if_neg c_96).symm.trans h
      refine r_iconst C (v := 0) (q := 100) dX6_asked_99 (by decide) rfl ?_
      refine r_istore C (lv' := [(7, .int 0), (0, .ref ((xG X).1 x0)), (1, .int x1), (2, .int x2), (3, .int x3), (4, .int x4), (5, .int x5), (6, .int x6), (8, .int x8)]) (q := 102) dX6_asked_100 (by decide) rfl rfl ?_
      refine r_sub (lv' := [(0, .ref ((xG X).1 x0)), (1, .int x1), (2, .int x2), (3, .int x3), (4, .int x4), (5, .int x5), (6, .int x6), (7, .int 0), (8, .int x8)]) [1, 2, 3, 4, 5, 6, 7, 0, 8] rfl ?_
      exact w_X6_asked_b102 C hr _ hk_71 _ _ _ _ _ _ _ _ _ _ hx0 h

theorem w_X6_asked_l71 {X : CX} (C : Cok X RX6 cX6_asked 9 2 46) {σ' : St} {r : Int32} (hr : RtI X cX6_asked r σ') (k_56 : St → Nat → Int32 → Int32 → Int32 → Int32 → Int32 → Int32 → Option (Int32 × St)) (hk_56 : ∀ (σ : St) (x0 : Nat) (x1 : Int32) (x2 : Int32) (x3 : Int32) (x4 : Int32) (x5 : Int32) (x6 : Int32), kd x0 = 7 → k_56 σ x0 x1 x2 x3 x4 x5 x6 = some (r, σ') → V X σ 56 [(0, .ref ((xG X).1 x0)), (1, .int x1), (2, .int x2), (3, .int x3), (4, .int x4), (5, .int x5), (6, .int x6)] []) (n : Nat) : ∀ (σ : St) (x0 : Nat) (x1 : Int32) (x2 : Int32) (x3 : Int32) (x4 : Int32) (x5 : Int32) (x6 : Int32) (x7 : Int32) (x8 : Int32), kd x0 = 7 → f_X6_asked_l71 k_56 n σ x0 x1 x2 x3 x4 x5 x6 x7 x8 = some (r, σ') → V X σ 71 [(0, .ref ((xG X).1 x0)), (1, .int x1), (2, .int x2), (3, .int x3), (4, .int x4), (5, .int x5), (6, .int x6), (7, .int x7), (8, .int x8)] [] := by
  induction n with
  | zero =>
    intro σ x0 x1 x2 x3 x4 x5 x6 x7 x8 hx0 h
    exact nomatch (show (none : Option (Int32 × St)) = some (r, σ') from h)
  | succ n ih =>
    intro σ x0 x1 x2 x3 x4 x5 x6 x7 x8 hx0 h
    exact w_X6_asked_b71 C hr k_56 hk_56 _ ih σ x0 x1 x2 x3 x4 x5 x6 x7 x8 hx0 h
set_option maxHeartbeats 4000000 in
set_option maxRecDepth 100000 in
theorem w_X6_asked_b56 {X : CX} (C : Cok X RX6 cX6_asked 9 2 46) {σ' : St} {r : Int32} (hr : RtI X cX6_asked r σ') (k_41 : St → Nat → Int32 → Int32 → Int32 → Int32 → Option (Int32 × St)) (hk_41 : ∀ (σ : St) (x0 : Nat) (x1 : Int32) (x2 : Int32) (x3 : Int32) (x4 : Int32), kd x0 = 7 → k_41 σ x0 x1 x2 x3 x4 = some (r, σ') → V X σ 41 [(0, .ref ((xG X).1 x0)), (1, .int x1), (2, .int x2), (3, .int x3), (4, .int x4)] []) (k_56 : St → Nat → Int32 → Int32 → Int32 → Int32 → Int32 → Int32 → Option (Int32 × St)) (hk_56 : ∀ (σ : St) (x0 : Nat) (x1 : Int32) (x2 : Int32) (x3 : Int32) (x4 : Int32) (x5 : Int32) (x6 : Int32), kd x0 = 7 → k_56 σ x0 x1 x2 x3 x4 x5 x6 = some (r, σ') → V X σ 56 [(0, .ref ((xG X).1 x0)), (1, .int x1), (2, .int x2), (3, .int x3), (4, .int x4), (5, .int x5), (6, .int x6)] []) (σ : St) (x0 : Nat) (x1 : Int32) (x2 : Int32) (x3 : Int32) (x4 : Int32) (x5 : Int32) (x6 : Int32) (hx0 : kd x0 = 7) (h : f_X6_asked_b56 k_41 k_56 σ x0 x1 x2 x3 x4 x5 x6 = some (r, σ')) : V X σ 56 [(0, .ref ((xG X).1 x0)), (1, .int x1), (2, .int x2), (3, .int x3), (4, .int x4), (5, .int x5), (6, .int x6)] [] := by
  unfold f_X6_asked_b56 at h
  refine r_iload C 6 (q := 58) dX6_asked_56 rfl rfl ?_
  refine r_aload_n C 0 (q := 59) dX6_asked_58 rfl rfl ?_
  refine g_X6_6 C (q := 62) dX6_asked_59 q_995 hx0 rfl ?_
  refine r_icmp_ge C (tgt := 128) (q := 65) dX6_asked_62 (by decide) rfl (fun c_62 => ?_) (fun c_62 => ?_)
  · replace h := (if_pos c_62).symm.trans h
    refine r_iload C 5 (q := 130) dX6_asked_128 rfl rfl ?_
    refine r_if_eq C (tgt := 154) (q := 133) dX6_asked_130 (by decide) rfl (fun c_130 => ?_) (fun c_130 => ?_)
    · replace h := (if_pos c_130).symm.trans h
      refine r_sub (lv' := [(0, .ref ((xG X).1 x0)), (1, .int x1), (2, .int x2), (3, .int x3), (4, .int x4)]) [0, 1, 2, 3, 4] rfl ?_
      exact w_X6_asked_b154 C hr _ hk_41 _ _ _ _ _ _ hx0 h
    · replace h := (if_neg c_130).symm.trans h
      refine r_iload_n C 3 (q := 134) dX6_asked_133 rfl rfl ?_
      refine r_if_lt C (tgt := 151) (q := 137) dX6_asked_134 (by decide) rfl (fun c_134 => ?_) (fun c_134 => ?_)
      · replace h := (if_pos c_134).symm.trans h
        refine r_sub (lv' := [(0, .ref ((xG X).1 x0)), (1, .int x1), (2, .int x2), (4, .int x4)]) [0, 1, 2, 4] rfl ?_
        exact w_X6_asked_b151 C hr _ hk_41 _ _ _ _ _ hx0 h
      · replace h := (if_neg c_134).symm.trans h
        refine r_aload_n C 0 (q := 138) dX6_asked_137 rfl rfl ?_
        refine r_iload C 4 (q := 140) dX6_asked_138 rfl rfl ?_
        obtain ⟨v_140, e_140, h⟩ := bs h
        refine r_callV C (ci := 6) (st := []) (st2 := [.int v_140]) (q := 143) (m_X6_sum (xG X) (xl X) hx0 e_140) ok_X6_sum hx0 rfl ⟨_, rfl⟩ q_1328 rfl ⟨Nat.le_of_ble_eq_true rfl, Nat.le_of_ble_eq_true rfl⟩ rfl rfl (Nat.le_of_ble_eq_true rfl) dX6_asked_140 rfl (fun hp_140 => ?_)
        refine r_aload_n C 0 (q := 144) dX6_asked_143 rfl rfl ?_
        refine r_iload_n C 3 (q := 145) dX6_asked_144 rfl rfl ?_
        obtain ⟨v_145, e_145, h⟩ := bs h
        refine r_callV C (ci := 6) (st := [.int v_140]) (st2 := [.int v_145, .int v_140]) (q := 148) (m_X6_sum (xG X) (xl X) hx0 e_145) ok_X6_sum hx0 rfl ⟨_, rfl⟩ q_1328 rfl ⟨Nat.le_of_ble_eq_true rfl, Nat.le_of_ble_eq_true rfl⟩ rfl rfl (Nat.le_of_ble_eq_true rfl) dX6_asked_145 rfl (fun hp_145 => ?_)
        refine r_icmp_ge C (tgt := 154) (q := 151) dX6_asked_148 (by decide) rfl (fun c_148 => ?_) (fun c_148 => ?_)
        · replace h := (if_pos c_148).symm.trans h
          refine r_sub (lv' := [(0, .ref ((xG X).1 x0)), (1, .int x1), (2, .int x2), (3, .int x3), (4, .int x4)]) [0, 1, 2, 3, 4] rfl ?_
          exact w_X6_asked_b154 C hr _ hk_41 _ _ _ _ _ _ hx0 h
        · replace h := (if_neg c_148).symm.trans h
          refine r_sub (lv' := [(0, .ref ((xG X).1 x0)), (1, .int x1), (2, .int x2), (4, .int x4)]) [0, 1, 2, 4] rfl ?_
          exact w_X6_asked_b151 C hr _ hk_41 _ _ _ _ _ hx0 h
  · replace h := (if_neg c_62).symm.trans h
    refine r_iconst C (v := 1) (q := 66) dX6_asked_65 (by decide) rfl ?_
    refine r_istore C (lv' := [(7, .int 1), (0, .ref ((xG X).1 x0)), (1, .int x1), (2, .int x2), (3, .int x3), (4, .int x4), (5, .int x5), (6, .int x6)]) (q := 68) dX6_asked_66 (by decide) rfl rfl ?_
    refine r_iconst C (v := 0) (q := 69) dX6_asked_68 (by decide) rfl ?_
    refine r_istore C (lv' := [(8, .int 0), (7, .int 1), (0, .ref ((xG X).1 x0)), (1, .int x1), (2, .int x2), (3, .int x3), (4, .int x4), (5, .int x5), (6, .int x6)]) (q := 71) dX6_asked_69 (by decide) rfl rfl ?_
    refine r_sub (lv' := [(0, .ref ((xG X).1 x0)), (1, .int x1), (2, .int x2), (3, .int x3), (4, .int x4), (5, .int x5), (6, .int x6), (7, .int 1), (8, .int 0)]) [2, 3, 4, 5, 6, 7, 8, 1, 0] rfl ?_
    exact w_X6_asked_l71 C hr _ hk_56 FU _ _ _ _ _ _ _ _ _ _ hx0 h

theorem w_X6_asked_l56 {X : CX} (C : Cok X RX6 cX6_asked 9 2 46) {σ' : St} {r : Int32} (hr : RtI X cX6_asked r σ') (k_41 : St → Nat → Int32 → Int32 → Int32 → Int32 → Option (Int32 × St)) (hk_41 : ∀ (σ : St) (x0 : Nat) (x1 : Int32) (x2 : Int32) (x3 : Int32) (x4 : Int32), kd x0 = 7 → k_41 σ x0 x1 x2 x3 x4 = some (r, σ') → V X σ 41 [(0, .ref ((xG X).1 x0)), (1, .int x1), (2, .int x2), (3, .int x3), (4, .int x4)] []) (n : Nat) : ∀ (σ : St) (x0 : Nat) (x1 : Int32) (x2 : Int32) (x3 : Int32) (x4 : Int32) (x5 : Int32) (x6 : Int32), kd x0 = 7 → f_X6_asked_l56 k_41 n σ x0 x1 x2 x3 x4 x5 x6 = some (r, σ') → V X σ 56 [(0, .ref ((xG X).1 x0)), (1, .int x1), (2, .int x2), (3, .int x3), (4, .int x4), (5, .int x5), (6, .int x6)] [] := by
  induction n with
  | zero =>
    intro σ x0 x1 x2 x3 x4 x5 x6 hx0 h
    exact nomatch (show (none : Option (Int32 × St)) = some (r, σ') from h)
  | succ n ih =>
    intro σ x0 x1 x2 x3 x4 x5 x6 hx0 h
    exact w_X6_asked_b56 C hr k_41 hk_41 _ ih σ x0 x1 x2 x3 x4 x5 x6 hx0 h
set_option maxHeartbeats 4000000 in
set_option maxRecDepth 100000 in
theorem w_X6_asked_b41 {X : CX} (C : Cok X RX6 cX6_asked 9 2 46) {σ' : St} {r : Int32} (hr : RtI X cX6_asked r σ') (k_41 : St → Nat → Int32 → Int32 → Int32 → Int32 → Option (Int32 × St)) (hk_41 : ∀ (σ : St) (x0 : Nat) (x1 : Int32) (x2 : Int32) (x3 : Int32) (x4 : Int32), kd x0 = 7 → k_41 σ x0 x1 x2 x3 x4 = some (r, σ') → V X σ 41 [(0, .ref ((xG X).1 x0)), (1, .int x1), (2, .int x2), (3, .int x3), (4, .int x4)] []) (σ : St) (x0 : Nat) (x1 : Int32) (x2 : Int32) (x3 : Int32) (x4 : Int32) (hx0 : kd x0 = 7) (h : f_X6_asked_b41 k_41 σ x0 x1 x2 x3 x4 = some (r, σ')) : V X σ 41 [(0, .ref ((xG X).1 x0)), (1, .int x1), (2, .int x2), (3, .int x3), (4, .int x4)] [] := by
  unfold f_X6_asked_b41 at h
  refine r_iload C 4 (q := 43) dX6_asked_41 rfl rfl ?_
  refine r_aload_n C 0 (q := 44) dX6_asked_43 rfl rfl ?_
  obtain ⟨v_44, e_44, h⟩ := bs h
  refine r_callV C (ci := 6) (st := [.int x4]) (st2 := [.int v_44, .int x4]) (q := 47) (m_X6_rows (xG X) (xl X) hx0 e_44) ok_X6_rows hx0 rfl ⟨_, rfl⟩ q_1312 rfl ⟨Nat.le_of_ble_eq_true rfl, Nat.le_of_ble_eq_true rfl⟩ rfl rfl (Nat.le_of_ble_eq_true rfl) dX6_asked_44 rfl (fun hp_44 => ?_)
  refine r_icmp_ge C (tgt := 160) (q := 50) dX6_asked_47 (by decide) rfl (fun c_47 => ?_) (fun c_47 => ?_)
  · replace h := (if_pos c_47).symm.trans h
    refine r_iload_n C 3 (q := 161) dX6_asked_160 rfl rfl ?_
    refine r_if_ge C (tgt := 168) (q := 164) dX6_asked_161 (by decide) rfl (fun c_161 => ?_) (fun c_161 => ?_)
    · replace h := (if_pos c_161).symm.trans h
      refine r_iload_n C 2 (q := 169) dX6_asked_168 rfl rfl ?_
      refine r_iconst C (v := (-1)) (q := 170) dX6_asked_169 (by decide) rfl ?_
      refine r_icmp_ne C (tgt := 181) (q := 173) dX6_asked_170 (by decide) rfl (fun c_170 => ?_) (fun c_170 => ?_)
      · replace h := (if_neg c_170).symm.trans h
        refine r_aload_n C 0 (q := 182) dX6_asked_181 rfl rfl ?_
        refine r_iload_n C 3 (q := 183) dX6_asked_182 rfl rfl ?_
        refine r_iload_n C 2 (q := 184) dX6_asked_183 rfl rfl ?_
        obtain ⟨v_184, e_184, h⟩ := bs h
        refine r_callV C (ci := 6) (st := []) (st2 := [.int v_184]) (q := 187) (m_X6_of (xG X) (xl X) hx0 e_184) ok_X6_of hx0 rfl ⟨_, rfl⟩ q_1324 rfl ⟨Nat.le_of_ble_eq_true rfl, Nat.le_of_ble_eq_true rfl⟩ rfl rfl (Nat.le_of_ble_eq_true rfl) dX6_asked_184 rfl (fun hp_184 => ?_)
        obtain ⟨rfl, rfl⟩ := Prod.mk.inj (Option.some.inj h)
        exact hr _ _ dX6_asked_187
      · replace h := (if_pos c_170).symm.trans h
        refine r_aload_n C 0 (q := 174) dX6_asked_173 rfl rfl ?_
        refine r_iload_n C 3 (q := 175) dX6_asked_174 rfl rfl ?_
        obtain ⟨v_175, e_175, h⟩ := bs h
        refine r_callV C (ci := 6) (st := []) (st2 := [.int v_175]) (q := 178) (m_X6_sum (xG X) (xl X) hx0 e_175) ok_X6_sum hx0 rfl ⟨_, rfl⟩ q_1328 rfl ⟨Nat.le_of_ble_eq_true rfl, Nat.le_of_ble_eq_true rfl⟩ rfl rfl (Nat.le_of_ble_eq_true rfl) dX6_asked_175 rfl (fun hp_175 => ?_)
        refine r_goto C (tgt := 187) dX6_asked_178 (by decide) ?_
        obtain ⟨rfl, rfl⟩ := Prod.mk.inj (Option.some.inj h)
        exact hr _ _ dX6_asked_187
    · replace h := (if_neg c_161).symm.trans h
      refine r_iconst C (v := (-1)) (q := 165) dX6_asked_164 (by decide) rfl ?_
      refine r_goto C (tgt := 187) dX6_asked_165 (by decide) ?_
      obtain ⟨rfl, rfl⟩ := Prod.mk.inj (Option.some.inj h)
      exact hr _ _ dX6_asked_187
  · replace h := (if_neg c_47).symm.trans h
    refine r_iconst C (v := 1) (q := 51) dX6_asked_50 (by decide) rfl ?_
    refine r_istore C (lv' := [(5, .int 1), (0, .ref ((xG X).1 x0)), (1, .int x1), (2, .int x2), (3, .int x3), (4, .int x4)]) (q := 53) dX6_asked_51 (by decide) rfl rfl ?_
    refine r_iconst C (v := 0) (q := 54) dX6_asked_53 (by decide) rfl ?_
    refine r_istore C (lv' := [(6, .int 0), (5, .int 1), (0, .ref ((xG X).1 x0)), (1, .int x1), (2, .int x2), (3, .int x3), (4, .int x4)]) (q := 56) dX6_asked_54 (by decide) rfl rfl ?_
    refine r_sub (lv' := [(0, .ref ((xG X).1 x0)), (1, .int x1), (2, .int x2), (3, .int x3), (4, .int x4), (5, .int 1), (6, .int 0)]) [2, 3, 4, 5, 6, 1, 0] rfl ?_
    exact w_X6_asked_l56 C hr _ hk_41 FU _ _ _ _ _ _ _ _ hx0 h

theorem w_X6_asked_l41 {X : CX} (C : Cok X RX6 cX6_asked 9 2 46) {σ' : St} {r : Int32} (hr : RtI X cX6_asked r σ') (n : Nat) : ∀ (σ : St) (x0 : Nat) (x1 : Int32) (x2 : Int32) (x3 : Int32) (x4 : Int32), kd x0 = 7 → f_X6_asked_l41 n σ x0 x1 x2 x3 x4 = some (r, σ') → V X σ 41 [(0, .ref ((xG X).1 x0)), (1, .int x1), (2, .int x2), (3, .int x3), (4, .int x4)] [] := by
  induction n with
  | zero =>
    intro σ x0 x1 x2 x3 x4 hx0 h
    exact nomatch (show (none : Option (Int32 × St)) = some (r, σ') from h)
  | succ n ih =>
    intro σ x0 x1 x2 x3 x4 hx0 h
    exact w_X6_asked_b41 C hr _ ih σ x0 x1 x2 x3 x4 hx0 h
set_option maxHeartbeats 4000000 in
set_option maxRecDepth 100000 in
theorem w_X6_asked_b36 {X : CX} (C : Cok X RX6 cX6_asked 9 2 46) {σ' : St} {r : Int32} (hr : RtI X cX6_asked r σ') (σ : St) (x0 : Nat) (x1 : Int32) (x2 : Int32) (hx0 : kd x0 = 7) (h : f_X6_asked_b36 σ x0 x1 x2 = some (r, σ')) : V X σ 36 [(0, .ref ((xG X).1 x0)), (1, .int x1), (2, .int x2)] [] := by
  unfold f_X6_asked_b36 at h
  refine r_iconst C (v := (-1)) (q := 37) dX6_asked_36 (by decide) rfl ?_
  refine r_istore_n C (lv' := [(3, .int (-1)), (0, .ref ((xG X).1 x0)), (1, .int x1), (2, .int x2)]) (q := 38) dX6_asked_37 rfl (by decide) rfl rfl ?_
  refine r_iconst C (v := 0) (q := 39) dX6_asked_38 (by decide) rfl ?_
  refine r_istore C (lv' := [(4, .int 0), (3, .int (-1)), (0, .ref ((xG X).1 x0)), (1, .int x1), (2, .int x2)]) (q := 41) dX6_asked_39 (by decide) rfl rfl ?_
  refine r_sub (lv' := [(0, .ref ((xG X).1 x0)), (1, .int x1), (2, .int x2), (3, .int (-1)), (4, .int 0)]) [2, 3, 4, 1, 0] rfl ?_
  exact w_X6_asked_l41 C hr  FU _ _ _ _ _ _ hx0 h

set_option maxHeartbeats 4000000 in
set_option maxRecDepth 100000 in
theorem w_X6_asked_b29 {X : CX} (C : Cok X RX6 cX6_asked 9 2 46) {σ' : St} {r : Int32} (hr : RtI X cX6_asked r σ') (σ : St) (x0 : Nat) (hx0 : kd x0 = 7) (h : f_X6_asked_b29 σ x0 = some (r, σ')) : V X σ 29 [(0, .ref ((xG X).1 x0))] [] := by
  unfold f_X6_asked_b29 at h
  refine r_aload_n C 0 (q := 30) dX6_asked_29 rfl rfl ?_
  refine r_bipush C (v := (-2)) (q := 32) dX6_asked_30 (by decide) rfl ?_
  obtain ⟨v_32, s_32, e_32, h⟩ := bs2 h
  refine r_callV C (ci := 6) (st := []) (st2 := [.int v_32]) (q := 35) (m_X6_no (xG X) (xl X) hx0 e_32) ok_X6_no hx0 rfl ⟨_, rfl⟩ q_1084 rfl ⟨Nat.le_of_ble_eq_true rfl, Nat.le_of_ble_eq_true rfl⟩ rfl rfl (Nat.le_of_ble_eq_true rfl) dX6_asked_32 rfl (fun hp_32 => ?_)
  obtain ⟨rfl, rfl⟩ := Prod.mk.inj (Option.some.inj h)
  exact hr _ _ dX6_asked_35

set_option maxHeartbeats 4000000 in
set_option maxRecDepth 100000 in
theorem w_X6_asked_b0 {X : CX} (C : Cok X RX6 cX6_asked 9 2 46) {σ' : St} {r : Int32} (hr : RtI X cX6_asked r σ') (σ : St) (x0 : Nat) (x1 : Int32) (x2 : Int32) (hx0 : kd x0 = 7) (h : f_X6_asked σ x0 x1 x2 = some (r, σ')) : V X σ 0 [(0, .ref ((xG X).1 x0)), (1, .int x1), (2, .int x2)] [] := by
  unfold f_X6_asked at h
  refine r_iload_n C 1 (q := 1) dX6_asked_0 rfl rfl ?_
  refine r_iconst C (v := 0) (q := 2) dX6_asked_1 (by decide) rfl ?_
  refine r_iconst C (v := 1) (q := 3) dX6_asked_2 (by decide) rfl ?_
  refine r_aload_n C 0 (q := 4) dX6_asked_3 rfl rfl ?_
  refine g_X6_6 C (q := 7) dX6_asked_4 q_995 hx0 rfl ?_
  refine r_ishl C (q := 8) dX6_asked_7 rfl ?_
  refine r_iconst C (v := 1) (q := 9) dX6_asked_8 (by decide) rfl ?_
  refine r_isub C (q := 10) dX6_asked_9 rfl ?_
  obtain ⟨v_10, e_10, h⟩ := bs h
  refine r_callS C (st := []) (st2 := [.int v_10]) (q := 13) (m_X6_within (xG X) (xl X) e_10) ok_X6_within q_1081 rfl ⟨Nat.le_of_ble_eq_true rfl, Nat.le_of_ble_eq_true rfl⟩ rfl rfl (Nat.le_of_ble_eq_true rfl) dX6_asked_10 rfl (fun hp_10 => ?_)
  refine r_if_eq C (tgt := 29) (q := 16) dX6_asked_13 (by decide) rfl (fun c_13 => ?_) (fun c_13 => ?_)
  · replace h := (if_pos c_13).symm.trans h
    refine r_sub (lv' := [(0, .ref ((xG X).1 x0))]) [0] rfl ?_
    exact w_X6_asked_b29 C hr  _ _ hx0 h
  · replace h := (if_neg c_13).symm.trans h
    refine r_iload_n C 2 (q := 17) dX6_asked_16 rfl rfl ?_
    refine r_iconst C (v := (-1)) (q := 18) dX6_asked_17 (by decide) rfl ?_
    refine r_icmp_eq C (tgt := 36) (q := 21) dX6_asked_18 (by decide) rfl (fun c_18 => ?_) (fun c_18 => ?_)
    · replace h := (if_pos c_18).symm.trans h
      exact w_X6_asked_b36 C hr  _ _ _ _ hx0 h
    · replace h := (if_neg c_18).symm.trans h
      refine r_aload_n C 0 (q := 22) dX6_asked_21 rfl rfl ?_
      refine r_iload_n C 2 (q := 23) dX6_asked_22 rfl rfl ?_
      obtain ⟨v_23, e_23, h⟩ := bs h
      refine r_callV C (ci := 6) (st := []) (st2 := [.int v_23]) (q := 26) (m_X6_isPlace (xG X) (xl X) hx0 e_23) ok_X6_isPlace hx0 rfl ⟨_, rfl⟩ q_1191 rfl ⟨Nat.le_of_ble_eq_true rfl, Nat.le_of_ble_eq_true rfl⟩ rfl rfl (Nat.le_of_ble_eq_true rfl) dX6_asked_23 rfl (fun hp_23 => ?_)
      refine r_if_ne C (tgt := 36) (q := 29) dX6_asked_26 (by decide) rfl (fun c_26 => ?_) (fun c_26 => ?_)
      · replace h := (if_neg c_26).symm.trans h
        exact w_X6_asked_b36 C hr  _ _ _ _ hx0 h
      · replace h := (if_pos c_26).symm.trans h
        refine r_sub (lv' := [(0, .ref ((xG X).1 x0))]) [0] rfl ?_
        exact w_X6_asked_b29 C hr  _ _ hx0 h

theorem m_X6_asked (G : Gm) (l : Launch) {σ σ' : St} {x0 : Nat} {x1 : Int32} {x2 : Int32} (hx0 : kd x0 = 7) {r : Int32} (h : f_X6_asked σ x0 x1 x2 = some (r, σ')) : Ctr G l yX6_asked cX6_asked 9 (some .int) 2 46 [.ref (G.1 x0), .int x1, .int x2] σ (some (.int r)) True σ' := by
  refine Ctr.i (by decide) (Nat.le_of_ble_eq_true rfl) ?_
  intro X hG C hr
  subst hG
  exact w_X6_asked_b0 C hr _ _ _ _ hx0 h
-- X6_filing
set_option maxHeartbeats 4000000 in
set_option maxRecDepth 100000 in
theorem w_X6_filing_b68 {X : CX} (C : Cok X RX6 cX6_filing 8 1 23) {σ : St} {r : Int32} (hr : RtI X cX6_filing r σ) (k_5 : Nat → Int32 → Int32 → Int32 → Int32 → Option Int32) (hk_5 : ∀ (x0 : Nat) (x1 : Int32) (x2 : Int32) (x3 : Int32) (x4 : Int32), kd x0 = 7 → k_5 x0 x1 x2 x3 x4 = some r → V X σ 5 [(0, .ref ((xG X).1 x0)), (1, .int x1), (2, .int x2), (3, .int x3), (4, .int x4)] []) (k_68 : Nat → Int32 → Int32 → Int32 → Int32 → Int32 → Int32 → Option Int32) (hk_68 : ∀ (x0 : Nat) (x1 : Int32) (x2 : Int32) (x3 : Int32) (x4 : Int32) (x6 : Int32) (x7 : Int32), kd x0 = 7 → k_68 x0 x1 x2 x3 x4 x6 x7 = some r → V X σ 68 [(0, .ref ((xG X).1 x0)), (1, .int x1), (2, .int x2), (3, .int x3), (4, .int x4), (6, .int x6), (7, .int x7)] []) (x0 : Nat) (x1 : Int32) (x2 : Int32) (x3 : Int32) (x4 : Int32) (x6 : Int32) (x7 : Int32) (hx0 : kd x0 = 7) (h : f_X6_filing_b68 σ k_5 k_68 x0 x1 x2 x3 x4 x6 x7 = some r) : V X σ 68 [(0, .ref ((xG X).1 x0)), (1, .int x1), (2, .int x2), (3, .int x3), (4, .int x4), (6, .int x6), (7, .int x7)] [] := by
  unfold f_X6_filing_b68 at h
  refine r_iload C 6 (q := 70) dX6_filing_68 rfl rfl ?_
  refine r_iload C 5 (q := 72) dX6_filing_70 rfl rfl ?_
  refine r_icmp_gt C (tgt := 86) (q := 75) dX6_filing_72 (by decide) rfl (fun c_72 => ?_) (fun c_72 => ?_)
  · replace h := (if_pos c_72).symm.trans h
    obtain ⟨y_86, e_86, h⟩ := bs h
    refine r_iinc C (v := y_86) (lv' := [(4, .int y_86), (0, .ref ((xG X).1 x0)), (1, .int x1), (2, .int x2), (3, .int x3), (6, .int x6), (7, .int x7)]) (q := 89) 4 dX6_filing_86 rfl (Option.some.inj e_86) (by decide) rfl rfl ?_
    refine r_goto C (tgt := 5) dX6_filing_89 (by decide) ?_
    refine r_sub (lv' := [(0, .ref ((xG X).1 x0)), (1, .int x1), (2, .int x2), (3, .int x3), (4, .int y_86)]) [1, 2, 3, 4, 0] rfl ?_
    exact hk_5 _ _ _ _ _ hx0 h
  · replace h := (if_neg c_72).symm.trans h
    refine r_iload_n C 3 (q := 76) dX6_filing_75 rfl rfl ?_
    refine r_iload C 6 (q := 78) dX6_filing_76 rfl rfl ?_
    refine r_iadd C (q := 79) dX6_filing_78 rfl ?_
    obtain ⟨y_79, e_79, h⟩ := bs h
    refine r_topI (Option.some.inj e_79) ?_
    refine r_istore_n C (lv' := [(3, .int y_79), (0, .ref ((xG X).1 x0)), (1, .int x1), (2, .int x2), (4, .int x4), (6, .int x6), (7, .int x7)]) (q := 80) dX6_filing_79 rfl (by decide) rfl rfl ?_
    obtain ⟨y_80, e_80, h⟩ := bs h
    refine r_iinc C (v := y_80) (lv' := [(7, .int y_80), (3, .int y_79), (0, .ref ((xG X).1 x0)), (1, .int x1), (2, .int x2), (4, .int x4), (6, .int x6)]) (q := 83) 6 dX6_filing_80 rfl (Option.some.inj e_80) (by decide) rfl rfl ?_
    refine r_goto C (tgt := 68) dX6_filing_83 (by decide) ?_
    refine r_sub (lv' := [(0, .ref ((xG X).1 x0)), (1, .int x1), (2, .int x2), (3, .int y_79), (4, .int x4), (6, .int x6), (7, .int y_80)]) [2, 3, 4, 1, 5, 6, 0] rfl ?_
    exact hk_68 _ _ _ _ _ _ _ hx0 h

theorem w_X6_filing_l68 {X : CX} (C : Cok X RX6 cX6_filing 8 1 23) {σ : St} {r : Int32} (hr : RtI X cX6_filing r σ) (k_5 : Nat → Int32 → Int32 → Int32 → Int32 → Option Int32) (hk_5 : ∀ (x0 : Nat) (x1 : Int32) (x2 : Int32) (x3 : Int32) (x4 : Int32), kd x0 = 7 → k_5 x0 x1 x2 x3 x4 = some r → V X σ 5 [(0, .ref ((xG X).1 x0)), (1, .int x1), (2, .int x2), (3, .int x3), (4, .int x4)] []) (n : Nat) : ∀ (x0 : Nat) (x1 : Int32) (x2 : Int32) (x3 : Int32) (x4 : Int32) (x6 : Int32) (x7 : Int32), kd x0 = 7 → f_X6_filing_l68 σ k_5 n x0 x1 x2 x3 x4 x6 x7 = some r → V X σ 68 [(0, .ref ((xG X).1 x0)), (1, .int x1), (2, .int x2), (3, .int x3), (4, .int x4), (6, .int x6), (7, .int x7)] [] := by
  induction n with
  | zero =>
    intro x0 x1 x2 x3 x4 x6 x7 hx0 h
    exact nomatch (show (none : Option Int32) = some r from h)
  | succ n ih =>
    intro x0 x1 x2 x3 x4 x6 x7 hx0 h
    exact w_X6_filing_b68 C hr k_5 hk_5 _ ih x0 x1 x2 x3 x4 x6 x7 hx0 h
set_option maxHeartbeats 4000000 in
set_option maxRecDepth 100000 in
theorem w_X6_filing_b62 {X : CX} (C : Cok X RX6 cX6_filing 8 1 23) {σ : St} {r : Int32} (hr : RtI X cX6_filing r σ) (k_5 : Nat → Int32 → Int32 → Int32 → Int32 → Option Int32) (hk_5 : ∀ (x0 : Nat) (x1 : Int32) (x2 : Int32) (x3 : Int32) (x4 : Int32), kd x0 = 7 → k_5 x0 x1 x2 x3 x4 = some r → V X σ 5 [(0, .ref ((xG X).1 x0)), (1, .int x1), (2, .int x2), (3, .int x3), (4, .int x4)] []) (x0 : Nat) (x1 : Int32) (x2 : Int32) (x3 : Int32) (x4 : Int32) (x5 : Int32) (x6 : Int32) (hx0 : kd x0 = 7) (h : f_X6_filing_b62 σ k_5 x0 x1 x2 x3 x4 x5 x6 = some r) : V X σ 62 [(0, .ref ((xG X).1 x0)), (1, .int x1), (2, .int x2), (3, .int x3), (4, .int x4), (5, .int x5), (6, .int x6)] [] := by
  unfold f_X6_filing_b62 at h
  refine r_iload C 5 (q := 64) dX6_filing_62 rfl rfl ?_
  refine r_iconst C (v := 1) (q := 65) dX6_filing_64 (by decide) rfl ?_
  refine r_iadd C (q := 66) dX6_filing_65 rfl ?_
  obtain ⟨y_66, e_66, h⟩ := bs h
  refine r_topI (Option.some.inj e_66) ?_
  refine r_istore C (lv' := [(7, .int y_66), (0, .ref ((xG X).1 x0)), (1, .int x1), (2, .int x2), (3, .int x3), (4, .int x4), (5, .int x5), (6, .int x6)]) (q := 68) dX6_filing_66 (by decide) rfl rfl ?_
  refine r_sub (lv' := [(0, .ref ((xG X).1 x0)), (1, .int x1), (2, .int x2), (3, .int x3), (4, .int x4), (6, .int x6), (7, .int y_66)]) [1, 2, 3, 4, 5, 7, 0] rfl ?_
  exact w_X6_filing_l68 C hr _ hk_5 FU _ _ _ _ _ _ _ hx0 h

set_option maxHeartbeats 4000000 in
set_option maxRecDepth 100000 in
theorem w_X6_filing_b5 {X : CX} (C : Cok X RX6 cX6_filing 8 1 23) {σ : St} {r : Int32} (hr : RtI X cX6_filing r σ) (k_5 : Nat → Int32 → Int32 → Int32 → Int32 → Option Int32) (hk_5 : ∀ (x0 : Nat) (x1 : Int32) (x2 : Int32) (x3 : Int32) (x4 : Int32), kd x0 = 7 → k_5 x0 x1 x2 x3 x4 = some r → V X σ 5 [(0, .ref ((xG X).1 x0)), (1, .int x1), (2, .int x2), (3, .int x3), (4, .int x4)] []) (x0 : Nat) (x1 : Int32) (x2 : Int32) (x3 : Int32) (x4 : Int32) (hx0 : kd x0 = 7) (h : f_X6_filing_b5 σ k_5 x0 x1 x2 x3 x4 = some r) : V X σ 5 [(0, .ref ((xG X).1 x0)), (1, .int x1), (2, .int x2), (3, .int x3), (4, .int x4)] [] := by
  unfold f_X6_filing_b5 at h
  refine r_iload C 4 (q := 7) dX6_filing_5 rfl rfl ?_
  refine r_aload_n C 0 (q := 8) dX6_filing_7 rfl rfl ?_
  refine g_X6_3 C (q := 11) dX6_filing_8 q_992 hx0 rfl ?_
  refine r_icmp_ge C (tgt := 92) (q := 14) dX6_filing_11 (by decide) rfl (fun c_11 => ?_) (fun c_11 => ?_)
  · replace h := (if_pos c_11).symm.trans h
    refine r_iload_n C 3 (q := 93) dX6_filing_92 rfl rfl ?_
    obtain rfl := Option.some.inj h
    exact hr _ _ dX6_filing_93
  · replace h := (if_neg c_11).symm.trans h
    refine r_aload_n C 0 (q := 15) dX6_filing_14 rfl rfl ?_
    refine g_X6_10 C (q := 18) dX6_filing_15 q_999 hx0 rfl ?_
    refine r_iconst C (v := 5) (q := 19) dX6_filing_18 (by decide) rfl ?_
    refine r_iload_n C 1 (q := 20) dX6_filing_19 rfl rfl ?_
    refine r_imul C (q := 21) dX6_filing_20 rfl ?_
    refine r_iload C 4 (q := 23) dX6_filing_21 rfl rfl ?_
    refine r_iadd C (q := 24) dX6_filing_23 rfl ?_
    obtain ⟨v_24, e_24, h⟩ := bs h
    refine r_iald C (q := 25) dX6_filing_24 (kf_X6_10 hx0) e_24 rfl ?_
    refine r_istore C (lv' := [(5, .int v_24), (0, .ref ((xG X).1 x0)), (1, .int x1), (2, .int x2), (3, .int x3), (4, .int x4)]) (q := 27) dX6_filing_25 (by decide) rfl rfl ?_
    refine r_aload_n C 1 (q := 28) dX6_filing_27 rfl rfl ?_
    refine r_iload_n C 3 (q := 29) dX6_filing_28 rfl rfl ?_
    refine r_iload C 5 (q := 31) dX6_filing_29 rfl rfl ?_
    obtain ⟨v_31, e_31, h⟩ := bs h
    refine r_callV C (ci := 6) (st := []) (st2 := [.int v_31]) (q := 34) (m_X6_of (xG X) (xl X) hx0 e_31) ok_X6_of hx0 rfl ⟨_, rfl⟩ q_1324 rfl ⟨Nat.le_of_ble_eq_true rfl, Nat.le_of_ble_eq_true rfl⟩ rfl rfl (Nat.le_of_ble_eq_true rfl) dX6_filing_31 rfl (fun hp_31 => ?_)
    refine r_istore C (lv' := [(6, .int v_31), (5, .int v_24), (0, .ref ((xG X).1 x0)), (1, .int x1), (2, .int x2), (3, .int x3), (4, .int x4)]) (q := 36) dX6_filing_34 (by decide) rfl rfl ?_
    refine r_iload C 0 (q := 38) dX6_filing_36 rfl rfl ?_
    refine r_iload C 1 (q := 40) dX6_filing_38 rfl rfl ?_
    refine r_icmp_lt C (tgt := 60) (q := 43) dX6_filing_40 (by decide) rfl (fun c_40 => ?_) (fun c_40 => ?_)
    · replace h := (if_pos c_40).symm.trans h
      refine r_iconst C (v := (-1)) (q := 61) dX6_filing_60 (by decide) rfl ?_
      obtain rfl := Option.some.inj h
      exact hr _ _ dX6_filing_61
    · replace h := (if_neg c_40).symm.trans h
      refine r_iload C 0 (q := 45) dX6_filing_43 rfl rfl ?_
      refine r_iload C 1 (q := 47) dX6_filing_45 rfl rfl ?_
      refine r_icmp_le C (tgt := 62) (q := 50) dX6_filing_47 (by decide) rfl (fun c_47 => ?_) (fun c_47 => ?_)
      · replace h := (if_pos c_47).symm.trans h
        refine r_sub (lv' := [(0, .ref ((xG X).1 x0)), (1, .int x1), (2, .int x2), (3, .int x3), (4, .int x4), (5, .int v_24), (6, .int v_31)]) [2, 3, 4, 5, 6, 1, 0] rfl ?_
        exact w_X6_filing_b62 C hr _ hk_5 _ _ _ _ _ _ _ hx0 h
      · replace h := (if_neg c_47).symm.trans h
        refine r_aload_n C 2 (q := 51) dX6_filing_50 rfl rfl ?_
        refine g_X6_7 C (q := 54) dX6_filing_51 q_996 hx0 rfl ?_
        refine r_iload_n C 3 (q := 55) dX6_filing_54 rfl rfl ?_
        obtain ⟨v_55, e_55, h⟩ := bs h
        refine r_iald C (q := 56) dX6_filing_55 (kf_X6_7 hx0) e_55 rfl ?_
        refine r_iconst C (v := 4) (q := 57) dX6_filing_56 (by decide) rfl ?_
        refine r_icmp_ne C (tgt := 62) (q := 60) dX6_filing_57 (by decide) rfl (fun c_57 => ?_) (fun c_57 => ?_)
        · replace h := (if_neg c_57).symm.trans h
          refine r_sub (lv' := [(0, .ref ((xG X).1 x0)), (1, .int x1), (2, .int x2), (3, .int x3), (4, .int x4), (5, .int v_24), (6, .int v_31)]) [2, 3, 4, 5, 6, 1, 0] rfl ?_
          exact w_X6_filing_b62 C hr _ hk_5 _ _ _ _ _ _ _ hx0 h
        · replace h := (if_pos c_57).symm.trans h
          refine r_iconst C (v := (-1)) (q := 61) dX6_filing_60 (by decide) rfl ?_
          obtain rfl := Option.some.inj h
          exact hr _ _ dX6_filing_61

theorem w_X6_filing_l5 {X : CX} (C : Cok X RX6 cX6_filing 8 1 23) {σ : St} {r : Int32} (hr : RtI X cX6_filing r σ) (n : Nat) : ∀ (x0 : Nat) (x1 : Int32) (x2 : Int32) (x3 : Int32) (x4 : Int32), kd x0 = 7 → f_X6_filing_l5 σ n x0 x1 x2 x3 x4 = some r → V X σ 5 [(0, .ref ((xG X).1 x0)), (1, .int x1), (2, .int x2), (3, .int x3), (4, .int x4)] [] := by
  induction n with
  | zero =>
    intro x0 x1 x2 x3 x4 hx0 h
    exact nomatch (show (none : Option Int32) = some r from h)
  | succ n ih =>
    intro x0 x1 x2 x3 x4 hx0 h
    exact w_X6_filing_b5 C hr _ ih x0 x1 x2 x3 x4 hx0 h
set_option maxHeartbeats 4000000 in
set_option maxRecDepth 100000 in
theorem w_X6_filing_b0 {X : CX} (C : Cok X RX6 cX6_filing 8 1 23) {σ : St} {r : Int32} (hr : RtI X cX6_filing r σ) (x0 : Nat) (x1 : Int32) (x2 : Int32) (hx0 : kd x0 = 7) (h : f_X6_filing σ x0 x1 x2 = some r) : V X σ 0 [(0, .ref ((xG X).1 x0)), (1, .int x1), (2, .int x2)] [] := by
  unfold f_X6_filing at h
  refine r_iconst C (v := 0) (q := 1) dX6_filing_0 (by decide) rfl ?_
  refine r_istore_n C (lv' := [(3, .int 0), (0, .ref ((xG X).1 x0)), (1, .int x1), (2, .int x2)]) (q := 2) dX6_filing_1 rfl (by decide) rfl rfl ?_
  refine r_iconst C (v := 0) (q := 3) dX6_filing_2 (by decide) rfl ?_
  refine r_istore C (lv' := [(4, .int 0), (3, .int 0), (0, .ref ((xG X).1 x0)), (1, .int x1), (2, .int x2)]) (q := 5) dX6_filing_3 (by decide) rfl rfl ?_
  refine r_sub (lv' := [(0, .ref ((xG X).1 x0)), (1, .int x1), (2, .int x2), (3, .int 0), (4, .int 0)]) [2, 3, 4, 1, 0] rfl ?_
  exact w_X6_filing_l5 C hr  FU _ _ _ _ _ hx0 h

theorem m_X6_filing (G : Gm) (l : Launch) {σ : St} {x0 : Nat} {x1 : Int32} {x2 : Int32} (hx0 : kd x0 = 7) {r : Int32} (h : f_X6_filing σ x0 x1 x2 = some r) : Ctr G l yX6_filing cX6_filing 8 (some .int) 1 23 [.ref (G.1 x0), .int x1, .int x2] σ (some (.int r)) True σ := by
  refine Ctr.i (by decide) (Nat.le_of_ble_eq_true rfl) ?_
  intro X hG C hr
  subst hG
  exact w_X6_filing_b0 C hr _ _ _ hx0 h
-- X6_least
set_option maxHeartbeats 4000000 in
set_option maxRecDepth 100000 in
theorem w_X6_least_b231 {X : CX} (C : Cok X RX6 cX6_least 8 6 135) {σ' : St} {r : Int32} (hr : RtI X cX6_least r σ') (k_41 : St → Nat → Int32 → Int32 → Int32 → Int32 → Option (Int32 × St)) (hk_41 : ∀ (σ : St) (x0 : Nat) (x1 : Int32) (x2 : Int32) (x3 : Int32) (x4 : Int32), kd x0 = 7 → k_41 σ x0 x1 x2 x3 x4 = some (r, σ') → V X σ 41 [(0, .ref ((xG X).1 x0)), (1, .int x1), (2, .int x2), (3, .int x3), (4, .int x4)] []) (σ : St) (x0 : Nat) (x1 : Int32) (x2 : Int32) (x3 : Int32) (x4 : Int32) (hx0 : kd x0 = 7) (h : f_X6_least_b231 k_41 σ x0 x1 x2 x3 x4 = some (r, σ')) : V X σ 231 [(0, .ref ((xG X).1 x0)), (1, .int x1), (2, .int x2), (3, .int x3), (4, .int x4)] [] := by
  unfold f_X6_least_b231 at h
  obtain ⟨y_231, e_231, h⟩ := bs h
  refine r_iinc C (v := y_231) (lv' := [(4, .int y_231), (0, .ref ((xG X).1 x0)), (1, .int x1), (2, .int x2), (3, .int x3)]) (q := 234) 4 dX6_least_231 rfl (Option.some.inj e_231) (by decide) rfl rfl ?_
  refine r_goto C (tgt := 41) dX6_least_234 (by decide) ?_
  refine r_sub (lv' := [(0, .ref ((xG X).1 x0)), (1, .int x1), (2, .int x2), (3, .int x3), (4, .int y_231)]) [1, 2, 3, 4, 0] rfl ?_
  exact hk_41 _ _ _ _ _ _ hx0 h

set_option maxHeartbeats 4000000 in
set_option maxRecDepth 100000 in
theorem w_X6_least_b190 {X : CX} (C : Cok X RX6 cX6_least 8 6 135) {σ' : St} {r : Int32} (hr : RtI X cX6_least r σ') (k_41 : St → Nat → Int32 → Int32 → Int32 → Int32 → Option (Int32 × St)) (hk_41 : ∀ (σ : St) (x0 : Nat) (x1 : Int32) (x2 : Int32) (x3 : Int32) (x4 : Int32), kd x0 = 7 → k_41 σ x0 x1 x2 x3 x4 = some (r, σ') → V X σ 41 [(0, .ref ((xG X).1 x0)), (1, .int x1), (2, .int x2), (3, .int x3), (4, .int x4)] []) (k_190 : St → Nat → Int32 → Int32 → Int32 → Int32 → Int32 → Int32 → Int32 → Option (Int32 × St)) (hk_190 : ∀ (σ : St) (x0 : Nat) (x1 : Int32) (x2 : Int32) (x3 : Int32) (x4 : Int32) (x5 : Int32) (x6 : Int32) (x7 : Int32), kd x0 = 7 → k_190 σ x0 x1 x2 x3 x4 x5 x6 x7 = some (r, σ') → V X σ 190 [(0, .ref ((xG X).1 x0)), (1, .int x1), (2, .int x2), (3, .int x3), (4, .int x4), (5, .int x5), (6, .int x6), (7, .int x7)] []) (σ : St) (x0 : Nat) (x1 : Int32) (x2 : Int32) (x3 : Int32) (x4 : Int32) (x5 : Int32) (x6 : Int32) (x7 : Int32) (hx0 : kd x0 = 7) (h : f_X6_least_b190 k_41 k_190 σ x0 x1 x2 x3 x4 x5 x6 x7 = some (r, σ')) : V X σ 190 [(0, .ref ((xG X).1 x0)), (1, .int x1), (2, .int x2), (3, .int x3), (4, .int x4), (5, .int x5), (6, .int x6), (7, .int x7)] [] := by
  unfold f_X6_least_b190 at h
  refine r_iload C 7 (q := 192) dX6_least_190 rfl rfl ?_
  refine r_aload_n C 0 (q := 193) dX6_least_192 rfl rfl ?_
  refine g_X6_3 C (q := 196) dX6_least_193 q_992 hx0 rfl ?_
  refine r_icmp_ge C (tgt := 223) (q := 199) dX6_least_196 (by decide) rfl (fun c_196 => ?_) (fun c_196 => ?_)
  · replace h := (if_pos c_196).symm.trans h
    refine r_iload C 6 (q := 225) dX6_least_223 rfl rfl ?_
    refine r_if_eq C (tgt := 231) (q := 228) dX6_least_225 (by decide) rfl (fun c_225 => ?_) (fun c_225 => ?_)
    · replace h := (if_pos c_225).symm.trans h
      refine r_sub (lv' := [(0, .ref ((xG X).1 x0)), (1, .int x1), (2, .int x2), (3, .int x3), (4, .int x4)]) [0, 1, 2, 3, 4] rfl ?_
      exact w_X6_least_b231 C hr _ hk_41 _ _ _ _ _ _ hx0 h
    · replace h := (if_neg c_225).symm.trans h
      refine r_iload C 5 (q := 230) dX6_least_228 rfl rfl ?_
      refine r_istore_n C (lv' := [(3, .int x5), (0, .ref ((xG X).1 x0)), (1, .int x1), (2, .int x2), (4, .int x4), (5, .int x5), (6, .int x6), (7, .int x7)]) (q := 231) dX6_least_230 rfl (by decide) rfl rfl ?_
      refine r_sub (lv' := [(0, .ref ((xG X).1 x0)), (1, .int x1), (2, .int x2), (3, .int x5), (4, .int x4)]) [1, 2, 3, 0, 4] rfl ?_
      exact w_X6_least_b231 C hr _ hk_41 _ _ _ _ _ _ hx0 h
  · replace h := (if_neg c_196).symm.trans h
    refine r_aload_n C 0 (q := 200) dX6_least_199 rfl rfl ?_
    refine g_X6_10 C (q := 203) dX6_least_200 q_999 hx0 rfl ?_
    refine r_iconst C (v := 5) (q := 204) dX6_least_203 (by decide) rfl ?_
    refine r_iload_n C 1 (q := 205) dX6_least_204 rfl rfl ?_
    refine r_imul C (q := 206) dX6_least_205 rfl ?_
    refine r_iload C 7 (q := 208) dX6_least_206 rfl rfl ?_
    refine r_iadd C (q := 209) dX6_least_208 rfl ?_
    refine r_aload_n C 0 (q := 210) dX6_least_209 rfl rfl ?_
    refine g_X6_26 C (q := 213) dX6_least_210 q_1015 hx0 rfl ?_
    refine r_iload C 7 (q := 215) dX6_least_213 rfl rfl ?_
    obtain ⟨v_215, e_215, h⟩ := bs h
    refine r_iald C (q := 216) dX6_least_215 (kf_X6_26 hx0) e_215 rfl ?_
    obtain ⟨s_216, e_216, h⟩ := bs h
    refine r_iast C (q := 217) dX6_least_216 (kf_X6_10 hx0) e_216 rfl ?_
    obtain ⟨y_217, e_217, h⟩ := bs h
    refine r_iinc C (v := y_217) (lv' := [(7, .int y_217), (0, .ref ((xG X).1 x0)), (1, .int x1), (2, .int x2), (3, .int x3), (4, .int x4), (5, .int x5), (6, .int x6)]) (q := 220) 7 dX6_least_217 rfl (Option.some.inj e_217) (by decide) rfl rfl ?_
    refine r_goto C (tgt := 190) dX6_least_220 (by decide) ?_
    refine r_sub (lv' := [(0, .ref ((xG X).1 x0)), (1, .int x1), (2, .int x2), (3, .int x3), (4, .int x4), (5, .int x5), (6, .int x6), (7, .int y_217)]) [1, 2, 3, 4, 5, 6, 7, 0] rfl ?_
    exact hk_190 _ _ _ _ _ _ _ _ _ hx0 h

theorem w_X6_least_l190 {X : CX} (C : Cok X RX6 cX6_least 8 6 135) {σ' : St} {r : Int32} (hr : RtI X cX6_least r σ') (k_41 : St → Nat → Int32 → Int32 → Int32 → Int32 → Option (Int32 × St)) (hk_41 : ∀ (σ : St) (x0 : Nat) (x1 : Int32) (x2 : Int32) (x3 : Int32) (x4 : Int32), kd x0 = 7 → k_41 σ x0 x1 x2 x3 x4 = some (r, σ') → V X σ 41 [(0, .ref ((xG X).1 x0)), (1, .int x1), (2, .int x2), (3, .int x3), (4, .int x4)] []) (n : Nat) : ∀ (σ : St) (x0 : Nat) (x1 : Int32) (x2 : Int32) (x3 : Int32) (x4 : Int32) (x5 : Int32) (x6 : Int32) (x7 : Int32), kd x0 = 7 → f_X6_least_l190 k_41 n σ x0 x1 x2 x3 x4 x5 x6 x7 = some (r, σ') → V X σ 190 [(0, .ref ((xG X).1 x0)), (1, .int x1), (2, .int x2), (3, .int x3), (4, .int x4), (5, .int x5), (6, .int x6), (7, .int x7)] [] := by
  induction n with
  | zero =>
    intro σ x0 x1 x2 x3 x4 x5 x6 x7 hx0 h
    exact nomatch (show (none : Option (Int32 × St)) = some (r, σ') from h)
  | succ n ih =>
    intro σ x0 x1 x2 x3 x4 x5 x6 x7 hx0 h
    exact w_X6_least_b190 C hr k_41 hk_41 _ ih σ x0 x1 x2 x3 x4 x5 x6 x7 hx0 h
set_option maxHeartbeats 4000000 in
set_option maxRecDepth 100000 in
theorem w_X6_least_b187 {X : CX} (C : Cok X RX6 cX6_least 8 6 135) {σ' : St} {r : Int32} (hr : RtI X cX6_least r σ') (k_41 : St → Nat → Int32 → Int32 → Int32 → Int32 → Option (Int32 × St)) (hk_41 : ∀ (σ : St) (x0 : Nat) (x1 : Int32) (x2 : Int32) (x3 : Int32) (x4 : Int32), kd x0 = 7 → k_41 σ x0 x1 x2 x3 x4 = some (r, σ') → V X σ 41 [(0, .ref ((xG X).1 x0)), (1, .int x1), (2, .int x2), (3, .int x3), (4, .int x4)] []) (σ : St) (x0 : Nat) (x1 : Int32) (x2 : Int32) (x3 : Int32) (x4 : Int32) (x5 : Int32) (x6 : Int32) (hx0 : kd x0 = 7) (h : f_X6_least_b187 k_41 σ x0 x1 x2 x3 x4 x5 x6 = some (r, σ')) : V X σ 187 [(0, .ref ((xG X).1 x0)), (1, .int x1), (2, .int x2), (3, .int x3), (4, .int x4), (5, .int x5), (6, .int x6)] [] := by
  unfold f_X6_least_b187 at h
  refine r_iconst C (v := 0) (q := 188) dX6_least_187 (by decide) rfl ?_
  refine r_istore C (lv' := [(7, .int 0), (0, .ref ((xG X).1 x0)), (1, .int x1), (2, .int x2), (3, .int x3), (4, .int x4), (5, .int x5), (6, .int x6)]) (q := 190) dX6_least_188 (by decide) rfl rfl ?_
  refine r_sub (lv' := [(0, .ref ((xG X).1 x0)), (1, .int x1), (2, .int x2), (3, .int x3), (4, .int x4), (5, .int x5), (6, .int x6), (7, .int 0)]) [1, 2, 3, 4, 5, 6, 7, 0] rfl ?_
  exact w_X6_least_l190 C hr _ hk_41 FU _ _ _ _ _ _ _ _ _ hx0 h

set_option maxHeartbeats 4000000 in
set_option maxRecDepth 100000 in
theorem w_X6_least_b157 {X : CX} (C : Cok X RX6 cX6_least 8 6 135) {σ' : St} {r : Int32} (hr : RtI X cX6_least r σ') (k_41 : St → Nat → Int32 → Int32 → Int32 → Int32 → Option (Int32 × St)) (hk_41 : ∀ (σ : St) (x0 : Nat) (x1 : Int32) (x2 : Int32) (x3 : Int32) (x4 : Int32), kd x0 = 7 → k_41 σ x0 x1 x2 x3 x4 = some (r, σ') → V X σ 41 [(0, .ref ((xG X).1 x0)), (1, .int x1), (2, .int x2), (3, .int x3), (4, .int x4)] []) (k_157 : St → Nat → Int32 → Int32 → Int32 → Int32 → Int32 → Int32 → Int32 → Option (Int32 × St)) (hk_157 : ∀ (σ : St) (x0 : Nat) (x1 : Int32) (x2 : Int32) (x3 : Int32) (x4 : Int32) (x5 : Int32) (x6 : Int32) (x7 : Int32), kd x0 = 7 → k_157 σ x0 x1 x2 x3 x4 x5 x6 x7 = some (r, σ') → V X σ 157 [(0, .ref ((xG X).1 x0)), (1, .int x1), (2, .int x2), (3, .int x3), (4, .int x4), (5, .int x5), (6, .int x6), (7, .int x7)] []) (σ : St) (x0 : Nat) (x1 : Int32) (x2 : Int32) (x3 : Int32) (x4 : Int32) (x5 : Int32) (x6 : Int32) (x7 : Int32) (hx0 : kd x0 = 7) (h : f_X6_least_b157 k_41 k_157 σ x0 x1 x2 x3 x4 x5 x6 x7 = some (r, σ')) : V X σ 157 [(0, .ref ((xG X).1 x0)), (1, .int x1), (2, .int x2), (3, .int x3), (4, .int x4), (5, .int x5), (6, .int x6), (7, .int x7)] [] := by
  unfold f_X6_least_b157 at h
  refine r_iload C 7 (q := 159) dX6_least_157 rfl rfl ?_
  refine r_aload_n C 0 (q := 160) dX6_least_159 rfl rfl ?_
  refine g_X6_3 C (q := 163) dX6_least_160 q_992 hx0 rfl ?_
  refine r_icmp_ge C (tgt := 187) (q := 166) dX6_least_163 (by decide) rfl (fun c_163 => ?_) (fun c_163 => ?_)
  · replace h := (if_pos c_163).symm.trans h
    refine r_sub (lv' := [(0, .ref ((xG X).1 x0)), (1, .int x1), (2, .int x2), (3, .int x3), (4, .int x4), (5, .int x5), (6, .int x6)]) [0, 1, 2, 3, 4, 5, 6] rfl ?_
    exact w_X6_least_b187 C hr _ hk_41 _ _ _ _ _ _ _ _ hx0 h
  · replace h := (if_neg c_163).symm.trans h
    refine r_aload_n C 0 (q := 167) dX6_least_166 rfl rfl ?_
    refine g_X6_27 C (q := 170) dX6_least_167 q_1016 hx0 rfl ?_
    refine r_iload C 7 (q := 172) dX6_least_170 rfl rfl ?_
    refine r_aload_n C 0 (q := 173) dX6_least_172 rfl rfl ?_
    refine r_iload C 4 (q := 175) dX6_least_173 rfl rfl ?_
    refine r_iload C 7 (q := 177) dX6_least_175 rfl rfl ?_
    obtain ⟨v_177, e_177, h⟩ := bs h
    refine r_callV C (ci := 6) (st := [.int x7, .ref ((xG X).1 108)]) (st2 := [.int v_177, .int x7, .ref ((xG X).1 108)]) (q := 180) (m_X6_of (xG X) (xl X) hx0 e_177) ok_X6_of hx0 rfl ⟨_, rfl⟩ q_1324 rfl ⟨Nat.le_of_ble_eq_true rfl, Nat.le_of_ble_eq_true rfl⟩ rfl rfl (Nat.le_of_ble_eq_true rfl) dX6_least_177 rfl (fun hp_177 => ?_)
    obtain ⟨s_180, e_180, h⟩ := bs h
    refine r_iast C (q := 181) dX6_least_180 (kf_X6_27 hx0) e_180 rfl ?_
    obtain ⟨y_181, e_181, h⟩ := bs h
    refine r_iinc C (v := y_181) (lv' := [(7, .int y_181), (0, .ref ((xG X).1 x0)), (1, .int x1), (2, .int x2), (3, .int x3), (4, .int x4), (5, .int x5), (6, .int x6)]) (q := 184) 7 dX6_least_181 rfl (Option.some.inj e_181) (by decide) rfl rfl ?_
    refine r_goto C (tgt := 157) dX6_least_184 (by decide) ?_
    refine r_sub (lv' := [(0, .ref ((xG X).1 x0)), (1, .int x1), (2, .int x2), (3, .int x3), (4, .int x4), (5, .int x5), (6, .int x6), (7, .int y_181)]) [1, 2, 3, 4, 5, 6, 7, 0] rfl ?_
    exact hk_157 _ _ _ _ _ _ _ _ _ hx0 h

theorem w_X6_least_l157 {X : CX} (C : Cok X RX6 cX6_least 8 6 135) {σ' : St} {r : Int32} (hr : RtI X cX6_least r σ') (k_41 : St → Nat → Int32 → Int32 → Int32 → Int32 → Option (Int32 × St)) (hk_41 : ∀ (σ : St) (x0 : Nat) (x1 : Int32) (x2 : Int32) (x3 : Int32) (x4 : Int32), kd x0 = 7 → k_41 σ x0 x1 x2 x3 x4 = some (r, σ') → V X σ 41 [(0, .ref ((xG X).1 x0)), (1, .int x1), (2, .int x2), (3, .int x3), (4, .int x4)] []) (n : Nat) : ∀ (σ : St) (x0 : Nat) (x1 : Int32) (x2 : Int32) (x3 : Int32) (x4 : Int32) (x5 : Int32) (x6 : Int32) (x7 : Int32), kd x0 = 7 → f_X6_least_l157 k_41 n σ x0 x1 x2 x3 x4 x5 x6 x7 = some (r, σ') → V X σ 157 [(0, .ref ((xG X).1 x0)), (1, .int x1), (2, .int x2), (3, .int x3), (4, .int x4), (5, .int x5), (6, .int x6), (7, .int x7)] [] := by
  induction n with
  | zero =>
    intro σ x0 x1 x2 x3 x4 x5 x6 x7 hx0 h
    exact nomatch (show (none : Option (Int32 × St)) = some (r, σ') from h)
  | succ n ih =>
    intro σ x0 x1 x2 x3 x4 x5 x6 x7 hx0 h
    exact w_X6_least_b157 C hr k_41 hk_41 _ ih σ x0 x1 x2 x3 x4 x5 x6 x7 hx0 h
set_option maxHeartbeats 4000000 in
set_option maxRecDepth 100000 in
theorem w_X6_least_b147 {X : CX} (C : Cok X RX6 cX6_least 8 6 135) {σ' : St} {r : Int32} (hr : RtI X cX6_least r σ') (k_41 : St → Nat → Int32 → Int32 → Int32 → Int32 → Option (Int32 × St)) (hk_41 : ∀ (σ : St) (x0 : Nat) (x1 : Int32) (x2 : Int32) (x3 : Int32) (x4 : Int32), kd x0 = 7 → k_41 σ x0 x1 x2 x3 x4 = some (r, σ') → V X σ 41 [(0, .ref ((xG X).1 x0)), (1, .int x1), (2, .int x2), (3, .int x3), (4, .int x4)] []) (σ : St) (x0 : Nat) (x1 : Int32) (x2 : Int32) (x3 : Int32) (x4 : Int32) (x5 : Int32) (t0 : Int32) (hx0 : kd x0 = 7) (h : f_X6_least_b147 k_41 σ x0 x1 x2 x3 x4 x5 t0 = some (r, σ')) : V X σ 147 [(0, .ref ((xG X).1 x0)), (1, .int x1), (2, .int x2), (3, .int x3), (4, .int x4), (5, .int x5)] [.int t0] := by
  unfold f_X6_least_b147 at h
  refine r_istore C (lv' := [(6, .int t0), (0, .ref ((xG X).1 x0)), (1, .int x1), (2, .int x2), (3, .int x3), (4, .int x4), (5, .int x5)]) (q := 149) dX6_least_147 (by decide) rfl rfl ?_
  refine r_iload C 0 (q := 151) dX6_least_149 rfl rfl ?_
  refine r_if_eq C (tgt := 187) (q := 154) dX6_least_151 (by decide) rfl (fun c_151 => ?_) (fun c_151 => ?_)
  · replace h := (if_pos c_151).symm.trans h
    refine r_sub (lv' := [(0, .ref ((xG X).1 x0)), (1, .int x1), (2, .int x2), (3, .int x3), (4, .int x4), (5, .int x5), (6, .int t0)]) [1, 2, 3, 4, 5, 6, 0] rfl ?_
    exact w_X6_least_b187 C hr _ hk_41 _ _ _ _ _ _ _ _ hx0 h
  · replace h := (if_neg c_151).symm.trans h
    refine r_iconst C (v := 0) (q := 155) dX6_least_154 (by decide) rfl ?_
    refine r_istore C (lv' := [(7, .int 0), (6, .int t0), (0, .ref ((xG X).1 x0)), (1, .int x1), (2, .int x2), (3, .int x3), (4, .int x4), (5, .int x5)]) (q := 157) dX6_least_155 (by decide) rfl rfl ?_
    refine r_sub (lv' := [(0, .ref ((xG X).1 x0)), (1, .int x1), (2, .int x2), (3, .int x3), (4, .int x4), (5, .int x5), (6, .int t0), (7, .int 0)]) [2, 3, 4, 5, 6, 7, 1, 0] rfl ?_
    exact w_X6_least_l157 C hr _ hk_41 FU _ _ _ _ _ _ _ _ _ hx0 h

set_option maxHeartbeats 4000000 in
set_option maxRecDepth 100000 in
theorem w_X6_least_b80 {X : CX} (C : Cok X RX6 cX6_least 8 6 135) {σ' : St} {r : Int32} (hr : RtI X cX6_least r σ') (k_41 : St → Nat → Int32 → Int32 → Int32 → Int32 → Option (Int32 × St)) (hk_41 : ∀ (σ : St) (x0 : Nat) (x1 : Int32) (x2 : Int32) (x3 : Int32) (x4 : Int32), kd x0 = 7 → k_41 σ x0 x1 x2 x3 x4 = some (r, σ') → V X σ 41 [(0, .ref ((xG X).1 x0)), (1, .int x1), (2, .int x2), (3, .int x3), (4, .int x4)] []) (k_80 : St → Nat → Int32 → Int32 → Int32 → Int32 → Int32 → Int32 → Option (Int32 × St)) (hk_80 : ∀ (σ : St) (x0 : Nat) (x1 : Int32) (x2 : Int32) (x3 : Int32) (x4 : Int32) (x5 : Int32) (x6 : Int32), kd x0 = 7 → k_80 σ x0 x1 x2 x3 x4 x5 x6 = some (r, σ') → V X σ 80 [(0, .ref ((xG X).1 x0)), (1, .int x1), (2, .int x2), (3, .int x3), (4, .int x4), (5, .int x5), (6, .int x6)] []) (σ : St) (x0 : Nat) (x1 : Int32) (x2 : Int32) (x3 : Int32) (x4 : Int32) (x5 : Int32) (x6 : Int32) (hx0 : kd x0 = 7) (h : f_X6_least_b80 k_41 k_80 σ x0 x1 x2 x3 x4 x5 x6 = some (r, σ')) : V X σ 80 [(0, .ref ((xG X).1 x0)), (1, .int x1), (2, .int x2), (3, .int x3), (4, .int x4), (5, .int x5), (6, .int x6)] [] := by
  unfold f_X6_least_b80 at h
  refine r_iload C 6 (q := 82) dX6_least_80 rfl rfl ?_
  refine r_aload_n C 0 (q := 83) dX6_least_82 rfl rfl ?_
  refine g_X6_3 C (q := 86) dX6_least_83 q_992 hx0 rfl ?_
  refine r_icmp_ge C (tgt := 114) (q := 89) dX6_least_86 (by decide) rfl (fun c_86 => ?_) (fun c_86 => ?_)
  · replace h := (if_pos c_86).symm.trans h
    refine r_iload_n C 2 (q := 115) dX6_least_114 rfl rfl ?_
    refine r_iconst C (v := (-1)) (q := 116) dX6_least_115 (by decide) rfl ?_
    refine r_icmp_ne C (tgt := 141) (q := 119) dX6_least_116 (by decide) rfl (fun c_116 => ?_) (fun c_116 => ?_)
    · replace h := (if_neg c_116).symm.trans h
      refine r_aload_n C 0 (q := 142) dX6_least_141 rfl rfl ?_
      refine r_iload_n C 1 (q := 143) dX6_least_142 rfl rfl ?_
      refine r_iload_n C 2 (q := 144) dX6_least_143 rfl rfl ?_
      obtain ⟨v_144, e_144, h⟩ := bs h
      refine r_callV C (ci := 6) (st := []) (st2 := [.int v_144]) (q := 147) (m_X6_opensIt (xG X) (xl X) hx0 e_144) ok_X6_opensIt hx0 rfl ⟨_, rfl⟩ q_1131 rfl ⟨Nat.le_of_ble_eq_true rfl, Nat.le_of_ble_eq_true rfl⟩ rfl rfl (Nat.le_of_ble_eq_true rfl) dX6_least_144 rfl (fun hp_144 => ?_)
      refine r_sub (lv' := [(0, .ref ((xG X).1 x0)), (1, .int x1), (2, .int x2), (3, .int x3), (4, .int x4), (5, .int x5)]) [0, 1, 2, 3, 4, 5] rfl ?_
      exact w_X6_least_b147 C hr _ hk_41 _ _ _ _ _ _ _ _ hx0 h
    · replace h := (if_pos c_116).symm.trans h
      refine r_aload_n C 0 (q := 120) dX6_least_119 rfl rfl ?_
      refine r_iload_n C 1 (q := 121) dX6_least_120 rfl rfl ?_
      obtain ⟨v_121, e_121, h⟩ := bs h
      refine r_callV C (ci := 6) (st := []) (st2 := [.int v_121]) (q := 124) (m_X6_openedBy (xG X) (xl X) hx0 e_121) ok_X6_openedBy hx0 rfl ⟨_, rfl⟩ q_1159 rfl ⟨Nat.le_of_ble_eq_true rfl, Nat.le_of_ble_eq_true rfl⟩ rfl rfl (Nat.le_of_ble_eq_true rfl) dX6_least_121 rfl (fun hp_121 => ?_)
      refine r_aload_n C 0 (q := 125) dX6_least_124 rfl rfl ?_
      refine g_X6_9 C (q := 128) dX6_least_125 q_998 hx0 rfl ?_
      refine r_iload_n C 1 (q := 129) dX6_least_128 rfl rfl ?_
      obtain ⟨v_129, e_129, h⟩ := bs h
      refine r_iald C (q := 130) dX6_least_129 (kf_X6_9 hx0) e_129 rfl ?_
      refine r_icmp_ne C (tgt := 137) (q := 133) dX6_least_130 (by decide) rfl (fun c_130 => ?_) (fun c_130 => ?_)
      · replace h := (if_neg c_130).symm.trans h
        refine r_iconst C (v := 0) (q := 138) dX6_least_137 (by decide) rfl ?_
        refine r_goto C (tgt := 147) dX6_least_138 (by decide) ?_
        refine r_sub (lv' := [(0, .ref ((xG X).1 x0)), (1, .int x1), (2, .int x2), (3, .int x3), (4, .int x4), (5, .int x5)]) [0, 1, 2, 3, 4, 5] rfl ?_
        exact w_X6_least_b147 C hr _ hk_41 _ _ _ _ _ _ _ _ hx0 h
      · replace h := (if_pos c_130).symm.trans h
        refine r_iconst C (v := 1) (q := 134) dX6_least_133 (by decide) rfl ?_
        refine r_goto C (tgt := 147) dX6_least_134 (by decide) ?_
        refine r_sub (lv' := [(0, .ref ((xG X).1 x0)), (1, .int x1), (2, .int x2), (3, .int x3), (4, .int x4), (5, .int x5)]) [0, 1, 2, 3, 4, 5] rfl ?_
        exact w_X6_least_b147 C hr _ hk_41 _ _ _ _ _ _ _ _ hx0 h
  · replace h := (if_neg c_86).symm.trans h
    refine r_aload_n C 0 (q := 90) dX6_least_89 rfl rfl ?_
    refine g_X6_10 C (q := 93) dX6_least_90 q_999 hx0 rfl ?_
    refine r_iconst C (v := 5) (q := 94) dX6_least_93 (by decide) rfl ?_
    refine r_iload_n C 1 (q := 95) dX6_least_94 rfl rfl ?_
    refine r_imul C (q := 96) dX6_least_95 rfl ?_
    refine r_iload C 6 (q := 98) dX6_least_96 rfl rfl ?_
    refine r_iadd C (q := 99) dX6_least_98 rfl ?_
    refine r_aload_n C 0 (q := 100) dX6_least_99 rfl rfl ?_
    refine r_iload C 4 (q := 102) dX6_least_100 rfl rfl ?_
    refine r_iload C 6 (q := 104) dX6_least_102 rfl rfl ?_
    obtain ⟨v_104, e_104, h⟩ := bs h
    refine r_callV C (ci := 6) (st := [.int ((5 * x1) + x6), .ref ((xG X).1 100)]) (st2 := [.int v_104, .int ((5 * x1) + x6), .ref ((xG X).1 100)]) (q := 107) (m_X6_of (xG X) (xl X) hx0 e_104) ok_X6_of hx0 rfl ⟨_, rfl⟩ q_1324 rfl ⟨Nat.le_of_ble_eq_true rfl, Nat.le_of_ble_eq_true rfl⟩ rfl rfl (Nat.le_of_ble_eq_true rfl) dX6_least_104 rfl (fun hp_104 => ?_)
    obtain ⟨s_107, e_107, h⟩ := bs h
    refine r_iast C (q := 108) dX6_least_107 (kf_X6_10 hx0) e_107 rfl ?_
    obtain ⟨y_108, e_108, h⟩ := bs h
    refine r_iinc C (v := y_108) (lv' := [(6, .int y_108), (0, .ref ((xG X).1 x0)), (1, .int x1), (2, .int x2), (3, .int x3), (4, .int x4), (5, .int x5)]) (q := 111) 6 dX6_least_108 rfl (Option.some.inj e_108) (by decide) rfl rfl ?_
    refine r_goto C (tgt := 80) dX6_least_111 (by decide) ?_
    refine r_sub (lv' := [(0, .ref ((xG X).1 x0)), (1, .int x1), (2, .int x2), (3, .int x3), (4, .int x4), (5, .int x5), (6, .int y_108)]) [1, 2, 3, 4, 5, 6, 0] rfl ?_
    exact hk_80 _ _ _ _ _ _ _ _ hx0 h

theorem w_X6_least_l80 {X : CX} (C : Cok X RX6 cX6_least 8 6 135) {σ' : St} {r : Int32} (hr : RtI X cX6_least r σ') (k_41 : St → Nat → Int32 → Int32 → Int32 → Int32 → Option (Int32 × St)) (hk_41 : ∀ (σ : St) (x0 : Nat) (x1 : Int32) (x2 : Int32) (x3 : Int32) (x4 : Int32), kd x0 = 7 → k_41 σ x0 x1 x2 x3 x4 = some (r, σ') → V X σ 41 [(0, .ref ((xG X).1 x0)), (1, .int x1), (2, .int x2), (3, .int x3), (4, .int x4)] []) (n : Nat) : ∀ (σ : St) (x0 : Nat) (x1 : Int32) (x2 : Int32) (x3 : Int32) (x4 : Int32) (x5 : Int32) (x6 : Int32), kd x0 = 7 → f_X6_least_l80 k_41 n σ x0 x1 x2 x3 x4 x5 x6 = some (r, σ') → V X σ 80 [(0, .ref ((xG X).1 x0)), (1, .int x1), (2, .int x2), (3, .int x3), (4, .int x4), (5, .int x5), (6, .int x6)] [] := by
  induction n with
  | zero =>
    intro σ x0 x1 x2 x3 x4 x5 x6 hx0 h
    exact nomatch (show (none : Option (Int32 × St)) = some (r, σ') from h)
  | succ n ih =>
    intro σ x0 x1 x2 x3 x4 x5 x6 hx0 h
    exact w_X6_least_b80 C hr k_41 hk_41 _ ih σ x0 x1 x2 x3 x4 x5 x6 hx0 h
set_option maxHeartbeats 4000000 in
set_option maxRecDepth 100000 in
theorem w_X6_least_b77 {X : CX} (C : Cok X RX6 cX6_least 8 6 135) {σ' : St} {r : Int32} (hr : RtI X cX6_least r σ') (k_41 : St → Nat → Int32 → Int32 → Int32 → Int32 → Option (Int32 × St)) (hk_41 : ∀ (σ : St) (x0 : Nat) (x1 : Int32) (x2 : Int32) (x3 : Int32) (x4 : Int32), kd x0 = 7 → k_41 σ x0 x1 x2 x3 x4 = some (r, σ') → V X σ 41 [(0, .ref ((xG X).1 x0)), (1, .int x1), (2, .int x2), (3, .int x3), (4, .int x4)] []) (σ : St) (x0 : Nat) (x1 : Int32) (x2 : Int32) (x3 : Int32) (x4 : Int32) (x5 : Int32) (hx0 : kd x0 = 7) (h : f_X6_least_b77 k_41 σ x0 x1 x2 x3 x4 x5 = some (r, σ')) : V X σ 77 [(0, .ref ((xG X).1 x0)), (1, .int x1), (2, .int x2), (3, .int x3), (4, .int x4), (5, .int x5)] [] := by
  unfold f_X6_least_b77 at h
  refine r_iconst C (v := 0) (q := 78) dX6_least_77 (by decide) rfl ?_
  refine r_istore C (lv' := [(6, .int 0), (0, .ref ((xG X).1 x0)), (1, .int x1), (2, .int x2), (3, .int x3), (4, .int x4), (5, .int x5)]) (q := 80) dX6_least_78 (by decide) rfl rfl ?_
  refine r_sub (lv' := [(0, .ref ((xG X).1 x0)), (1, .int x1), (2, .int x2), (3, .int x3), (4, .int x4), (5, .int x5), (6, .int 0)]) [1, 2, 3, 4, 5, 6, 0] rfl ?_
  exact w_X6_least_l80 C hr _ hk_41 FU _ _ _ _ _ _ _ _ hx0 h

set_option maxHeartbeats 4000000 in
set_option maxRecDepth 100000 in
theorem w_X6_least_b41 {X : CX} (C : Cok X RX6 cX6_least 8 6 135) {σ' : St} {r : Int32} (hr : RtI X cX6_least r σ') (k_41 : St → Nat → Int32 → Int32 → Int32 → Int32 → Option (Int32 × St)) (hk_41 : ∀ (σ : St) (x0 : Nat) (x1 : Int32) (x2 : Int32) (x3 : Int32) (x4 : Int32), kd x0 = 7 → k_41 σ x0 x1 x2 x3 x4 = some (r, σ') → V X σ 41 [(0, .ref ((xG X).1 x0)), (1, .int x1), (2, .int x2), (3, .int x3), (4, .int x4)] []) (σ : St) (x0 : Nat) (x1 : Int32) (x2 : Int32) (x3 : Int32) (x4 : Int32) (hx0 : kd x0 = 7) (h : f_X6_least_b41 k_41 σ x0 x1 x2 x3 x4 = some (r, σ')) : V X σ 41 [(0, .ref ((xG X).1 x0)), (1, .int x1), (2, .int x2), (3, .int x3), (4, .int x4)] [] := by
  unfold f_X6_least_b41 at h
  refine r_iload C 4 (q := 43) dX6_least_41 rfl rfl ?_
  refine r_aload_n C 0 (q := 44) dX6_least_43 rfl rfl ?_
  obtain ⟨v_44, e_44, h⟩ := bs h
  refine r_callV C (ci := 6) (st := [.int x4]) (st2 := [.int v_44, .int x4]) (q := 47) (m_X6_rows (xG X) (xl X) hx0 e_44) ok_X6_rows hx0 rfl ⟨_, rfl⟩ q_1312 rfl ⟨Nat.le_of_ble_eq_true rfl, Nat.le_of_ble_eq_true rfl⟩ rfl rfl (Nat.le_of_ble_eq_true rfl) dX6_least_44 rfl (fun hp_44 => ?_)
  refine r_icmp_ge C (tgt := 237) (q := 50) dX6_least_47 (by decide) rfl (fun c_47 => ?_) (fun c_47 => ?_)
  · replace h := (if_pos c_47).symm.trans h
    refine r_iload_n C 3 (q := 238) dX6_least_237 rfl rfl ?_
    obtain ⟨rfl, rfl⟩ := Prod.mk.inj (Option.some.inj h)
    exact hr _ _ dX6_least_238
  · replace h := (if_neg c_47).symm.trans h
    refine r_aload_n C 0 (q := 51) dX6_least_50 rfl rfl ?_
    refine r_iload_n C 1 (q := 52) dX6_least_51 rfl rfl ?_
    refine r_iload C 4 (q := 54) dX6_least_52 rfl rfl ?_
    obtain ⟨v_54, e_54, h⟩ := bs h
    refine r_callV C (ci := 6) (st := []) (st2 := [.int v_54]) (q := 57) (m_X6_filing (xG X) (xl X) hx0 e_54) ok_X6_filing hx0 rfl ⟨_, rfl⟩ q_1348 rfl ⟨Nat.le_of_ble_eq_true rfl, Nat.le_of_ble_eq_true rfl⟩ rfl rfl (Nat.le_of_ble_eq_true rfl) dX6_least_54 rfl (fun hp_54 => ?_)
    refine r_istore C (lv' := [(5, .int v_54), (0, .ref ((xG X).1 x0)), (1, .int x1), (2, .int x2), (3, .int x3), (4, .int x4)]) (q := 59) dX6_least_57 (by decide) rfl rfl ?_
    refine r_iload C 0 (q := 61) dX6_least_59 rfl rfl ?_
    refine r_if_lt C (tgt := 231) (q := 64) dX6_least_61 (by decide) rfl (fun c_61 => ?_) (fun c_61 => ?_)
    · replace h := (if_pos c_61).symm.trans h
      refine r_sub (lv' := [(0, .ref ((xG X).1 x0)), (1, .int x1), (2, .int x2), (3, .int x3), (4, .int x4)]) [1, 2, 3, 4, 5] rfl ?_
      exact w_X6_least_b231 C hr _ hk_41 _ _ _ _ _ _ hx0 h
    · replace h := (if_neg c_61).symm.trans h
      refine r_iload_n C 4 (q := 65) dX6_least_64 rfl rfl ?_
      refine r_if_lt C (tgt := 77) (q := 68) dX6_least_65 (by decide) rfl (fun c_65 => ?_) (fun c_65 => ?_)
      · replace h := (if_pos c_65).symm.trans h
        refine r_sub (lv' := [(0, .ref ((xG X).1 x0)), (1, .int x1), (2, .int x2), (3, .int x3), (4, .int x4), (5, .int v_54)]) [1, 2, 3, 4, 5, 0] rfl ?_
        exact w_X6_least_b77 C hr _ hk_41 _ _ _ _ _ _ _ hx0 h
      · replace h := (if_neg c_65).symm.trans h
        refine r_iload C 0 (q := 70) dX6_least_68 rfl rfl ?_
        refine r_iload_n C 4 (q := 71) dX6_least_70 rfl rfl ?_
        refine r_icmp_lt C (tgt := 77) (q := 74) dX6_least_71 (by decide) rfl (fun c_71 => ?_) (fun c_71 => ?_)
        · replace h := (if_pos c_71).symm.trans h
          refine r_sub (lv' := [(0, .ref ((xG X).1 x0)), (1, .int x1), (2, .int x2), (3, .int x3), (4, .int x4), (5, .int v_54)]) [1, 2, 3, 4, 5, 0] rfl ?_
          exact w_X6_least_b77 C hr _ hk_41 _ _ _ _ _ _ _ hx0 h
        · replace h := (if_neg c_71).symm.trans h
          refine r_goto C (tgt := 231) dX6_least_74 (by decide) ?_
          refine r_sub (lv' := [(0, .ref ((xG X).1 x0)), (1, .int x1), (2, .int x2), (3, .int x3), (4, .int x4)]) [1, 2, 3, 4, 5] rfl ?_
          exact w_X6_least_b231 C hr _ hk_41 _ _ _ _ _ _ hx0 h

theorem w_X6_least_l41 {X : CX} (C : Cok X RX6 cX6_least 8 6 135) {σ' : St} {r : Int32} (hr : RtI X cX6_least r σ') (n : Nat) : ∀ (σ : St) (x0 : Nat) (x1 : Int32) (x2 : Int32) (x3 : Int32) (x4 : Int32), kd x0 = 7 → f_X6_least_l41 n σ x0 x1 x2 x3 x4 = some (r, σ') → V X σ 41 [(0, .ref ((xG X).1 x0)), (1, .int x1), (2, .int x2), (3, .int x3), (4, .int x4)] [] := by
  induction n with
  | zero =>
    intro σ x0 x1 x2 x3 x4 hx0 h
    exact nomatch (show (none : Option (Int32 × St)) = some (r, σ') from h)
  | succ n ih =>
    intro σ x0 x1 x2 x3 x4 hx0 h
    exact w_X6_least_b41 C hr _ ih σ x0 x1 x2 x3 x4 hx0 h
set_option maxHeartbeats 4000000 in
set_option maxRecDepth 100000 in
theorem w_X6_least_b5 {X : CX} (C : Cok X RX6 cX6_least 8 6 135) {σ' : St} {r : Int32} (hr : RtI X cX6_least r σ') (k_5 : St → Nat → Int32 → Int32 → Int32 → Int32 → Option (Int32 × St)) (hk_5 : ∀ (σ : St) (x0 : Nat) (x1 : Int32) (x2 : Int32) (x3 : Int32) (x4 : Int32), kd x0 = 7 → k_5 σ x0 x1 x2 x3 x4 = some (r, σ') → V X σ 5 [(0, .ref ((xG X).1 x0)), (1, .int x1), (2, .int x2), (3, .int x3), (4, .int x4)] []) (σ : St) (x0 : Nat) (x1 : Int32) (x2 : Int32) (x3 : Int32) (x4 : Int32) (hx0 : kd x0 = 7) (h : f_X6_least_b5 k_5 σ x0 x1 x2 x3 x4 = some (r, σ')) : V X σ 5 [(0, .ref ((xG X).1 x0)), (1, .int x1), (2, .int x2), (3, .int x3), (4, .int x4)] [] := by
  unfold f_X6_least_b5 at h
  refine r_iload C 4 (q := 7) dX6_least_5 rfl rfl ?_
  refine r_aload_n C 0 (q := 8) dX6_least_7 rfl rfl ?_
  refine g_X6_3 C (q := 11) dX6_least_8 q_992 hx0 rfl ?_
  refine r_icmp_ge C (tgt := 38) (q := 14) dX6_least_11 (by decide) rfl (fun c_11 => ?_) (fun c_11 => ?_)
  · replace h := (if_pos c_11).symm.trans h
    refine r_iconst C (v := 0) (q := 39) dX6_least_38 (by decide) rfl ?_
    refine r_istore C (lv' := [(4, .int 0), (0, .ref ((xG X).1 x0)), (1, .int x1), (2, .int x2), (3, .int x3)]) (q := 41) dX6_least_39 (by decide) rfl rfl ?_
    refine r_sub (lv' := [(0, .ref ((xG X).1 x0)), (1, .int x1), (2, .int x2), (3, .int x3), (4, .int 0)]) [1, 2, 3, 4, 0] rfl ?_
    exact w_X6_least_l41 C hr  FU _ _ _ _ _ _ hx0 h
  · replace h := (if_neg c_11).symm.trans h
    refine r_aload_n C 0 (q := 15) dX6_least_14 rfl rfl ?_
    refine g_X6_26 C (q := 18) dX6_least_15 q_1015 hx0 rfl ?_
    refine r_iload C 4 (q := 20) dX6_least_18 rfl rfl ?_
    refine r_aload_n C 0 (q := 21) dX6_least_20 rfl rfl ?_
    refine g_X6_10 C (q := 24) dX6_least_21 q_999 hx0 rfl ?_
    refine r_iconst C (v := 5) (q := 25) dX6_least_24 (by decide) rfl ?_
    refine r_iload_n C 1 (q := 26) dX6_least_25 rfl rfl ?_
    refine r_imul C (q := 27) dX6_least_26 rfl ?_
    refine r_iload C 4 (q := 29) dX6_least_27 rfl rfl ?_
    refine r_iadd C (q := 30) dX6_least_29 rfl ?_
    obtain ⟨v_30, e_30, h⟩ := bs h
    refine r_iald C (q := 31) dX6_least_30 (kf_X6_10 hx0) e_30 rfl ?_
    obtain ⟨s_31, e_31, h⟩ := bs h
    refine r_iast C (q := 32) dX6_least_31 (kf_X6_26 hx0) e_31 rfl ?_
    obtain ⟨y_32, e_32, h⟩ := bs h
    refine r_iinc C (v := y_32) (lv' := [(4, .int y_32), (0, .ref ((xG X).1 x0)), (1, .int x1), (2, .int x2), (3, .int x3)]) (q := 35) 4 dX6_least_32 rfl (Option.some.inj e_32) (by decide) rfl rfl ?_
    refine r_goto C (tgt := 5) dX6_least_35 (by decide) ?_
    refine r_sub (lv' := [(0, .ref ((xG X).1 x0)), (1, .int x1), (2, .int x2), (3, .int x3), (4, .int y_32)]) [1, 2, 3, 4, 0] rfl ?_
    exact hk_5 _ _ _ _ _ _ hx0 h

theorem w_X6_least_l5 {X : CX} (C : Cok X RX6 cX6_least 8 6 135) {σ' : St} {r : Int32} (hr : RtI X cX6_least r σ') (n : Nat) : ∀ (σ : St) (x0 : Nat) (x1 : Int32) (x2 : Int32) (x3 : Int32) (x4 : Int32), kd x0 = 7 → f_X6_least_l5 n σ x0 x1 x2 x3 x4 = some (r, σ') → V X σ 5 [(0, .ref ((xG X).1 x0)), (1, .int x1), (2, .int x2), (3, .int x3), (4, .int x4)] [] := by
  induction n with
  | zero =>
    intro σ x0 x1 x2 x3 x4 hx0 h
    exact nomatch (show (none : Option (Int32 × St)) = some (r, σ') from h)
  | succ n ih =>
    intro σ x0 x1 x2 x3 x4 hx0 h
    exact w_X6_least_b5 C hr _ ih σ x0 x1 x2 x3 x4 hx0 h
set_option maxHeartbeats 4000000 in
set_option maxRecDepth 100000 in
theorem w_X6_least_b0 {X : CX} (C : Cok X RX6 cX6_least 8 6 135) {σ' : St} {r : Int32} (hr : RtI X cX6_least r σ') (σ : St) (x0 : Nat) (x1 : Int32) (x2 : Int32) (hx0 : kd x0 = 7) (h : f_X6_least σ x0 x1 x2 = some (r, σ')) : V X σ 0 [(0, .ref ((xG X).1 x0)), (1, .int x1), (2, .int x2)] [] := by
  unfold f_X6_least at h
  refine r_iconst C (v := (-1)) (q := 1) dX6_least_0 (by decide) rfl ?_
  refine r_istore_n C (lv' := [(3, .int (-1)), (0, .ref ((xG X).1 x0)), (1, .int x1), (2, .int x2)]) (q := 2) dX6_least_1 rfl (by decide) rfl rfl ?_
  refine r_iconst C (v := 0) (q := 3) dX6_least_2 (by decide) rfl ?_
  refine r_istore C (lv' := [(4, .int 0), (3, .int (-1)), (0, .ref ((xG X).1 x0)), (1, .int x1), (2, .int x2)]) (q := 5) dX6_least_3 (by decide) rfl rfl ?_
  refine r_sub (lv' := [(0, .ref ((xG X).1 x0)), (1, .int x1), (2, .int x2), (3, .int (-1)), (4, .int 0)]) [2, 3, 4, 1, 0] rfl ?_
  exact w_X6_least_l5 C hr  FU _ _ _ _ _ _ hx0 h

theorem m_X6_least (G : Gm) (l : Launch) {σ σ' : St} {x0 : Nat} {x1 : Int32} {x2 : Int32} (hx0 : kd x0 = 7) {r : Int32} (h : f_X6_least σ x0 x1 x2 = some (r, σ')) : Ctr G l yX6_least cX6_least 8 (some .int) 6 135 [.ref (G.1 x0), .int x1, .int x2] σ (some (.int r)) True σ' := by
  refine Ctr.i (by decide) (Nat.le_of_ble_eq_true rfl) ?_
  intro X hG C hr
  subst hG
  exact w_X6_least_b0 C hr _ _ _ _ hx0 h
-- X6_toOpen
set_option maxHeartbeats 4000000 in
set_option maxRecDepth 100000 in
theorem w_X6_toOpen_b25 {X : CX} (C : Cok X RX6 cX6_toOpen 3 7 162) {σ' : St} {r : Int32} (hr : RtI X cX6_toOpen r σ') (σ : St) (x0 : Nat) (hx0 : kd x0 = 7) (h : f_X6_toOpen_b25 σ x0 = some (r, σ')) : V X σ 25 [(0, .ref ((xG X).1 x0))] [] := by
  unfold f_X6_toOpen_b25 at h
  refine r_aload_n C 0 (q := 26) dX6_toOpen_25 rfl rfl ?_
  refine r_bipush C (v := (-2)) (q := 28) dX6_toOpen_26 (by decide) rfl ?_
  obtain ⟨v_28, s_28, e_28, h⟩ := bs2 h
  refine r_callV C (ci := 6) (st := []) (st2 := [.int v_28]) (q := 31) (m_X6_no (xG X) (xl X) hx0 e_28) ok_X6_no hx0 rfl ⟨_, rfl⟩ q_1084 rfl ⟨Nat.le_of_ble_eq_true rfl, Nat.le_of_ble_eq_true rfl⟩ rfl rfl (Nat.le_of_ble_eq_true rfl) dX6_toOpen_28 rfl (fun hp_28 => ?_)
  obtain ⟨rfl, rfl⟩ := Prod.mk.inj (Option.some.inj h)
  exact hr _ _ dX6_toOpen_31

set_option maxHeartbeats 4000000 in
set_option maxRecDepth 100000 in
theorem w_X6_toOpen_b0 {X : CX} (C : Cok X RX6 cX6_toOpen 3 7 162) {σ' : St} {r : Int32} (hr : RtI X cX6_toOpen r σ') (σ : St) (x0 : Nat) (x1 : Int32) (x2 : Int32) (hx0 : kd x0 = 7) (h : f_X6_toOpen σ x0 x1 x2 = some (r, σ')) : V X σ 0 [(0, .ref ((xG X).1 x0)), (1, .int x1), (2, .int x2)] [] := by
  unfold f_X6_toOpen at h
  refine r_aload_n C 0 (q := 1) dX6_toOpen_0 rfl rfl ?_
  refine r_iload_n C 1 (q := 2) dX6_toOpen_1 rfl rfl ?_
  obtain ⟨v_2, e_2, h⟩ := bs h
  refine r_callV C (ci := 6) (st := []) (st2 := [.int v_2]) (q := 5) (m_X6_isKey (xG X) (xl X) hx0 e_2) ok_X6_isKey hx0 rfl ⟨_, rfl⟩ q_1116 rfl ⟨Nat.le_of_ble_eq_true rfl, Nat.le_of_ble_eq_true rfl⟩ rfl rfl (Nat.le_of_ble_eq_true rfl) dX6_toOpen_2 rfl (fun hp_2 => ?_)
  refine r_if_eq C (tgt := 25) (q := 8) dX6_toOpen_5 (by decide) rfl (fun c_5 => ?_) (fun c_5 => ?_)
  · replace h := (if_pos c_5).symm.trans h
    refine r_sub (lv' := [(0, .ref ((xG X).1 x0))]) [0] rfl ?_
    exact w_X6_toOpen_b25 C hr  _ _ hx0 h
  · replace h := (if_neg c_5).symm.trans h
    refine r_aload_n C 0 (q := 9) dX6_toOpen_8 rfl rfl ?_
    refine r_iload_n C 2 (q := 10) dX6_toOpen_9 rfl rfl ?_
    obtain ⟨v_10, e_10, h⟩ := bs h
    refine r_callV C (ci := 6) (st := []) (st2 := [.int v_10]) (q := 13) (m_X6_isLock (xG X) (xl X) hx0 e_10) ok_X6_isLock hx0 rfl ⟨_, rfl⟩ q_1187 rfl ⟨Nat.le_of_ble_eq_true rfl, Nat.le_of_ble_eq_true rfl⟩ rfl rfl (Nat.le_of_ble_eq_true rfl) dX6_toOpen_10 rfl (fun hp_10 => ?_)
    refine r_if_eq C (tgt := 25) (q := 16) dX6_toOpen_13 (by decide) rfl (fun c_13 => ?_) (fun c_13 => ?_)
    · replace h := (if_pos c_13).symm.trans h
      refine r_sub (lv' := [(0, .ref ((xG X).1 x0))]) [0] rfl ?_
      exact w_X6_toOpen_b25 C hr  _ _ hx0 h
    · replace h := (if_neg c_13).symm.trans h
      refine r_aload_n C 0 (q := 17) dX6_toOpen_16 rfl rfl ?_
      refine r_iload_n C 1 (q := 18) dX6_toOpen_17 rfl rfl ?_
      refine r_iload_n C 2 (q := 19) dX6_toOpen_18 rfl rfl ?_
      obtain ⟨v_19, s_19, e_19, h⟩ := bs2 h
      refine r_callV C (ci := 6) (st := []) (st2 := [.int v_19]) (q := 22) (m_X6_least (xG X) (xl X) hx0 e_19) ok_X6_least hx0 rfl ⟨_, rfl⟩ q_1344 rfl ⟨Nat.le_of_ble_eq_true rfl, Nat.le_of_ble_eq_true rfl⟩ rfl rfl (Nat.le_of_ble_eq_true rfl) dX6_toOpen_19 rfl (fun hp_19 => ?_)
      refine r_goto C (tgt := 31) dX6_toOpen_22 (by decide) ?_
      obtain ⟨rfl, rfl⟩ := Prod.mk.inj (Option.some.inj h)
      exact hr _ _ dX6_toOpen_31

theorem m_X6_toOpen (G : Gm) (l : Launch) {σ σ' : St} {x0 : Nat} {x1 : Int32} {x2 : Int32} (hx0 : kd x0 = 7) {r : Int32} (h : f_X6_toOpen σ x0 x1 x2 = some (r, σ')) : Ctr G l yX6_toOpen cX6_toOpen 3 (some .int) 7 162 [.ref (G.1 x0), .int x1, .int x2] σ (some (.int r)) True σ' := by
  refine Ctr.i (by decide) (Nat.le_of_ble_eq_true rfl) ?_
  intro X hG C hr
  subst hG
  exact w_X6_toOpen_b0 C hr _ _ _ _ hx0 h
-- X6_safeOf
set_option maxHeartbeats 4000000 in
set_option maxRecDepth 100000 in
theorem w_X6_safeOf_b28 {X : CX} (C : Cok X RX6 cX6_safeOf 4 7 162) {σ' : St} {r : Int32} (hr : RtI X cX6_safeOf r σ') (k_4 : St → Nat → Int32 → Int32 → Int32 → Option (Int32 × St)) (hk_4 : ∀ (σ : St) (x0 : Nat) (x1 : Int32) (x2 : Int32) (x3 : Int32), kd x0 = 7 → k_4 σ x0 x1 x2 x3 = some (r, σ') → V X σ 4 [(0, .ref ((xG X).1 x0)), (1, .int x1), (2, .int x2), (3, .int x3)] []) (σ : St) (x0 : Nat) (x1 : Int32) (x2 : Int32) (x3 : Int32) (hx0 : kd x0 = 7) (h : f_X6_safeOf_b28 k_4 σ x0 x1 x2 x3 = some (r, σ')) : V X σ 28 [(0, .ref ((xG X).1 x0)), (1, .int x1), (2, .int x2), (3, .int x3)] [] := by
  unfold f_X6_safeOf_b28 at h
  obtain ⟨y_28, e_28, h⟩ := bs h
  refine r_iinc C (v := y_28) (lv' := [(3, .int y_28), (0, .ref ((xG X).1 x0)), (1, .int x1), (2, .int x2)]) (q := 31) 3 dX6_safeOf_28 rfl (Option.some.inj e_28) (by decide) rfl rfl ?_
  refine r_goto C (tgt := 4) dX6_safeOf_31 (by decide) ?_
  refine r_sub (lv' := [(0, .ref ((xG X).1 x0)), (1, .int x1), (2, .int x2), (3, .int y_28)]) [1, 2, 3, 0] rfl ?_
  exact hk_4 _ _ _ _ _ hx0 h

set_option maxHeartbeats 4000000 in
set_option maxRecDepth 100000 in
theorem w_X6_safeOf_b4 {X : CX} (C : Cok X RX6 cX6_safeOf 4 7 162) {σ' : St} {r : Int32} (hr : RtI X cX6_safeOf r σ') (k_4 : St → Nat → Int32 → Int32 → Int32 → Option (Int32 × St)) (hk_4 : ∀ (σ : St) (x0 : Nat) (x1 : Int32) (x2 : Int32) (x3 : Int32), kd x0 = 7 → k_4 σ x0 x1 x2 x3 = some (r, σ') → V X σ 4 [(0, .ref ((xG X).1 x0)), (1, .int x1), (2, .int x2), (3, .int x3)] []) (σ : St) (x0 : Nat) (x1 : Int32) (x2 : Int32) (x3 : Int32) (hx0 : kd x0 = 7) (h : f_X6_safeOf_b4 k_4 σ x0 x1 x2 x3 = some (r, σ')) : V X σ 4 [(0, .ref ((xG X).1 x0)), (1, .int x1), (2, .int x2), (3, .int x3)] [] := by
  unfold f_X6_safeOf_b4 at h
  refine r_iload_n C 3 (q := 5) dX6_safeOf_4 rfl rfl ?_
  refine r_aload_n C 0 (q := 6) dX6_safeOf_5 rfl rfl ?_
  refine g_X6_6 C (q := 9) dX6_safeOf_6 q_995 hx0 rfl ?_
  refine r_icmp_ge C (tgt := 34) (q := 12) dX6_safeOf_9 (by decide) rfl (fun c_9 => ?_) (fun c_9 => ?_)
  · replace h := (if_pos c_9).symm.trans h
    refine r_iload_n C 2 (q := 35) dX6_safeOf_34 rfl rfl ?_
    obtain ⟨rfl, rfl⟩ := Prod.mk.inj (Option.some.inj h)
    exact hr _ _ dX6_safeOf_35
  · replace h := (if_neg c_9).symm.trans h
    refine r_aload_n C 0 (q := 13) dX6_safeOf_12 rfl rfl ?_
    refine r_iload_n C 3 (q := 14) dX6_safeOf_13 rfl rfl ?_
    refine r_iload_n C 1 (q := 15) dX6_safeOf_14 rfl rfl ?_
    obtain ⟨v_15, s_15, e_15, h⟩ := bs2 h
    refine r_callV C (ci := 6) (st := []) (st2 := [.int v_15]) (q := 18) (m_X6_least (xG X) (xl X) hx0 e_15) ok_X6_least hx0 rfl ⟨_, rfl⟩ q_1344 rfl ⟨Nat.le_of_ble_eq_true rfl, Nat.le_of_ble_eq_true rfl⟩ rfl rfl (Nat.le_of_ble_eq_true rfl) dX6_safeOf_15 rfl (fun hp_15 => ?_)
    refine r_iconst C (v := (-1)) (q := 19) dX6_safeOf_18 (by decide) rfl ?_
    refine r_icmp_ne C (tgt := 28) (q := 22) dX6_safeOf_19 (by decide) rfl (fun c_19 => ?_) (fun c_19 => ?_)
    · replace h := (if_neg c_19).symm.trans h
      exact w_X6_safeOf_b28 C hr _ hk_4 _ _ _ _ _ hx0 h
    · replace h := (if_pos c_19).symm.trans h
      refine r_iload_n C 2 (q := 23) dX6_safeOf_22 rfl rfl ?_
      refine r_iconst C (v := 1) (q := 24) dX6_safeOf_23 (by decide) rfl ?_
      refine r_iload_n C 3 (q := 25) dX6_safeOf_24 rfl rfl ?_
      refine r_ishl C (q := 26) dX6_safeOf_25 rfl ?_
      refine r_ior C (q := 27) dX6_safeOf_26 rfl ?_
      obtain ⟨y_27, e_27, h⟩ := bs h
      refine r_topI (Option.some.inj e_27) ?_
      refine r_istore_n C (lv' := [(2, .int y_27), (0, .ref ((xG X).1 x0)), (1, .int x1), (3, .int x3)]) (q := 28) dX6_safeOf_27 rfl (by decide) rfl rfl ?_
      refine r_sub (lv' := [(0, .ref ((xG X).1 x0)), (1, .int x1), (2, .int y_27), (3, .int x3)]) [1, 2, 0, 3] rfl ?_
      exact w_X6_safeOf_b28 C hr _ hk_4 _ _ _ _ _ hx0 h

theorem w_X6_safeOf_l4 {X : CX} (C : Cok X RX6 cX6_safeOf 4 7 162) {σ' : St} {r : Int32} (hr : RtI X cX6_safeOf r σ') (n : Nat) : ∀ (σ : St) (x0 : Nat) (x1 : Int32) (x2 : Int32) (x3 : Int32), kd x0 = 7 → f_X6_safeOf_l4 n σ x0 x1 x2 x3 = some (r, σ') → V X σ 4 [(0, .ref ((xG X).1 x0)), (1, .int x1), (2, .int x2), (3, .int x3)] [] := by
  induction n with
  | zero =>
    intro σ x0 x1 x2 x3 hx0 h
    exact nomatch (show (none : Option (Int32 × St)) = some (r, σ') from h)
  | succ n ih =>
    intro σ x0 x1 x2 x3 hx0 h
    exact w_X6_safeOf_b4 C hr _ ih σ x0 x1 x2 x3 hx0 h
set_option maxHeartbeats 4000000 in
set_option maxRecDepth 100000 in
theorem w_X6_safeOf_b0 {X : CX} (C : Cok X RX6 cX6_safeOf 4 7 162) {σ' : St} {r : Int32} (hr : RtI X cX6_safeOf r σ') (σ : St) (x0 : Nat) (x1 : Int32) (hx0 : kd x0 = 7) (h : f_X6_safeOf σ x0 x1 = some (r, σ')) : V X σ 0 [(0, .ref ((xG X).1 x0)), (1, .int x1)] [] := by
  unfold f_X6_safeOf at h
  refine r_iconst C (v := 0) (q := 1) dX6_safeOf_0 (by decide) rfl ?_
  refine r_istore_n C (lv' := [(2, .int 0), (0, .ref ((xG X).1 x0)), (1, .int x1)]) (q := 2) dX6_safeOf_1 rfl (by decide) rfl rfl ?_
  refine r_iconst C (v := 0) (q := 3) dX6_safeOf_2 (by decide) rfl ?_
  refine r_istore_n C (lv' := [(3, .int 0), (2, .int 0), (0, .ref ((xG X).1 x0)), (1, .int x1)]) (q := 4) dX6_safeOf_3 rfl (by decide) rfl rfl ?_
  refine r_sub (lv' := [(0, .ref ((xG X).1 x0)), (1, .int x1), (2, .int 0), (3, .int 0)]) [2, 3, 1, 0] rfl ?_
  exact w_X6_safeOf_l4 C hr  FU _ _ _ _ _ hx0 h

theorem m_X6_safeOf (G : Gm) (l : Launch) {σ σ' : St} {x0 : Nat} {x1 : Int32} (hx0 : kd x0 = 7) {r : Int32} (h : f_X6_safeOf σ x0 x1 = some (r, σ')) : Ctr G l yX6_safeOf cX6_safeOf 4 (some .int) 7 162 [.ref (G.1 x0), .int x1] σ (some (.int r)) True σ' := by
  refine Ctr.i (by decide) (Nat.le_of_ble_eq_true rfl) ?_
  intro X hG C hr
  subst hG
  exact w_X6_safeOf_b0 C hr _ _ _ hx0 h
-- X6_safe
set_option maxHeartbeats 4000000 in
set_option maxRecDepth 100000 in
theorem w_X6_safe_b0 {X : CX} (C : Cok X RX6 cX6_safe 2 8 185) {σ' : St} {r : Int32} (hr : RtI X cX6_safe r σ') (σ : St) (x0 : Nat) (x1 : Int32) (hx0 : kd x0 = 7) (h : f_X6_safe σ x0 x1 = some (r, σ')) : V X σ 0 [(0, .ref ((xG X).1 x0)), (1, .int x1)] [] := by
  unfold f_X6_safe at h
  refine r_aload_n C 0 (q := 1) dX6_safe_0 rfl rfl ?_
  refine r_iload_n C 1 (q := 2) dX6_safe_1 rfl rfl ?_
  obtain ⟨v_2, e_2, h⟩ := bs h
  refine r_callV C (ci := 6) (st := []) (st2 := [.int v_2]) (q := 5) (m_X6_isLock (xG X) (xl X) hx0 e_2) ok_X6_isLock hx0 rfl ⟨_, rfl⟩ q_1187 rfl ⟨Nat.le_of_ble_eq_true rfl, Nat.le_of_ble_eq_true rfl⟩ rfl rfl (Nat.le_of_ble_eq_true rfl) dX6_safe_2 rfl (fun hp_2 => ?_)
  refine r_if_eq C (tgt := 16) (q := 8) dX6_safe_5 (by decide) rfl (fun c_5 => ?_) (fun c_5 => ?_)
  · replace h := (if_pos c_5).symm.trans h
    refine r_aload_n C 0 (q := 17) dX6_safe_16 rfl rfl ?_
    refine r_bipush C (v := (-2)) (q := 19) dX6_safe_17 (by decide) rfl ?_
    obtain ⟨v_19, s_19, e_19, h⟩ := bs2 h
    refine r_callV C (ci := 6) (st := []) (st2 := [.int v_19]) (q := 22) (m_X6_no (xG X) (xl X) hx0 e_19) ok_X6_no hx0 rfl ⟨_, rfl⟩ q_1084 rfl ⟨Nat.le_of_ble_eq_true rfl, Nat.le_of_ble_eq_true rfl⟩ rfl rfl (Nat.le_of_ble_eq_true rfl) dX6_safe_19 rfl (fun hp_19 => ?_)
    obtain ⟨rfl, rfl⟩ := Prod.mk.inj (Option.some.inj h)
    exact hr _ _ dX6_safe_22
  · replace h := (if_neg c_5).symm.trans h
    refine r_aload_n C 0 (q := 9) dX6_safe_8 rfl rfl ?_
    refine r_iload_n C 1 (q := 10) dX6_safe_9 rfl rfl ?_
    obtain ⟨v_10, s_10, e_10, h⟩ := bs2 h
    refine r_callV C (ci := 6) (st := []) (st2 := [.int v_10]) (q := 13) (m_X6_safeOf (xG X) (xl X) hx0 e_10) ok_X6_safeOf hx0 rfl ⟨_, rfl⟩ q_1356 rfl ⟨Nat.le_of_ble_eq_true rfl, Nat.le_of_ble_eq_true rfl⟩ rfl rfl (Nat.le_of_ble_eq_true rfl) dX6_safe_10 rfl (fun hp_10 => ?_)
    refine r_goto C (tgt := 22) dX6_safe_13 (by decide) ?_
    obtain ⟨rfl, rfl⟩ := Prod.mk.inj (Option.some.inj h)
    exact hr _ _ dX6_safe_22

theorem m_X6_safe (G : Gm) (l : Launch) {σ σ' : St} {x0 : Nat} {x1 : Int32} (hx0 : kd x0 = 7) {r : Int32} (h : f_X6_safe σ x0 x1 = some (r, σ')) : Ctr G l yX6_safe cX6_safe 2 (some .int) 8 185 [.ref (G.1 x0), .int x1] σ (some (.int r)) True σ' := by
  refine Ctr.i (by decide) (Nat.le_of_ble_eq_true rfl) ?_
  intro X hG C hr
  subst hG
  exact w_X6_safe_b0 C hr _ _ _ hx0 h
-- X6_safest
set_option maxHeartbeats 4000000 in
set_option maxRecDepth 100000 in
theorem w_X6_safest_b38 {X : CX} (C : Cok X RX6 cX6_safest 5 8 185) {σ' : St} {r : Int32} (hr : RtI X cX6_safest r σ') (k_6 : St → Nat → Int32 → Int32 → Int32 → Option (Int32 × St)) (hk_6 : ∀ (σ : St) (x0 : Nat) (x1 : Int32) (x2 : Int32) (x3 : Int32), kd x0 = 7 → k_6 σ x0 x1 x2 x3 = some (r, σ') → V X σ 6 [(0, .ref ((xG X).1 x0)), (1, .int x1), (2, .int x2), (3, .int x3)] []) (σ : St) (x0 : Nat) (x1 : Int32) (x2 : Int32) (x3 : Int32) (hx0 : kd x0 = 7) (h : f_X6_safest_b38 k_6 σ x0 x1 x2 x3 = some (r, σ')) : V X σ 38 [(0, .ref ((xG X).1 x0)), (1, .int x1), (2, .int x2), (3, .int x3)] [] := by
  unfold f_X6_safest_b38 at h
  obtain ⟨y_38, e_38, h⟩ := bs h
  refine r_iinc C (v := y_38) (lv' := [(3, .int y_38), (0, .ref ((xG X).1 x0)), (1, .int x1), (2, .int x2)]) (q := 41) 3 dX6_safest_38 rfl (Option.some.inj e_38) (by decide) rfl rfl ?_
  refine r_goto C (tgt := 6) dX6_safest_41 (by decide) ?_
  refine r_sub (lv' := [(0, .ref ((xG X).1 x0)), (1, .int x1), (2, .int x2), (3, .int y_38)]) [1, 2, 3, 0] rfl ?_
  exact hk_6 _ _ _ _ _ hx0 h

set_option maxHeartbeats 4000000 in
set_option maxRecDepth 100000 in
theorem w_X6_safest_b6 {X : CX} (C : Cok X RX6 cX6_safest 5 8 185) {σ' : St} {r : Int32} (hr : RtI X cX6_safest r σ') (k_6 : St → Nat → Int32 → Int32 → Int32 → Option (Int32 × St)) (hk_6 : ∀ (σ : St) (x0 : Nat) (x1 : Int32) (x2 : Int32) (x3 : Int32), kd x0 = 7 → k_6 σ x0 x1 x2 x3 = some (r, σ') → V X σ 6 [(0, .ref ((xG X).1 x0)), (1, .int x1), (2, .int x2), (3, .int x3)] []) (σ : St) (x0 : Nat) (x1 : Int32) (x2 : Int32) (x3 : Int32) (hx0 : kd x0 = 7) (h : f_X6_safest_b6 k_6 σ x0 x1 x2 x3 = some (r, σ')) : V X σ 6 [(0, .ref ((xG X).1 x0)), (1, .int x1), (2, .int x2), (3, .int x3)] [] := by
  unfold f_X6_safest_b6 at h
  refine r_iload_n C 3 (q := 7) dX6_safest_6 rfl rfl ?_
  refine r_aload_n C 0 (q := 8) dX6_safest_7 rfl rfl ?_
  refine g_X6_11 C (q := 11) dX6_safest_8 q_1000 hx0 rfl ?_
  refine r_icmp_ge C (tgt := 44) (q := 14) dX6_safest_11 (by decide) rfl (fun c_11 => ?_) (fun c_11 => ?_)
  · replace h := (if_pos c_11).symm.trans h
    refine r_iload_n C 1 (q := 45) dX6_safest_44 rfl rfl ?_
    obtain ⟨rfl, rfl⟩ := Prod.mk.inj (Option.some.inj h)
    exact hr _ _ dX6_safest_45
  · replace h := (if_neg c_11).symm.trans h
    refine r_aload_n C 0 (q := 15) dX6_safest_14 rfl rfl ?_
    refine r_iload_n C 3 (q := 16) dX6_safest_15 rfl rfl ?_
    obtain ⟨v_16, s_16, e_16, h⟩ := bs2 h
    refine r_callV C (ci := 6) (st := []) (st2 := [.int v_16]) (q := 19) (m_X6_safeOf (xG X) (xl X) hx0 e_16) ok_X6_safeOf hx0 rfl ⟨_, rfl⟩ q_1356 rfl ⟨Nat.le_of_ble_eq_true rfl, Nat.le_of_ble_eq_true rfl⟩ rfl rfl (Nat.le_of_ble_eq_true rfl) dX6_safest_16 rfl (fun hp_16 => ?_)
    obtain ⟨v_19, e_19, h⟩ := bs h
    refine r_callS C (st := []) (st2 := [.int v_19]) (q := 22) (m_J6_bitCount_0f7a4 (xG X) (xl X) e_19) ok_J6_bitCount_0f7a4 q_1291 rfl ⟨Nat.le_of_ble_eq_true rfl, Nat.le_of_ble_eq_true rfl⟩ rfl rfl (Nat.le_of_ble_eq_true rfl) dX6_safest_19 rfl (fun hp_19 => ?_)
    refine r_istore C (lv' := [(4, .int v_19), (0, .ref ((xG X).1 x0)), (1, .int x1), (2, .int x2), (3, .int x3)]) (q := 24) dX6_safest_22 (by decide) rfl rfl ?_
    refine r_iload C 0 (q := 26) dX6_safest_24 rfl rfl ?_
    refine r_iload_n C 3 (q := 27) dX6_safest_26 rfl rfl ?_
    refine r_icmp_gt C (tgt := 33) (q := 30) dX6_safest_27 (by decide) rfl (fun c_27 => ?_) (fun c_27 => ?_)
    · replace h := (if_pos c_27).symm.trans h
      refine r_iload C 0 (q := 35) dX6_safest_33 rfl rfl ?_
      refine r_istore_n C (lv' := [(2, .int v_19), (4, .int v_19), (0, .ref ((xG X).1 x0)), (1, .int x1), (3, .int x3)]) (q := 36) dX6_safest_35 rfl (by decide) rfl rfl ?_
      refine r_iload_n C 4 (q := 37) dX6_safest_36 rfl rfl ?_
      refine r_istore_n C (lv' := [(1, .int x3), (2, .int v_19), (4, .int v_19), (0, .ref ((xG X).1 x0)), (3, .int x3)]) (q := 38) dX6_safest_37 rfl (by decide) rfl rfl ?_
      refine r_sub (lv' := [(0, .ref ((xG X).1 x0)), (1, .int x3), (2, .int v_19), (3, .int x3)]) [3, 0, 1, 4] rfl ?_
      exact w_X6_safest_b38 C hr _ hk_6 _ _ _ _ _ hx0 h
    · replace h := (if_neg c_27).symm.trans h
      refine r_goto C (tgt := 38) dX6_safest_30 (by decide) ?_
      refine r_sub (lv' := [(0, .ref ((xG X).1 x0)), (1, .int x1), (2, .int x2), (3, .int x3)]) [1, 2, 3, 4] rfl ?_
      exact w_X6_safest_b38 C hr _ hk_6 _ _ _ _ _ hx0 h

theorem w_X6_safest_l6 {X : CX} (C : Cok X RX6 cX6_safest 5 8 185) {σ' : St} {r : Int32} (hr : RtI X cX6_safest r σ') (n : Nat) : ∀ (σ : St) (x0 : Nat) (x1 : Int32) (x2 : Int32) (x3 : Int32), kd x0 = 7 → f_X6_safest_l6 n σ x0 x1 x2 x3 = some (r, σ') → V X σ 6 [(0, .ref ((xG X).1 x0)), (1, .int x1), (2, .int x2), (3, .int x3)] [] := by
  induction n with
  | zero =>
    intro σ x0 x1 x2 x3 hx0 h
    exact nomatch (show (none : Option (Int32 × St)) = some (r, σ') from h)
  | succ n ih =>
    intro σ x0 x1 x2 x3 hx0 h
    exact w_X6_safest_b6 C hr _ ih σ x0 x1 x2 x3 hx0 h
set_option maxHeartbeats 4000000 in
set_option maxRecDepth 100000 in
theorem w_X6_safest_b0 {X : CX} (C : Cok X RX6 cX6_safest 5 8 185) {σ' : St} {r : Int32} (hr : RtI X cX6_safest r σ') (σ : St) (x0 : Nat) (hx0 : kd x0 = 7) (h : f_X6_safest σ x0 = some (r, σ')) : V X σ 0 [(0, .ref ((xG X).1 x0))] [] := by
  unfold f_X6_safest at h
  refine r_iconst C (v := (-1)) (q := 1) dX6_safest_0 (by decide) rfl ?_
  refine r_istore_n C (lv' := [(1, .int (-1)), (0, .ref ((xG X).1 x0))]) (q := 2) dX6_safest_1 rfl (by decide) rfl rfl ?_
  refine r_iconst C (v := (-1)) (q := 3) dX6_safest_2 (by decide) rfl ?_
  refine r_istore_n C (lv' := [(2, .int (-1)), (1, .int (-1)), (0, .ref ((xG X).1 x0))]) (q := 4) dX6_safest_3 rfl (by decide) rfl rfl ?_
  refine r_iconst C (v := 0) (q := 5) dX6_safest_4 (by decide) rfl ?_
  refine r_istore_n C (lv' := [(3, .int 0), (2, .int (-1)), (1, .int (-1)), (0, .ref ((xG X).1 x0))]) (q := 6) dX6_safest_5 rfl (by decide) rfl rfl ?_
  refine r_sub (lv' := [(0, .ref ((xG X).1 x0)), (1, .int (-1)), (2, .int (-1)), (3, .int 0)]) [3, 2, 1, 0] rfl ?_
  exact w_X6_safest_l6 C hr  FU _ _ _ _ _ hx0 h

theorem m_X6_safest (G : Gm) (l : Launch) {σ σ' : St} {x0 : Nat} (hx0 : kd x0 = 7) {r : Int32} (h : f_X6_safest σ x0 = some (r, σ')) : Ctr G l yX6_safest cX6_safest 5 (some .int) 8 185 [.ref (G.1 x0)] σ (some (.int r)) True σ' := by
  refine Ctr.i (by decide) (Nat.le_of_ble_eq_true rfl) ?_
  intro X hG C hr
  subst hG
  exact w_X6_safest_b0 C hr _ _ hx0 h
-- X6_mended
set_option maxHeartbeats 4000000 in
set_option maxRecDepth 100000 in
theorem w_X6_mended_b61 {X : CX} (C : Cok X RX6 cX6_mended 6 7 162) {σ' : St} {r : Int32} (hr : RtI X cX6_mended r σ') (k_23 : St → Nat → Int32 → Int32 → Int32 → Int32 → Option (Int32 × St)) (hk_23 : ∀ (σ : St) (x0 : Nat) (x1 : Int32) (x2 : Int32) (x3 : Int32) (x4 : Int32), kd x0 = 7 → k_23 σ x0 x1 x2 x3 x4 = some (r, σ') → V X σ 23 [(0, .ref ((xG X).1 x0)), (1, .int x1), (2, .int x2), (3, .int x3), (4, .int x4)] []) (σ : St) (x0 : Nat) (x1 : Int32) (x2 : Int32) (x3 : Int32) (x4 : Int32) (hx0 : kd x0 = 7) (h : f_X6_mended_b61 k_23 σ x0 x1 x2 x3 x4 = some (r, σ')) : V X σ 61 [(0, .ref ((xG X).1 x0)), (1, .int x1), (2, .int x2), (3, .int x3), (4, .int x4)] [] := by
  unfold f_X6_mended_b61 at h
  obtain ⟨y_61, e_61, h⟩ := bs h
  refine r_iinc C (v := y_61) (lv' := [(4, .int y_61), (0, .ref ((xG X).1 x0)), (1, .int x1), (2, .int x2), (3, .int x3)]) (q := 64) 4 dX6_mended_61 rfl (Option.some.inj e_61) (by decide) rfl rfl ?_
  refine r_goto C (tgt := 23) dX6_mended_64 (by decide) ?_
  refine r_sub (lv' := [(0, .ref ((xG X).1 x0)), (1, .int x1), (2, .int x2), (3, .int x3), (4, .int y_61)]) [1, 2, 3, 4, 0] rfl ?_
  exact hk_23 _ _ _ _ _ _ hx0 h

set_option maxHeartbeats 4000000 in
set_option maxRecDepth 100000 in
theorem w_X6_mended_b23 {X : CX} (C : Cok X RX6 cX6_mended 6 7 162) {σ' : St} {r : Int32} (hr : RtI X cX6_mended r σ') (k_23 : St → Nat → Int32 → Int32 → Int32 → Int32 → Option (Int32 × St)) (hk_23 : ∀ (σ : St) (x0 : Nat) (x1 : Int32) (x2 : Int32) (x3 : Int32) (x4 : Int32), kd x0 = 7 → k_23 σ x0 x1 x2 x3 x4 = some (r, σ') → V X σ 23 [(0, .ref ((xG X).1 x0)), (1, .int x1), (2, .int x2), (3, .int x3), (4, .int x4)] []) (σ : St) (x0 : Nat) (x1 : Int32) (x2 : Int32) (x3 : Int32) (x4 : Int32) (hx0 : kd x0 = 7) (h : f_X6_mended_b23 k_23 σ x0 x1 x2 x3 x4 = some (r, σ')) : V X σ 23 [(0, .ref ((xG X).1 x0)), (1, .int x1), (2, .int x2), (3, .int x3), (4, .int x4)] [] := by
  unfold f_X6_mended_b23 at h
  refine r_iload C 4 (q := 25) dX6_mended_23 rfl rfl ?_
  refine r_aload_n C 0 (q := 26) dX6_mended_25 rfl rfl ?_
  refine g_X6_6 C (q := 29) dX6_mended_26 q_995 hx0 rfl ?_
  refine r_icmp_ge C (tgt := 67) (q := 32) dX6_mended_29 (by decide) rfl (fun c_29 => ?_) (fun c_29 => ?_)
  · replace h := (if_pos c_29).symm.trans h
    refine r_iload_n C 1 (q := 68) dX6_mended_67 rfl rfl ?_
    refine r_if_ne C (tgt := 75) (q := 71) dX6_mended_68 (by decide) rfl (fun c_68 => ?_) (fun c_68 => ?_)
    · replace h := (if_neg c_68).symm.trans h
      refine r_iload_n C 3 (q := 76) dX6_mended_75 rfl rfl ?_
      obtain ⟨rfl, rfl⟩ := Prod.mk.inj (Option.some.inj h)
      exact hr _ _ dX6_mended_76
    · replace h := (if_pos c_68).symm.trans h
      refine r_iload_n C 2 (q := 72) dX6_mended_71 rfl rfl ?_
      refine r_goto C (tgt := 76) dX6_mended_72 (by decide) ?_
      obtain ⟨rfl, rfl⟩ := Prod.mk.inj (Option.some.inj h)
      exact hr _ _ dX6_mended_76
  · replace h := (if_neg c_29).symm.trans h
    refine r_aload_n C 0 (q := 33) dX6_mended_32 rfl rfl ?_
    refine r_iload C 4 (q := 35) dX6_mended_33 rfl rfl ?_
    refine r_iconst C (v := (-1)) (q := 36) dX6_mended_35 (by decide) rfl ?_
    obtain ⟨v_36, s_36, e_36, h⟩ := bs2 h
    refine r_callV C (ci := 6) (st := []) (st2 := [.int v_36]) (q := 39) (m_X6_least (xG X) (xl X) hx0 e_36) ok_X6_least hx0 rfl ⟨_, rfl⟩ q_1344 rfl ⟨Nat.le_of_ble_eq_true rfl, Nat.le_of_ble_eq_true rfl⟩ rfl rfl (Nat.le_of_ble_eq_true rfl) dX6_mended_36 rfl (fun hp_36 => ?_)
    refine r_istore C (lv' := [(5, .int v_36), (0, .ref ((xG X).1 x0)), (1, .int x1), (2, .int x2), (3, .int x3), (4, .int x4)]) (q := 41) dX6_mended_39 (by decide) rfl rfl ?_
    refine r_iload C 0 (q := 43) dX6_mended_41 rfl rfl ?_
    refine r_if_ge C (tgt := 56) (q := 46) dX6_mended_43 (by decide) rfl (fun c_43 => ?_) (fun c_43 => ?_)
    · replace h := (if_pos c_43).symm.trans h
      refine r_iload_n C 3 (q := 57) dX6_mended_56 rfl rfl ?_
      refine r_iload C 0 (q := 59) dX6_mended_57 rfl rfl ?_
      refine r_iadd C (q := 60) dX6_mended_59 rfl ?_
      obtain ⟨y_60, e_60, h⟩ := bs h
      refine r_topI (Option.some.inj e_60) ?_
      refine r_istore_n C (lv' := [(2, .int y_60), (5, .int v_36), (0, .ref ((xG X).1 x0)), (1, .int x1), (3, .int x3), (4, .int x4)]) (q := 61) dX6_mended_60 rfl (by decide) rfl rfl ?_
      refine r_sub (lv' := [(0, .ref ((xG X).1 x0)), (1, .int x1), (2, .int y_60), (3, .int x3), (4, .int x4)]) [2, 3, 0, 4, 5] rfl ?_
      exact w_X6_mended_b61 C hr _ hk_23 _ _ _ _ _ _ hx0 h
    · replace h := (if_neg c_43).symm.trans h
      refine r_iload_n C 4 (q := 47) dX6_mended_46 rfl rfl ?_
      refine r_iconst C (v := 1) (q := 48) dX6_mended_47 (by decide) rfl ?_
      refine r_iload C 5 (q := 50) dX6_mended_48 rfl rfl ?_
      refine r_ishl C (q := 51) dX6_mended_50 rfl ?_
      refine r_ior C (q := 52) dX6_mended_51 rfl ?_
      obtain ⟨y_52, e_52, h⟩ := bs h
      refine r_topI (Option.some.inj e_52) ?_
      refine r_istore_n C (lv' := [(3, .int y_52), (5, .int v_36), (0, .ref ((xG X).1 x0)), (1, .int x1), (2, .int x2), (4, .int x4)]) (q := 53) dX6_mended_52 rfl (by decide) rfl rfl ?_
      refine r_goto C (tgt := 61) dX6_mended_53 (by decide) ?_
      refine r_sub (lv' := [(0, .ref ((xG X).1 x0)), (1, .int x1), (2, .int x2), (3, .int y_52), (4, .int x4)]) [2, 3, 4, 0, 5] rfl ?_
      exact w_X6_mended_b61 C hr _ hk_23 _ _ _ _ _ _ hx0 h

theorem w_X6_mended_l23 {X : CX} (C : Cok X RX6 cX6_mended 6 7 162) {σ' : St} {r : Int32} (hr : RtI X cX6_mended r σ') (n : Nat) : ∀ (σ : St) (x0 : Nat) (x1 : Int32) (x2 : Int32) (x3 : Int32) (x4 : Int32), kd x0 = 7 → f_X6_mended_l23 n σ x0 x1 x2 x3 x4 = some (r, σ') → V X σ 23 [(0, .ref ((xG X).1 x0)), (1, .int x1), (2, .int x2), (3, .int x3), (4, .int x4)] [] := by
  induction n with
  | zero =>
    intro σ x0 x1 x2 x3 x4 hx0 h
    exact nomatch (show (none : Option (Int32 × St)) = some (r, σ') from h)
  | succ n ih =>
    intro σ x0 x1 x2 x3 x4 hx0 h
    exact w_X6_mended_b23 C hr _ ih σ x0 x1 x2 x3 x4 hx0 h
set_option maxHeartbeats 4000000 in
set_option maxRecDepth 100000 in
theorem w_X6_mended_b0 {X : CX} (C : Cok X RX6 cX6_mended 6 7 162) {σ' : St} {r : Int32} (hr : RtI X cX6_mended r σ') (σ : St) (x0 : Nat) (x1 : Int32) (hx0 : kd x0 = 7) (h : f_X6_mended σ x0 x1 = some (r, σ')) : V X σ 0 [(0, .ref ((xG X).1 x0)), (1, .int x1)] [] := by
  unfold f_X6_mended at h
  refine r_iload_n C 1 (q := 1) dX6_mended_0 rfl rfl ?_
  refine r_iconst C (v := 0) (q := 2) dX6_mended_1 (by decide) rfl ?_
  refine r_iconst C (v := 1) (q := 3) dX6_mended_2 (by decide) rfl ?_
  obtain ⟨v_3, e_3, h⟩ := bs h
  refine r_callS C (st := []) (st2 := [.int v_3]) (q := 6) (m_X6_within (xG X) (xl X) e_3) ok_X6_within q_1081 rfl ⟨Nat.le_of_ble_eq_true rfl, Nat.le_of_ble_eq_true rfl⟩ rfl rfl (Nat.le_of_ble_eq_true rfl) dX6_mended_3 rfl (fun hp_3 => ?_)
  refine r_if_ne C (tgt := 16) (q := 9) dX6_mended_6 (by decide) rfl (fun c_6 => ?_) (fun c_6 => ?_)
  · replace h := (if_neg c_6).symm.trans h
    refine r_iconst C (v := 0) (q := 17) dX6_mended_16 (by decide) rfl ?_
    refine r_istore_n C (lv' := [(2, .int 0), (0, .ref ((xG X).1 x0)), (1, .int x1)]) (q := 18) dX6_mended_17 rfl (by decide) rfl rfl ?_
    refine r_iconst C (v := 0) (q := 19) dX6_mended_18 (by decide) rfl ?_
    refine r_istore_n C (lv' := [(3, .int 0), (2, .int 0), (0, .ref ((xG X).1 x0)), (1, .int x1)]) (q := 20) dX6_mended_19 rfl (by decide) rfl rfl ?_
    refine r_iconst C (v := 0) (q := 21) dX6_mended_20 (by decide) rfl ?_
    refine r_istore C (lv' := [(4, .int 0), (3, .int 0), (2, .int 0), (0, .ref ((xG X).1 x0)), (1, .int x1)]) (q := 23) dX6_mended_21 (by decide) rfl rfl ?_
    refine r_sub (lv' := [(0, .ref ((xG X).1 x0)), (1, .int x1), (2, .int 0), (3, .int 0), (4, .int 0)]) [3, 4, 2, 1, 0] rfl ?_
    exact w_X6_mended_l23 C hr  FU _ _ _ _ _ _ hx0 h
  · replace h := (if_pos c_6).symm.trans h
    refine r_aload_n C 0 (q := 10) dX6_mended_9 rfl rfl ?_
    refine r_bipush C (v := (-2)) (q := 12) dX6_mended_10 (by decide) rfl ?_
    obtain ⟨v_12, s_12, e_12, h⟩ := bs2 h
    refine r_callV C (ci := 6) (st := []) (st2 := [.int v_12]) (q := 15) (m_X6_no (xG X) (xl X) hx0 e_12) ok_X6_no hx0 rfl ⟨_, rfl⟩ q_1084 rfl ⟨Nat.le_of_ble_eq_true rfl, Nat.le_of_ble_eq_true rfl⟩ rfl rfl (Nat.le_of_ble_eq_true rfl) dX6_mended_12 rfl (fun hp_12 => ?_)
    obtain ⟨rfl, rfl⟩ := Prod.mk.inj (Option.some.inj h)
    exact hr _ _ dX6_mended_15

theorem m_X6_mended (G : Gm) (l : Launch) {σ σ' : St} {x0 : Nat} {x1 : Int32} (hx0 : kd x0 = 7) {r : Int32} (h : f_X6_mended σ x0 x1 = some (r, σ')) : Ctr G l yX6_mended cX6_mended 6 (some .int) 7 162 [.ref (G.1 x0), .int x1] σ (some (.int r)) True σ' := by
  refine Ctr.i (by decide) (Nat.le_of_ble_eq_true rfl) ?_
  intro X hG C hr
  subst hG
  exact w_X6_mended_b0 C hr _ _ _ hx0 h
-- X6_mend
set_option maxHeartbeats 4000000 in
set_option maxRecDepth 100000 in
theorem w_X6_mend_b99 {X : CX} (C : Cok X RX6 cX6_mend 5 7 162) {σ' : St} {r : Int32} (hr : RtI X cX6_mend r σ') (k_89 : St → Nat → Int32 → Int32 → Option (Int32 × St)) (hk_89 : ∀ (σ : St) (x0 : Nat) (x1 : Int32) (x2 : Int32), kd x0 = 7 → k_89 σ x0 x1 x2 = some (r, σ') → V X σ 89 [(0, .ref ((xG X).1 x0)), (1, .int x1), (2, .int x2)] []) (k_99 : St → Nat → Int32 → Int32 → Int32 → Option (Int32 × St)) (hk_99 : ∀ (σ : St) (x0 : Nat) (x1 : Int32) (x2 : Int32) (x3 : Int32), kd x0 = 7 → k_99 σ x0 x1 x2 x3 = some (r, σ') → V X σ 99 [(0, .ref ((xG X).1 x0)), (1, .int x1), (2, .int x2), (3, .int x3)] []) (σ : St) (x0 : Nat) (x1 : Int32) (x2 : Int32) (x3 : Int32) (hx0 : kd x0 = 7) (h : f_X6_mend_b99 k_89 k_99 σ x0 x1 x2 x3 = some (r, σ')) : V X σ 99 [(0, .ref ((xG X).1 x0)), (1, .int x1), (2, .int x2), (3, .int x3)] [] := by
  unfold f_X6_mend_b99 at h
  refine r_iload_n C 3 (q := 100) dX6_mend_99 rfl rfl ?_
  refine r_aload_n C 0 (q := 101) dX6_mend_100 rfl rfl ?_
  refine g_X6_3 C (q := 104) dX6_mend_101 q_992 hx0 rfl ?_
  refine r_icmp_ge C (tgt := 133) (q := 107) dX6_mend_104 (by decide) rfl (fun c_104 => ?_) (fun c_104 => ?_)
  · replace h := (if_pos c_104).symm.trans h
    obtain ⟨y_133, e_133, h⟩ := bs h
    refine r_iinc C (v := y_133) (lv' := [(2, .int y_133), (0, .ref ((xG X).1 x0)), (1, .int x1), (3, .int x3)]) (q := 136) 2 dX6_mend_133 rfl (Option.some.inj e_133) (by decide) rfl rfl ?_
    refine r_goto C (tgt := 89) dX6_mend_136 (by decide) ?_
    refine r_sub (lv' := [(0, .ref ((xG X).1 x0)), (1, .int x1), (2, .int y_133)]) [1, 2, 0] rfl ?_
    exact hk_89 _ _ _ _ hx0 h
  · replace h := (if_neg c_104).symm.trans h
    refine r_aload_n C 0 (q := 108) dX6_mend_107 rfl rfl ?_
    refine g_X6_10 C (q := 111) dX6_mend_108 q_999 hx0 rfl ?_
    refine r_iconst C (v := 5) (q := 112) dX6_mend_111 (by decide) rfl ?_
    refine r_iload_n C 2 (q := 113) dX6_mend_112 rfl rfl ?_
    refine r_imul C (q := 114) dX6_mend_113 rfl ?_
    refine r_iload_n C 3 (q := 115) dX6_mend_114 rfl rfl ?_
    refine r_iadd C (q := 116) dX6_mend_115 rfl ?_
    refine r_aload_n C 0 (q := 117) dX6_mend_116 rfl rfl ?_
    refine g_X6_28 C (q := 120) dX6_mend_117 q_1017 hx0 rfl ?_
    refine r_iconst C (v := 5) (q := 121) dX6_mend_120 (by decide) rfl ?_
    refine r_iload_n C 2 (q := 122) dX6_mend_121 rfl rfl ?_
    refine r_imul C (q := 123) dX6_mend_122 rfl ?_
    refine r_iload_n C 3 (q := 124) dX6_mend_123 rfl rfl ?_
    refine r_iadd C (q := 125) dX6_mend_124 rfl ?_
    obtain ⟨v_125, e_125, h⟩ := bs h
    refine r_iald C (q := 126) dX6_mend_125 (kf_X6_28 hx0) e_125 rfl ?_
    obtain ⟨s_126, e_126, h⟩ := bs h
    refine r_iast C (q := 127) dX6_mend_126 (kf_X6_10 hx0) e_126 rfl ?_
    obtain ⟨y_127, e_127, h⟩ := bs h
    refine r_iinc C (v := y_127) (lv' := [(3, .int y_127), (0, .ref ((xG X).1 x0)), (1, .int x1), (2, .int x2)]) (q := 130) 3 dX6_mend_127 rfl (Option.some.inj e_127) (by decide) rfl rfl ?_
    refine r_goto C (tgt := 99) dX6_mend_130 (by decide) ?_
    refine r_sub (lv' := [(0, .ref ((xG X).1 x0)), (1, .int x1), (2, .int x2), (3, .int y_127)]) [1, 2, 3, 0] rfl ?_
    exact hk_99 _ _ _ _ _ hx0 h

theorem w_X6_mend_l99 {X : CX} (C : Cok X RX6 cX6_mend 5 7 162) {σ' : St} {r : Int32} (hr : RtI X cX6_mend r σ') (k_89 : St → Nat → Int32 → Int32 → Option (Int32 × St)) (hk_89 : ∀ (σ : St) (x0 : Nat) (x1 : Int32) (x2 : Int32), kd x0 = 7 → k_89 σ x0 x1 x2 = some (r, σ') → V X σ 89 [(0, .ref ((xG X).1 x0)), (1, .int x1), (2, .int x2)] []) (n : Nat) : ∀ (σ : St) (x0 : Nat) (x1 : Int32) (x2 : Int32) (x3 : Int32), kd x0 = 7 → f_X6_mend_l99 k_89 n σ x0 x1 x2 x3 = some (r, σ') → V X σ 99 [(0, .ref ((xG X).1 x0)), (1, .int x1), (2, .int x2), (3, .int x3)] [] := by
  induction n with
  | zero =>
    intro σ x0 x1 x2 x3 hx0 h
    exact nomatch (show (none : Option (Int32 × St)) = some (r, σ') from h)
  | succ n ih =>
    intro σ x0 x1 x2 x3 hx0 h
    exact w_X6_mend_b99 C hr k_89 hk_89 _ ih σ x0 x1 x2 x3 hx0 h
set_option maxHeartbeats 4000000 in
set_option maxRecDepth 100000 in
theorem w_X6_mend_b89 {X : CX} (C : Cok X RX6 cX6_mend 5 7 162) {σ' : St} {r : Int32} (hr : RtI X cX6_mend r σ') (k_89 : St → Nat → Int32 → Int32 → Option (Int32 × St)) (hk_89 : ∀ (σ : St) (x0 : Nat) (x1 : Int32) (x2 : Int32), kd x0 = 7 → k_89 σ x0 x1 x2 = some (r, σ') → V X σ 89 [(0, .ref ((xG X).1 x0)), (1, .int x1), (2, .int x2)] []) (σ : St) (x0 : Nat) (x1 : Int32) (x2 : Int32) (hx0 : kd x0 = 7) (h : f_X6_mend_b89 k_89 σ x0 x1 x2 = some (r, σ')) : V X σ 89 [(0, .ref ((xG X).1 x0)), (1, .int x1), (2, .int x2)] [] := by
  unfold f_X6_mend_b89 at h
  refine r_iload_n C 2 (q := 90) dX6_mend_89 rfl rfl ?_
  refine r_aload_n C 0 (q := 91) dX6_mend_90 rfl rfl ?_
  refine g_X6_6 C (q := 94) dX6_mend_91 q_995 hx0 rfl ?_
  refine r_icmp_ge C (tgt := 139) (q := 97) dX6_mend_94 (by decide) rfl (fun c_94 => ?_) (fun c_94 => ?_)
  · replace h := (if_pos c_94).symm.trans h
    refine r_aload_n C 0 (q := 140) dX6_mend_139 rfl rfl ?_
    refine r_dup C (q := 141) dX6_mend_140 rfl rfl ?_
    refine g_X6_14 C (q := 144) dX6_mend_141 q_1003 hx0 rfl ?_
    refine r_iload_n C 1 (q := 145) dX6_mend_144 rfl rfl ?_
    refine r_iadd C (q := 146) dX6_mend_145 rfl ?_
    obtain ⟨s_146, e_146, h⟩ := bs h
    refine p_X6_14 C (q := 149) dX6_mend_146 q_1003 hx0 e_146 rfl ?_
    refine r_iload_n C 1 (q := 150) dX6_mend_149 rfl rfl ?_
    obtain ⟨rfl, rfl⟩ := Prod.mk.inj (Option.some.inj h)
    exact hr _ _ dX6_mend_150
  · replace h := (if_neg c_94).symm.trans h
    refine r_iconst C (v := 0) (q := 98) dX6_mend_97 (by decide) rfl ?_
    refine r_istore_n C (lv' := [(3, .int 0), (0, .ref ((xG X).1 x0)), (1, .int x1), (2, .int x2)]) (q := 99) dX6_mend_98 rfl (by decide) rfl rfl ?_
    refine r_sub (lv' := [(0, .ref ((xG X).1 x0)), (1, .int x1), (2, .int x2), (3, .int 0)]) [1, 2, 3, 0] rfl ?_
    exact w_X6_mend_l99 C hr _ hk_89 FU _ _ _ _ _ hx0 h

theorem w_X6_mend_l89 {X : CX} (C : Cok X RX6 cX6_mend 5 7 162) {σ' : St} {r : Int32} (hr : RtI X cX6_mend r σ') (n : Nat) : ∀ (σ : St) (x0 : Nat) (x1 : Int32) (x2 : Int32), kd x0 = 7 → f_X6_mend_l89 n σ x0 x1 x2 = some (r, σ') → V X σ 89 [(0, .ref ((xG X).1 x0)), (1, .int x1), (2, .int x2)] [] := by
  induction n with
  | zero =>
    intro σ x0 x1 x2 hx0 h
    exact nomatch (show (none : Option (Int32 × St)) = some (r, σ') from h)
  | succ n ih =>
    intro σ x0 x1 x2 hx0 h
    exact w_X6_mend_b89 C hr _ ih σ x0 x1 x2 hx0 h
set_option maxHeartbeats 4000000 in
set_option maxRecDepth 100000 in
theorem w_X6_mend_b66 {X : CX} (C : Cok X RX6 cX6_mend 5 7 162) {σ' : St} {r : Int32} (hr : RtI X cX6_mend r σ') (k_22 : St → Nat → Int32 → Int32 → Int32 → Int32 → Option (Int32 × St)) (hk_22 : ∀ (σ : St) (x0 : Nat) (x1 : Int32) (x2 : Int32) (x3 : Int32) (x4 : Int32), kd x0 = 7 → k_22 σ x0 x1 x2 x3 x4 = some (r, σ') → V X σ 22 [(0, .ref ((xG X).1 x0)), (1, .int x1), (2, .int x2), (3, .int x3), (4, .int x4)] []) (σ : St) (x0 : Nat) (x1 : Int32) (x2 : Int32) (x3 : Int32) (x4 : Int32) (t0 : Nat) (t1 : Int32) (t2 : Int32) (hx0 : kd x0 = 7) (ht0 : kd t0 = 8) (h : f_X6_mend_b66 k_22 σ x0 x1 x2 x3 x4 t0 t1 t2 = some (r, σ')) : V X σ 66 [(0, .ref ((xG X).1 x0)), (1, .int x1), (2, .int x2), (3, .int x3), (4, .int x4)] [.int t2, .int t1, .ref ((xG X).1 t0)] := by
  unfold f_X6_mend_b66 at h
  obtain ⟨s_66, e_66, h⟩ := bs h
  refine r_iast C (q := 67) dX6_mend_66 ht0 e_66 rfl ?_
  obtain ⟨y_67, e_67, h⟩ := bs h
  refine r_iinc C (v := y_67) (lv' := [(4, .int y_67), (0, .ref ((xG X).1 x0)), (1, .int x1), (2, .int x2), (3, .int x3)]) (q := 70) 4 dX6_mend_67 rfl (Option.some.inj e_67) (by decide) rfl rfl ?_
  refine r_goto C (tgt := 22) dX6_mend_70 (by decide) ?_
  refine r_sub (lv' := [(0, .ref ((xG X).1 x0)), (1, .int x1), (2, .int x2), (3, .int x3), (4, .int y_67)]) [1, 2, 3, 4, 0] rfl ?_
  exact hk_22 _ _ _ _ _ _ hx0 h

set_option maxHeartbeats 4000000 in
set_option maxRecDepth 100000 in
theorem w_X6_mend_b22 {X : CX} (C : Cok X RX6 cX6_mend 5 7 162) {σ' : St} {r : Int32} (hr : RtI X cX6_mend r σ') (k_4 : St → Nat → Int32 → Int32 → Option (Int32 × St)) (hk_4 : ∀ (σ : St) (x0 : Nat) (x1 : Int32) (x2 : Int32), kd x0 = 7 → k_4 σ x0 x1 x2 = some (r, σ') → V X σ 4 [(0, .ref ((xG X).1 x0)), (1, .int x1), (2, .int x2)] []) (k_22 : St → Nat → Int32 → Int32 → Int32 → Int32 → Option (Int32 × St)) (hk_22 : ∀ (σ : St) (x0 : Nat) (x1 : Int32) (x2 : Int32) (x3 : Int32) (x4 : Int32), kd x0 = 7 → k_22 σ x0 x1 x2 x3 x4 = some (r, σ') → V X σ 22 [(0, .ref ((xG X).1 x0)), (1, .int x1), (2, .int x2), (3, .int x3), (4, .int x4)] []) (σ : St) (x0 : Nat) (x1 : Int32) (x2 : Int32) (x3 : Int32) (x4 : Int32) (hx0 : kd x0 = 7) (h : f_X6_mend_b22 k_4 k_22 σ x0 x1 x2 x3 x4 = some (r, σ')) : V X σ 22 [(0, .ref ((xG X).1 x0)), (1, .int x1), (2, .int x2), (3, .int x3), (4, .int x4)] [] := by
  unfold f_X6_mend_b22 at h
  refine r_iload C 4 (q := 24) dX6_mend_22 rfl rfl ?_
  refine r_aload_n C 0 (q := 25) dX6_mend_24 rfl rfl ?_
  refine g_X6_3 C (q := 28) dX6_mend_25 q_992 hx0 rfl ?_
  refine r_icmp_ge C (tgt := 73) (q := 31) dX6_mend_28 (by decide) rfl (fun c_28 => ?_) (fun c_28 => ?_)
  · replace h := (if_pos c_28).symm.trans h
    refine r_iload_n C 1 (q := 74) dX6_mend_73 rfl rfl ?_
    refine r_iconst C (v := 0) (q := 75) dX6_mend_74 (by decide) rfl ?_
    refine r_iload_n C 3 (q := 76) dX6_mend_75 rfl rfl ?_
    refine r_max C (st := [.int x1]) (q := 79) dX6_mend_76 q_1158 ok_max ⟨Nat.le_of_ble_eq_true rfl, Nat.le_of_ble_eq_true rfl⟩ rfl ?_
    refine r_iadd C (q := 80) dX6_mend_79 rfl ?_
    obtain ⟨y_80, e_80, h⟩ := bs h
    refine r_topI (Option.some.inj e_80) ?_
    refine r_istore_n C (lv' := [(1, .int y_80), (0, .ref ((xG X).1 x0)), (2, .int x2), (3, .int x3), (4, .int x4)]) (q := 81) dX6_mend_80 rfl (by decide) rfl rfl ?_
    obtain ⟨y_81, e_81, h⟩ := bs h
    refine r_iinc C (v := y_81) (lv' := [(2, .int y_81), (1, .int y_80), (0, .ref ((xG X).1 x0)), (3, .int x3), (4, .int x4)]) (q := 84) 2 dX6_mend_81 rfl (Option.some.inj e_81) (by decide) rfl rfl ?_
    refine r_goto C (tgt := 4) dX6_mend_84 (by decide) ?_
    refine r_sub (lv' := [(0, .ref ((xG X).1 x0)), (1, .int y_80), (2, .int y_81)]) [2, 1, 0] rfl ?_
    exact hk_4 _ _ _ _ hx0 h
  · replace h := (if_neg c_28).symm.trans h
    refine r_aload_n C 0 (q := 32) dX6_mend_31 rfl rfl ?_
    refine g_X6_28 C (q := 35) dX6_mend_32 q_1017 hx0 rfl ?_
    refine r_iconst C (v := 5) (q := 36) dX6_mend_35 (by decide) rfl ?_
    refine r_iload_n C 2 (q := 37) dX6_mend_36 rfl rfl ?_
    refine r_imul C (q := 38) dX6_mend_37 rfl ?_
    refine r_iload C 4 (q := 40) dX6_mend_38 rfl rfl ?_
    refine r_iadd C (q := 41) dX6_mend_40 rfl ?_
    refine r_iload_n C 3 (q := 42) dX6_mend_41 rfl rfl ?_
    refine r_if_ge C (tgt := 59) (q := 45) dX6_mend_42 (by decide) rfl (fun c_42 => ?_) (fun c_42 => ?_)
    · replace h := (if_pos c_42).symm.trans h
      refine r_aload_n C 0 (q := 60) dX6_mend_59 rfl rfl ?_
      refine g_X6_27 C (q := 63) dX6_mend_60 q_1016 hx0 rfl ?_
      refine r_iload C 4 (q := 65) dX6_mend_63 rfl rfl ?_
      obtain ⟨v_65, e_65, h⟩ := bs h
      refine r_iald C (q := 66) dX6_mend_65 (kf_X6_27 hx0) e_65 rfl ?_
      exact w_X6_mend_b66 C hr _ hk_22 _ _ _ _ _ _ _ _ _ hx0 (kf_X6_28 hx0) h
    · replace h := (if_neg c_42).symm.trans h
      refine r_aload_n C 0 (q := 46) dX6_mend_45 rfl rfl ?_
      refine g_X6_10 C (q := 49) dX6_mend_46 q_999 hx0 rfl ?_
      refine r_iconst C (v := 5) (q := 50) dX6_mend_49 (by decide) rfl ?_
      refine r_iload_n C 2 (q := 51) dX6_mend_50 rfl rfl ?_
      refine r_imul C (q := 52) dX6_mend_51 rfl ?_
      refine r_iload C 4 (q := 54) dX6_mend_52 rfl rfl ?_
      refine r_iadd C (q := 55) dX6_mend_54 rfl ?_
      obtain ⟨v_55, e_55, h⟩ := bs h
      refine r_iald C (q := 56) dX6_mend_55 (kf_X6_10 hx0) e_55 rfl ?_
      refine r_goto C (tgt := 66) dX6_mend_56 (by decide) ?_
      exact w_X6_mend_b66 C hr _ hk_22 _ _ _ _ _ _ _ _ _ hx0 (kf_X6_28 hx0) h

theorem w_X6_mend_l22 {X : CX} (C : Cok X RX6 cX6_mend 5 7 162) {σ' : St} {r : Int32} (hr : RtI X cX6_mend r σ') (k_4 : St → Nat → Int32 → Int32 → Option (Int32 × St)) (hk_4 : ∀ (σ : St) (x0 : Nat) (x1 : Int32) (x2 : Int32), kd x0 = 7 → k_4 σ x0 x1 x2 = some (r, σ') → V X σ 4 [(0, .ref ((xG X).1 x0)), (1, .int x1), (2, .int x2)] []) (n : Nat) : ∀ (σ : St) (x0 : Nat) (x1 : Int32) (x2 : Int32) (x3 : Int32) (x4 : Int32), kd x0 = 7 → f_X6_mend_l22 k_4 n σ x0 x1 x2 x3 x4 = some (r, σ') → V X σ 22 [(0, .ref ((xG X).1 x0)), (1, .int x1), (2, .int x2), (3, .int x3), (4, .int x4)] [] := by
  induction n with
  | zero =>
    intro σ x0 x1 x2 x3 x4 hx0 h
    exact nomatch (show (none : Option (Int32 × St)) = some (r, σ') from h)
  | succ n ih =>
    intro σ x0 x1 x2 x3 x4 hx0 h
    exact w_X6_mend_b22 C hr k_4 hk_4 _ ih σ x0 x1 x2 x3 x4 hx0 h
set_option maxHeartbeats 4000000 in
set_option maxRecDepth 100000 in
theorem w_X6_mend_b4 {X : CX} (C : Cok X RX6 cX6_mend 5 7 162) {σ' : St} {r : Int32} (hr : RtI X cX6_mend r σ') (k_4 : St → Nat → Int32 → Int32 → Option (Int32 × St)) (hk_4 : ∀ (σ : St) (x0 : Nat) (x1 : Int32) (x2 : Int32), kd x0 = 7 → k_4 σ x0 x1 x2 = some (r, σ') → V X σ 4 [(0, .ref ((xG X).1 x0)), (1, .int x1), (2, .int x2)] []) (σ : St) (x0 : Nat) (x1 : Int32) (x2 : Int32) (hx0 : kd x0 = 7) (h : f_X6_mend_b4 k_4 σ x0 x1 x2 = some (r, σ')) : V X σ 4 [(0, .ref ((xG X).1 x0)), (1, .int x1), (2, .int x2)] [] := by
  unfold f_X6_mend_b4 at h
  refine r_iload_n C 2 (q := 5) dX6_mend_4 rfl rfl ?_
  refine r_aload_n C 0 (q := 6) dX6_mend_5 rfl rfl ?_
  refine g_X6_6 C (q := 9) dX6_mend_6 q_995 hx0 rfl ?_
  refine r_icmp_ge C (tgt := 87) (q := 12) dX6_mend_9 (by decide) rfl (fun c_9 => ?_) (fun c_9 => ?_)
  · replace h := (if_pos c_9).symm.trans h
    refine r_iconst C (v := 0) (q := 88) dX6_mend_87 (by decide) rfl ?_
    refine r_istore_n C (lv' := [(2, .int 0), (0, .ref ((xG X).1 x0)), (1, .int x1)]) (q := 89) dX6_mend_88 rfl (by decide) rfl rfl ?_
    refine r_sub (lv' := [(0, .ref ((xG X).1 x0)), (1, .int x1), (2, .int 0)]) [1, 2, 0] rfl ?_
    exact w_X6_mend_l89 C hr  FU _ _ _ _ hx0 h
  · replace h := (if_neg c_9).symm.trans h
    refine r_aload_n C 0 (q := 13) dX6_mend_12 rfl rfl ?_
    refine r_iload_n C 2 (q := 14) dX6_mend_13 rfl rfl ?_
    refine r_iconst C (v := (-1)) (q := 15) dX6_mend_14 (by decide) rfl ?_
    obtain ⟨v_15, s_15, e_15, h⟩ := bs2 h
    refine r_callV C (ci := 6) (st := []) (st2 := [.int v_15]) (q := 18) (m_X6_least (xG X) (xl X) hx0 e_15) ok_X6_least hx0 rfl ⟨_, rfl⟩ q_1344 rfl ⟨Nat.le_of_ble_eq_true rfl, Nat.le_of_ble_eq_true rfl⟩ rfl rfl (Nat.le_of_ble_eq_true rfl) dX6_mend_15 rfl (fun hp_15 => ?_)
    refine r_istore_n C (lv' := [(3, .int v_15), (0, .ref ((xG X).1 x0)), (1, .int x1), (2, .int x2)]) (q := 19) dX6_mend_18 rfl (by decide) rfl rfl ?_
    refine r_iconst C (v := 0) (q := 20) dX6_mend_19 (by decide) rfl ?_
    refine r_istore C (lv' := [(4, .int 0), (3, .int v_15), (0, .ref ((xG X).1 x0)), (1, .int x1), (2, .int x2)]) (q := 22) dX6_mend_20 (by decide) rfl rfl ?_
    refine r_sub (lv' := [(0, .ref ((xG X).1 x0)), (1, .int x1), (2, .int x2), (3, .int v_15), (4, .int 0)]) [2, 3, 4, 1, 0] rfl ?_
    exact w_X6_mend_l22 C hr _ hk_4 FU _ _ _ _ _ _ hx0 h

theorem w_X6_mend_l4 {X : CX} (C : Cok X RX6 cX6_mend 5 7 162) {σ' : St} {r : Int32} (hr : RtI X cX6_mend r σ') (n : Nat) : ∀ (σ : St) (x0 : Nat) (x1 : Int32) (x2 : Int32), kd x0 = 7 → f_X6_mend_l4 n σ x0 x1 x2 = some (r, σ') → V X σ 4 [(0, .ref ((xG X).1 x0)), (1, .int x1), (2, .int x2)] [] := by
  induction n with
  | zero =>
    intro σ x0 x1 x2 hx0 h
    exact nomatch (show (none : Option (Int32 × St)) = some (r, σ') from h)
  | succ n ih =>
    intro σ x0 x1 x2 hx0 h
    exact w_X6_mend_b4 C hr _ ih σ x0 x1 x2 hx0 h
set_option maxHeartbeats 4000000 in
set_option maxRecDepth 100000 in
theorem w_X6_mend_b0 {X : CX} (C : Cok X RX6 cX6_mend 5 7 162) {σ' : St} {r : Int32} (hr : RtI X cX6_mend r σ') (σ : St) (x0 : Nat) (hx0 : kd x0 = 7) (h : f_X6_mend σ x0 = some (r, σ')) : V X σ 0 [(0, .ref ((xG X).1 x0))] [] := by
  unfold f_X6_mend at h
  refine r_iconst C (v := 0) (q := 1) dX6_mend_0 (by decide) rfl ?_
  refine r_istore_n C (lv' := [(1, .int 0), (0, .ref ((xG X).1 x0))]) (q := 2) dX6_mend_1 rfl (by decide) rfl rfl ?_
  refine r_iconst C (v := 0) (q := 3) dX6_mend_2 (by decide) rfl ?_
  refine r_istore_n C (lv' := [(2, .int 0), (1, .int 0), (0, .ref ((xG X).1 x0))]) (q := 4) dX6_mend_3 rfl (by decide) rfl rfl ?_
  refine r_sub (lv' := [(0, .ref ((xG X).1 x0)), (1, .int 0), (2, .int 0)]) [2, 1, 0] rfl ?_
  exact w_X6_mend_l4 C hr  FU _ _ _ _ hx0 h

theorem m_X6_mend (G : Gm) (l : Launch) {σ σ' : St} {x0 : Nat} (hx0 : kd x0 = 7) {r : Int32} (h : f_X6_mend σ x0 = some (r, σ')) : Ctr G l yX6_mend cX6_mend 5 (some .int) 7 162 [.ref (G.1 x0)] σ (some (.int r)) True σ' := by
  refine Ctr.i (by decide) (Nat.le_of_ble_eq_true rfl) ?_
  intro X hG C hr
  subst hG
  exact w_X6_mend_b0 C hr _ _ hx0 h
-- X6_left
set_option maxHeartbeats 4000000 in
set_option maxRecDepth 100000 in
theorem w_X6_left_b0 {X : CX} (C : Cok X RX6 cX6_left 2 2 43) {σ' : St} {r : Int32} (hr : RtI X cX6_left r σ') (σ : St) (x0 : Nat) (x1 : Int32) (hx0 : kd x0 = 7) (h : f_X6_left σ x0 x1 = some (r, σ')) : V X σ 0 [(0, .ref ((xG X).1 x0)), (1, .int x1)] [] := by
  unfold f_X6_left at h
  refine r_aload_n C 0 (q := 1) dX6_left_0 rfl rfl ?_
  refine r_iload_n C 1 (q := 2) dX6_left_1 rfl rfl ?_
  obtain ⟨v_2, e_2, h⟩ := bs h
  refine r_callV C (ci := 6) (st := []) (st2 := [.int v_2]) (q := 5) (m_X6_isKey (xG X) (xl X) hx0 e_2) ok_X6_isKey hx0 rfl ⟨_, rfl⟩ q_1116 rfl ⟨Nat.le_of_ble_eq_true rfl, Nat.le_of_ble_eq_true rfl⟩ rfl rfl (Nat.le_of_ble_eq_true rfl) dX6_left_2 rfl (fun hp_2 => ?_)
  refine r_if_eq C (tgt := 26) (q := 8) dX6_left_5 (by decide) rfl (fun c_5 => ?_) (fun c_5 => ?_)
  · replace h := (if_pos c_5).symm.trans h
    refine r_aload_n C 0 (q := 27) dX6_left_26 rfl rfl ?_
    refine r_bipush C (v := (-2)) (q := 29) dX6_left_27 (by decide) rfl ?_
    obtain ⟨v_29, s_29, e_29, h⟩ := bs2 h
    refine r_callV C (ci := 6) (st := []) (st2 := [.int v_29]) (q := 32) (m_X6_no (xG X) (xl X) hx0 e_29) ok_X6_no hx0 rfl ⟨_, rfl⟩ q_1084 rfl ⟨Nat.le_of_ble_eq_true rfl, Nat.le_of_ble_eq_true rfl⟩ rfl rfl (Nat.le_of_ble_eq_true rfl) dX6_left_29 rfl (fun hp_29 => ?_)
    obtain ⟨rfl, rfl⟩ := Prod.mk.inj (Option.some.inj h)
    exact hr _ _ dX6_left_32
  · replace h := (if_neg c_5).symm.trans h
    refine r_iconst C (v := 0) (q := 9) dX6_left_8 (by decide) rfl ?_
    refine r_aload_n C 0 (q := 10) dX6_left_9 rfl rfl ?_
    refine r_iload_n C 1 (q := 11) dX6_left_10 rfl rfl ?_
    obtain ⟨v_11, e_11, h⟩ := bs h
    refine r_callV C (ci := 6) (st := [.int 0]) (st2 := [.int v_11, .int 0]) (q := 14) (m_X6_bears (xG X) (xl X) hx0 e_11) ok_X6_bears hx0 rfl ⟨_, rfl⟩ q_1154 rfl ⟨Nat.le_of_ble_eq_true rfl, Nat.le_of_ble_eq_true rfl⟩ rfl rfl (Nat.le_of_ble_eq_true rfl) dX6_left_11 rfl (fun hp_11 => ?_)
    refine r_aload_n C 0 (q := 15) dX6_left_14 rfl rfl ?_
    refine r_iload_n C 1 (q := 16) dX6_left_15 rfl rfl ?_
    obtain ⟨v_16, e_16, h⟩ := bs h
    refine r_callV C (ci := 6) (st := [.int v_11, .int 0]) (st2 := [.int v_16, .int v_11, .int 0]) (q := 19) (m_X6_gone (xG X) (xl X) hx0 e_16) ok_X6_gone hx0 rfl ⟨_, rfl⟩ q_1127 rfl ⟨Nat.le_of_ble_eq_true rfl, Nat.le_of_ble_eq_true rfl⟩ rfl rfl (Nat.le_of_ble_eq_true rfl) dX6_left_16 rfl (fun hp_16 => ?_)
    refine r_isub C (q := 20) dX6_left_19 rfl ?_
    refine r_max C (st := []) (q := 23) dX6_left_20 q_1158 ok_max ⟨Nat.le_of_ble_eq_true rfl, Nat.le_of_ble_eq_true rfl⟩ rfl ?_
    refine r_goto C (tgt := 32) dX6_left_23 (by decide) ?_
    obtain ⟨rfl, rfl⟩ := Prod.mk.inj (Option.some.inj h)
    exact hr _ _ dX6_left_32

theorem m_X6_left (G : Gm) (l : Launch) {σ σ' : St} {x0 : Nat} {x1 : Int32} (hx0 : kd x0 = 7) {r : Int32} (h : f_X6_left σ x0 x1 = some (r, σ')) : Ctr G l yX6_left cX6_left 2 (some .int) 2 43 [.ref (G.1 x0), .int x1] σ (some (.int r)) True σ' := by
  refine Ctr.i (by decide) (Nat.le_of_ble_eq_true rfl) ?_
  intro X hG C hr
  subst hG
  exact w_X6_left_b0 C hr _ _ _ hx0 h
-- X6_idle
set_option maxHeartbeats 4000000 in
set_option maxRecDepth 100000 in
theorem w_X6_idle_b43 {X : CX} (C : Cok X RX6 cX6_idle 4 2 43) {σ' : St} {r : Int32} (hr : RtI X cX6_idle r σ') (k_19 : St → Nat → Int32 → Int32 → Int32 → Option (Int32 × St)) (hk_19 : ∀ (σ : St) (x0 : Nat) (x1 : Int32) (x2 : Int32) (x3 : Int32), kd x0 = 7 → k_19 σ x0 x1 x2 x3 = some (r, σ') → V X σ 19 [(0, .ref ((xG X).1 x0)), (1, .int x1), (2, .int x2), (3, .int x3)] []) (σ : St) (x0 : Nat) (x1 : Int32) (x2 : Int32) (x3 : Int32) (hx0 : kd x0 = 7) (h : f_X6_idle_b43 k_19 σ x0 x1 x2 x3 = some (r, σ')) : V X σ 43 [(0, .ref ((xG X).1 x0)), (1, .int x1), (2, .int x2), (3, .int x3)] [] := by
  unfold f_X6_idle_b43 at h
  obtain ⟨y_43, e_43, h⟩ := bs h
  refine r_iinc C (v := y_43) (lv' := [(3, .int y_43), (0, .ref ((xG X).1 x0)), (1, .int x1), (2, .int x2)]) (q := 46) 3 dX6_idle_43 rfl (Option.some.inj e_43) (by decide) rfl rfl ?_
  refine r_goto C (tgt := 19) dX6_idle_46 (by decide) ?_
  refine r_sub (lv' := [(0, .ref ((xG X).1 x0)), (1, .int x1), (2, .int x2), (3, .int y_43)]) [1, 2, 3, 0] rfl ?_
  exact hk_19 _ _ _ _ _ hx0 h

set_option maxHeartbeats 4000000 in
set_option maxRecDepth 100000 in
theorem w_X6_idle_b19 {X : CX} (C : Cok X RX6 cX6_idle 4 2 43) {σ' : St} {r : Int32} (hr : RtI X cX6_idle r σ') (k_19 : St → Nat → Int32 → Int32 → Int32 → Option (Int32 × St)) (hk_19 : ∀ (σ : St) (x0 : Nat) (x1 : Int32) (x2 : Int32) (x3 : Int32), kd x0 = 7 → k_19 σ x0 x1 x2 x3 = some (r, σ') → V X σ 19 [(0, .ref ((xG X).1 x0)), (1, .int x1), (2, .int x2), (3, .int x3)] []) (σ : St) (x0 : Nat) (x1 : Int32) (x2 : Int32) (x3 : Int32) (hx0 : kd x0 = 7) (h : f_X6_idle_b19 k_19 σ x0 x1 x2 x3 = some (r, σ')) : V X σ 19 [(0, .ref ((xG X).1 x0)), (1, .int x1), (2, .int x2), (3, .int x3)] [] := by
  unfold f_X6_idle_b19 at h
  refine r_iload_n C 3 (q := 20) dX6_idle_19 rfl rfl ?_
  refine r_aload_n C 0 (q := 21) dX6_idle_20 rfl rfl ?_
  refine g_X6_11 C (q := 24) dX6_idle_21 q_1000 hx0 rfl ?_
  refine r_icmp_ge C (tgt := 49) (q := 27) dX6_idle_24 (by decide) rfl (fun c_24 => ?_) (fun c_24 => ?_)
  · replace h := (if_pos c_24).symm.trans h
    refine r_iload_n C 2 (q := 50) dX6_idle_49 rfl rfl ?_
    obtain ⟨rfl, rfl⟩ := Prod.mk.inj (Option.some.inj h)
    exact hr _ _ dX6_idle_50
  · replace h := (if_neg c_24).symm.trans h
    refine r_aload_n C 0 (q := 28) dX6_idle_27 rfl rfl ?_
    refine g_X6_13 C (q := 31) dX6_idle_28 q_1002 hx0 rfl ?_
    refine r_iconst C (v := 5) (q := 32) dX6_idle_31 (by decide) rfl ?_
    refine r_iload_n C 3 (q := 33) dX6_idle_32 rfl rfl ?_
    refine r_imul C (q := 34) dX6_idle_33 rfl ?_
    refine r_iload_n C 1 (q := 35) dX6_idle_34 rfl rfl ?_
    refine r_iadd C (q := 36) dX6_idle_35 rfl ?_
    obtain ⟨v_36, e_36, h⟩ := bs h
    refine r_iald C (q := 37) dX6_idle_36 (kf_X6_13 hx0) e_36 rfl ?_
    refine r_if_ne C (tgt := 43) (q := 40) dX6_idle_37 (by decide) rfl (fun c_37 => ?_) (fun c_37 => ?_)
    · replace h := (if_neg c_37).symm.trans h
      exact w_X6_idle_b43 C hr _ hk_19 _ _ _ _ _ hx0 h
    · replace h := (if_pos c_37).symm.trans h
      obtain ⟨y_40, e_40, h⟩ := bs h
      refine r_iinc C (v := y_40) (lv' := [(2, .int y_40), (0, .ref ((xG X).1 x0)), (1, .int x1), (3, .int x3)]) (q := 43) 2 dX6_idle_40 rfl (Option.some.inj e_40) (by decide) rfl rfl ?_
      refine r_sub (lv' := [(0, .ref ((xG X).1 x0)), (1, .int x1), (2, .int y_40), (3, .int x3)]) [1, 2, 0, 3] rfl ?_
      exact w_X6_idle_b43 C hr _ hk_19 _ _ _ _ _ hx0 h

theorem w_X6_idle_l19 {X : CX} (C : Cok X RX6 cX6_idle 4 2 43) {σ' : St} {r : Int32} (hr : RtI X cX6_idle r σ') (n : Nat) : ∀ (σ : St) (x0 : Nat) (x1 : Int32) (x2 : Int32) (x3 : Int32), kd x0 = 7 → f_X6_idle_l19 n σ x0 x1 x2 x3 = some (r, σ') → V X σ 19 [(0, .ref ((xG X).1 x0)), (1, .int x1), (2, .int x2), (3, .int x3)] [] := by
  induction n with
  | zero =>
    intro σ x0 x1 x2 x3 hx0 h
    exact nomatch (show (none : Option (Int32 × St)) = some (r, σ') from h)
  | succ n ih =>
    intro σ x0 x1 x2 x3 hx0 h
    exact w_X6_idle_b19 C hr _ ih σ x0 x1 x2 x3 hx0 h
set_option maxHeartbeats 4000000 in
set_option maxRecDepth 100000 in
theorem w_X6_idle_b0 {X : CX} (C : Cok X RX6 cX6_idle 4 2 43) {σ' : St} {r : Int32} (hr : RtI X cX6_idle r σ') (σ : St) (x0 : Nat) (x1 : Int32) (hx0 : kd x0 = 7) (h : f_X6_idle σ x0 x1 = some (r, σ')) : V X σ 0 [(0, .ref ((xG X).1 x0)), (1, .int x1)] [] := by
  unfold f_X6_idle at h
  refine r_aload_n C 0 (q := 1) dX6_idle_0 rfl rfl ?_
  refine r_iload_n C 1 (q := 2) dX6_idle_1 rfl rfl ?_
  obtain ⟨v_2, e_2, h⟩ := bs h
  refine r_callV C (ci := 6) (st := []) (st2 := [.int v_2]) (q := 5) (m_X6_isPlace (xG X) (xl X) hx0 e_2) ok_X6_isPlace hx0 rfl ⟨_, rfl⟩ q_1191 rfl ⟨Nat.le_of_ble_eq_true rfl, Nat.le_of_ble_eq_true rfl⟩ rfl rfl (Nat.le_of_ble_eq_true rfl) dX6_idle_2 rfl (fun hp_2 => ?_)
  refine r_if_ne C (tgt := 15) (q := 8) dX6_idle_5 (by decide) rfl (fun c_5 => ?_) (fun c_5 => ?_)
  · replace h := (if_neg c_5).symm.trans h
    refine r_iconst C (v := 0) (q := 16) dX6_idle_15 (by decide) rfl ?_
    refine r_istore_n C (lv' := [(2, .int 0), (0, .ref ((xG X).1 x0)), (1, .int x1)]) (q := 17) dX6_idle_16 rfl (by decide) rfl rfl ?_
    refine r_iconst C (v := 0) (q := 18) dX6_idle_17 (by decide) rfl ?_
    refine r_istore_n C (lv' := [(3, .int 0), (2, .int 0), (0, .ref ((xG X).1 x0)), (1, .int x1)]) (q := 19) dX6_idle_18 rfl (by decide) rfl rfl ?_
    refine r_sub (lv' := [(0, .ref ((xG X).1 x0)), (1, .int x1), (2, .int 0), (3, .int 0)]) [2, 3, 1, 0] rfl ?_
    exact w_X6_idle_l19 C hr  FU _ _ _ _ _ hx0 h
  · replace h := (if_pos c_5).symm.trans h
    refine r_aload_n C 0 (q := 9) dX6_idle_8 rfl rfl ?_
    refine r_bipush C (v := (-2)) (q := 11) dX6_idle_9 (by decide) rfl ?_
    obtain ⟨v_11, s_11, e_11, h⟩ := bs2 h
    refine r_callV C (ci := 6) (st := []) (st2 := [.int v_11]) (q := 14) (m_X6_no (xG X) (xl X) hx0 e_11) ok_X6_no hx0 rfl ⟨_, rfl⟩ q_1084 rfl ⟨Nat.le_of_ble_eq_true rfl, Nat.le_of_ble_eq_true rfl⟩ rfl rfl (Nat.le_of_ble_eq_true rfl) dX6_idle_11 rfl (fun hp_11 => ?_)
    obtain ⟨rfl, rfl⟩ := Prod.mk.inj (Option.some.inj h)
    exact hr _ _ dX6_idle_14

theorem m_X6_idle (G : Gm) (l : Launch) {σ σ' : St} {x0 : Nat} {x1 : Int32} (hx0 : kd x0 = 7) {r : Int32} (h : f_X6_idle σ x0 x1 = some (r, σ')) : Ctr G l yX6_idle cX6_idle 4 (some .int) 2 43 [.ref (G.1 x0), .int x1] σ (some (.int r)) True σ' := by
  refine Ctr.i (by decide) (Nat.le_of_ble_eq_true rfl) ?_
  intro X hG C hr
  subst hG
  exact w_X6_idle_b0 C hr _ _ _ hx0 h
-- X6_bothOpen
set_option maxHeartbeats 4000000 in
set_option maxRecDepth 100000 in
theorem w_X6_bothOpen_b164 {X : CX} (C : Cok X RX6 cX6_bothOpen 8 1 21) {σ : St} {r : Int32} (hr : RtI X cX6_bothOpen r σ) (k_56 : Nat → Int32 → Int32 → Int32 → Int32 → Int32 → Option Int32) (hk_56 : ∀ (x0 : Nat) (x1 : Int32) (x2 : Int32) (x3 : Int32) (x4 : Int32) (x5 : Int32), kd x0 = 7 → k_56 x0 x1 x2 x3 x4 x5 = some r → V X σ 56 [(0, .ref ((xG X).1 x0)), (1, .int x1), (2, .int x2), (3, .int x3), (4, .int x4), (5, .int x5)] []) (x0 : Nat) (x1 : Int32) (x2 : Int32) (x3 : Int32) (x4 : Int32) (x5 : Int32) (hx0 : kd x0 = 7) (h : f_X6_bothOpen_b164 σ k_56 x0 x1 x2 x3 x4 x5 = some r) : V X σ 164 [(0, .ref ((xG X).1 x0)), (1, .int x1), (2, .int x2), (3, .int x3), (4, .int x4), (5, .int x5)] [] := by
  unfold f_X6_bothOpen_b164 at h
  obtain ⟨y_164, e_164, h⟩ := bs h
  refine r_iinc C (v := y_164) (lv' := [(5, .int y_164), (0, .ref ((xG X).1 x0)), (1, .int x1), (2, .int x2), (3, .int x3), (4, .int x4)]) (q := 167) 5 dX6_bothOpen_164 rfl (Option.some.inj e_164) (by decide) rfl rfl ?_
  refine r_goto C (tgt := 56) dX6_bothOpen_167 (by decide) ?_
  refine r_sub (lv' := [(0, .ref ((xG X).1 x0)), (1, .int x1), (2, .int x2), (3, .int x3), (4, .int x4), (5, .int y_164)]) [1, 2, 3, 4, 5, 0] rfl ?_
  exact hk_56 _ _ _ _ _ _ hx0 h

set_option maxHeartbeats 4000000 in
set_option maxRecDepth 100000 in
theorem w_X6_bothOpen_b146 {X : CX} (C : Cok X RX6 cX6_bothOpen 8 1 21) {σ : St} {r : Int32} (hr : RtI X cX6_bothOpen r σ) (k_94 : Nat → Int32 → Int32 → Int32 → Int32 → Int32 → Int32 → Int32 → Option Int32) (hk_94 : ∀ (x0 : Nat) (x1 : Int32) (x2 : Int32) (x3 : Int32) (x4 : Int32) (x5 : Int32) (x6 : Int32) (x7 : Int32), kd x0 = 7 → k_94 x0 x1 x2 x3 x4 x5 x6 x7 = some r → V X σ 94 [(0, .ref ((xG X).1 x0)), (1, .int x1), (2, .int x2), (3, .int x3), (4, .int x4), (5, .int x5), (6, .int x6), (7, .int x7)] []) (x0 : Nat) (x1 : Int32) (x2 : Int32) (x3 : Int32) (x4 : Int32) (x5 : Int32) (x6 : Int32) (x7 : Int32) (hx0 : kd x0 = 7) (h : f_X6_bothOpen_b146 σ k_94 x0 x1 x2 x3 x4 x5 x6 x7 = some r) : V X σ 146 [(0, .ref ((xG X).1 x0)), (1, .int x1), (2, .int x2), (3, .int x3), (4, .int x4), (5, .int x5), (6, .int x6), (7, .int x7)] [] := by
  unfold f_X6_bothOpen_b146 at h
  obtain ⟨y_146, e_146, h⟩ := bs h
  refine r_iinc C (v := y_146) (lv' := [(7, .int y_146), (0, .ref ((xG X).1 x0)), (1, .int x1), (2, .int x2), (3, .int x3), (4, .int x4), (5, .int x5), (6, .int x6)]) (q := 149) 7 dX6_bothOpen_146 rfl (Option.some.inj e_146) (by decide) rfl rfl ?_
  refine r_goto C (tgt := 94) dX6_bothOpen_149 (by decide) ?_
  refine r_sub (lv' := [(0, .ref ((xG X).1 x0)), (1, .int x1), (2, .int x2), (3, .int x3), (4, .int x4), (5, .int x5), (6, .int x6), (7, .int y_146)]) [1, 2, 3, 4, 5, 6, 7, 0] rfl ?_
  exact hk_94 _ _ _ _ _ _ _ _ hx0 h

set_option maxHeartbeats 4000000 in
set_option maxRecDepth 100000 in
theorem w_X6_bothOpen_b94 {X : CX} (C : Cok X RX6 cX6_bothOpen 8 1 21) {σ : St} {r : Int32} (hr : RtI X cX6_bothOpen r σ) (k_56 : Nat → Int32 → Int32 → Int32 → Int32 → Int32 → Option Int32) (hk_56 : ∀ (x0 : Nat) (x1 : Int32) (x2 : Int32) (x3 : Int32) (x4 : Int32) (x5 : Int32), kd x0 = 7 → k_56 x0 x1 x2 x3 x4 x5 = some r → V X σ 56 [(0, .ref ((xG X).1 x0)), (1, .int x1), (2, .int x2), (3, .int x3), (4, .int x4), (5, .int x5)] []) (k_94 : Nat → Int32 → Int32 → Int32 → Int32 → Int32 → Int32 → Int32 → Option Int32) (hk_94 : ∀ (x0 : Nat) (x1 : Int32) (x2 : Int32) (x3 : Int32) (x4 : Int32) (x5 : Int32) (x6 : Int32) (x7 : Int32), kd x0 = 7 → k_94 x0 x1 x2 x3 x4 x5 x6 x7 = some r → V X σ 94 [(0, .ref ((xG X).1 x0)), (1, .int x1), (2, .int x2), (3, .int x3), (4, .int x4), (5, .int x5), (6, .int x6), (7, .int x7)] []) (x0 : Nat) (x1 : Int32) (x2 : Int32) (x3 : Int32) (x4 : Int32) (x5 : Int32) (x6 : Int32) (x7 : Int32) (hx0 : kd x0 = 7) (h : f_X6_bothOpen_b94 σ k_56 k_94 x0 x1 x2 x3 x4 x5 x6 x7 = some r) : V X σ 94 [(0, .ref ((xG X).1 x0)), (1, .int x1), (2, .int x2), (3, .int x3), (4, .int x4), (5, .int x5), (6, .int x6), (7, .int x7)] [] := by
  unfold f_X6_bothOpen_b94 at h
  refine r_iload C 7 (q := 96) dX6_bothOpen_94 rfl rfl ?_
  refine r_aload_n C 0 (q := 97) dX6_bothOpen_96 rfl rfl ?_
  refine g_X6_3 C (q := 100) dX6_bothOpen_97 q_992 hx0 rfl ?_
  refine r_icmp_ge C (tgt := 152) (q := 103) dX6_bothOpen_100 (by decide) rfl (fun c_100 => ?_) (fun c_100 => ?_)
  · replace h := (if_pos c_100).symm.trans h
    refine r_iload C 6 (q := 154) dX6_bothOpen_152 rfl rfl ?_
    refine r_if_eq C (tgt := 164) (q := 157) dX6_bothOpen_154 (by decide) rfl (fun c_154 => ?_) (fun c_154 => ?_)
    · replace h := (if_pos c_154).symm.trans h
      refine r_sub (lv' := [(0, .ref ((xG X).1 x0)), (1, .int x1), (2, .int x2), (3, .int x3), (4, .int x4), (5, .int x5)]) [0, 1, 2, 3, 4, 5] rfl ?_
      exact w_X6_bothOpen_b164 C hr _ hk_56 _ _ _ _ _ _ hx0 h
    · replace h := (if_neg c_154).symm.trans h
      refine r_iload_n C 3 (q := 158) dX6_bothOpen_157 rfl rfl ?_
      refine r_iconst C (v := 1) (q := 159) dX6_bothOpen_158 (by decide) rfl ?_
      refine r_iload C 5 (q := 161) dX6_bothOpen_159 rfl rfl ?_
      refine r_ishl C (q := 162) dX6_bothOpen_161 rfl ?_
      refine r_ior C (q := 163) dX6_bothOpen_162 rfl ?_
      obtain ⟨y_163, e_163, h⟩ := bs h
      refine r_topI (Option.some.inj e_163) ?_
      refine r_istore_n C (lv' := [(3, .int y_163), (0, .ref ((xG X).1 x0)), (1, .int x1), (2, .int x2), (4, .int x4), (5, .int x5), (6, .int x6), (7, .int x7)]) (q := 164) dX6_bothOpen_163 rfl (by decide) rfl rfl ?_
      refine r_sub (lv' := [(0, .ref ((xG X).1 x0)), (1, .int x1), (2, .int x2), (3, .int y_163), (4, .int x4), (5, .int x5)]) [1, 2, 3, 0, 4, 5] rfl ?_
      exact w_X6_bothOpen_b164 C hr _ hk_56 _ _ _ _ _ _ hx0 h
  · replace h := (if_neg c_100).symm.trans h
    refine r_aload_n C 0 (q := 104) dX6_bothOpen_103 rfl rfl ?_
    refine g_X6_10 C (q := 107) dX6_bothOpen_104 q_999 hx0 rfl ?_
    refine r_iconst C (v := 5) (q := 108) dX6_bothOpen_107 (by decide) rfl ?_
    refine r_iload_n C 1 (q := 109) dX6_bothOpen_108 rfl rfl ?_
    refine r_imul C (q := 110) dX6_bothOpen_109 rfl ?_
    refine r_iload C 7 (q := 112) dX6_bothOpen_110 rfl rfl ?_
    refine r_iadd C (q := 113) dX6_bothOpen_112 rfl ?_
    obtain ⟨v_113, e_113, h⟩ := bs h
    refine r_iald C (q := 114) dX6_bothOpen_113 (kf_X6_10 hx0) e_113 rfl ?_
    refine r_aload_n C 0 (q := 115) dX6_bothOpen_114 rfl rfl ?_
    refine g_X6_10 C (q := 118) dX6_bothOpen_115 q_999 hx0 rfl ?_
    refine r_iconst C (v := 5) (q := 119) dX6_bothOpen_118 (by decide) rfl ?_
    refine r_iload_n C 2 (q := 120) dX6_bothOpen_119 rfl rfl ?_
    refine r_imul C (q := 121) dX6_bothOpen_120 rfl ?_
    refine r_iload C 7 (q := 123) dX6_bothOpen_121 rfl rfl ?_
    refine r_iadd C (q := 124) dX6_bothOpen_123 rfl ?_
    obtain ⟨v_124, e_124, h⟩ := bs h
    refine r_iald C (q := 125) dX6_bothOpen_124 (kf_X6_10 hx0) e_124 rfl ?_
    refine r_max C (st := []) (q := 128) dX6_bothOpen_125 q_1158 ok_max ⟨Nat.le_of_ble_eq_true rfl, Nat.le_of_ble_eq_true rfl⟩ rfl ?_
    refine r_aload_n C 0 (q := 129) dX6_bothOpen_128 rfl rfl ?_
    refine g_X6_13 C (q := 132) dX6_bothOpen_129 q_1002 hx0 rfl ?_
    refine r_iconst C (v := 5) (q := 133) dX6_bothOpen_132 (by decide) rfl ?_
    refine r_iload C 5 (q := 135) dX6_bothOpen_133 rfl rfl ?_
    refine r_imul C (q := 136) dX6_bothOpen_135 rfl ?_
    refine r_iload C 7 (q := 138) dX6_bothOpen_136 rfl rfl ?_
    refine r_iadd C (q := 139) dX6_bothOpen_138 rfl ?_
    obtain ⟨v_139, e_139, h⟩ := bs h
    refine r_iald C (q := 140) dX6_bothOpen_139 (kf_X6_13 hx0) e_139 rfl ?_
    refine r_icmp_ge C (tgt := 146) (q := 143) dX6_bothOpen_140 (by decide) rfl (fun c_140 => ?_) (fun c_140 => ?_)
    · replace h := (if_pos c_140).symm.trans h
      exact w_X6_bothOpen_b146 C hr _ hk_94 _ _ _ _ _ _ _ _ hx0 h
    · replace h := (if_neg c_140).symm.trans h
      refine r_iconst C (v := 0) (q := 144) dX6_bothOpen_143 (by decide) rfl ?_
      refine r_istore C (lv' := [(6, .int 0), (0, .ref ((xG X).1 x0)), (1, .int x1), (2, .int x2), (3, .int x3), (4, .int x4), (5, .int x5), (7, .int x7)]) (q := 146) dX6_bothOpen_144 (by decide) rfl rfl ?_
      refine r_sub (lv' := [(0, .ref ((xG X).1 x0)), (1, .int x1), (2, .int x2), (3, .int x3), (4, .int x4), (5, .int x5), (6, .int 0), (7, .int x7)]) [1, 2, 3, 4, 5, 6, 0, 7] rfl ?_
      exact w_X6_bothOpen_b146 C hr _ hk_94 _ _ _ _ _ _ _ _ hx0 h

theorem w_X6_bothOpen_l94 {X : CX} (C : Cok X RX6 cX6_bothOpen 8 1 21) {σ : St} {r : Int32} (hr : RtI X cX6_bothOpen r σ) (k_56 : Nat → Int32 → Int32 → Int32 → Int32 → Int32 → Option Int32) (hk_56 : ∀ (x0 : Nat) (x1 : Int32) (x2 : Int32) (x3 : Int32) (x4 : Int32) (x5 : Int32), kd x0 = 7 → k_56 x0 x1 x2 x3 x4 x5 = some r → V X σ 56 [(0, .ref ((xG X).1 x0)), (1, .int x1), (2, .int x2), (3, .int x3), (4, .int x4), (5, .int x5)] []) (n : Nat) : ∀ (x0 : Nat) (x1 : Int32) (x2 : Int32) (x3 : Int32) (x4 : Int32) (x5 : Int32) (x6 : Int32) (x7 : Int32), kd x0 = 7 → f_X6_bothOpen_l94 σ k_56 n x0 x1 x2 x3 x4 x5 x6 x7 = some r → V X σ 94 [(0, .ref ((xG X).1 x0)), (1, .int x1), (2, .int x2), (3, .int x3), (4, .int x4), (5, .int x5), (6, .int x6), (7, .int x7)] [] := by
  induction n with
  | zero =>
    intro x0 x1 x2 x3 x4 x5 x6 x7 hx0 h
    exact nomatch (show (none : Option Int32) = some r from h)
  | succ n ih =>
    intro x0 x1 x2 x3 x4 x5 x6 x7 hx0 h
    exact w_X6_bothOpen_b94 C hr k_56 hk_56 _ ih x0 x1 x2 x3 x4 x5 x6 x7 hx0 h
set_option maxHeartbeats 4000000 in
set_option maxRecDepth 100000 in
theorem w_X6_bothOpen_b89 {X : CX} (C : Cok X RX6 cX6_bothOpen 8 1 21) {σ : St} {r : Int32} (hr : RtI X cX6_bothOpen r σ) (k_56 : Nat → Int32 → Int32 → Int32 → Int32 → Int32 → Option Int32) (hk_56 : ∀ (x0 : Nat) (x1 : Int32) (x2 : Int32) (x3 : Int32) (x4 : Int32) (x5 : Int32), kd x0 = 7 → k_56 x0 x1 x2 x3 x4 x5 = some r → V X σ 56 [(0, .ref ((xG X).1 x0)), (1, .int x1), (2, .int x2), (3, .int x3), (4, .int x4), (5, .int x5)] []) (x0 : Nat) (x1 : Int32) (x2 : Int32) (x3 : Int32) (x4 : Int32) (x5 : Int32) (t0 : Int32) (hx0 : kd x0 = 7) (h : f_X6_bothOpen_b89 σ k_56 x0 x1 x2 x3 x4 x5 t0 = some r) : V X σ 89 [(0, .ref ((xG X).1 x0)), (1, .int x1), (2, .int x2), (3, .int x3), (4, .int x4), (5, .int x5)] [.int t0] := by
  unfold f_X6_bothOpen_b89 at h
  refine r_istore C (lv' := [(6, .int t0), (0, .ref ((xG X).1 x0)), (1, .int x1), (2, .int x2), (3, .int x3), (4, .int x4), (5, .int x5)]) (q := 91) dX6_bothOpen_89 (by decide) rfl rfl ?_
  refine r_iconst C (v := 0) (q := 92) dX6_bothOpen_91 (by decide) rfl ?_
  refine r_istore C (lv' := [(7, .int 0), (6, .int t0), (0, .ref ((xG X).1 x0)), (1, .int x1), (2, .int x2), (3, .int x3), (4, .int x4), (5, .int x5)]) (q := 94) dX6_bothOpen_92 (by decide) rfl rfl ?_
  refine r_sub (lv' := [(0, .ref ((xG X).1 x0)), (1, .int x1), (2, .int x2), (3, .int x3), (4, .int x4), (5, .int x5), (6, .int t0), (7, .int 0)]) [2, 3, 4, 5, 6, 7, 1, 0] rfl ?_
  exact w_X6_bothOpen_l94 C hr _ hk_56 FU _ _ _ _ _ _ _ _ hx0 h

set_option maxHeartbeats 4000000 in
set_option maxRecDepth 100000 in
theorem w_X6_bothOpen_b56 {X : CX} (C : Cok X RX6 cX6_bothOpen 8 1 21) {σ : St} {r : Int32} (hr : RtI X cX6_bothOpen r σ) (k_56 : Nat → Int32 → Int32 → Int32 → Int32 → Int32 → Option Int32) (hk_56 : ∀ (x0 : Nat) (x1 : Int32) (x2 : Int32) (x3 : Int32) (x4 : Int32) (x5 : Int32), kd x0 = 7 → k_56 x0 x1 x2 x3 x4 x5 = some r → V X σ 56 [(0, .ref ((xG X).1 x0)), (1, .int x1), (2, .int x2), (3, .int x3), (4, .int x4), (5, .int x5)] []) (x0 : Nat) (x1 : Int32) (x2 : Int32) (x3 : Int32) (x4 : Int32) (x5 : Int32) (hx0 : kd x0 = 7) (h : f_X6_bothOpen_b56 σ k_56 x0 x1 x2 x3 x4 x5 = some r) : V X σ 56 [(0, .ref ((xG X).1 x0)), (1, .int x1), (2, .int x2), (3, .int x3), (4, .int x4), (5, .int x5)] [] := by
  unfold f_X6_bothOpen_b56 at h
  refine r_iload C 5 (q := 58) dX6_bothOpen_56 rfl rfl ?_
  refine r_aload_n C 0 (q := 59) dX6_bothOpen_58 rfl rfl ?_
  refine g_X6_11 C (q := 62) dX6_bothOpen_59 q_1000 hx0 rfl ?_
  refine r_icmp_ge C (tgt := 170) (q := 65) dX6_bothOpen_62 (by decide) rfl (fun c_62 => ?_) (fun c_62 => ?_)
  · replace h := (if_pos c_62).symm.trans h
    refine r_iload_n C 3 (q := 171) dX6_bothOpen_170 rfl rfl ?_
    obtain rfl := Option.some.inj h
    exact hr _ _ dX6_bothOpen_171
  · replace h := (if_neg c_62).symm.trans h
    refine r_iload C 4 (q := 67) dX6_bothOpen_65 rfl rfl ?_
    refine r_aload_n C 0 (q := 68) dX6_bothOpen_67 rfl rfl ?_
    refine g_X6_5 C (q := 71) dX6_bothOpen_68 q_994 hx0 rfl ?_
    refine r_icmp_gt C (tgt := 170) (q := 74) dX6_bothOpen_71 (by decide) rfl (fun c_71 => ?_) (fun c_71 => ?_)
    · replace h := (if_pos c_71).symm.trans h
      refine r_iload_n C 3 (q := 171) dX6_bothOpen_170 rfl rfl ?_
      obtain rfl := Option.some.inj h
      exact hr _ _ dX6_bothOpen_171
    · replace h := (if_neg c_71).symm.trans h
      refine r_aload_n C 0 (q := 75) dX6_bothOpen_74 rfl rfl ?_
      refine g_X6_12 C (q := 78) dX6_bothOpen_75 q_1001 hx0 rfl ?_
      refine r_iload C 5 (q := 80) dX6_bothOpen_78 rfl rfl ?_
      obtain ⟨v_80, e_80, h⟩ := bs h
      refine r_iald C (q := 81) dX6_bothOpen_80 (kf_X6_12 hx0) e_80 rfl ?_
      refine r_if_ne C (tgt := 88) (q := 84) dX6_bothOpen_81 (by decide) rfl (fun c_81 => ?_) (fun c_81 => ?_)
      · replace h := (if_neg c_81).symm.trans h
        refine r_iconst C (v := 0) (q := 89) dX6_bothOpen_88 (by decide) rfl ?_
        exact w_X6_bothOpen_b89 C hr _ hk_56 _ _ _ _ _ _ _ hx0 h
      · replace h := (if_pos c_81).symm.trans h
        refine r_iconst C (v := 1) (q := 85) dX6_bothOpen_84 (by decide) rfl ?_
        refine r_goto C (tgt := 89) dX6_bothOpen_85 (by decide) ?_
        exact w_X6_bothOpen_b89 C hr _ hk_56 _ _ _ _ _ _ _ hx0 h

theorem w_X6_bothOpen_l56 {X : CX} (C : Cok X RX6 cX6_bothOpen 8 1 21) {σ : St} {r : Int32} (hr : RtI X cX6_bothOpen r σ) (n : Nat) : ∀ (x0 : Nat) (x1 : Int32) (x2 : Int32) (x3 : Int32) (x4 : Int32) (x5 : Int32), kd x0 = 7 → f_X6_bothOpen_l56 σ n x0 x1 x2 x3 x4 x5 = some r → V X σ 56 [(0, .ref ((xG X).1 x0)), (1, .int x1), (2, .int x2), (3, .int x3), (4, .int x4), (5, .int x5)] [] := by
  induction n with
  | zero =>
    intro x0 x1 x2 x3 x4 x5 hx0 h
    exact nomatch (show (none : Option Int32) = some r from h)
  | succ n ih =>
    intro x0 x1 x2 x3 x4 x5 hx0 h
    exact w_X6_bothOpen_b56 C hr _ ih x0 x1 x2 x3 x4 x5 hx0 h
set_option maxHeartbeats 4000000 in
set_option maxRecDepth 100000 in
theorem w_X6_bothOpen_b8 {X : CX} (C : Cok X RX6 cX6_bothOpen 8 1 21) {σ : St} {r : Int32} (hr : RtI X cX6_bothOpen r σ) (k_8 : Nat → Int32 → Int32 → Int32 → Int32 → Int32 → Option Int32) (hk_8 : ∀ (x0 : Nat) (x1 : Int32) (x2 : Int32) (x3 : Int32) (x4 : Int32) (x5 : Int32), kd x0 = 7 → k_8 x0 x1 x2 x3 x4 x5 = some r → V X σ 8 [(0, .ref ((xG X).1 x0)), (1, .int x1), (2, .int x2), (3, .int x3), (4, .int x4), (5, .int x5)] []) (x0 : Nat) (x1 : Int32) (x2 : Int32) (x3 : Int32) (x4 : Int32) (x5 : Int32) (hx0 : kd x0 = 7) (h : f_X6_bothOpen_b8 σ k_8 x0 x1 x2 x3 x4 x5 = some r) : V X σ 8 [(0, .ref ((xG X).1 x0)), (1, .int x1), (2, .int x2), (3, .int x3), (4, .int x4), (5, .int x5)] [] := by
  unfold f_X6_bothOpen_b8 at h
  refine r_iload C 5 (q := 10) dX6_bothOpen_8 rfl rfl ?_
  refine r_aload_n C 0 (q := 11) dX6_bothOpen_10 rfl rfl ?_
  refine g_X6_3 C (q := 14) dX6_bothOpen_11 q_992 hx0 rfl ?_
  refine r_icmp_ge C (tgt := 53) (q := 17) dX6_bothOpen_14 (by decide) rfl (fun c_14 => ?_) (fun c_14 => ?_)
  · replace h := (if_pos c_14).symm.trans h
    refine r_iconst C (v := 0) (q := 54) dX6_bothOpen_53 (by decide) rfl ?_
    refine r_istore C (lv' := [(5, .int 0), (0, .ref ((xG X).1 x0)), (1, .int x1), (2, .int x2), (3, .int x3), (4, .int x4)]) (q := 56) dX6_bothOpen_54 (by decide) rfl rfl ?_
    refine r_sub (lv' := [(0, .ref ((xG X).1 x0)), (1, .int x1), (2, .int x2), (3, .int x3), (4, .int x4), (5, .int 0)]) [1, 2, 3, 4, 5, 0] rfl ?_
    exact w_X6_bothOpen_l56 C hr  FU _ _ _ _ _ _ hx0 h
  · replace h := (if_neg c_14).symm.trans h
    refine r_iload C 4 (q := 19) dX6_bothOpen_17 rfl rfl ?_
    refine r_aload_n C 0 (q := 20) dX6_bothOpen_19 rfl rfl ?_
    refine g_X6_10 C (q := 23) dX6_bothOpen_20 q_999 hx0 rfl ?_
    refine r_iconst C (v := 5) (q := 24) dX6_bothOpen_23 (by decide) rfl ?_
    refine r_iload_n C 1 (q := 25) dX6_bothOpen_24 rfl rfl ?_
    refine r_imul C (q := 26) dX6_bothOpen_25 rfl ?_
    refine r_iload C 5 (q := 28) dX6_bothOpen_26 rfl rfl ?_
    refine r_iadd C (q := 29) dX6_bothOpen_28 rfl ?_
    obtain ⟨v_29, e_29, h⟩ := bs h
    refine r_iald C (q := 30) dX6_bothOpen_29 (kf_X6_10 hx0) e_29 rfl ?_
    refine r_aload_n C 0 (q := 31) dX6_bothOpen_30 rfl rfl ?_
    refine g_X6_10 C (q := 34) dX6_bothOpen_31 q_999 hx0 rfl ?_
    refine r_iconst C (v := 5) (q := 35) dX6_bothOpen_34 (by decide) rfl ?_
    refine r_iload_n C 2 (q := 36) dX6_bothOpen_35 rfl rfl ?_
    refine r_imul C (q := 37) dX6_bothOpen_36 rfl ?_
    refine r_iload C 5 (q := 39) dX6_bothOpen_37 rfl rfl ?_
    refine r_iadd C (q := 40) dX6_bothOpen_39 rfl ?_
    obtain ⟨v_40, e_40, h⟩ := bs h
    refine r_iald C (q := 41) dX6_bothOpen_40 (kf_X6_10 hx0) e_40 rfl ?_
    refine r_max C (st := [.int x4]) (q := 44) dX6_bothOpen_41 q_1158 ok_max ⟨Nat.le_of_ble_eq_true rfl, Nat.le_of_ble_eq_true rfl⟩ rfl ?_
    refine r_iadd C (q := 45) dX6_bothOpen_44 rfl ?_
    obtain ⟨y_45, e_45, h⟩ := bs h
    refine r_topI (Option.some.inj e_45) ?_
    refine r_istore C (lv' := [(4, .int y_45), (0, .ref ((xG X).1 x0)), (1, .int x1), (2, .int x2), (3, .int x3), (5, .int x5)]) (q := 47) dX6_bothOpen_45 (by decide) rfl rfl ?_
    obtain ⟨y_47, e_47, h⟩ := bs h
    refine r_iinc C (v := y_47) (lv' := [(5, .int y_47), (4, .int y_45), (0, .ref ((xG X).1 x0)), (1, .int x1), (2, .int x2), (3, .int x3)]) (q := 50) 5 dX6_bothOpen_47 rfl (Option.some.inj e_47) (by decide) rfl rfl ?_
    refine r_goto C (tgt := 8) dX6_bothOpen_50 (by decide) ?_
    refine r_sub (lv' := [(0, .ref ((xG X).1 x0)), (1, .int x1), (2, .int x2), (3, .int x3), (4, .int y_45), (5, .int y_47)]) [2, 3, 4, 5, 1, 0] rfl ?_
    exact hk_8 _ _ _ _ _ _ hx0 h

theorem w_X6_bothOpen_l8 {X : CX} (C : Cok X RX6 cX6_bothOpen 8 1 21) {σ : St} {r : Int32} (hr : RtI X cX6_bothOpen r σ) (n : Nat) : ∀ (x0 : Nat) (x1 : Int32) (x2 : Int32) (x3 : Int32) (x4 : Int32) (x5 : Int32), kd x0 = 7 → f_X6_bothOpen_l8 σ n x0 x1 x2 x3 x4 x5 = some r → V X σ 8 [(0, .ref ((xG X).1 x0)), (1, .int x1), (2, .int x2), (3, .int x3), (4, .int x4), (5, .int x5)] [] := by
  induction n with
  | zero =>
    intro x0 x1 x2 x3 x4 x5 hx0 h
    exact nomatch (show (none : Option Int32) = some r from h)
  | succ n ih =>
    intro x0 x1 x2 x3 x4 x5 hx0 h
    exact w_X6_bothOpen_b8 C hr _ ih x0 x1 x2 x3 x4 x5 hx0 h
set_option maxHeartbeats 4000000 in
set_option maxRecDepth 100000 in
theorem w_X6_bothOpen_b0 {X : CX} (C : Cok X RX6 cX6_bothOpen 8 1 21) {σ : St} {r : Int32} (hr : RtI X cX6_bothOpen r σ) (x0 : Nat) (x1 : Int32) (x2 : Int32) (hx0 : kd x0 = 7) (h : f_X6_bothOpen σ x0 x1 x2 = some r) : V X σ 0 [(0, .ref ((xG X).1 x0)), (1, .int x1), (2, .int x2)] [] := by
  unfold f_X6_bothOpen at h
  refine r_iconst C (v := 0) (q := 1) dX6_bothOpen_0 (by decide) rfl ?_
  refine r_istore_n C (lv' := [(3, .int 0), (0, .ref ((xG X).1 x0)), (1, .int x1), (2, .int x2)]) (q := 2) dX6_bothOpen_1 rfl (by decide) rfl rfl ?_
  refine r_iconst C (v := 0) (q := 3) dX6_bothOpen_2 (by decide) rfl ?_
  refine r_istore C (lv' := [(4, .int 0), (3, .int 0), (0, .ref ((xG X).1 x0)), (1, .int x1), (2, .int x2)]) (q := 5) dX6_bothOpen_3 (by decide) rfl rfl ?_
  refine r_iconst C (v := 0) (q := 6) dX6_bothOpen_5 (by decide) rfl ?_
  refine r_istore C (lv' := [(5, .int 0), (4, .int 0), (3, .int 0), (0, .ref ((xG X).1 x0)), (1, .int x1), (2, .int x2)]) (q := 8) dX6_bothOpen_6 (by decide) rfl rfl ?_
  refine r_sub (lv' := [(0, .ref ((xG X).1 x0)), (1, .int x1), (2, .int x2), (3, .int 0), (4, .int 0), (5, .int 0)]) [3, 4, 5, 2, 1, 0] rfl ?_
  exact w_X6_bothOpen_l8 C hr  FU _ _ _ _ _ _ hx0 h

theorem m_X6_bothOpen (G : Gm) (l : Launch) {σ : St} {x0 : Nat} {x1 : Int32} {x2 : Int32} (hx0 : kd x0 = 7) {r : Int32} (h : f_X6_bothOpen σ x0 x1 x2 = some r) : Ctr G l yX6_bothOpen cX6_bothOpen 8 (some .int) 1 21 [.ref (G.1 x0), .int x1, .int x2] σ (some (.int r)) True σ := by
  refine Ctr.i (by decide) (Nat.le_of_ble_eq_true rfl) ?_
  intro X hG C hr
  subst hG
  exact w_X6_bothOpen_b0 C hr _ _ _ hx0 h
-- X6_together
set_option maxHeartbeats 4000000 in
set_option maxRecDepth 100000 in
theorem w_X6_together_b30 {X : CX} (C : Cok X RX6 cX6_together 3 2 48) {σ' : St} {r : Int32} (hr : RtI X cX6_together r σ') (σ : St) (x0 : Nat) (hx0 : kd x0 = 7) (h : f_X6_together_b30 σ x0 = some (r, σ')) : V X σ 30 [(0, .ref ((xG X).1 x0))] [] := by
  unfold f_X6_together_b30 at h
  refine r_aload_n C 0 (q := 31) dX6_together_30 rfl rfl ?_
  refine r_bipush C (v := (-2)) (q := 33) dX6_together_31 (by decide) rfl ?_
  obtain ⟨v_33, s_33, e_33, h⟩ := bs2 h
  refine r_callV C (ci := 6) (st := []) (st2 := [.int v_33]) (q := 36) (m_X6_no (xG X) (xl X) hx0 e_33) ok_X6_no hx0 rfl ⟨_, rfl⟩ q_1084 rfl ⟨Nat.le_of_ble_eq_true rfl, Nat.le_of_ble_eq_true rfl⟩ rfl rfl (Nat.le_of_ble_eq_true rfl) dX6_together_33 rfl (fun hp_33 => ?_)
  obtain ⟨rfl, rfl⟩ := Prod.mk.inj (Option.some.inj h)
  exact hr _ _ dX6_together_36

set_option maxHeartbeats 4000000 in
set_option maxRecDepth 100000 in
theorem w_X6_together_b0 {X : CX} (C : Cok X RX6 cX6_together 3 2 48) {σ' : St} {r : Int32} (hr : RtI X cX6_together r σ') (σ : St) (x0 : Nat) (x1 : Int32) (x2 : Int32) (hx0 : kd x0 = 7) (h : f_X6_together σ x0 x1 x2 = some (r, σ')) : V X σ 0 [(0, .ref ((xG X).1 x0)), (1, .int x1), (2, .int x2)] [] := by
  unfold f_X6_together at h
  refine r_aload_n C 0 (q := 1) dX6_together_0 rfl rfl ?_
  refine r_iload_n C 1 (q := 2) dX6_together_1 rfl rfl ?_
  obtain ⟨v_2, e_2, h⟩ := bs h
  refine r_callV C (ci := 6) (st := []) (st2 := [.int v_2]) (q := 5) (m_X6_isKey (xG X) (xl X) hx0 e_2) ok_X6_isKey hx0 rfl ⟨_, rfl⟩ q_1116 rfl ⟨Nat.le_of_ble_eq_true rfl, Nat.le_of_ble_eq_true rfl⟩ rfl rfl (Nat.le_of_ble_eq_true rfl) dX6_together_2 rfl (fun hp_2 => ?_)
  refine r_if_eq C (tgt := 30) (q := 8) dX6_together_5 (by decide) rfl (fun c_5 => ?_) (fun c_5 => ?_)
  · replace h := (if_pos c_5).symm.trans h
    refine r_sub (lv' := [(0, .ref ((xG X).1 x0))]) [0] rfl ?_
    exact w_X6_together_b30 C hr  _ _ hx0 h
  · replace h := (if_neg c_5).symm.trans h
    refine r_aload_n C 0 (q := 9) dX6_together_8 rfl rfl ?_
    refine r_iload_n C 2 (q := 10) dX6_together_9 rfl rfl ?_
    obtain ⟨v_10, e_10, h⟩ := bs h
    refine r_callV C (ci := 6) (st := []) (st2 := [.int v_10]) (q := 13) (m_X6_isKey (xG X) (xl X) hx0 e_10) ok_X6_isKey hx0 rfl ⟨_, rfl⟩ q_1116 rfl ⟨Nat.le_of_ble_eq_true rfl, Nat.le_of_ble_eq_true rfl⟩ rfl rfl (Nat.le_of_ble_eq_true rfl) dX6_together_10 rfl (fun hp_10 => ?_)
    refine r_if_eq C (tgt := 30) (q := 16) dX6_together_13 (by decide) rfl (fun c_13 => ?_) (fun c_13 => ?_)
    · replace h := (if_pos c_13).symm.trans h
      refine r_sub (lv' := [(0, .ref ((xG X).1 x0))]) [0] rfl ?_
      exact w_X6_together_b30 C hr  _ _ hx0 h
    · replace h := (if_neg c_13).symm.trans h
      refine r_iload_n C 1 (q := 17) dX6_together_16 rfl rfl ?_
      refine r_iload_n C 2 (q := 18) dX6_together_17 rfl rfl ?_
      refine r_icmp_eq C (tgt := 30) (q := 21) dX6_together_18 (by decide) rfl (fun c_18 => ?_) (fun c_18 => ?_)
      · replace h := (if_pos c_18).symm.trans h
        refine r_sub (lv' := [(0, .ref ((xG X).1 x0))]) [0] rfl ?_
        exact w_X6_together_b30 C hr  _ _ hx0 h
      · replace h := (if_neg c_18).symm.trans h
        refine r_aload_n C 0 (q := 22) dX6_together_21 rfl rfl ?_
        refine r_iload_n C 1 (q := 23) dX6_together_22 rfl rfl ?_
        refine r_iload_n C 2 (q := 24) dX6_together_23 rfl rfl ?_
        obtain ⟨v_24, e_24, h⟩ := bs h
        refine r_callV C (ci := 6) (st := []) (st2 := [.int v_24]) (q := 27) (m_X6_bothOpen (xG X) (xl X) hx0 e_24) ok_X6_bothOpen hx0 rfl ⟨_, rfl⟩ q_1384 rfl ⟨Nat.le_of_ble_eq_true rfl, Nat.le_of_ble_eq_true rfl⟩ rfl rfl (Nat.le_of_ble_eq_true rfl) dX6_together_24 rfl (fun hp_24 => ?_)
        refine r_goto C (tgt := 36) dX6_together_27 (by decide) ?_
        obtain ⟨rfl, rfl⟩ := Prod.mk.inj (Option.some.inj h)
        exact hr _ _ dX6_together_36

theorem m_X6_together (G : Gm) (l : Launch) {σ σ' : St} {x0 : Nat} {x1 : Int32} {x2 : Int32} (hx0 : kd x0 = 7) {r : Int32} (h : f_X6_together σ x0 x1 x2 = some (r, σ')) : Ctr G l yX6_together cX6_together 3 (some .int) 2 48 [.ref (G.1 x0), .int x1, .int x2] σ (some (.int r)) True σ' := by
  refine Ctr.i (by decide) (Nat.le_of_ble_eq_true rfl) ?_
  intro X hG C hr
  subst hG
  exact w_X6_together_b0 C hr _ _ _ _ hx0 h
-- X6_pair
set_option maxHeartbeats 4000000 in
set_option maxRecDepth 100000 in
theorem w_X6_pair_b75 {X : CX} (C : Cok X RX6 cX6_pair 6 2 48) {σ' : St} {r : Int32} (hr : RtI X cX6_pair r σ') (k_34 : St → Nat → Int32 → Int32 → Int32 → Int32 → Option (Int32 × St)) (hk_34 : ∀ (σ : St) (x0 : Nat) (x1 : Int32) (x2 : Int32) (x3 : Int32) (x4 : Int32), kd x0 = 7 → k_34 σ x0 x1 x2 x3 x4 = some (r, σ') → V X σ 34 [(0, .ref ((xG X).1 x0)), (1, .int x1), (2, .int x2), (3, .int x3), (4, .int x4)] []) (σ : St) (x0 : Nat) (x1 : Int32) (x2 : Int32) (x3 : Int32) (x4 : Int32) (hx0 : kd x0 = 7) (h : f_X6_pair_b75 k_34 σ x0 x1 x2 x3 x4 = some (r, σ')) : V X σ 75 [(0, .ref ((xG X).1 x0)), (1, .int x1), (2, .int x2), (3, .int x3), (4, .int x4)] [] := by
  unfold f_X6_pair_b75 at h
  obtain ⟨y_75, e_75, h⟩ := bs h
  refine r_iinc C (v := y_75) (lv' := [(4, .int y_75), (0, .ref ((xG X).1 x0)), (1, .int x1), (2, .int x2), (3, .int x3)]) (q := 78) 4 dX6_pair_75 rfl (Option.some.inj e_75) (by decide) rfl rfl ?_
  refine r_goto C (tgt := 34) dX6_pair_78 (by decide) ?_
  refine r_sub (lv' := [(0, .ref ((xG X).1 x0)), (1, .int x1), (2, .int x2), (3, .int x3), (4, .int y_75)]) [1, 2, 3, 4, 0] rfl ?_
  exact hk_34 _ _ _ _ _ _ hx0 h

set_option maxHeartbeats 4000000 in
set_option maxRecDepth 100000 in
theorem w_X6_pair_b34 {X : CX} (C : Cok X RX6 cX6_pair 6 2 48) {σ' : St} {r : Int32} (hr : RtI X cX6_pair r σ') (k_21 : St → Nat → Int32 → Int32 → Int32 → Option (Int32 × St)) (hk_21 : ∀ (σ : St) (x0 : Nat) (x1 : Int32) (x2 : Int32) (x3 : Int32), kd x0 = 7 → k_21 σ x0 x1 x2 x3 = some (r, σ') → V X σ 21 [(0, .ref ((xG X).1 x0)), (1, .int x1), (2, .int x2), (3, .int x3)] []) (k_34 : St → Nat → Int32 → Int32 → Int32 → Int32 → Option (Int32 × St)) (hk_34 : ∀ (σ : St) (x0 : Nat) (x1 : Int32) (x2 : Int32) (x3 : Int32) (x4 : Int32), kd x0 = 7 → k_34 σ x0 x1 x2 x3 x4 = some (r, σ') → V X σ 34 [(0, .ref ((xG X).1 x0)), (1, .int x1), (2, .int x2), (3, .int x3), (4, .int x4)] []) (σ : St) (x0 : Nat) (x1 : Int32) (x2 : Int32) (x3 : Int32) (x4 : Int32) (hx0 : kd x0 = 7) (h : f_X6_pair_b34 k_21 k_34 σ x0 x1 x2 x3 x4 = some (r, σ')) : V X σ 34 [(0, .ref ((xG X).1 x0)), (1, .int x1), (2, .int x2), (3, .int x3), (4, .int x4)] [] := by
  unfold f_X6_pair_b34 at h
  refine r_iload C 4 (q := 36) dX6_pair_34 rfl rfl ?_
  refine r_aload_n C 0 (q := 37) dX6_pair_36 rfl rfl ?_
  refine g_X6_6 C (q := 40) dX6_pair_37 q_995 hx0 rfl ?_
  refine r_icmp_ge C (tgt := 81) (q := 43) dX6_pair_40 (by decide) rfl (fun c_40 => ?_) (fun c_40 => ?_)
  · replace h := (if_pos c_40).symm.trans h
    obtain ⟨y_81, e_81, h⟩ := bs h
    refine r_iinc C (v := y_81) (lv' := [(3, .int y_81), (0, .ref ((xG X).1 x0)), (1, .int x1), (2, .int x2), (4, .int x4)]) (q := 84) 3 dX6_pair_81 rfl (Option.some.inj e_81) (by decide) rfl rfl ?_
    refine r_goto C (tgt := 21) dX6_pair_84 (by decide) ?_
    refine r_sub (lv' := [(0, .ref ((xG X).1 x0)), (1, .int x1), (2, .int x2), (3, .int y_81)]) [1, 2, 3, 0] rfl ?_
    exact hk_21 _ _ _ _ _ hx0 h
  · replace h := (if_neg c_40).symm.trans h
    refine r_aload_n C 0 (q := 44) dX6_pair_43 rfl rfl ?_
    refine r_iload_n C 3 (q := 45) dX6_pair_44 rfl rfl ?_
    refine r_iload C 4 (q := 47) dX6_pair_45 rfl rfl ?_
    obtain ⟨v_47, e_47, h⟩ := bs h
    refine r_callV C (ci := 6) (st := []) (st2 := [.int v_47]) (q := 50) (m_X6_bothOpen (xG X) (xl X) hx0 e_47) ok_X6_bothOpen hx0 rfl ⟨_, rfl⟩ q_1384 rfl ⟨Nat.le_of_ble_eq_true rfl, Nat.le_of_ble_eq_true rfl⟩ rfl rfl (Nat.le_of_ble_eq_true rfl) dX6_pair_47 rfl (fun hp_47 => ?_)
    obtain ⟨v_50, e_50, h⟩ := bs h
    refine r_callS C (st := []) (st2 := [.int v_50]) (q := 53) (m_J6_bitCount_0f7a4 (xG X) (xl X) e_50) ok_J6_bitCount_0f7a4 q_1291 rfl ⟨Nat.le_of_ble_eq_true rfl, Nat.le_of_ble_eq_true rfl⟩ rfl rfl (Nat.le_of_ble_eq_true rfl) dX6_pair_50 rfl (fun hp_50 => ?_)
    refine r_istore C (lv' := [(5, .int v_50), (0, .ref ((xG X).1 x0)), (1, .int x1), (2, .int x2), (3, .int x3), (4, .int x4)]) (q := 55) dX6_pair_53 (by decide) rfl rfl ?_
    refine r_iload C 0 (q := 57) dX6_pair_55 rfl rfl ?_
    refine r_iload_n C 3 (q := 58) dX6_pair_57 rfl rfl ?_
    refine r_icmp_gt C (tgt := 64) (q := 61) dX6_pair_58 (by decide) rfl (fun c_58 => ?_) (fun c_58 => ?_)
    · replace h := (if_pos c_58).symm.trans h
      refine r_iload C 0 (q := 66) dX6_pair_64 rfl rfl ?_
      refine r_istore_n C (lv' := [(2, .int v_50), (5, .int v_50), (0, .ref ((xG X).1 x0)), (1, .int x1), (3, .int x3), (4, .int x4)]) (q := 67) dX6_pair_66 rfl (by decide) rfl rfl ?_
      refine r_bipush C (v := 10) (q := 69) dX6_pair_67 (by decide) rfl ?_
      refine r_iload_n C 4 (q := 70) dX6_pair_69 rfl rfl ?_
      refine r_imul C (q := 71) dX6_pair_70 rfl ?_
      refine r_iload C 5 (q := 73) dX6_pair_71 rfl rfl ?_
      refine r_iadd C (q := 74) dX6_pair_73 rfl ?_
      obtain ⟨y_74, e_74, h⟩ := bs h
      refine r_topI (Option.some.inj e_74) ?_
      refine r_istore_n C (lv' := [(1, .int y_74), (2, .int v_50), (5, .int v_50), (0, .ref ((xG X).1 x0)), (3, .int x3), (4, .int x4)]) (q := 75) dX6_pair_74 rfl (by decide) rfl rfl ?_
      refine r_sub (lv' := [(0, .ref ((xG X).1 x0)), (1, .int y_74), (2, .int v_50), (3, .int x3), (4, .int x4)]) [3, 0, 1, 4, 5] rfl ?_
      exact w_X6_pair_b75 C hr _ hk_34 _ _ _ _ _ _ hx0 h
    · replace h := (if_neg c_58).symm.trans h
      refine r_goto C (tgt := 75) dX6_pair_61 (by decide) ?_
      refine r_sub (lv' := [(0, .ref ((xG X).1 x0)), (1, .int x1), (2, .int x2), (3, .int x3), (4, .int x4)]) [1, 2, 3, 4, 5] rfl ?_
      exact w_X6_pair_b75 C hr _ hk_34 _ _ _ _ _ _ hx0 h

theorem w_X6_pair_l34 {X : CX} (C : Cok X RX6 cX6_pair 6 2 48) {σ' : St} {r : Int32} (hr : RtI X cX6_pair r σ') (k_21 : St → Nat → Int32 → Int32 → Int32 → Option (Int32 × St)) (hk_21 : ∀ (σ : St) (x0 : Nat) (x1 : Int32) (x2 : Int32) (x3 : Int32), kd x0 = 7 → k_21 σ x0 x1 x2 x3 = some (r, σ') → V X σ 21 [(0, .ref ((xG X).1 x0)), (1, .int x1), (2, .int x2), (3, .int x3)] []) (n : Nat) : ∀ (σ : St) (x0 : Nat) (x1 : Int32) (x2 : Int32) (x3 : Int32) (x4 : Int32), kd x0 = 7 → f_X6_pair_l34 k_21 n σ x0 x1 x2 x3 x4 = some (r, σ') → V X σ 34 [(0, .ref ((xG X).1 x0)), (1, .int x1), (2, .int x2), (3, .int x3), (4, .int x4)] [] := by
  induction n with
  | zero =>
    intro σ x0 x1 x2 x3 x4 hx0 h
    exact nomatch (show (none : Option (Int32 × St)) = some (r, σ') from h)
  | succ n ih =>
    intro σ x0 x1 x2 x3 x4 hx0 h
    exact w_X6_pair_b34 C hr k_21 hk_21 _ ih σ x0 x1 x2 x3 x4 hx0 h
set_option maxHeartbeats 4000000 in
set_option maxRecDepth 100000 in
theorem w_X6_pair_b21 {X : CX} (C : Cok X RX6 cX6_pair 6 2 48) {σ' : St} {r : Int32} (hr : RtI X cX6_pair r σ') (k_21 : St → Nat → Int32 → Int32 → Int32 → Option (Int32 × St)) (hk_21 : ∀ (σ : St) (x0 : Nat) (x1 : Int32) (x2 : Int32) (x3 : Int32), kd x0 = 7 → k_21 σ x0 x1 x2 x3 = some (r, σ') → V X σ 21 [(0, .ref ((xG X).1 x0)), (1, .int x1), (2, .int x2), (3, .int x3)] []) (σ : St) (x0 : Nat) (x1 : Int32) (x2 : Int32) (x3 : Int32) (hx0 : kd x0 = 7) (h : f_X6_pair_b21 k_21 σ x0 x1 x2 x3 = some (r, σ')) : V X σ 21 [(0, .ref ((xG X).1 x0)), (1, .int x1), (2, .int x2), (3, .int x3)] [] := by
  unfold f_X6_pair_b21 at h
  refine r_iload_n C 3 (q := 22) dX6_pair_21 rfl rfl ?_
  refine r_aload_n C 0 (q := 23) dX6_pair_22 rfl rfl ?_
  refine g_X6_6 C (q := 26) dX6_pair_23 q_995 hx0 rfl ?_
  refine r_icmp_ge C (tgt := 87) (q := 29) dX6_pair_26 (by decide) rfl (fun c_26 => ?_) (fun c_26 => ?_)
  · replace h := (if_pos c_26).symm.trans h
    refine r_iload_n C 1 (q := 88) dX6_pair_87 rfl rfl ?_
    obtain ⟨rfl, rfl⟩ := Prod.mk.inj (Option.some.inj h)
    exact hr _ _ dX6_pair_88
  · replace h := (if_neg c_26).symm.trans h
    refine r_iload_n C 3 (q := 30) dX6_pair_29 rfl rfl ?_
    refine r_iconst C (v := 1) (q := 31) dX6_pair_30 (by decide) rfl ?_
    refine r_iadd C (q := 32) dX6_pair_31 rfl ?_
    obtain ⟨y_32, e_32, h⟩ := bs h
    refine r_topI (Option.some.inj e_32) ?_
    refine r_istore C (lv' := [(4, .int y_32), (0, .ref ((xG X).1 x0)), (1, .int x1), (2, .int x2), (3, .int x3)]) (q := 34) dX6_pair_32 (by decide) rfl rfl ?_
    refine r_sub (lv' := [(0, .ref ((xG X).1 x0)), (1, .int x1), (2, .int x2), (3, .int x3), (4, .int y_32)]) [1, 2, 3, 4, 0] rfl ?_
    exact w_X6_pair_l34 C hr _ hk_21 FU _ _ _ _ _ _ hx0 h

theorem w_X6_pair_l21 {X : CX} (C : Cok X RX6 cX6_pair 6 2 48) {σ' : St} {r : Int32} (hr : RtI X cX6_pair r σ') (n : Nat) : ∀ (σ : St) (x0 : Nat) (x1 : Int32) (x2 : Int32) (x3 : Int32), kd x0 = 7 → f_X6_pair_l21 n σ x0 x1 x2 x3 = some (r, σ') → V X σ 21 [(0, .ref ((xG X).1 x0)), (1, .int x1), (2, .int x2), (3, .int x3)] [] := by
  induction n with
  | zero =>
    intro σ x0 x1 x2 x3 hx0 h
    exact nomatch (show (none : Option (Int32 × St)) = some (r, σ') from h)
  | succ n ih =>
    intro σ x0 x1 x2 x3 hx0 h
    exact w_X6_pair_b21 C hr _ ih σ x0 x1 x2 x3 hx0 h
set_option maxHeartbeats 4000000 in
set_option maxRecDepth 100000 in
theorem w_X6_pair_b0 {X : CX} (C : Cok X RX6 cX6_pair 6 2 48) {σ' : St} {r : Int32} (hr : RtI X cX6_pair r σ') (σ : St) (x0 : Nat) (hx0 : kd x0 = 7) (h : f_X6_pair σ x0 = some (r, σ')) : V X σ 0 [(0, .ref ((xG X).1 x0))] [] := by
  unfold f_X6_pair at h
  refine r_aload_n C 0 (q := 1) dX6_pair_0 rfl rfl ?_
  refine g_X6_6 C (q := 4) dX6_pair_1 q_995 hx0 rfl ?_
  refine r_iconst C (v := 2) (q := 5) dX6_pair_4 (by decide) rfl ?_
  refine r_icmp_ge C (tgt := 15) (q := 8) dX6_pair_5 (by decide) rfl (fun c_5 => ?_) (fun c_5 => ?_)
  · replace h := (if_pos c_5).symm.trans h
    refine r_iconst C (v := (-1)) (q := 16) dX6_pair_15 (by decide) rfl ?_
    refine r_istore_n C (lv' := [(1, .int (-1)), (0, .ref ((xG X).1 x0))]) (q := 17) dX6_pair_16 rfl (by decide) rfl rfl ?_
    refine r_iconst C (v := (-1)) (q := 18) dX6_pair_17 (by decide) rfl ?_
    refine r_istore_n C (lv' := [(2, .int (-1)), (1, .int (-1)), (0, .ref ((xG X).1 x0))]) (q := 19) dX6_pair_18 rfl (by decide) rfl rfl ?_
    refine r_iconst C (v := 0) (q := 20) dX6_pair_19 (by decide) rfl ?_
    refine r_istore_n C (lv' := [(3, .int 0), (2, .int (-1)), (1, .int (-1)), (0, .ref ((xG X).1 x0))]) (q := 21) dX6_pair_20 rfl (by decide) rfl rfl ?_
    refine r_sub (lv' := [(0, .ref ((xG X).1 x0)), (1, .int (-1)), (2, .int (-1)), (3, .int 0)]) [3, 2, 1, 0] rfl ?_
    exact w_X6_pair_l21 C hr  FU _ _ _ _ _ hx0 h
  · replace h := (if_neg c_5).symm.trans h
    refine r_aload_n C 0 (q := 9) dX6_pair_8 rfl rfl ?_
    refine r_bipush C (v := (-5)) (q := 11) dX6_pair_9 (by decide) rfl ?_
    obtain ⟨v_11, s_11, e_11, h⟩ := bs2 h
    refine r_callV C (ci := 6) (st := []) (st2 := [.int v_11]) (q := 14) (m_X6_no (xG X) (xl X) hx0 e_11) ok_X6_no hx0 rfl ⟨_, rfl⟩ q_1084 rfl ⟨Nat.le_of_ble_eq_true rfl, Nat.le_of_ble_eq_true rfl⟩ rfl rfl (Nat.le_of_ble_eq_true rfl) dX6_pair_11 rfl (fun hp_11 => ?_)
    obtain ⟨rfl, rfl⟩ := Prod.mk.inj (Option.some.inj h)
    exact hr _ _ dX6_pair_14

theorem m_X6_pair (G : Gm) (l : Launch) {σ σ' : St} {x0 : Nat} (hx0 : kd x0 = 7) {r : Int32} (h : f_X6_pair σ x0 = some (r, σ')) : Ctr G l yX6_pair cX6_pair 6 (some .int) 2 48 [.ref (G.1 x0)] σ (some (.int r)) True σ' := by
  refine Ctr.i (by decide) (Nat.le_of_ble_eq_true rfl) ?_
  intro X hG C hr
  subst hG
  exact w_X6_pair_b0 C hr _ _ hx0 h
-- X6_unlike
set_option maxHeartbeats 4000000 in
set_option maxRecDepth 100000 in
theorem w_X6_unlike_b34 {X : CX} (C : Cok X RX6 cX6_unlike 3 2 46) {σ : St} {r : Int32} (hr : RtI X cX6_unlike r σ) (k_4 : Nat → Int32 → Int32 → Option Int32) (hk_4 : ∀ (x0 : Nat) (x1 : Int32) (x2 : Int32), kd x0 = 7 → k_4 x0 x1 x2 = some r → V X σ 4 [(0, .ref ((xG X).1 x0)), (1, .int x1), (2, .int x2)] []) (x0 : Nat) (x1 : Int32) (x2 : Int32) (hx0 : kd x0 = 7) (h : f_X6_unlike_b34 σ k_4 x0 x1 x2 = some r) : V X σ 34 [(0, .ref ((xG X).1 x0)), (1, .int x1), (2, .int x2)] [] := by
  unfold f_X6_unlike_b34 at h
  obtain ⟨y_34, e_34, h⟩ := bs h
  refine r_iinc C (v := y_34) (lv' := [(2, .int y_34), (0, .ref ((xG X).1 x0)), (1, .int x1)]) (q := 37) 2 dX6_unlike_34 rfl (Option.some.inj e_34) (by decide) rfl rfl ?_
  refine r_goto C (tgt := 4) dX6_unlike_37 (by decide) ?_
  refine r_sub (lv' := [(0, .ref ((xG X).1 x0)), (1, .int x1), (2, .int y_34)]) [1, 2, 0] rfl ?_
  exact hk_4 _ _ _ hx0 h

set_option maxHeartbeats 4000000 in
set_option maxRecDepth 100000 in
theorem w_X6_unlike_b4 {X : CX} (C : Cok X RX6 cX6_unlike 3 2 46) {σ : St} {r : Int32} (hr : RtI X cX6_unlike r σ) (k_4 : Nat → Int32 → Int32 → Option Int32) (hk_4 : ∀ (x0 : Nat) (x1 : Int32) (x2 : Int32), kd x0 = 7 → k_4 x0 x1 x2 = some r → V X σ 4 [(0, .ref ((xG X).1 x0)), (1, .int x1), (2, .int x2)] []) (x0 : Nat) (x1 : Int32) (x2 : Int32) (hx0 : kd x0 = 7) (h : f_X6_unlike_b4 σ k_4 x0 x1 x2 = some r) : V X σ 4 [(0, .ref ((xG X).1 x0)), (1, .int x1), (2, .int x2)] [] := by
  unfold f_X6_unlike_b4 at h
  refine r_iload_n C 2 (q := 5) dX6_unlike_4 rfl rfl ?_
  refine r_aload_n C 0 (q := 6) dX6_unlike_5 rfl rfl ?_
  obtain ⟨v_6, e_6, h⟩ := bs h
  refine r_callV C (ci := 6) (st := [.int x2]) (st2 := [.int v_6, .int x2]) (q := 9) (m_X6_rows (xG X) (xl X) hx0 e_6) ok_X6_rows hx0 rfl ⟨_, rfl⟩ q_1312 rfl ⟨Nat.le_of_ble_eq_true rfl, Nat.le_of_ble_eq_true rfl⟩ rfl rfl (Nat.le_of_ble_eq_true rfl) dX6_unlike_6 rfl (fun hp_6 => ?_)
  refine r_icmp_ge C (tgt := 40) (q := 12) dX6_unlike_9 (by decide) rfl (fun c_9 => ?_) (fun c_9 => ?_)
  · replace h := (if_pos c_9).symm.trans h
    refine r_iload_n C 1 (q := 41) dX6_unlike_40 rfl rfl ?_
    obtain rfl := Option.some.inj h
    exact hr _ _ dX6_unlike_41
  · replace h := (if_neg c_9).symm.trans h
    refine r_aload_n C 0 (q := 13) dX6_unlike_12 rfl rfl ?_
    refine r_iload_n C 2 (q := 14) dX6_unlike_13 rfl rfl ?_
    obtain ⟨v_14, e_14, h⟩ := bs h
    refine r_callV C (ci := 6) (st := []) (st2 := [.int v_14]) (q := 17) (m_X6_sum (xG X) (xl X) hx0 e_14) ok_X6_sum hx0 rfl ⟨_, rfl⟩ q_1328 rfl ⟨Nat.le_of_ble_eq_true rfl, Nat.le_of_ble_eq_true rfl⟩ rfl rfl (Nat.le_of_ble_eq_true rfl) dX6_unlike_14 rfl (fun hp_14 => ?_)
    refine r_aload_n C 0 (q := 18) dX6_unlike_17 rfl rfl ?_
    refine g_X6_3 C (q := 21) dX6_unlike_18 q_992 hx0 rfl ?_
    refine r_aload_n C 0 (q := 22) dX6_unlike_21 rfl rfl ?_
    refine g_X6_4 C (q := 25) dX6_unlike_22 q_993 hx0 rfl ?_
    refine r_imul C (q := 26) dX6_unlike_25 rfl ?_
    refine r_iconst C (v := 2) (q := 27) dX6_unlike_26 (by decide) rfl ?_
    obtain ⟨v_27, e_27, h⟩ := bs h
    refine r_idiv C (q := 28) dX6_unlike_27 e_27 rfl ?_
    refine r_icmp_ne C (tgt := 34) (q := 31) dX6_unlike_28 (by decide) rfl (fun c_28 => ?_) (fun c_28 => ?_)
    · replace h := (if_neg c_28).symm.trans h
      exact w_X6_unlike_b34 C hr _ hk_4 _ _ _ hx0 h
    · replace h := (if_pos c_28).symm.trans h
      obtain ⟨y_31, e_31, h⟩ := bs h
      refine r_iinc C (v := y_31) (lv' := [(1, .int y_31), (0, .ref ((xG X).1 x0)), (2, .int x2)]) (q := 34) 1 dX6_unlike_31 rfl (Option.some.inj e_31) (by decide) rfl rfl ?_
      refine r_sub (lv' := [(0, .ref ((xG X).1 x0)), (1, .int y_31), (2, .int x2)]) [1, 0, 2] rfl ?_
      exact w_X6_unlike_b34 C hr _ hk_4 _ _ _ hx0 h

theorem w_X6_unlike_l4 {X : CX} (C : Cok X RX6 cX6_unlike 3 2 46) {σ : St} {r : Int32} (hr : RtI X cX6_unlike r σ) (n : Nat) : ∀ (x0 : Nat) (x1 : Int32) (x2 : Int32), kd x0 = 7 → f_X6_unlike_l4 σ n x0 x1 x2 = some r → V X σ 4 [(0, .ref ((xG X).1 x0)), (1, .int x1), (2, .int x2)] [] := by
  induction n with
  | zero =>
    intro x0 x1 x2 hx0 h
    exact nomatch (show (none : Option Int32) = some r from h)
  | succ n ih =>
    intro x0 x1 x2 hx0 h
    exact w_X6_unlike_b4 C hr _ ih x0 x1 x2 hx0 h
set_option maxHeartbeats 4000000 in
set_option maxRecDepth 100000 in
theorem w_X6_unlike_b0 {X : CX} (C : Cok X RX6 cX6_unlike 3 2 46) {σ : St} {r : Int32} (hr : RtI X cX6_unlike r σ) (x0 : Nat) (hx0 : kd x0 = 7) (h : f_X6_unlike σ x0 = some r) : V X σ 0 [(0, .ref ((xG X).1 x0))] [] := by
  unfold f_X6_unlike at h
  refine r_iconst C (v := 0) (q := 1) dX6_unlike_0 (by decide) rfl ?_
  refine r_istore_n C (lv' := [(1, .int 0), (0, .ref ((xG X).1 x0))]) (q := 2) dX6_unlike_1 rfl (by decide) rfl rfl ?_
  refine r_iconst C (v := 0) (q := 3) dX6_unlike_2 (by decide) rfl ?_
  refine r_istore_n C (lv' := [(2, .int 0), (1, .int 0), (0, .ref ((xG X).1 x0))]) (q := 4) dX6_unlike_3 rfl (by decide) rfl rfl ?_
  refine r_sub (lv' := [(0, .ref ((xG X).1 x0)), (1, .int 0), (2, .int 0)]) [2, 1, 0] rfl ?_
  exact w_X6_unlike_l4 C hr  FU _ _ _ hx0 h

theorem m_X6_unlike (G : Gm) (l : Launch) {σ : St} {x0 : Nat} (hx0 : kd x0 = 7) {r : Int32} (h : f_X6_unlike σ x0 = some r) : Ctr G l yX6_unlike cX6_unlike 3 (some .int) 2 46 [.ref (G.1 x0)] σ (some (.int r)) True σ := by
  refine Ctr.i (by decide) (Nat.le_of_ble_eq_true rfl) ?_
  intro X hG C hr
  subst hG
  exact w_X6_unlike_b0 C hr _ hx0 h
-- X6_alike
set_option maxHeartbeats 4000000 in
set_option maxRecDepth 100000 in
theorem w_X6_alike_b70 {X : CX} (C : Cok X RX6 cX6_alike 5 0 0) {σ : St} {r : Int32} (hr : RtI X cX6_alike r σ) (k_34 : Nat → Int32 → Int32 → Int32 → Int32 → Option Int32) (hk_34 : ∀ (x0 : Nat) (x1 : Int32) (x2 : Int32) (x3 : Int32) (x4 : Int32), kd x0 = 7 → k_34 x0 x1 x2 x3 x4 = some r → V X σ 34 [(0, .ref ((xG X).1 x0)), (1, .int x1), (2, .int x2), (3, .int x3), (4, .int x4)] []) (x0 : Nat) (x1 : Int32) (x2 : Int32) (x3 : Int32) (x4 : Int32) (hx0 : kd x0 = 7) (h : f_X6_alike_b70 σ k_34 x0 x1 x2 x3 x4 = some r) : V X σ 70 [(0, .ref ((xG X).1 x0)), (1, .int x1), (2, .int x2), (3, .int x3), (4, .int x4)] [] := by
  unfold f_X6_alike_b70 at h
  obtain ⟨y_70, e_70, h⟩ := bs h
  refine r_iinc C (v := y_70) (lv' := [(4, .int y_70), (0, .ref ((xG X).1 x0)), (1, .int x1), (2, .int x2), (3, .int x3)]) (q := 73) 4 dX6_alike_70 rfl (Option.some.inj e_70) (by decide) rfl rfl ?_
  refine r_goto C (tgt := 34) dX6_alike_73 (by decide) ?_
  refine r_sub (lv' := [(0, .ref ((xG X).1 x0)), (1, .int x1), (2, .int x2), (3, .int x3), (4, .int y_70)]) [1, 2, 3, 4, 0] rfl ?_
  exact hk_34 _ _ _ _ _ hx0 h

set_option maxHeartbeats 4000000 in
set_option maxRecDepth 100000 in
theorem w_X6_alike_b34 {X : CX} (C : Cok X RX6 cX6_alike 5 0 0) {σ : St} {r : Int32} (hr : RtI X cX6_alike r σ) (k_12 : Nat → Int32 → Int32 → Option Int32) (hk_12 : ∀ (x0 : Nat) (x1 : Int32) (x2 : Int32), kd x0 = 7 → k_12 x0 x1 x2 = some r → V X σ 12 [(0, .ref ((xG X).1 x0)), (1, .int x1), (2, .int x2)] []) (k_34 : Nat → Int32 → Int32 → Int32 → Int32 → Option Int32) (hk_34 : ∀ (x0 : Nat) (x1 : Int32) (x2 : Int32) (x3 : Int32) (x4 : Int32), kd x0 = 7 → k_34 x0 x1 x2 x3 x4 = some r → V X σ 34 [(0, .ref ((xG X).1 x0)), (1, .int x1), (2, .int x2), (3, .int x3), (4, .int x4)] []) (x0 : Nat) (x1 : Int32) (x2 : Int32) (x3 : Int32) (x4 : Int32) (hx0 : kd x0 = 7) (h : f_X6_alike_b34 σ k_12 k_34 x0 x1 x2 x3 x4 = some r) : V X σ 34 [(0, .ref ((xG X).1 x0)), (1, .int x1), (2, .int x2), (3, .int x3), (4, .int x4)] [] := by
  unfold f_X6_alike_b34 at h
  refine r_iload C 4 (q := 36) dX6_alike_34 rfl rfl ?_
  refine r_aload_n C 0 (q := 37) dX6_alike_36 rfl rfl ?_
  refine g_X6_3 C (q := 40) dX6_alike_37 q_992 hx0 rfl ?_
  refine r_icmp_ge C (tgt := 76) (q := 43) dX6_alike_40 (by decide) rfl (fun c_40 => ?_) (fun c_40 => ?_)
  · replace h := (if_pos c_40).symm.trans h
    refine r_iload_n C 3 (q := 77) dX6_alike_76 rfl rfl ?_
    refine r_if_eq C (tgt := 87) (q := 80) dX6_alike_77 (by decide) rfl (fun c_77 => ?_) (fun c_77 => ?_)
    · replace h := (if_pos c_77).symm.trans h
      obtain ⟨y_87, e_87, h⟩ := bs h
      refine r_iinc C (v := y_87) (lv' := [(2, .int y_87), (0, .ref ((xG X).1 x0)), (1, .int x1), (3, .int x3), (4, .int x4)]) (q := 90) 2 dX6_alike_87 rfl (Option.some.inj e_87) (by decide) rfl rfl ?_
      refine r_goto C (tgt := 12) dX6_alike_90 (by decide) ?_
      refine r_sub (lv' := [(0, .ref ((xG X).1 x0)), (1, .int x1), (2, .int y_87)]) [1, 2, 0] rfl ?_
      exact hk_12 _ _ _ hx0 h
    · replace h := (if_neg c_77).symm.trans h
      refine r_bipush C (v := 10) (q := 82) dX6_alike_80 (by decide) rfl ?_
      refine r_iload_n C 1 (q := 83) dX6_alike_82 rfl rfl ?_
      refine r_imul C (q := 84) dX6_alike_83 rfl ?_
      refine r_iload_n C 2 (q := 85) dX6_alike_84 rfl rfl ?_
      refine r_iadd C (q := 86) dX6_alike_85 rfl ?_
      obtain rfl := Option.some.inj h
      exact hr _ _ dX6_alike_86
  · replace h := (if_neg c_40).symm.trans h
    refine r_aload_n C 0 (q := 44) dX6_alike_43 rfl rfl ?_
    refine g_X6_13 C (q := 47) dX6_alike_44 q_1002 hx0 rfl ?_
    refine r_iconst C (v := 5) (q := 48) dX6_alike_47 (by decide) rfl ?_
    refine r_iload_n C 1 (q := 49) dX6_alike_48 rfl rfl ?_
    refine r_imul C (q := 50) dX6_alike_49 rfl ?_
    refine r_iload C 4 (q := 52) dX6_alike_50 rfl rfl ?_
    refine r_iadd C (q := 53) dX6_alike_52 rfl ?_
    obtain ⟨v_53, e_53, h⟩ := bs h
    refine r_iald C (q := 54) dX6_alike_53 (kf_X6_13 hx0) e_53 rfl ?_
    refine r_aload_n C 0 (q := 55) dX6_alike_54 rfl rfl ?_
    refine g_X6_13 C (q := 58) dX6_alike_55 q_1002 hx0 rfl ?_
    refine r_iconst C (v := 5) (q := 59) dX6_alike_58 (by decide) rfl ?_
    refine r_iload_n C 2 (q := 60) dX6_alike_59 rfl rfl ?_
    refine r_imul C (q := 61) dX6_alike_60 rfl ?_
    refine r_iload C 4 (q := 63) dX6_alike_61 rfl rfl ?_
    refine r_iadd C (q := 64) dX6_alike_63 rfl ?_
    obtain ⟨v_64, e_64, h⟩ := bs h
    refine r_iald C (q := 65) dX6_alike_64 (kf_X6_13 hx0) e_64 rfl ?_
    refine r_icmp_ge C (tgt := 70) (q := 68) dX6_alike_65 (by decide) rfl (fun c_65 => ?_) (fun c_65 => ?_)
    · replace h := (if_pos c_65).symm.trans h
      exact w_X6_alike_b70 C hr _ hk_34 _ _ _ _ _ hx0 h
    · replace h := (if_neg c_65).symm.trans h
      refine r_iconst C (v := 0) (q := 69) dX6_alike_68 (by decide) rfl ?_
      refine r_istore_n C (lv' := [(3, .int 0), (0, .ref ((xG X).1 x0)), (1, .int x1), (2, .int x2), (4, .int x4)]) (q := 70) dX6_alike_69 rfl (by decide) rfl rfl ?_
      refine r_sub (lv' := [(0, .ref ((xG X).1 x0)), (1, .int x1), (2, .int x2), (3, .int 0), (4, .int x4)]) [1, 2, 3, 0, 4] rfl ?_
      exact w_X6_alike_b70 C hr _ hk_34 _ _ _ _ _ hx0 h

theorem w_X6_alike_l34 {X : CX} (C : Cok X RX6 cX6_alike 5 0 0) {σ : St} {r : Int32} (hr : RtI X cX6_alike r σ) (k_12 : Nat → Int32 → Int32 → Option Int32) (hk_12 : ∀ (x0 : Nat) (x1 : Int32) (x2 : Int32), kd x0 = 7 → k_12 x0 x1 x2 = some r → V X σ 12 [(0, .ref ((xG X).1 x0)), (1, .int x1), (2, .int x2)] []) (n : Nat) : ∀ (x0 : Nat) (x1 : Int32) (x2 : Int32) (x3 : Int32) (x4 : Int32), kd x0 = 7 → f_X6_alike_l34 σ k_12 n x0 x1 x2 x3 x4 = some r → V X σ 34 [(0, .ref ((xG X).1 x0)), (1, .int x1), (2, .int x2), (3, .int x3), (4, .int x4)] [] := by
  induction n with
  | zero =>
    intro x0 x1 x2 x3 x4 hx0 h
    exact nomatch (show (none : Option Int32) = some r from h)
  | succ n ih =>
    intro x0 x1 x2 x3 x4 hx0 h
    exact w_X6_alike_b34 C hr k_12 hk_12 _ ih x0 x1 x2 x3 x4 hx0 h
set_option maxHeartbeats 4000000 in
set_option maxRecDepth 100000 in
theorem w_X6_alike_b30 {X : CX} (C : Cok X RX6 cX6_alike 5 0 0) {σ : St} {r : Int32} (hr : RtI X cX6_alike r σ) (k_12 : Nat → Int32 → Int32 → Option Int32) (hk_12 : ∀ (x0 : Nat) (x1 : Int32) (x2 : Int32), kd x0 = 7 → k_12 x0 x1 x2 = some r → V X σ 12 [(0, .ref ((xG X).1 x0)), (1, .int x1), (2, .int x2)] []) (x0 : Nat) (x1 : Int32) (x2 : Int32) (t0 : Int32) (hx0 : kd x0 = 7) (h : f_X6_alike_b30 σ k_12 x0 x1 x2 t0 = some r) : V X σ 30 [(0, .ref ((xG X).1 x0)), (1, .int x1), (2, .int x2)] [.int t0] := by
  unfold f_X6_alike_b30 at h
  refine r_istore_n C (lv' := [(3, .int t0), (0, .ref ((xG X).1 x0)), (1, .int x1), (2, .int x2)]) (q := 31) dX6_alike_30 rfl (by decide) rfl rfl ?_
  refine r_iconst C (v := 0) (q := 32) dX6_alike_31 (by decide) rfl ?_
  refine r_istore C (lv' := [(4, .int 0), (3, .int t0), (0, .ref ((xG X).1 x0)), (1, .int x1), (2, .int x2)]) (q := 34) dX6_alike_32 (by decide) rfl rfl ?_
  refine r_sub (lv' := [(0, .ref ((xG X).1 x0)), (1, .int x1), (2, .int x2), (3, .int t0), (4, .int 0)]) [2, 3, 4, 1, 0] rfl ?_
  exact w_X6_alike_l34 C hr _ hk_12 FU _ _ _ _ _ hx0 h

set_option maxHeartbeats 4000000 in
set_option maxRecDepth 100000 in
theorem w_X6_alike_b12 {X : CX} (C : Cok X RX6 cX6_alike 5 0 0) {σ : St} {r : Int32} (hr : RtI X cX6_alike r σ) (k_2 : Nat → Int32 → Option Int32) (hk_2 : ∀ (x0 : Nat) (x1 : Int32), kd x0 = 7 → k_2 x0 x1 = some r → V X σ 2 [(0, .ref ((xG X).1 x0)), (1, .int x1)] []) (k_12 : Nat → Int32 → Int32 → Option Int32) (hk_12 : ∀ (x0 : Nat) (x1 : Int32) (x2 : Int32), kd x0 = 7 → k_12 x0 x1 x2 = some r → V X σ 12 [(0, .ref ((xG X).1 x0)), (1, .int x1), (2, .int x2)] []) (x0 : Nat) (x1 : Int32) (x2 : Int32) (hx0 : kd x0 = 7) (h : f_X6_alike_b12 σ k_2 k_12 x0 x1 x2 = some r) : V X σ 12 [(0, .ref ((xG X).1 x0)), (1, .int x1), (2, .int x2)] [] := by
  unfold f_X6_alike_b12 at h
  refine r_iload_n C 2 (q := 13) dX6_alike_12 rfl rfl ?_
  refine r_aload_n C 0 (q := 14) dX6_alike_13 rfl rfl ?_
  refine g_X6_11 C (q := 17) dX6_alike_14 q_1000 hx0 rfl ?_
  refine r_icmp_ge C (tgt := 93) (q := 20) dX6_alike_17 (by decide) rfl (fun c_17 => ?_) (fun c_17 => ?_)
  · replace h := (if_pos c_17).symm.trans h
    obtain ⟨y_93, e_93, h⟩ := bs h
    refine r_iinc C (v := y_93) (lv' := [(1, .int y_93), (0, .ref ((xG X).1 x0)), (2, .int x2)]) (q := 96) 1 dX6_alike_93 rfl (Option.some.inj e_93) (by decide) rfl rfl ?_
    refine r_goto C (tgt := 2) dX6_alike_96 (by decide) ?_
    refine r_sub (lv' := [(0, .ref ((xG X).1 x0)), (1, .int y_93)]) [1, 0] rfl ?_
    exact hk_2 _ _ hx0 h
  · replace h := (if_neg c_17).symm.trans h
    refine r_iload_n C 1 (q := 21) dX6_alike_20 rfl rfl ?_
    refine r_iload_n C 2 (q := 22) dX6_alike_21 rfl rfl ?_
    refine r_icmp_eq C (tgt := 29) (q := 25) dX6_alike_22 (by decide) rfl (fun c_22 => ?_) (fun c_22 => ?_)
    · replace h := (if_pos c_22).symm.trans h
      refine r_iconst C (v := 0) (q := 30) dX6_alike_29 (by decide) rfl ?_
      exact w_X6_alike_b30 C hr _ hk_12 _ _ _ _ hx0 h
    · replace h := (if_neg c_22).symm.trans h
      refine r_iconst C (v := 1) (q := 26) dX6_alike_25 (by decide) rfl ?_
      refine r_goto C (tgt := 30) dX6_alike_26 (by decide) ?_
      exact w_X6_alike_b30 C hr _ hk_12 _ _ _ _ hx0 h

theorem w_X6_alike_l12 {X : CX} (C : Cok X RX6 cX6_alike 5 0 0) {σ : St} {r : Int32} (hr : RtI X cX6_alike r σ) (k_2 : Nat → Int32 → Option Int32) (hk_2 : ∀ (x0 : Nat) (x1 : Int32), kd x0 = 7 → k_2 x0 x1 = some r → V X σ 2 [(0, .ref ((xG X).1 x0)), (1, .int x1)] []) (n : Nat) : ∀ (x0 : Nat) (x1 : Int32) (x2 : Int32), kd x0 = 7 → f_X6_alike_l12 σ k_2 n x0 x1 x2 = some r → V X σ 12 [(0, .ref ((xG X).1 x0)), (1, .int x1), (2, .int x2)] [] := by
  induction n with
  | zero =>
    intro x0 x1 x2 hx0 h
    exact nomatch (show (none : Option Int32) = some r from h)
  | succ n ih =>
    intro x0 x1 x2 hx0 h
    exact w_X6_alike_b12 C hr k_2 hk_2 _ ih x0 x1 x2 hx0 h
set_option maxHeartbeats 4000000 in
set_option maxRecDepth 100000 in
theorem w_X6_alike_b2 {X : CX} (C : Cok X RX6 cX6_alike 5 0 0) {σ : St} {r : Int32} (hr : RtI X cX6_alike r σ) (k_2 : Nat → Int32 → Option Int32) (hk_2 : ∀ (x0 : Nat) (x1 : Int32), kd x0 = 7 → k_2 x0 x1 = some r → V X σ 2 [(0, .ref ((xG X).1 x0)), (1, .int x1)] []) (x0 : Nat) (x1 : Int32) (hx0 : kd x0 = 7) (h : f_X6_alike_b2 σ k_2 x0 x1 = some r) : V X σ 2 [(0, .ref ((xG X).1 x0)), (1, .int x1)] [] := by
  unfold f_X6_alike_b2 at h
  refine r_iload_n C 1 (q := 3) dX6_alike_2 rfl rfl ?_
  refine r_aload_n C 0 (q := 4) dX6_alike_3 rfl rfl ?_
  refine g_X6_11 C (q := 7) dX6_alike_4 q_1000 hx0 rfl ?_
  refine r_icmp_ge C (tgt := 99) (q := 10) dX6_alike_7 (by decide) rfl (fun c_7 => ?_) (fun c_7 => ?_)
  · replace h := (if_pos c_7).symm.trans h
    refine r_iconst C (v := (-1)) (q := 100) dX6_alike_99 (by decide) rfl ?_
    obtain rfl := Option.some.inj h
    exact hr _ _ dX6_alike_100
  · replace h := (if_neg c_7).symm.trans h
    refine r_iconst C (v := 0) (q := 11) dX6_alike_10 (by decide) rfl ?_
    refine r_istore_n C (lv' := [(2, .int 0), (0, .ref ((xG X).1 x0)), (1, .int x1)]) (q := 12) dX6_alike_11 rfl (by decide) rfl rfl ?_
    refine r_sub (lv' := [(0, .ref ((xG X).1 x0)), (1, .int x1), (2, .int 0)]) [1, 2, 0] rfl ?_
    exact w_X6_alike_l12 C hr _ hk_2 FU _ _ _ hx0 h

theorem w_X6_alike_l2 {X : CX} (C : Cok X RX6 cX6_alike 5 0 0) {σ : St} {r : Int32} (hr : RtI X cX6_alike r σ) (n : Nat) : ∀ (x0 : Nat) (x1 : Int32), kd x0 = 7 → f_X6_alike_l2 σ n x0 x1 = some r → V X σ 2 [(0, .ref ((xG X).1 x0)), (1, .int x1)] [] := by
  induction n with
  | zero =>
    intro x0 x1 hx0 h
    exact nomatch (show (none : Option Int32) = some r from h)
  | succ n ih =>
    intro x0 x1 hx0 h
    exact w_X6_alike_b2 C hr _ ih x0 x1 hx0 h
set_option maxHeartbeats 4000000 in
set_option maxRecDepth 100000 in
theorem w_X6_alike_b0 {X : CX} (C : Cok X RX6 cX6_alike 5 0 0) {σ : St} {r : Int32} (hr : RtI X cX6_alike r σ) (x0 : Nat) (hx0 : kd x0 = 7) (h : f_X6_alike σ x0 = some r) : V X σ 0 [(0, .ref ((xG X).1 x0))] [] := by
  unfold f_X6_alike at h
  refine r_iconst C (v := 0) (q := 1) dX6_alike_0 (by decide) rfl ?_
  refine r_istore_n C (lv' := [(1, .int 0), (0, .ref ((xG X).1 x0))]) (q := 2) dX6_alike_1 rfl (by decide) rfl rfl ?_
  refine r_sub (lv' := [(0, .ref ((xG X).1 x0)), (1, .int 0)]) [1, 0] rfl ?_
  exact w_X6_alike_l2 C hr  FU _ _ hx0 h

theorem m_X6_alike (G : Gm) (l : Launch) {σ : St} {x0 : Nat} (hx0 : kd x0 = 7) {r : Int32} (h : f_X6_alike σ x0 = some r) : Ctr G l yX6_alike cX6_alike 5 (some .int) 0 0 [.ref (G.1 x0)] σ (some (.int r)) True σ := by
  refine Ctr.i (by decide) (Nat.le_of_ble_eq_true rfl) ?_
  intro X hG C hr
  subst hG
  exact w_X6_alike_b0 C hr _ hx0 h
