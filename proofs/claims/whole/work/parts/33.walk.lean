-- X5_safe
set_option maxHeartbeats 4000000 in
set_option maxRecDepth 100000 in
theorem w_X5_safe_b0 {X : CX} (C : Cok X RX5 cX5_safe 2 7 166) {σ' : St} {r : Int32} (hr : RtI X cX5_safe r σ') (σ : St) (x0 : Nat) (x1 : Int32) (hx0 : kd x0 = 6) (h : f_X5_safe σ x0 x1 = some (r, σ')) : V X σ 0 [(0, .ref ((xG X).1 x0)), (1, .int x1)] [] := by
  unfold f_X5_safe at h
  refine r_aload_n C 0 (q := 1) dX5_safe_0 rfl rfl ?_
  refine r_iload_n C 1 (q := 2) dX5_safe_1 rfl rfl ?_
  obtain ⟨v_2, e_2, h⟩ := bs h
  refine r_callV C (ci := 5) (st := []) (st2 := [.int v_2]) (q := 5) (m_X5_isLock (xG X) (xl X) hx0 e_2) ok_X5_isLock hx0 rfl ⟨_, rfl⟩ q_453 rfl ⟨Nat.le_of_ble_eq_true rfl, Nat.le_of_ble_eq_true rfl⟩ rfl rfl (Nat.le_of_ble_eq_true rfl) dX5_safe_2 rfl (fun hp_2 => ?_)
  refine r_if_eq C (tgt := 19) (q := 8) dX5_safe_5 (by decide) rfl (fun c_5 => ?_) (fun c_5 => ?_)
  · replace h := (if_pos c_5).symm.trans h
    refine r_aload_n C 0 (q := 20) dX5_safe_19 rfl rfl ?_
    refine r_bipush C (v := (-2)) (q := 22) dX5_safe_20 (by decide) rfl ?_
    obtain ⟨v_22, s_22, e_22, h⟩ := bs2 h
    refine r_callV C (ci := 5) (st := []) (st2 := [.int v_22]) (q := 25) (m_X5_refuse (xG X) (xl X) hx0 e_22) ok_X5_refuse hx0 rfl ⟨_, rfl⟩ q_242 rfl ⟨Nat.le_of_ble_eq_true rfl, Nat.le_of_ble_eq_true rfl⟩ rfl rfl (Nat.le_of_ble_eq_true rfl) dX5_safe_22 rfl (fun hp_22 => ?_)
    obtain ⟨rfl, rfl⟩ := Prod.mk.inj (Option.some.inj h)
    exact hr _ _ dX5_safe_25
  · replace h := (if_neg c_5).symm.trans h
    refine r_aload_n C 0 (q := 9) dX5_safe_8 rfl rfl ?_
    refine g_X5_3 C (q := 12) dX5_safe_9 q_206 hx0 rfl ?_
    refine r_iload_n C 1 (q := 13) dX5_safe_12 rfl rfl ?_
    obtain ⟨v_13, s_13, e_13, h⟩ := bs2 h
    refine r_callV C (ci := 4) (st := []) (st2 := [.int v_13]) (q := 16) (m_X4_safeFrom (xG X) (xl X) (kf_X5_3 hx0) e_13) ok_X4_safeFrom (kf_X5_3 hx0) rfl ⟨_, rfl⟩ q_779 rfl ⟨Nat.le_of_ble_eq_true rfl, Nat.le_of_ble_eq_true rfl⟩ rfl rfl (Nat.le_of_ble_eq_true rfl) dX5_safe_13 rfl (fun hp_13 => ?_)
    refine r_goto C (tgt := 25) dX5_safe_16 (by decide) ?_
    obtain ⟨rfl, rfl⟩ := Prod.mk.inj (Option.some.inj h)
    exact hr _ _ dX5_safe_25

theorem m_X5_safe (G : Gm) (l : Launch) {σ σ' : St} {x0 : Nat} {x1 : Int32} (hx0 : kd x0 = 6) {r : Int32} (h : f_X5_safe σ x0 x1 = some (r, σ')) : Ctr G l yX5_safe cX5_safe 2 (some .int) 7 166 [.ref (G.1 x0), .int x1] σ (some (.int r)) True σ' := by
  refine Ctr.i (by decide) (Nat.le_of_ble_eq_true rfl) ?_
  intro X hG C hr
  subst hG
  exact w_X5_safe_b0 C hr _ _ _ hx0 h
-- X5_safest
set_option maxHeartbeats 4000000 in
set_option maxRecDepth 100000 in
theorem w_X5_safest_b41 {X : CX} (C : Cok X RX5 cX5_safest 5 7 166) {σ' : St} {r : Int32} (hr : RtI X cX5_safest r σ') (k_6 : St → Nat → Int32 → Int32 → Int32 → Option (Int32 × St)) (hk_6 : ∀ (σ : St) (x0 : Nat) (x1 : Int32) (x2 : Int32) (x3 : Int32), kd x0 = 6 → k_6 σ x0 x1 x2 x3 = some (r, σ') → V X σ 6 [(0, .ref ((xG X).1 x0)), (1, .int x1), (2, .int x2), (3, .int x3)] []) (σ : St) (x0 : Nat) (x1 : Int32) (x2 : Int32) (x3 : Int32) (hx0 : kd x0 = 6) (h : f_X5_safest_b41 k_6 σ x0 x1 x2 x3 = some (r, σ')) : V X σ 41 [(0, .ref ((xG X).1 x0)), (1, .int x1), (2, .int x2), (3, .int x3)] [] := by
  unfold f_X5_safest_b41 at h
  obtain ⟨y_41, e_41, h⟩ := bs h
  refine r_iinc C (v := y_41) (lv' := [(3, .int y_41), (0, .ref ((xG X).1 x0)), (1, .int x1), (2, .int x2)]) (q := 44) 3 dX5_safest_41 rfl (Option.some.inj e_41) (by decide) rfl rfl ?_
  refine r_goto C (tgt := 6) dX5_safest_44 (by decide) ?_
  refine r_sub (lv' := [(0, .ref ((xG X).1 x0)), (1, .int x1), (2, .int x2), (3, .int y_41)]) [1, 2, 3, 0] rfl ?_
  exact hk_6 _ _ _ _ _ hx0 h

set_option maxHeartbeats 4000000 in
set_option maxRecDepth 100000 in
theorem w_X5_safest_b6 {X : CX} (C : Cok X RX5 cX5_safest 5 7 166) {σ' : St} {r : Int32} (hr : RtI X cX5_safest r σ') (k_6 : St → Nat → Int32 → Int32 → Int32 → Option (Int32 × St)) (hk_6 : ∀ (σ : St) (x0 : Nat) (x1 : Int32) (x2 : Int32) (x3 : Int32), kd x0 = 6 → k_6 σ x0 x1 x2 x3 = some (r, σ') → V X σ 6 [(0, .ref ((xG X).1 x0)), (1, .int x1), (2, .int x2), (3, .int x3)] []) (σ : St) (x0 : Nat) (x1 : Int32) (x2 : Int32) (x3 : Int32) (hx0 : kd x0 = 6) (h : f_X5_safest_b6 k_6 σ x0 x1 x2 x3 = some (r, σ')) : V X σ 6 [(0, .ref ((xG X).1 x0)), (1, .int x1), (2, .int x2), (3, .int x3)] [] := by
  unfold f_X5_safest_b6 at h
  refine r_iload_n C 3 (q := 7) dX5_safest_6 rfl rfl ?_
  refine r_aload_n C 0 (q := 8) dX5_safest_7 rfl rfl ?_
  refine g_X5_0 C (q := 11) dX5_safest_8 q_203 hx0 rfl ?_
  refine g_X0_6 C (q := 14) dX5_safest_11 q_84 (kf_X5_0 hx0) rfl ?_
  refine r_icmp_ge C (tgt := 47) (q := 17) dX5_safest_14 (by decide) rfl (fun c_14 => ?_) (fun c_14 => ?_)
  · replace h := (if_pos c_14).symm.trans h
    refine r_iload_n C 1 (q := 48) dX5_safest_47 rfl rfl ?_
    obtain ⟨rfl, rfl⟩ := Prod.mk.inj (Option.some.inj h)
    exact hr _ _ dX5_safest_48
  · replace h := (if_neg c_14).symm.trans h
    refine r_aload_n C 0 (q := 18) dX5_safest_17 rfl rfl ?_
    refine g_X5_3 C (q := 21) dX5_safest_18 q_206 hx0 rfl ?_
    refine r_iload_n C 3 (q := 22) dX5_safest_21 rfl rfl ?_
    obtain ⟨v_22, s_22, e_22, h⟩ := bs2 h
    refine r_callV C (ci := 4) (st := []) (st2 := [.int v_22]) (q := 25) (m_X4_safeFrom (xG X) (xl X) (kf_X5_3 hx0) e_22) ok_X4_safeFrom (kf_X5_3 hx0) rfl ⟨_, rfl⟩ q_779 rfl ⟨Nat.le_of_ble_eq_true rfl, Nat.le_of_ble_eq_true rfl⟩ rfl rfl (Nat.le_of_ble_eq_true rfl) dX5_safest_22 rfl (fun hp_22 => ?_)
    obtain ⟨v_25, e_25, h⟩ := bs h
    refine r_callS C (st := []) (st2 := [.int v_25]) (q := 28) (m_J6_bitCount_0f7a4 (xG X) (xl X) e_25) ok_J6_bitCount_0f7a4 q_385 rfl ⟨Nat.le_of_ble_eq_true rfl, Nat.le_of_ble_eq_true rfl⟩ rfl rfl (Nat.le_of_ble_eq_true rfl) dX5_safest_25 rfl (fun hp_25 => ?_)
    refine r_istore C (lv' := [(4, .int v_25), (0, .ref ((xG X).1 x0)), (1, .int x1), (2, .int x2), (3, .int x3)]) (q := 30) dX5_safest_28 (by decide) rfl rfl ?_
    refine r_iload C 0 (q := 32) dX5_safest_30 rfl rfl ?_
    refine r_iload_n C 3 (q := 33) dX5_safest_32 rfl rfl ?_
    refine r_icmp_le C (tgt := 41) (q := 36) dX5_safest_33 (by decide) rfl (fun c_33 => ?_) (fun c_33 => ?_)
    · replace h := (if_pos c_33).symm.trans h
      refine r_sub (lv' := [(0, .ref ((xG X).1 x0)), (1, .int x1), (2, .int x2), (3, .int x3)]) [1, 2, 3, 4] rfl ?_
      exact w_X5_safest_b41 C hr _ hk_6 _ _ _ _ _ hx0 h
    · replace h := (if_neg c_33).symm.trans h
      refine r_iload C 0 (q := 38) dX5_safest_36 rfl rfl ?_
      refine r_istore_n C (lv' := [(2, .int v_25), (4, .int v_25), (0, .ref ((xG X).1 x0)), (1, .int x1), (3, .int x3)]) (q := 39) dX5_safest_38 rfl (by decide) rfl rfl ?_
      refine r_iload_n C 4 (q := 40) dX5_safest_39 rfl rfl ?_
      refine r_istore_n C (lv' := [(1, .int x3), (2, .int v_25), (4, .int v_25), (0, .ref ((xG X).1 x0)), (3, .int x3)]) (q := 41) dX5_safest_40 rfl (by decide) rfl rfl ?_
      refine r_sub (lv' := [(0, .ref ((xG X).1 x0)), (1, .int x3), (2, .int v_25), (3, .int x3)]) [3, 0, 1, 4] rfl ?_
      exact w_X5_safest_b41 C hr _ hk_6 _ _ _ _ _ hx0 h

theorem w_X5_safest_l6 {X : CX} (C : Cok X RX5 cX5_safest 5 7 166) {σ' : St} {r : Int32} (hr : RtI X cX5_safest r σ') (n : Nat) : ∀ (σ : St) (x0 : Nat) (x1 : Int32) (x2 : Int32) (x3 : Int32), kd x0 = 6 → f_X5_safest_l6 n σ x0 x1 x2 x3 = some (r, σ') → V X σ 6 [(0, .ref ((xG X).1 x0)), (1, .int x1), (2, .int x2), (3, .int x3)] [] := by
  induction n with
  | zero =>
    intro σ x0 x1 x2 x3 hx0 h
    exact nomatch (show (none : Option (Int32 × St)) = some (r, σ') from h)
  | succ n ih =>
    intro σ x0 x1 x2 x3 hx0 h
    exact w_X5_safest_b6 C hr _ ih σ x0 x1 x2 x3 hx0 h
set_option maxHeartbeats 4000000 in
set_option maxRecDepth 100000 in
theorem w_X5_safest_b0 {X : CX} (C : Cok X RX5 cX5_safest 5 7 166) {σ' : St} {r : Int32} (hr : RtI X cX5_safest r σ') (σ : St) (x0 : Nat) (hx0 : kd x0 = 6) (h : f_X5_safest σ x0 = some (r, σ')) : V X σ 0 [(0, .ref ((xG X).1 x0))] [] := by
  unfold f_X5_safest at h
  refine r_iconst C (v := (-1)) (q := 1) dX5_safest_0 (by decide) rfl ?_
  refine r_istore_n C (lv' := [(1, .int (-1)), (0, .ref ((xG X).1 x0))]) (q := 2) dX5_safest_1 rfl (by decide) rfl rfl ?_
  refine r_iconst C (v := (-1)) (q := 3) dX5_safest_2 (by decide) rfl ?_
  refine r_istore_n C (lv' := [(2, .int (-1)), (1, .int (-1)), (0, .ref ((xG X).1 x0))]) (q := 4) dX5_safest_3 rfl (by decide) rfl rfl ?_
  refine r_iconst C (v := 0) (q := 5) dX5_safest_4 (by decide) rfl ?_
  refine r_istore_n C (lv' := [(3, .int 0), (2, .int (-1)), (1, .int (-1)), (0, .ref ((xG X).1 x0))]) (q := 6) dX5_safest_5 rfl (by decide) rfl rfl ?_
  refine r_sub (lv' := [(0, .ref ((xG X).1 x0)), (1, .int (-1)), (2, .int (-1)), (3, .int 0)]) [3, 2, 1, 0] rfl ?_
  exact w_X5_safest_l6 C hr  FU _ _ _ _ _ hx0 h

theorem m_X5_safest (G : Gm) (l : Launch) {σ σ' : St} {x0 : Nat} (hx0 : kd x0 = 6) {r : Int32} (h : f_X5_safest σ x0 = some (r, σ')) : Ctr G l yX5_safest cX5_safest 5 (some .int) 7 166 [.ref (G.1 x0)] σ (some (.int r)) True σ' := by
  refine Ctr.i (by decide) (Nat.le_of_ble_eq_true rfl) ?_
  intro X hG C hr
  subst hG
  exact w_X5_safest_b0 C hr _ _ hx0 h
-- X5_mended
set_option maxHeartbeats 4000000 in
set_option maxRecDepth 100000 in
theorem w_X5_mended_b0 {X : CX} (C : Cok X RX5 cX5_mended 2 6 142) {σ' : St} {r : Int32} (hr : RtI X cX5_mended r σ') (σ : St) (x0 : Nat) (x1 : Int32) (hx0 : kd x0 = 6) (h : f_X5_mended σ x0 x1 = some (r, σ')) : V X σ 0 [(0, .ref ((xG X).1 x0)), (1, .int x1)] [] := by
  unfold f_X5_mended at h
  refine r_iload_n C 1 (q := 1) dX5_mended_0 rfl rfl ?_
  refine r_iconst C (v := 0) (q := 2) dX5_mended_1 (by decide) rfl ?_
  refine r_iconst C (v := 1) (q := 3) dX5_mended_2 (by decide) rfl ?_
  obtain ⟨v_3, e_3, h⟩ := bs h
  refine r_callS C (st := []) (st2 := [.int v_3]) (q := 6) (m_X5_isWithin (xG X) (xl X) e_3) ok_X5_isWithin q_239 rfl ⟨Nat.le_of_ble_eq_true rfl, Nat.le_of_ble_eq_true rfl⟩ rfl rfl (Nat.le_of_ble_eq_true rfl) dX5_mended_3 rfl (fun hp_3 => ?_)
  refine r_if_ne C (tgt := 16) (q := 9) dX5_mended_6 (by decide) rfl (fun c_6 => ?_) (fun c_6 => ?_)
  · replace h := (if_neg c_6).symm.trans h
    refine r_aload_n C 0 (q := 17) dX5_mended_16 rfl rfl ?_
    refine g_X5_3 C (q := 20) dX5_mended_17 q_206 hx0 rfl ?_
    obtain ⟨s_20, e_20, h⟩ := bs h
    refine r_callV C (ci := 4) (st := []) (st2 := []) (q := 23) (m_X4_planMending (xG X) (xl X) (kf_X5_3 hx0) e_20) ok_X4_planMending (kf_X5_3 hx0) rfl ⟨_, rfl⟩ q_792 rfl ⟨Nat.le_of_ble_eq_true rfl, Nat.le_of_ble_eq_true rfl⟩ rfl rfl (Nat.le_of_ble_eq_true rfl) dX5_mended_20 rfl (fun hp_20 => ?_)
    refine r_iload_n C 1 (q := 24) dX5_mended_23 rfl rfl ?_
    refine r_if_ne C (tgt := 37) (q := 27) dX5_mended_24 (by decide) rfl (fun c_24 => ?_) (fun c_24 => ?_)
    · replace h := (if_neg c_24).symm.trans h
      refine r_aload_n C 0 (q := 38) dX5_mended_37 rfl rfl ?_
      refine g_X5_3 C (q := 41) dX5_mended_38 q_206 hx0 rfl ?_
      obtain ⟨v_41, e_41, h⟩ := bs h
      refine r_callV C (ci := 4) (st := []) (st2 := [.int v_41]) (q := 44) (m_X4_pastMending (xG X) (xl X) (kf_X5_3 hx0) e_41) ok_X4_pastMending (kf_X5_3 hx0) rfl ⟨_, rfl⟩ q_810 rfl ⟨Nat.le_of_ble_eq_true rfl, Nat.le_of_ble_eq_true rfl⟩ rfl rfl (Nat.le_of_ble_eq_true rfl) dX5_mended_41 rfl (fun hp_41 => ?_)
      obtain ⟨rfl, rfl⟩ := Prod.mk.inj (Option.some.inj h)
      exact hr _ _ dX5_mended_44
    · replace h := (if_pos c_24).symm.trans h
      refine r_aload_n C 0 (q := 28) dX5_mended_27 rfl rfl ?_
      refine g_X5_3 C (q := 31) dX5_mended_28 q_206 hx0 rfl ?_
      obtain ⟨v_31, e_31, h⟩ := bs h
      refine r_callV C (ci := 4) (st := []) (st2 := [.int v_31]) (q := 34) (m_X4_mendingCoins (xG X) (xl X) (kf_X5_3 hx0) e_31) ok_X4_mendingCoins (kf_X5_3 hx0) rfl ⟨_, rfl⟩ q_806 rfl ⟨Nat.le_of_ble_eq_true rfl, Nat.le_of_ble_eq_true rfl⟩ rfl rfl (Nat.le_of_ble_eq_true rfl) dX5_mended_31 rfl (fun hp_31 => ?_)
      refine r_goto C (tgt := 44) dX5_mended_34 (by decide) ?_
      obtain ⟨rfl, rfl⟩ := Prod.mk.inj (Option.some.inj h)
      exact hr _ _ dX5_mended_44
  · replace h := (if_pos c_6).symm.trans h
    refine r_aload_n C 0 (q := 10) dX5_mended_9 rfl rfl ?_
    refine r_bipush C (v := (-2)) (q := 12) dX5_mended_10 (by decide) rfl ?_
    obtain ⟨v_12, s_12, e_12, h⟩ := bs2 h
    refine r_callV C (ci := 5) (st := []) (st2 := [.int v_12]) (q := 15) (m_X5_refuse (xG X) (xl X) hx0 e_12) ok_X5_refuse hx0 rfl ⟨_, rfl⟩ q_242 rfl ⟨Nat.le_of_ble_eq_true rfl, Nat.le_of_ble_eq_true rfl⟩ rfl rfl (Nat.le_of_ble_eq_true rfl) dX5_mended_12 rfl (fun hp_12 => ?_)
    obtain ⟨rfl, rfl⟩ := Prod.mk.inj (Option.some.inj h)
    exact hr _ _ dX5_mended_15

theorem m_X5_mended (G : Gm) (l : Launch) {σ σ' : St} {x0 : Nat} {x1 : Int32} (hx0 : kd x0 = 6) {r : Int32} (h : f_X5_mended σ x0 x1 = some (r, σ')) : Ctr G l yX5_mended cX5_mended 2 (some .int) 6 142 [.ref (G.1 x0), .int x1] σ (some (.int r)) True σ' := by
  refine Ctr.i (by decide) (Nat.le_of_ble_eq_true rfl) ?_
  intro X hG C hr
  subst hG
  exact w_X5_mended_b0 C hr _ _ _ hx0 h
-- X5_left
set_option maxHeartbeats 4000000 in
set_option maxRecDepth 100000 in
theorem w_X5_left_b0 {X : CX} (C : Cok X RX5 cX5_left 3 2 44) {σ' : St} {r : Int32} (hr : RtI X cX5_left r σ') (σ : St) (x0 : Nat) (x1 : Int32) (hx0 : kd x0 = 6) (h : f_X5_left σ x0 x1 = some (r, σ')) : V X σ 0 [(0, .ref ((xG X).1 x0)), (1, .int x1)] [] := by
  unfold f_X5_left at h
  refine r_aload_n C 0 (q := 1) dX5_left_0 rfl rfl ?_
  refine r_iload_n C 1 (q := 2) dX5_left_1 rfl rfl ?_
  obtain ⟨v_2, e_2, h⟩ := bs h
  refine r_callV C (ci := 5) (st := []) (st2 := [.int v_2]) (q := 5) (m_X5_isKey (xG X) (xl X) hx0 e_2) ok_X5_isKey hx0 rfl ⟨_, rfl⟩ q_321 rfl ⟨Nat.le_of_ble_eq_true rfl, Nat.le_of_ble_eq_true rfl⟩ rfl rfl (Nat.le_of_ble_eq_true rfl) dX5_left_2 rfl (fun hp_2 => ?_)
  refine r_if_ne C (tgt := 15) (q := 8) dX5_left_5 (by decide) rfl (fun c_5 => ?_) (fun c_5 => ?_)
  · replace h := (if_neg c_5).symm.trans h
    refine r_aload_n C 0 (q := 16) dX5_left_15 rfl rfl ?_
    refine g_X5_0 C (q := 19) dX5_left_16 q_203 hx0 rfl ?_
    refine r_iload_n C 1 (q := 20) dX5_left_19 rfl rfl ?_
    obtain ⟨v_20, e_20, h⟩ := bs h
    refine r_callV C (ci := 0) (st := []) (st2 := [.ref ((xG X).1 v_20)]) (q := 23) (m_X0_keyAt (xG X) (xl X) (kf_X5_0 hx0) e_20) ok_X0_keyAt (kf_X5_0 hx0) rfl ⟨_, rfl⟩ q_329 rfl ⟨Nat.le_of_ble_eq_true rfl, Nat.le_of_ble_eq_true rfl⟩ rfl rfl (Nat.le_of_ble_eq_true rfl) dX5_left_20 rfl (fun hp_20 => ?_)
    refine r_astore_n C (lv' := [(2, .ref ((xG X).1 v_20)), (0, .ref ((xG X).1 x0)), (1, .int x1)]) (q := 24) dX5_left_23 rfl (by decide) rfl rfl ?_
    refine r_iconst C (v := 0) (q := 25) dX5_left_24 (by decide) rfl ?_
    refine r_aload_n C 1 (q := 26) dX5_left_25 rfl rfl ?_
    refine g_X5_0 C (q := 29) dX5_left_26 q_203 hx0 rfl ?_
    refine r_aload_n C 0 (q := 30) dX5_left_29 rfl rfl ?_
    obtain ⟨v_30, e_30, h⟩ := bs h
    refine r_callV C (ci := 0) (st := [.int 0]) (st2 := [.int v_30, .int 0]) (q := 33) (m_X0_bears (xG X) (xl X) (kf_X5_0 hx0) hp_20 e_30) ok_X0_bears (kf_X5_0 hx0) rfl ⟨_, rfl⟩ q_396 rfl ⟨Nat.le_of_ble_eq_true rfl, Nat.le_of_ble_eq_true rfl⟩ rfl rfl (Nat.le_of_ble_eq_true rfl) dX5_left_30 rfl (fun hp_30 => ?_)
    refine r_aload_n C 1 (q := 34) dX5_left_33 rfl rfl ?_
    refine g_X5_0 C (q := 37) dX5_left_34 q_203 hx0 rfl ?_
    refine r_aload_n C 0 (q := 38) dX5_left_37 rfl rfl ?_
    refine g_X1_3 C (q := 41) dX5_left_38 q_50 hp_20 rfl ?_
    obtain ⟨v_41, e_41, h⟩ := bs h
    refine r_callV C (ci := 0) (st := [.int v_30, .int 0]) (st2 := [.int v_41, .int v_30, .int 0]) (q := 44) (m_X0_sum (xG X) (xl X) (kf_X5_0 hx0) (kf_X1_3 hp_20) e_41) ok_X0_sum (kf_X5_0 hx0) rfl ⟨_, rfl⟩ q_341 rfl ⟨Nat.le_of_ble_eq_true rfl, Nat.le_of_ble_eq_true rfl⟩ rfl rfl (Nat.le_of_ble_eq_true rfl) dX5_left_41 rfl (fun hp_41 => ?_)
    refine r_isub C (q := 45) dX5_left_44 rfl ?_
    refine r_max C (st := []) (q := 48) dX5_left_45 q_818 ok_max ⟨Nat.le_of_ble_eq_true rfl, Nat.le_of_ble_eq_true rfl⟩ rfl ?_
    obtain ⟨rfl, rfl⟩ := Prod.mk.inj (Option.some.inj h)
    exact hr _ _ dX5_left_48
  · replace h := (if_pos c_5).symm.trans h
    refine r_aload_n C 0 (q := 9) dX5_left_8 rfl rfl ?_
    refine r_bipush C (v := (-2)) (q := 11) dX5_left_9 (by decide) rfl ?_
    obtain ⟨v_11, s_11, e_11, h⟩ := bs2 h
    refine r_callV C (ci := 5) (st := []) (st2 := [.int v_11]) (q := 14) (m_X5_refuse (xG X) (xl X) hx0 e_11) ok_X5_refuse hx0 rfl ⟨_, rfl⟩ q_242 rfl ⟨Nat.le_of_ble_eq_true rfl, Nat.le_of_ble_eq_true rfl⟩ rfl rfl (Nat.le_of_ble_eq_true rfl) dX5_left_11 rfl (fun hp_11 => ?_)
    obtain ⟨rfl, rfl⟩ := Prod.mk.inj (Option.some.inj h)
    exact hr _ _ dX5_left_14

theorem m_X5_left (G : Gm) (l : Launch) {σ σ' : St} {x0 : Nat} {x1 : Int32} (hx0 : kd x0 = 6) {r : Int32} (h : f_X5_left σ x0 x1 = some (r, σ')) : Ctr G l yX5_left cX5_left 3 (some .int) 2 44 [.ref (G.1 x0), .int x1] σ (some (.int r)) True σ' := by
  refine Ctr.i (by decide) (Nat.le_of_ble_eq_true rfl) ?_
  intro X hG C hr
  subst hG
  exact w_X5_left_b0 C hr _ _ _ hx0 h
-- X5_idle
set_option maxHeartbeats 4000000 in
set_option maxRecDepth 100000 in
theorem w_X5_idle_b0 {X : CX} (C : Cok X RX5 cX5_idle 2 2 44) {σ' : St} {r : Int32} (hr : RtI X cX5_idle r σ') (σ : St) (x0 : Nat) (x1 : Int32) (hx0 : kd x0 = 6) (h : f_X5_idle σ x0 x1 = some (r, σ')) : V X σ 0 [(0, .ref ((xG X).1 x0)), (1, .int x1)] [] := by
  unfold f_X5_idle at h
  refine r_aload_n C 0 (q := 1) dX5_idle_0 rfl rfl ?_
  refine r_iload_n C 1 (q := 2) dX5_idle_1 rfl rfl ?_
  obtain ⟨v_2, e_2, h⟩ := bs h
  refine r_callV C (ci := 5) (st := []) (st2 := [.int v_2]) (q := 5) (m_X5_isPlace (xG X) (xl X) hx0 e_2) ok_X5_isPlace hx0 rfl ⟨_, rfl⟩ q_457 rfl ⟨Nat.le_of_ble_eq_true rfl, Nat.le_of_ble_eq_true rfl⟩ rfl rfl (Nat.le_of_ble_eq_true rfl) dX5_idle_2 rfl (fun hp_2 => ?_)
  refine r_if_ne C (tgt := 15) (q := 8) dX5_idle_5 (by decide) rfl (fun c_5 => ?_) (fun c_5 => ?_)
  · replace h := (if_neg c_5).symm.trans h
    refine r_aload_n C 0 (q := 16) dX5_idle_15 rfl rfl ?_
    refine g_X5_0 C (q := 19) dX5_idle_16 q_203 hx0 rfl ?_
    refine r_iload_n C 1 (q := 20) dX5_idle_19 rfl rfl ?_
    refine r_iconst C (v := 0) (q := 21) dX5_idle_20 (by decide) rfl ?_
    obtain ⟨v_21, e_21, h⟩ := bs h
    refine r_callV C (ci := 0) (st := []) (st2 := [.int v_21]) (q := 24) (m_X0_locksWithin (xG X) (xl X) (kf_X5_0 hx0) e_21) ok_X0_locksWithin (kf_X5_0 hx0) rfl ⟨_, rfl⟩ q_823 rfl ⟨Nat.le_of_ble_eq_true rfl, Nat.le_of_ble_eq_true rfl⟩ rfl rfl (Nat.le_of_ble_eq_true rfl) dX5_idle_21 rfl (fun hp_21 => ?_)
    obtain ⟨v_24, e_24, h⟩ := bs h
    refine r_callS C (st := []) (st2 := [.int v_24]) (q := 27) (m_J6_bitCount_0f7a4 (xG X) (xl X) e_24) ok_J6_bitCount_0f7a4 q_385 rfl ⟨Nat.le_of_ble_eq_true rfl, Nat.le_of_ble_eq_true rfl⟩ rfl rfl (Nat.le_of_ble_eq_true rfl) dX5_idle_24 rfl (fun hp_24 => ?_)
    obtain ⟨rfl, rfl⟩ := Prod.mk.inj (Option.some.inj h)
    exact hr _ _ dX5_idle_27
  · replace h := (if_pos c_5).symm.trans h
    refine r_aload_n C 0 (q := 9) dX5_idle_8 rfl rfl ?_
    refine r_bipush C (v := (-2)) (q := 11) dX5_idle_9 (by decide) rfl ?_
    obtain ⟨v_11, s_11, e_11, h⟩ := bs2 h
    refine r_callV C (ci := 5) (st := []) (st2 := [.int v_11]) (q := 14) (m_X5_refuse (xG X) (xl X) hx0 e_11) ok_X5_refuse hx0 rfl ⟨_, rfl⟩ q_242 rfl ⟨Nat.le_of_ble_eq_true rfl, Nat.le_of_ble_eq_true rfl⟩ rfl rfl (Nat.le_of_ble_eq_true rfl) dX5_idle_11 rfl (fun hp_11 => ?_)
    obtain ⟨rfl, rfl⟩ := Prod.mk.inj (Option.some.inj h)
    exact hr _ _ dX5_idle_14

theorem m_X5_idle (G : Gm) (l : Launch) {σ σ' : St} {x0 : Nat} {x1 : Int32} (hx0 : kd x0 = 6) {r : Int32} (h : f_X5_idle σ x0 x1 = some (r, σ')) : Ctr G l yX5_idle cX5_idle 2 (some .int) 2 44 [.ref (G.1 x0), .int x1] σ (some (.int r)) True σ' := by
  refine Ctr.i (by decide) (Nat.le_of_ble_eq_true rfl) ?_
  intro X hG C hr
  subst hG
  exact w_X5_idle_b0 C hr _ _ _ hx0 h
-- X5_together
set_option maxHeartbeats 4000000 in
set_option maxRecDepth 100000 in
theorem w_X5_together_b21 {X : CX} (C : Cok X RX5 cX5_together 3 4 95) {σ' : St} {r : Int32} (hr : RtI X cX5_together r σ') (σ : St) (x0 : Nat) (hx0 : kd x0 = 6) (h : f_X5_together_b21 σ x0 = some (r, σ')) : V X σ 21 [(0, .ref ((xG X).1 x0))] [] := by
  unfold f_X5_together_b21 at h
  refine r_aload_n C 0 (q := 22) dX5_together_21 rfl rfl ?_
  refine r_bipush C (v := (-2)) (q := 24) dX5_together_22 (by decide) rfl ?_
  obtain ⟨v_24, s_24, e_24, h⟩ := bs2 h
  refine r_callV C (ci := 5) (st := []) (st2 := [.int v_24]) (q := 27) (m_X5_refuse (xG X) (xl X) hx0 e_24) ok_X5_refuse hx0 rfl ⟨_, rfl⟩ q_242 rfl ⟨Nat.le_of_ble_eq_true rfl, Nat.le_of_ble_eq_true rfl⟩ rfl rfl (Nat.le_of_ble_eq_true rfl) dX5_together_24 rfl (fun hp_24 => ?_)
  obtain ⟨rfl, rfl⟩ := Prod.mk.inj (Option.some.inj h)
  exact hr _ _ dX5_together_27

set_option maxHeartbeats 4000000 in
set_option maxRecDepth 100000 in
theorem w_X5_together_b0 {X : CX} (C : Cok X RX5 cX5_together 3 4 95) {σ' : St} {r : Int32} (hr : RtI X cX5_together r σ') (σ : St) (x0 : Nat) (x1 : Int32) (x2 : Int32) (hx0 : kd x0 = 6) (h : f_X5_together σ x0 x1 x2 = some (r, σ')) : V X σ 0 [(0, .ref ((xG X).1 x0)), (1, .int x1), (2, .int x2)] [] := by
  unfold f_X5_together at h
  refine r_aload_n C 0 (q := 1) dX5_together_0 rfl rfl ?_
  refine r_iload_n C 1 (q := 2) dX5_together_1 rfl rfl ?_
  obtain ⟨v_2, e_2, h⟩ := bs h
  refine r_callV C (ci := 5) (st := []) (st2 := [.int v_2]) (q := 5) (m_X5_isKey (xG X) (xl X) hx0 e_2) ok_X5_isKey hx0 rfl ⟨_, rfl⟩ q_321 rfl ⟨Nat.le_of_ble_eq_true rfl, Nat.le_of_ble_eq_true rfl⟩ rfl rfl (Nat.le_of_ble_eq_true rfl) dX5_together_2 rfl (fun hp_2 => ?_)
  refine r_if_eq C (tgt := 21) (q := 8) dX5_together_5 (by decide) rfl (fun c_5 => ?_) (fun c_5 => ?_)
  · replace h := (if_pos c_5).symm.trans h
    refine r_sub (lv' := [(0, .ref ((xG X).1 x0))]) [0] rfl ?_
    exact w_X5_together_b21 C hr  _ _ hx0 h
  · replace h := (if_neg c_5).symm.trans h
    refine r_aload_n C 0 (q := 9) dX5_together_8 rfl rfl ?_
    refine r_iload_n C 2 (q := 10) dX5_together_9 rfl rfl ?_
    obtain ⟨v_10, e_10, h⟩ := bs h
    refine r_callV C (ci := 5) (st := []) (st2 := [.int v_10]) (q := 13) (m_X5_isKey (xG X) (xl X) hx0 e_10) ok_X5_isKey hx0 rfl ⟨_, rfl⟩ q_321 rfl ⟨Nat.le_of_ble_eq_true rfl, Nat.le_of_ble_eq_true rfl⟩ rfl rfl (Nat.le_of_ble_eq_true rfl) dX5_together_10 rfl (fun hp_10 => ?_)
    refine r_if_eq C (tgt := 21) (q := 16) dX5_together_13 (by decide) rfl (fun c_13 => ?_) (fun c_13 => ?_)
    · replace h := (if_pos c_13).symm.trans h
      refine r_sub (lv' := [(0, .ref ((xG X).1 x0))]) [0] rfl ?_
      exact w_X5_together_b21 C hr  _ _ hx0 h
    · replace h := (if_neg c_13).symm.trans h
      refine r_iload_n C 1 (q := 17) dX5_together_16 rfl rfl ?_
      refine r_iload_n C 2 (q := 18) dX5_together_17 rfl rfl ?_
      refine r_icmp_ne C (tgt := 28) (q := 21) dX5_together_18 (by decide) rfl (fun c_18 => ?_) (fun c_18 => ?_)
      · replace h := (if_neg c_18).symm.trans h
        refine r_aload_n C 0 (q := 29) dX5_together_28 rfl rfl ?_
        refine g_X5_3 C (q := 32) dX5_together_29 q_206 hx0 rfl ?_
        refine r_iload_n C 1 (q := 33) dX5_together_32 rfl rfl ?_
        refine r_iload_n C 2 (q := 34) dX5_together_33 rfl rfl ?_
        obtain ⟨v_34, s_34, e_34, h⟩ := bs2 h
        refine r_callV C (ci := 4) (st := []) (st2 := [.int v_34]) (q := 37) (m_X4_openedTogether (xG X) (xl X) (kf_X5_3 hx0) e_34) ok_X4_openedTogether (kf_X5_3 hx0) rfl ⟨_, rfl⟩ q_828 rfl ⟨Nat.le_of_ble_eq_true rfl, Nat.le_of_ble_eq_true rfl⟩ rfl rfl (Nat.le_of_ble_eq_true rfl) dX5_together_34 rfl (fun hp_34 => ?_)
        obtain ⟨rfl, rfl⟩ := Prod.mk.inj (Option.some.inj h)
        exact hr _ _ dX5_together_37
      · replace h := (if_pos c_18).symm.trans h
        refine r_sub (lv' := [(0, .ref ((xG X).1 x0))]) [0] rfl ?_
        exact w_X5_together_b21 C hr  _ _ hx0 h

theorem m_X5_together (G : Gm) (l : Launch) {σ σ' : St} {x0 : Nat} {x1 : Int32} {x2 : Int32} (hx0 : kd x0 = 6) {r : Int32} (h : f_X5_together σ x0 x1 x2 = some (r, σ')) : Ctr G l yX5_together cX5_together 3 (some .int) 4 95 [.ref (G.1 x0), .int x1, .int x2] σ (some (.int r)) True σ' := by
  refine Ctr.i (by decide) (Nat.le_of_ble_eq_true rfl) ?_
  intro X hG C hr
  subst hG
  exact w_X5_together_b0 C hr _ _ _ _ hx0 h
-- X5_pair
set_option maxHeartbeats 4000000 in
set_option maxRecDepth 100000 in
theorem w_X5_pair_b0 {X : CX} (C : Cok X RX5 cX5_pair 1 5 120) {σ' : St} {r : Int32} (hr : RtI X cX5_pair r σ') (σ : St) (x0 : Nat) (hx0 : kd x0 = 6) (h : f_X5_pair σ x0 = some (r, σ')) : V X σ 0 [(0, .ref ((xG X).1 x0))] [] := by
  unfold f_X5_pair at h
  refine r_aload_n C 0 (q := 1) dX5_pair_0 rfl rfl ?_
  refine g_X5_0 C (q := 4) dX5_pair_1 q_203 hx0 rfl ?_
  refine g_X0_5 C (q := 7) dX5_pair_4 q_80 (kf_X5_0 hx0) rfl ?_
  refine r_iconst C (v := 2) (q := 8) dX5_pair_7 (by decide) rfl ?_
  refine r_icmp_ge C (tgt := 20) (q := 11) dX5_pair_8 (by decide) rfl (fun c_8 => ?_) (fun c_8 => ?_)
  · replace h := (if_pos c_8).symm.trans h
    refine r_aload_n C 0 (q := 21) dX5_pair_20 rfl rfl ?_
    refine g_X5_3 C (q := 24) dX5_pair_21 q_206 hx0 rfl ?_
    obtain ⟨v_24, s_24, e_24, h⟩ := bs2 h
    refine r_callV C (ci := 4) (st := []) (st2 := [.int v_24]) (q := 27) (m_X4_bestPair (xG X) (xl X) (kf_X5_3 hx0) e_24) ok_X4_bestPair (kf_X5_3 hx0) rfl ⟨_, rfl⟩ q_836 rfl ⟨Nat.le_of_ble_eq_true rfl, Nat.le_of_ble_eq_true rfl⟩ rfl rfl (Nat.le_of_ble_eq_true rfl) dX5_pair_24 rfl (fun hp_24 => ?_)
    obtain ⟨rfl, rfl⟩ := Prod.mk.inj (Option.some.inj h)
    exact hr _ _ dX5_pair_27
  · replace h := (if_neg c_8).symm.trans h
    refine r_aload_n C 0 (q := 12) dX5_pair_11 rfl rfl ?_
    refine r_bipush C (v := (-5)) (q := 14) dX5_pair_12 (by decide) rfl ?_
    obtain ⟨v_14, s_14, e_14, h⟩ := bs2 h
    refine r_callV C (ci := 5) (st := []) (st2 := [.int v_14]) (q := 17) (m_X5_refuse (xG X) (xl X) hx0 e_14) ok_X5_refuse hx0 rfl ⟨_, rfl⟩ q_242 rfl ⟨Nat.le_of_ble_eq_true rfl, Nat.le_of_ble_eq_true rfl⟩ rfl rfl (Nat.le_of_ble_eq_true rfl) dX5_pair_14 rfl (fun hp_14 => ?_)
    refine r_goto C (tgt := 27) dX5_pair_17 (by decide) ?_
    obtain ⟨rfl, rfl⟩ := Prod.mk.inj (Option.some.inj h)
    exact hr _ _ dX5_pair_27

theorem m_X5_pair (G : Gm) (l : Launch) {σ σ' : St} {x0 : Nat} (hx0 : kd x0 = 6) {r : Int32} (h : f_X5_pair σ x0 = some (r, σ')) : Ctr G l yX5_pair cX5_pair 1 (some .int) 5 120 [.ref (G.1 x0)] σ (some (.int r)) True σ' := by
  refine Ctr.i (by decide) (Nat.le_of_ble_eq_true rfl) ?_
  intro X hG C hr
  subst hG
  exact w_X5_pair_b0 C hr _ _ hx0 h
-- X5_unlike
set_option maxHeartbeats 4000000 in
set_option maxRecDepth 100000 in
theorem w_X5_unlike_b0 {X : CX} (C : Cok X RX5 cX5_unlike 1 3 67) {σ' : St} {r : Int32} (hr : RtI X cX5_unlike r σ') (σ : St) (x0 : Nat) (hx0 : kd x0 = 6) (h : f_X5_unlike σ x0 = some (r, σ')) : V X σ 0 [(0, .ref ((xG X).1 x0))] [] := by
  unfold f_X5_unlike at h
  refine r_aload_n C 0 (q := 1) dX5_unlike_0 rfl rfl ?_
  refine g_X5_3 C (q := 4) dX5_unlike_1 q_206 hx0 rfl ?_
  obtain ⟨v_4, s_4, e_4, h⟩ := bs2 h
  refine r_callV C (ci := 4) (st := []) (st2 := [.int v_4]) (q := 7) (m_X4_rowsOfHalf (xG X) (xl X) (kf_X5_3 hx0) e_4) ok_X4_rowsOfHalf (kf_X5_3 hx0) rfl ⟨_, rfl⟩ q_846 rfl ⟨Nat.le_of_ble_eq_true rfl, Nat.le_of_ble_eq_true rfl⟩ rfl rfl (Nat.le_of_ble_eq_true rfl) dX5_unlike_4 rfl (fun hp_4 => ?_)
  obtain ⟨rfl, rfl⟩ := Prod.mk.inj (Option.some.inj h)
  exact hr _ _ dX5_unlike_7

theorem m_X5_unlike (G : Gm) (l : Launch) {σ σ' : St} {x0 : Nat} (hx0 : kd x0 = 6) {r : Int32} (h : f_X5_unlike σ x0 = some (r, σ')) : Ctr G l yX5_unlike cX5_unlike 1 (some .int) 3 67 [.ref (G.1 x0)] σ (some (.int r)) True σ' := by
  refine Ctr.i (by decide) (Nat.le_of_ble_eq_true rfl) ?_
  intro X hG C hr
  subst hG
  exact w_X5_unlike_b0 C hr _ _ hx0 h
-- X5_alike
set_option maxHeartbeats 4000000 in
set_option maxRecDepth 100000 in
theorem w_X5_alike_b50 {X : CX} (C : Cok X RX5 cX5_alike 3 3 66) {σ : St} {r : Int32} (hr : RtI X cX5_alike r σ) (k_15 : Nat → Int32 → Int32 → Option Int32) (hk_15 : ∀ (x0 : Nat) (x1 : Int32) (x2 : Int32), kd x0 = 6 → k_15 x0 x1 x2 = some r → V X σ 15 [(0, .ref ((xG X).1 x0)), (1, .int x1), (2, .int x2)] []) (x0 : Nat) (x1 : Int32) (x2 : Int32) (hx0 : kd x0 = 6) (h : f_X5_alike_b50 σ k_15 x0 x1 x2 = some r) : V X σ 50 [(0, .ref ((xG X).1 x0)), (1, .int x1), (2, .int x2)] [] := by
  unfold f_X5_alike_b50 at h
  obtain ⟨y_50, e_50, h⟩ := bs h
  refine r_iinc C (v := y_50) (lv' := [(2, .int y_50), (0, .ref ((xG X).1 x0)), (1, .int x1)]) (q := 53) 2 dX5_alike_50 rfl (Option.some.inj e_50) (by decide) rfl rfl ?_
  refine r_goto C (tgt := 15) dX5_alike_53 (by decide) ?_
  refine r_sub (lv' := [(0, .ref ((xG X).1 x0)), (1, .int x1), (2, .int y_50)]) [1, 2, 0] rfl ?_
  exact hk_15 _ _ _ hx0 h

set_option maxHeartbeats 4000000 in
set_option maxRecDepth 100000 in
theorem w_X5_alike_b15 {X : CX} (C : Cok X RX5 cX5_alike 3 3 66) {σ : St} {r : Int32} (hr : RtI X cX5_alike r σ) (k_2 : Nat → Int32 → Option Int32) (hk_2 : ∀ (x0 : Nat) (x1 : Int32), kd x0 = 6 → k_2 x0 x1 = some r → V X σ 2 [(0, .ref ((xG X).1 x0)), (1, .int x1)] []) (k_15 : Nat → Int32 → Int32 → Option Int32) (hk_15 : ∀ (x0 : Nat) (x1 : Int32) (x2 : Int32), kd x0 = 6 → k_15 x0 x1 x2 = some r → V X σ 15 [(0, .ref ((xG X).1 x0)), (1, .int x1), (2, .int x2)] []) (x0 : Nat) (x1 : Int32) (x2 : Int32) (hx0 : kd x0 = 6) (h : f_X5_alike_b15 σ k_2 k_15 x0 x1 x2 = some r) : V X σ 15 [(0, .ref ((xG X).1 x0)), (1, .int x1), (2, .int x2)] [] := by
  unfold f_X5_alike_b15 at h
  refine r_iload_n C 2 (q := 16) dX5_alike_15 rfl rfl ?_
  refine r_aload_n C 0 (q := 17) dX5_alike_16 rfl rfl ?_
  refine g_X5_0 C (q := 20) dX5_alike_17 q_203 hx0 rfl ?_
  refine g_X0_6 C (q := 23) dX5_alike_20 q_84 (kf_X5_0 hx0) rfl ?_
  refine r_icmp_ge C (tgt := 56) (q := 26) dX5_alike_23 (by decide) rfl (fun c_23 => ?_) (fun c_23 => ?_)
  · replace h := (if_pos c_23).symm.trans h
    obtain ⟨y_56, e_56, h⟩ := bs h
    refine r_iinc C (v := y_56) (lv' := [(1, .int y_56), (0, .ref ((xG X).1 x0)), (2, .int x2)]) (q := 59) 1 dX5_alike_56 rfl (Option.some.inj e_56) (by decide) rfl rfl ?_
    refine r_goto C (tgt := 2) dX5_alike_59 (by decide) ?_
    refine r_sub (lv' := [(0, .ref ((xG X).1 x0)), (1, .int y_56)]) [1, 0] rfl ?_
    exact hk_2 _ _ hx0 h
  · replace h := (if_neg c_23).symm.trans h
    refine r_iload_n C 1 (q := 27) dX5_alike_26 rfl rfl ?_
    refine r_iload_n C 2 (q := 28) dX5_alike_27 rfl rfl ?_
    refine r_icmp_eq C (tgt := 50) (q := 31) dX5_alike_28 (by decide) rfl (fun c_28 => ?_) (fun c_28 => ?_)
    · replace h := (if_pos c_28).symm.trans h
      exact w_X5_alike_b50 C hr _ hk_15 _ _ _ hx0 h
    · replace h := (if_neg c_28).symm.trans h
      refine r_aload_n C 0 (q := 32) dX5_alike_31 rfl rfl ?_
      refine g_X5_0 C (q := 35) dX5_alike_32 q_203 hx0 rfl ?_
      refine r_iload_n C 1 (q := 36) dX5_alike_35 rfl rfl ?_
      refine r_iload_n C 2 (q := 37) dX5_alike_36 rfl rfl ?_
      obtain ⟨v_37, e_37, h⟩ := bs h
      refine r_callV C (ci := 0) (st := []) (st2 := [.int v_37]) (q := 40) (m_X0_asksAsMuch (xG X) (xl X) (kf_X5_0 hx0) e_37) ok_X0_asksAsMuch (kf_X5_0 hx0) rfl ⟨_, rfl⟩ q_858 rfl ⟨Nat.le_of_ble_eq_true rfl, Nat.le_of_ble_eq_true rfl⟩ rfl rfl (Nat.le_of_ble_eq_true rfl) dX5_alike_37 rfl (fun hp_37 => ?_)
      refine r_if_eq C (tgt := 50) (q := 43) dX5_alike_40 (by decide) rfl (fun c_40 => ?_) (fun c_40 => ?_)
      · replace h := (if_pos c_40).symm.trans h
        exact w_X5_alike_b50 C hr _ hk_15 _ _ _ hx0 h
      · replace h := (if_neg c_40).symm.trans h
        refine r_bipush C (v := 10) (q := 45) dX5_alike_43 (by decide) rfl ?_
        refine r_iload_n C 1 (q := 46) dX5_alike_45 rfl rfl ?_
        refine r_imul C (q := 47) dX5_alike_46 rfl ?_
        refine r_iload_n C 2 (q := 48) dX5_alike_47 rfl rfl ?_
        refine r_iadd C (q := 49) dX5_alike_48 rfl ?_
        obtain rfl := Option.some.inj h
        exact hr _ _ dX5_alike_49

theorem w_X5_alike_l15 {X : CX} (C : Cok X RX5 cX5_alike 3 3 66) {σ : St} {r : Int32} (hr : RtI X cX5_alike r σ) (k_2 : Nat → Int32 → Option Int32) (hk_2 : ∀ (x0 : Nat) (x1 : Int32), kd x0 = 6 → k_2 x0 x1 = some r → V X σ 2 [(0, .ref ((xG X).1 x0)), (1, .int x1)] []) (n : Nat) : ∀ (x0 : Nat) (x1 : Int32) (x2 : Int32), kd x0 = 6 → f_X5_alike_l15 σ k_2 n x0 x1 x2 = some r → V X σ 15 [(0, .ref ((xG X).1 x0)), (1, .int x1), (2, .int x2)] [] := by
  induction n with
  | zero =>
    intro x0 x1 x2 hx0 h
    exact nomatch (show (none : Option Int32) = some r from h)
  | succ n ih =>
    intro x0 x1 x2 hx0 h
    exact w_X5_alike_b15 C hr k_2 hk_2 _ ih x0 x1 x2 hx0 h
set_option maxHeartbeats 4000000 in
set_option maxRecDepth 100000 in
theorem w_X5_alike_b2 {X : CX} (C : Cok X RX5 cX5_alike 3 3 66) {σ : St} {r : Int32} (hr : RtI X cX5_alike r σ) (k_2 : Nat → Int32 → Option Int32) (hk_2 : ∀ (x0 : Nat) (x1 : Int32), kd x0 = 6 → k_2 x0 x1 = some r → V X σ 2 [(0, .ref ((xG X).1 x0)), (1, .int x1)] []) (x0 : Nat) (x1 : Int32) (hx0 : kd x0 = 6) (h : f_X5_alike_b2 σ k_2 x0 x1 = some r) : V X σ 2 [(0, .ref ((xG X).1 x0)), (1, .int x1)] [] := by
  unfold f_X5_alike_b2 at h
  refine r_iload_n C 1 (q := 3) dX5_alike_2 rfl rfl ?_
  refine r_aload_n C 0 (q := 4) dX5_alike_3 rfl rfl ?_
  refine g_X5_0 C (q := 7) dX5_alike_4 q_203 hx0 rfl ?_
  refine g_X0_6 C (q := 10) dX5_alike_7 q_84 (kf_X5_0 hx0) rfl ?_
  refine r_icmp_ge C (tgt := 62) (q := 13) dX5_alike_10 (by decide) rfl (fun c_10 => ?_) (fun c_10 => ?_)
  · replace h := (if_pos c_10).symm.trans h
    refine r_iconst C (v := (-1)) (q := 63) dX5_alike_62 (by decide) rfl ?_
    obtain rfl := Option.some.inj h
    exact hr _ _ dX5_alike_63
  · replace h := (if_neg c_10).symm.trans h
    refine r_iconst C (v := 0) (q := 14) dX5_alike_13 (by decide) rfl ?_
    refine r_istore_n C (lv' := [(2, .int 0), (0, .ref ((xG X).1 x0)), (1, .int x1)]) (q := 15) dX5_alike_14 rfl (by decide) rfl rfl ?_
    refine r_sub (lv' := [(0, .ref ((xG X).1 x0)), (1, .int x1), (2, .int 0)]) [1, 2, 0] rfl ?_
    exact w_X5_alike_l15 C hr _ hk_2 FU _ _ _ hx0 h

theorem w_X5_alike_l2 {X : CX} (C : Cok X RX5 cX5_alike 3 3 66) {σ : St} {r : Int32} (hr : RtI X cX5_alike r σ) (n : Nat) : ∀ (x0 : Nat) (x1 : Int32), kd x0 = 6 → f_X5_alike_l2 σ n x0 x1 = some r → V X σ 2 [(0, .ref ((xG X).1 x0)), (1, .int x1)] [] := by
  induction n with
  | zero =>
    intro x0 x1 hx0 h
    exact nomatch (show (none : Option Int32) = some r from h)
  | succ n ih =>
    intro x0 x1 hx0 h
    exact w_X5_alike_b2 C hr _ ih x0 x1 hx0 h
set_option maxHeartbeats 4000000 in
set_option maxRecDepth 100000 in
theorem w_X5_alike_b0 {X : CX} (C : Cok X RX5 cX5_alike 3 3 66) {σ : St} {r : Int32} (hr : RtI X cX5_alike r σ) (x0 : Nat) (hx0 : kd x0 = 6) (h : f_X5_alike σ x0 = some r) : V X σ 0 [(0, .ref ((xG X).1 x0))] [] := by
  unfold f_X5_alike at h
  refine r_iconst C (v := 0) (q := 1) dX5_alike_0 (by decide) rfl ?_
  refine r_istore_n C (lv' := [(1, .int 0), (0, .ref ((xG X).1 x0))]) (q := 2) dX5_alike_1 rfl (by decide) rfl rfl ?_
  refine r_sub (lv' := [(0, .ref ((xG X).1 x0)), (1, .int 0)]) [1, 0] rfl ?_
  exact w_X5_alike_l2 C hr  FU _ _ hx0 h

theorem m_X5_alike (G : Gm) (l : Launch) {σ : St} {x0 : Nat} (hx0 : kd x0 = 6) {r : Int32} (h : f_X5_alike σ x0 = some r) : Ctr G l yX5_alike cX5_alike 3 (some .int) 3 66 [.ref (G.1 x0)] σ (some (.int r)) True σ := by
  refine Ctr.i (by decide) (Nat.le_of_ble_eq_true rfl) ?_
  intro X hG C hr
  subst hG
  exact w_X5_alike_b0 C hr _ hx0 h
-- X5_over
set_option maxHeartbeats 4000000 in
set_option maxRecDepth 100000 in
theorem w_X5_over_b0 {X : CX} (C : Cok X RX5 cX5_over 2 6 141) {σ' : St} {r : Int32} (hr : RtI X cX5_over r σ') (σ : St) (x0 : Nat) (x1 : Int32) (hx0 : kd x0 = 6) (h : f_X5_over σ x0 x1 = some (r, σ')) : V X σ 0 [(0, .ref ((xG X).1 x0)), (1, .int x1)] [] := by
  unfold f_X5_over at h
  refine r_aload_n C 0 (q := 1) dX5_over_0 rfl rfl ?_
  refine r_iload_n C 1 (q := 2) dX5_over_1 rfl rfl ?_
  obtain ⟨v_2, e_2, h⟩ := bs h
  refine r_callV C (ci := 5) (st := []) (st2 := [.int v_2]) (q := 5) (m_X5_isKey (xG X) (xl X) hx0 e_2) ok_X5_isKey hx0 rfl ⟨_, rfl⟩ q_321 rfl ⟨Nat.le_of_ble_eq_true rfl, Nat.le_of_ble_eq_true rfl⟩ rfl rfl (Nat.le_of_ble_eq_true rfl) dX5_over_2 rfl (fun hp_2 => ?_)
  refine r_if_eq C (tgt := 19) (q := 8) dX5_over_5 (by decide) rfl (fun c_5 => ?_) (fun c_5 => ?_)
  · replace h := (if_pos c_5).symm.trans h
    refine r_aload_n C 0 (q := 20) dX5_over_19 rfl rfl ?_
    refine r_bipush C (v := (-2)) (q := 22) dX5_over_20 (by decide) rfl ?_
    obtain ⟨v_22, s_22, e_22, h⟩ := bs2 h
    refine r_callV C (ci := 5) (st := []) (st2 := [.int v_22]) (q := 25) (m_X5_refuse (xG X) (xl X) hx0 e_22) ok_X5_refuse hx0 rfl ⟨_, rfl⟩ q_242 rfl ⟨Nat.le_of_ble_eq_true rfl, Nat.le_of_ble_eq_true rfl⟩ rfl rfl (Nat.le_of_ble_eq_true rfl) dX5_over_22 rfl (fun hp_22 => ?_)
    obtain ⟨rfl, rfl⟩ := Prod.mk.inj (Option.some.inj h)
    exact hr _ _ dX5_over_25
  · replace h := (if_neg c_5).symm.trans h
    refine r_aload_n C 0 (q := 9) dX5_over_8 rfl rfl ?_
    refine g_X5_3 C (q := 12) dX5_over_9 q_206 hx0 rfl ?_
    refine r_iload_n C 1 (q := 13) dX5_over_12 rfl rfl ?_
    obtain ⟨v_13, e_13, h⟩ := bs h
    refine r_callV C (ci := 4) (st := []) (st2 := [.int v_13]) (q := 16) (m_X4_keysOver (xG X) (xl X) (kf_X5_3 hx0) e_13) ok_X4_keysOver (kf_X5_3 hx0) rfl ⟨_, rfl⟩ q_866 rfl ⟨Nat.le_of_ble_eq_true rfl, Nat.le_of_ble_eq_true rfl⟩ rfl rfl (Nat.le_of_ble_eq_true rfl) dX5_over_13 rfl (fun hp_13 => ?_)
    refine r_goto C (tgt := 25) dX5_over_16 (by decide) ?_
    obtain ⟨rfl, rfl⟩ := Prod.mk.inj (Option.some.inj h)
    exact hr _ _ dX5_over_25

theorem m_X5_over (G : Gm) (l : Launch) {σ σ' : St} {x0 : Nat} {x1 : Int32} (hx0 : kd x0 = 6) {r : Int32} (h : f_X5_over σ x0 x1 = some (r, σ')) : Ctr G l yX5_over cX5_over 2 (some .int) 6 141 [.ref (G.1 x0), .int x1] σ (some (.int r)) True σ' := by
  refine Ctr.i (by decide) (Nat.le_of_ble_eq_true rfl) ?_
  intro X hG C hr
  subst hG
  exact w_X5_over_b0 C hr _ _ _ hx0 h
-- X5_chain
set_option maxHeartbeats 4000000 in
set_option maxRecDepth 100000 in
theorem w_X5_chain_b0 {X : CX} (C : Cok X RX5 cX5_chain 1 6 140) {σ' : St} {r : Int32} (hr : RtI X cX5_chain r σ') (σ : St) (x0 : Nat) (hx0 : kd x0 = 6) (h : f_X5_chain σ x0 = some (r, σ')) : V X σ 0 [(0, .ref ((xG X).1 x0))] [] := by
  unfold f_X5_chain at h
  refine r_aload_n C 0 (q := 1) dX5_chain_0 rfl rfl ?_
  refine g_X5_3 C (q := 4) dX5_chain_1 q_206 hx0 rfl ?_
  obtain ⟨v_4, s_4, e_4, h⟩ := bs2 h
  refine r_callV C (ci := 4) (st := []) (st2 := [.int v_4]) (q := 7) (m_X4_longestChain (xG X) (xl X) (kf_X5_3 hx0) e_4) ok_X4_longestChain (kf_X5_3 hx0) rfl ⟨_, rfl⟩ q_874 rfl ⟨Nat.le_of_ble_eq_true rfl, Nat.le_of_ble_eq_true rfl⟩ rfl rfl (Nat.le_of_ble_eq_true rfl) dX5_chain_4 rfl (fun hp_4 => ?_)
  obtain ⟨rfl, rfl⟩ := Prod.mk.inj (Option.some.inj h)
  exact hr _ _ dX5_chain_7

theorem m_X5_chain (G : Gm) (l : Launch) {σ σ' : St} {x0 : Nat} (hx0 : kd x0 = 6) {r : Int32} (h : f_X5_chain σ x0 = some (r, σ')) : Ctr G l yX5_chain cX5_chain 1 (some .int) 6 140 [.ref (G.1 x0)] σ (some (.int r)) True σ' := by
  refine Ctr.i (by decide) (Nat.le_of_ble_eq_true rfl) ?_
  intro X hG C hr
  subst hG
  exact w_X5_chain_b0 C hr _ _ hx0 h
-- X5_ward
set_option maxHeartbeats 4000000 in
set_option maxRecDepth 100000 in
theorem w_X5_ward_b0 {X : CX} (C : Cok X RX5 cX5_ward 2 6 142) {σ' : St} {r : Int32} (hr : RtI X cX5_ward r σ') (σ : St) (x0 : Nat) (x1 : Int32) (hx0 : kd x0 = 6) (h : f_X5_ward σ x0 x1 = some (r, σ')) : V X σ 0 [(0, .ref ((xG X).1 x0)), (1, .int x1)] [] := by
  unfold f_X5_ward at h
  refine r_aload_n C 0 (q := 1) dX5_ward_0 rfl rfl ?_
  refine r_iload_n C 1 (q := 2) dX5_ward_1 rfl rfl ?_
  obtain ⟨v_2, e_2, h⟩ := bs h
  refine r_callV C (ci := 5) (st := []) (st2 := [.int v_2]) (q := 5) (m_X5_isLock (xG X) (xl X) hx0 e_2) ok_X5_isLock hx0 rfl ⟨_, rfl⟩ q_453 rfl ⟨Nat.le_of_ble_eq_true rfl, Nat.le_of_ble_eq_true rfl⟩ rfl rfl (Nat.le_of_ble_eq_true rfl) dX5_ward_2 rfl (fun hp_2 => ?_)
  refine r_if_ne C (tgt := 15) (q := 8) dX5_ward_5 (by decide) rfl (fun c_5 => ?_) (fun c_5 => ?_)
  · replace h := (if_neg c_5).symm.trans h
    refine r_aload_n C 0 (q := 16) dX5_ward_15 rfl rfl ?_
    refine g_X5_0 C (q := 19) dX5_ward_16 q_203 hx0 rfl ?_
    refine r_iload_n C 1 (q := 20) dX5_ward_19 rfl rfl ?_
    obtain ⟨v_20, e_20, h⟩ := bs h
    refine r_callV C (ci := 0) (st := []) (st2 := [.int v_20]) (q := 23) (m_X0_hasWard (xG X) (xl X) (kf_X5_0 hx0) e_20) ok_X0_hasWard (kf_X5_0 hx0) rfl ⟨_, rfl⟩ q_648 rfl ⟨Nat.le_of_ble_eq_true rfl, Nat.le_of_ble_eq_true rfl⟩ rfl rfl (Nat.le_of_ble_eq_true rfl) dX5_ward_20 rfl (fun hp_20 => ?_)
    refine r_if_eq C (tgt := 35) (q := 26) dX5_ward_23 (by decide) rfl (fun c_23 => ?_) (fun c_23 => ?_)
    · replace h := (if_pos c_23).symm.trans h
      refine r_aload_n C 0 (q := 36) dX5_ward_35 rfl rfl ?_
      refine g_X5_3 C (q := 39) dX5_ward_36 q_206 hx0 rfl ?_
      refine r_iload_n C 1 (q := 40) dX5_ward_39 rfl rfl ?_
      obtain ⟨v_40, e_40, h⟩ := bs h
      refine r_callV C (ci := 4) (st := []) (st2 := [.int v_40]) (q := 43) (m_X4_lostByWard (xG X) (xl X) (kf_X5_3 hx0) e_40) ok_X4_lostByWard (kf_X5_3 hx0) rfl ⟨_, rfl⟩ q_886 rfl ⟨Nat.le_of_ble_eq_true rfl, Nat.le_of_ble_eq_true rfl⟩ rfl rfl (Nat.le_of_ble_eq_true rfl) dX5_ward_40 rfl (fun hp_40 => ?_)
      obtain ⟨rfl, rfl⟩ := Prod.mk.inj (Option.some.inj h)
      exact hr _ _ dX5_ward_43
    · replace h := (if_neg c_23).symm.trans h
      refine r_aload_n C 0 (q := 27) dX5_ward_26 rfl rfl ?_
      refine r_bipush C (v := (-5)) (q := 29) dX5_ward_27 (by decide) rfl ?_
      obtain ⟨v_29, s_29, e_29, h⟩ := bs2 h
      refine r_callV C (ci := 5) (st := []) (st2 := [.int v_29]) (q := 32) (m_X5_refuse (xG X) (xl X) hx0 e_29) ok_X5_refuse hx0 rfl ⟨_, rfl⟩ q_242 rfl ⟨Nat.le_of_ble_eq_true rfl, Nat.le_of_ble_eq_true rfl⟩ rfl rfl (Nat.le_of_ble_eq_true rfl) dX5_ward_29 rfl (fun hp_29 => ?_)
      refine r_goto C (tgt := 43) dX5_ward_32 (by decide) ?_
      obtain ⟨rfl, rfl⟩ := Prod.mk.inj (Option.some.inj h)
      exact hr _ _ dX5_ward_43
  · replace h := (if_pos c_5).symm.trans h
    refine r_aload_n C 0 (q := 9) dX5_ward_8 rfl rfl ?_
    refine r_bipush C (v := (-2)) (q := 11) dX5_ward_9 (by decide) rfl ?_
    obtain ⟨v_11, s_11, e_11, h⟩ := bs2 h
    refine r_callV C (ci := 5) (st := []) (st2 := [.int v_11]) (q := 14) (m_X5_refuse (xG X) (xl X) hx0 e_11) ok_X5_refuse hx0 rfl ⟨_, rfl⟩ q_242 rfl ⟨Nat.le_of_ble_eq_true rfl, Nat.le_of_ble_eq_true rfl⟩ rfl rfl (Nat.le_of_ble_eq_true rfl) dX5_ward_11 rfl (fun hp_11 => ?_)
    obtain ⟨rfl, rfl⟩ := Prod.mk.inj (Option.some.inj h)
    exact hr _ _ dX5_ward_14

theorem m_X5_ward (G : Gm) (l : Launch) {σ σ' : St} {x0 : Nat} {x1 : Int32} (hx0 : kd x0 = 6) {r : Int32} (h : f_X5_ward σ x0 x1 = some (r, σ')) : Ctr G l yX5_ward cX5_ward 2 (some .int) 6 142 [.ref (G.1 x0), .int x1] σ (some (.int r)) True σ' := by
  refine Ctr.i (by decide) (Nat.le_of_ble_eq_true rfl) ?_
  intro X hG C hr
  subst hG
  exact w_X5_ward_b0 C hr _ _ _ hx0 h
-- X5_tellsCuts
set_option maxHeartbeats 4000000 in
set_option maxRecDepth 100000 in
theorem w_X5_tellsCuts_b18 {X : CX} (C : Cok X RX5 cX5_tellsCuts 5 4 84) {σ : St} {r : Int32} (hr : RtZ X cX5_tellsCuts r σ) (k_18 : Nat → Nat → Int32 → Option Int32) (hk_18 : ∀ (x0 : Nat) (x1 : Nat) (x2 : Int32), kd x0 = 6 → kd x1 = 3 → k_18 x0 x1 x2 = some r → V X σ 18 [(0, .ref ((xG X).1 x0)), (1, .ref ((xG X).1 x1)), (2, .int x2)] []) (x0 : Nat) (x1 : Nat) (x2 : Int32) (hx0 : kd x0 = 6) (hx1 : kd x1 = 3) (h : f_X5_tellsCuts_b18 σ k_18 x0 x1 x2 = some r) : V X σ 18 [(0, .ref ((xG X).1 x0)), (1, .ref ((xG X).1 x1)), (2, .int x2)] [] := by
  unfold f_X5_tellsCuts_b18 at h
  refine r_iload_n C 2 (q := 19) dX5_tellsCuts_18 rfl rfl ?_
  refine r_aload_n C 0 (q := 20) dX5_tellsCuts_19 rfl rfl ?_
  refine g_X5_0 C (q := 23) dX5_tellsCuts_20 q_203 hx0 rfl ?_
  refine g_X0_0 C (q := 26) dX5_tellsCuts_23 q_65 (kf_X5_0 hx0) rfl ?_
  refine r_icmp_ge C (tgt := 62) (q := 29) dX5_tellsCuts_26 (by decide) rfl (fun c_26 => ?_) (fun c_26 => ?_)
  · replace h := (if_pos c_26).symm.trans h
    refine r_iconst C (v := 1) (q := 63) dX5_tellsCuts_62 (by decide) rfl ?_
    obtain rfl := Option.some.inj h
    exact hr _ _ dX5_tellsCuts_63 (Or.inr rfl)
  · replace h := (if_neg c_26).symm.trans h
    refine r_aload_n C 1 (q := 30) dX5_tellsCuts_29 rfl rfl ?_
    refine r_iload_n C 2 (q := 31) dX5_tellsCuts_30 rfl rfl ?_
    obtain ⟨v_31, e_31, h⟩ := bs h
    refine r_callV C (ci := 2) (st := []) (st2 := [.long v_31]) (q := 34) (m_X2_elementAt (xG X) (xl X) hx1 e_31) ok_X2_elementAt hx1 rfl ⟨_, rfl⟩ q_309 rfl ⟨Nat.le_of_ble_eq_true rfl, Nat.le_of_ble_eq_true rfl⟩ rfl rfl (Nat.le_of_ble_eq_true rfl) dX5_tellsCuts_31 rfl (fun hp_31 => ?_)
    refine r_lstore_n C (lv' := [(3, .long v_31), (0, .ref ((xG X).1 x0)), (1, .ref ((xG X).1 x1)), (2, .int x2)]) (q := 35) dX5_tellsCuts_34 rfl (by decide) rfl rfl ?_
    refine r_lload_n C 0 (q := 36) dX5_tellsCuts_35 rfl rfl ?_
    refine r_lconst C (v := 0) (q := 37) dX5_tellsCuts_36 (by decide) rfl ?_
    refine r_lcmp C (q := 38) dX5_tellsCuts_37 rfl ?_
    refine r_if_lt C (tgt := 54) (q := 41) dX5_tellsCuts_38 (by decide) rfl (fun c_38 => ?_) (fun c_38 => ?_)
    · replace h := (if_pos c_38).symm.trans h
      refine r_iconst C (v := 0) (q := 55) dX5_tellsCuts_54 (by decide) rfl ?_
      obtain rfl := Option.some.inj h
      exact hr _ _ dX5_tellsCuts_55 (Or.inl rfl)
    · replace h := (if_neg c_38).symm.trans h
      refine r_lload_n C 0 (q := 42) dX5_tellsCuts_41 rfl rfl ?_
      refine r_aload_n C 1 (q := 43) dX5_tellsCuts_42 rfl rfl ?_
      refine g_X5_0 C (q := 46) dX5_tellsCuts_43 q_203 hx0 rfl ?_
      refine g_X0_1 C (q := 49) dX5_tellsCuts_46 q_68 (kf_X5_0 hx0) rfl ?_
      refine r_i2l C (q := 50) dX5_tellsCuts_49 rfl ?_
      refine r_lcmp C (q := 51) dX5_tellsCuts_50 rfl ?_
      refine r_if_le C (tgt := 56) (q := 54) dX5_tellsCuts_51 (by decide) rfl (fun c_51 => ?_) (fun c_51 => ?_)
      · replace h := (if_pos c_51).symm.trans h
        obtain ⟨y_56, e_56, h⟩ := bs h
        refine r_iinc C (v := y_56) (lv' := [(2, .int y_56), (3, .long v_31), (0, .ref ((xG X).1 x0)), (1, .ref ((xG X).1 x1))]) (q := 59) 3 dX5_tellsCuts_56 rfl (Option.some.inj e_56) (by decide) rfl rfl ?_
        refine r_goto C (tgt := 18) dX5_tellsCuts_59 (by decide) ?_
        refine r_sub (lv' := [(0, .ref ((xG X).1 x0)), (1, .ref ((xG X).1 x1)), (2, .int y_56)]) [2, 3, 0] rfl ?_
        exact hk_18 _ _ _ hx0 hx1 h
      · replace h := (if_neg c_51).symm.trans h
        refine r_iconst C (v := 0) (q := 55) dX5_tellsCuts_54 (by decide) rfl ?_
        obtain rfl := Option.some.inj h
        exact hr _ _ dX5_tellsCuts_55 (Or.inl rfl)

theorem w_X5_tellsCuts_l18 {X : CX} (C : Cok X RX5 cX5_tellsCuts 5 4 84) {σ : St} {r : Int32} (hr : RtZ X cX5_tellsCuts r σ) (n : Nat) : ∀ (x0 : Nat) (x1 : Nat) (x2 : Int32), kd x0 = 6 → kd x1 = 3 → f_X5_tellsCuts_l18 σ n x0 x1 x2 = some r → V X σ 18 [(0, .ref ((xG X).1 x0)), (1, .ref ((xG X).1 x1)), (2, .int x2)] [] := by
  induction n with
  | zero =>
    intro x0 x1 x2 hx0 hx1 h
    exact nomatch (show (none : Option Int32) = some r from h)
  | succ n ih =>
    intro x0 x1 x2 hx0 hx1 h
    exact w_X5_tellsCuts_b18 C hr _ ih x0 x1 x2 hx0 hx1 h
set_option maxHeartbeats 4000000 in
set_option maxRecDepth 100000 in
theorem w_X5_tellsCuts_b0 {X : CX} (C : Cok X RX5 cX5_tellsCuts 5 4 84) {σ : St} {r : Int32} (hr : RtZ X cX5_tellsCuts r σ) (x0 : Nat) (x1 : Nat) (hx0 : kd x0 = 6) (hx1 : kd x1 = 3) (h : f_X5_tellsCuts σ x0 x1 = some r) : V X σ 0 [(0, .ref ((xG X).1 x0)), (1, .ref ((xG X).1 x1))] [] := by
  unfold f_X5_tellsCuts at h
  refine r_aload_n C 1 (q := 1) dX5_tellsCuts_0 rfl rfl ?_
  refine g_X2_1 C (q := 4) dX5_tellsCuts_1 q_192 hx1 rfl ?_
  refine r_aload_n C 0 (q := 5) dX5_tellsCuts_4 rfl rfl ?_
  refine g_X5_0 C (q := 8) dX5_tellsCuts_5 q_203 hx0 rfl ?_
  refine g_X0_0 C (q := 11) dX5_tellsCuts_8 q_65 (kf_X5_0 hx0) rfl ?_
  refine r_icmp_ge C (tgt := 16) (q := 14) dX5_tellsCuts_11 (by decide) rfl (fun c_11 => ?_) (fun c_11 => ?_)
  · replace h := (if_pos c_11).symm.trans h
    refine r_iconst C (v := 0) (q := 17) dX5_tellsCuts_16 (by decide) rfl ?_
    refine r_istore_n C (lv' := [(2, .int 0), (0, .ref ((xG X).1 x0)), (1, .ref ((xG X).1 x1))]) (q := 18) dX5_tellsCuts_17 rfl (by decide) rfl rfl ?_
    refine r_sub (lv' := [(0, .ref ((xG X).1 x0)), (1, .ref ((xG X).1 x1)), (2, .int 0)]) [1, 2, 0] rfl ?_
    exact w_X5_tellsCuts_l18 C hr  FU _ _ _ hx0 hx1 h
  · replace h := (if_neg c_11).symm.trans h
    refine r_iconst C (v := 0) (q := 15) dX5_tellsCuts_14 (by decide) rfl ?_
    obtain rfl := Option.some.inj h
    exact hr _ _ dX5_tellsCuts_15 (Or.inl rfl)

theorem m_X5_tellsCuts (G : Gm) (l : Launch) {σ : St} {x0 : Nat} {x1 : Nat} (hx0 : kd x0 = 6) (hx1 : kd x1 = 3) {r : Int32} (h : f_X5_tellsCuts σ x0 x1 = some r) : Ctr G l yX5_tellsCuts cX5_tellsCuts 5 (some .boolean) 4 84 [.ref (G.1 x0), .ref (G.1 x1)] σ (some (.int r)) (r = 0 ∨ r = 1) σ := by
  refine Ctr.z (by decide) (Nat.le_of_ble_eq_true rfl) ?_
  intro X hG C hr
  subst hG
  exact w_X5_tellsCuts_b0 C hr _ _ hx0 hx1 h
-- X5_found
set_option maxHeartbeats 4000000 in
set_option maxRecDepth 100000 in
theorem w_X5_found_b63 {X : CX} (C : Cok X RX5 cX5_found 5 5 120) {σ' : St} {r : Int32} (hr : RtI X cX5_found r σ') (k_63 : St → Nat → Int32 → Nat → Int32 → Option (Int32 × St)) (hk_63 : ∀ (σ : St) (x0 : Nat) (x2 : Int32) (x3 : Nat) (x4 : Int32), kd x0 = 6 → kd x3 = 3 → k_63 σ x0 x2 x3 x4 = some (r, σ') → V X σ 63 [(0, .ref ((xG X).1 x0)), (2, .int x2), (3, .ref ((xG X).1 x3)), (4, .int x4)] []) (σ : St) (x0 : Nat) (x2 : Int32) (x3 : Nat) (x4 : Int32) (hx0 : kd x0 = 6) (hx3 : kd x3 = 3) (h : f_X5_found_b63 k_63 σ x0 x2 x3 x4 = some (r, σ')) : V X σ 63 [(0, .ref ((xG X).1 x0)), (2, .int x2), (3, .ref ((xG X).1 x3)), (4, .int x4)] [] := by
  unfold f_X5_found_b63 at h
  refine r_iload C 3 (q := 65) dX5_found_63 rfl rfl ?_
  refine r_aload_n C 0 (q := 66) dX5_found_65 rfl rfl ?_
  refine g_X5_0 C (q := 69) dX5_found_66 q_203 hx0 rfl ?_
  refine g_X0_0 C (q := 72) dX5_found_69 q_65 (kf_X5_0 hx0) rfl ?_
  refine r_icmp_ge C (tgt := 97) (q := 75) dX5_found_72 (by decide) rfl (fun c_72 => ?_) (fun c_72 => ?_)
  · replace h := (if_pos c_72).symm.trans h
    refine r_aload_n C 0 (q := 98) dX5_found_97 rfl rfl ?_
    refine g_X5_3 C (q := 101) dX5_found_98 q_206 hx0 rfl ?_
    refine r_iload_n C 1 (q := 102) dX5_found_101 rfl rfl ?_
    obtain ⟨v_102, e_102, h⟩ := bs h
    refine r_callV C (ci := 4) (st := []) (st2 := [.int v_102]) (q := 105) (m_X4_keysOfTold (xG X) (xl X) (kf_X5_3 hx0) e_102) ok_X4_keysOfTold (kf_X5_3 hx0) rfl ⟨_, rfl⟩ q_903 rfl ⟨Nat.le_of_ble_eq_true rfl, Nat.le_of_ble_eq_true rfl⟩ rfl rfl (Nat.le_of_ble_eq_true rfl) dX5_found_102 rfl (fun hp_102 => ?_)
    obtain ⟨rfl, rfl⟩ := Prod.mk.inj (Option.some.inj h)
    exact hr _ _ dX5_found_105
  · replace h := (if_neg c_72).symm.trans h
    refine r_aload_n C 0 (q := 76) dX5_found_75 rfl rfl ?_
    refine g_X5_3 C (q := 79) dX5_found_76 q_206 hx0 rfl ?_
    refine r_iload C 3 (q := 81) dX5_found_79 rfl rfl ?_
    refine r_aload_n C 2 (q := 82) dX5_found_81 rfl rfl ?_
    refine r_iload C 3 (q := 84) dX5_found_82 rfl rfl ?_
    obtain ⟨v_84, e_84, h⟩ := bs h
    refine r_callV C (ci := 2) (st := [.int x4, .ref ((xG X).1 5)]) (st2 := [.long v_84, .int x4, .ref ((xG X).1 5)]) (q := 87) (m_X2_elementAt (xG X) (xl X) hx3 e_84) ok_X2_elementAt hx3 rfl ⟨_, rfl⟩ q_309 rfl ⟨Nat.le_of_ble_eq_true rfl, Nat.le_of_ble_eq_true rfl⟩ rfl rfl (Nat.le_of_ble_eq_true rfl) dX5_found_84 rfl (fun hp_84 => ?_)
    refine r_l2i C (q := 88) dX5_found_87 rfl ?_
    obtain ⟨s_88, e_88, h⟩ := bs h
    refine r_callV C (ci := 4) (st := []) (st2 := []) (q := 91) (m_X4_tellCut (xG X) (xl X) (kf_X5_3 hx0) e_88) ok_X4_tellCut (kf_X5_3 hx0) rfl ⟨_, rfl⟩ q_899 rfl ⟨Nat.le_of_ble_eq_true rfl, Nat.le_of_ble_eq_true rfl⟩ rfl rfl (Nat.le_of_ble_eq_true rfl) dX5_found_88 rfl (fun hp_88 => ?_)
    obtain ⟨y_91, e_91, h⟩ := bs h
    refine r_iinc C (v := y_91) (lv' := [(4, .int y_91), (0, .ref ((xG X).1 x0)), (2, .int x2), (3, .ref ((xG X).1 x3))]) (q := 94) 3 dX5_found_91 rfl (Option.some.inj e_91) (by decide) rfl rfl ?_
    refine r_goto C (tgt := 63) dX5_found_94 (by decide) ?_
    refine r_sub (lv' := [(0, .ref ((xG X).1 x0)), (2, .int x2), (3, .ref ((xG X).1 x3)), (4, .int y_91)]) [1, 2, 3, 0] rfl ?_
    exact hk_63 _ _ _ _ _ hx0 hx3 h

theorem w_X5_found_l63 {X : CX} (C : Cok X RX5 cX5_found 5 5 120) {σ' : St} {r : Int32} (hr : RtI X cX5_found r σ') (n : Nat) : ∀ (σ : St) (x0 : Nat) (x2 : Int32) (x3 : Nat) (x4 : Int32), kd x0 = 6 → kd x3 = 3 → f_X5_found_l63 n σ x0 x2 x3 x4 = some (r, σ') → V X σ 63 [(0, .ref ((xG X).1 x0)), (2, .int x2), (3, .ref ((xG X).1 x3)), (4, .int x4)] [] := by
  induction n with
  | zero =>
    intro σ x0 x2 x3 x4 hx0 hx3 h
    exact nomatch (show (none : Option (Int32 × St)) = some (r, σ') from h)
  | succ n ih =>
    intro σ x0 x2 x3 x4 hx0 hx3 h
    exact w_X5_found_b63 C hr _ ih σ x0 x2 x3 x4 hx0 hx3 h
set_option maxHeartbeats 4000000 in
set_option maxRecDepth 100000 in
theorem w_X5_found_b16 {X : CX} (C : Cok X RX5 cX5_found 5 5 120) {σ' : St} {r : Int32} (hr : RtI X cX5_found r σ') (σ : St) (x0 : Nat) (hx0 : kd x0 = 6) (h : f_X5_found_b16 σ x0 = some (r, σ')) : V X σ 16 [(0, .ref ((xG X).1 x0))] [] := by
  unfold f_X5_found_b16 at h
  refine r_aload_n C 0 (q := 17) dX5_found_16 rfl rfl ?_
  refine r_bipush C (v := (-2)) (q := 19) dX5_found_17 (by decide) rfl ?_
  obtain ⟨v_19, s_19, e_19, h⟩ := bs2 h
  refine r_callV C (ci := 5) (st := []) (st2 := [.int v_19]) (q := 22) (m_X5_refuse (xG X) (xl X) hx0 e_19) ok_X5_refuse hx0 rfl ⟨_, rfl⟩ q_242 rfl ⟨Nat.le_of_ble_eq_true rfl, Nat.le_of_ble_eq_true rfl⟩ rfl rfl (Nat.le_of_ble_eq_true rfl) dX5_found_19 rfl (fun hp_19 => ?_)
  obtain ⟨rfl, rfl⟩ := Prod.mk.inj (Option.some.inj h)
  exact hr _ _ dX5_found_22

set_option maxHeartbeats 4000000 in
set_option maxRecDepth 100000 in
theorem w_X5_found_b0 {X : CX} (C : Cok X RX5 cX5_found 5 5 120) {σ' : St} {r : Int32} (hr : RtI X cX5_found r σ') (σ : St) (x0 : Nat) (x1 : Int32) (x2 : Int32) (hx0 : kd x0 = 6) (h : f_X5_found σ x0 x1 x2 = some (r, σ')) : V X σ 0 [(0, .ref ((xG X).1 x0)), (1, .int x1), (2, .int x2)] [] := by
  unfold f_X5_found at h
  refine r_aload_n C 0 (q := 1) dX5_found_0 rfl rfl ?_
  refine r_iload_n C 1 (q := 2) dX5_found_1 rfl rfl ?_
  obtain ⟨v_2, e_2, h⟩ := bs h
  refine r_callV C (ci := 5) (st := []) (st2 := [.int v_2]) (q := 5) (m_X5_isShelf (xG X) (xl X) hx0 e_2) ok_X5_isShelf hx0 rfl ⟨_, rfl⟩ q_235 rfl ⟨Nat.le_of_ble_eq_true rfl, Nat.le_of_ble_eq_true rfl⟩ rfl rfl (Nat.le_of_ble_eq_true rfl) dX5_found_2 rfl (fun hp_2 => ?_)
  refine r_if_eq C (tgt := 16) (q := 8) dX5_found_5 (by decide) rfl (fun c_5 => ?_) (fun c_5 => ?_)
  · replace h := (if_pos c_5).symm.trans h
    refine r_sub (lv' := [(0, .ref ((xG X).1 x0))]) [0] rfl ?_
    exact w_X5_found_b16 C hr  _ _ hx0 h
  · replace h := (if_neg c_5).symm.trans h
    refine r_aload_n C 0 (q := 9) dX5_found_8 rfl rfl ?_
    refine r_iload_n C 2 (q := 10) dX5_found_9 rfl rfl ?_
    obtain ⟨v_10, e_10, h⟩ := bs h
    refine r_callV C (ci := 5) (st := []) (st2 := [.int v_10]) (q := 13) (m_X5_isLocks (xG X) (xl X) hx0 e_10) ok_X5_isLocks hx0 rfl ⟨_, rfl⟩ q_708 rfl ⟨Nat.le_of_ble_eq_true rfl, Nat.le_of_ble_eq_true rfl⟩ rfl rfl (Nat.le_of_ble_eq_true rfl) dX5_found_10 rfl (fun hp_10 => ?_)
    refine r_if_ne C (tgt := 23) (q := 16) dX5_found_13 (by decide) rfl (fun c_13 => ?_) (fun c_13 => ?_)
    · replace h := (if_neg c_13).symm.trans h
      refine r_aload_n C 0 (q := 24) dX5_found_23 rfl rfl ?_
      refine r_iload_n C 1 (q := 25) dX5_found_24 rfl rfl ?_
      obtain ⟨v_25, e_25, h⟩ := bs h
      refine r_callV C (ci := 5) (st := []) (st2 := [.ref ((xG X).1 v_25)]) (q := 28) (m_X5_shelfAt (xG X) (xl X) hx0 e_25) ok_X5_shelfAt hx0 rfl ⟨_, rfl⟩ q_252 rfl ⟨Nat.le_of_ble_eq_true rfl, Nat.le_of_ble_eq_true rfl⟩ rfl rfl (Nat.le_of_ble_eq_true rfl) dX5_found_25 rfl (fun hp_25 => ?_)
      refine r_astore_n C (lv' := [(3, .ref ((xG X).1 v_25)), (0, .ref ((xG X).1 x0)), (1, .int x1), (2, .int x2)]) (q := 29) dX5_found_28 rfl (by decide) rfl rfl ?_
      refine r_aload_n C 0 (q := 30) dX5_found_29 rfl rfl ?_
      obtain ⟨v_30, e_30, h⟩ := bs h
      refine r_callV C (ci := 2) (st := []) (st2 := [.int v_30]) (q := 33) (m_X2_isRow (xG X) (xl X) hp_25 e_30) ok_X2_isRow hp_25 rfl ⟨_, rfl⟩ q_267 rfl ⟨Nat.le_of_ble_eq_true rfl, Nat.le_of_ble_eq_true rfl⟩ rfl rfl (Nat.le_of_ble_eq_true rfl) dX5_found_30 rfl (fun hp_30 => ?_)
      refine r_if_ne C (tgt := 45) (q := 36) dX5_found_33 (by decide) rfl (fun c_33 => ?_) (fun c_33 => ?_)
      · replace h := (if_neg c_33).symm.trans h
        refine r_aload_n C 1 (q := 46) dX5_found_45 rfl rfl ?_
        refine r_aload_n C 0 (q := 47) dX5_found_46 rfl rfl ?_
        obtain ⟨v_47, e_47, h⟩ := bs h
        refine r_callV C (ci := 5) (st := []) (st2 := [.int v_47]) (q := 50) (m_X5_tellsCuts (xG X) (xl X) hx0 hp_25 e_47) ok_X5_tellsCuts hx0 rfl ⟨_, rfl⟩ q_895 rfl ⟨Nat.le_of_ble_eq_true rfl, Nat.le_of_ble_eq_true rfl⟩ rfl rfl (Nat.le_of_ble_eq_true rfl) dX5_found_47 rfl (fun hp_47 => ?_)
        refine r_if_ne C (tgt := 60) (q := 53) dX5_found_50 (by decide) rfl (fun c_50 => ?_) (fun c_50 => ?_)
        · replace h := (if_neg c_50).symm.trans h
          refine r_iconst C (v := 0) (q := 61) dX5_found_60 (by decide) rfl ?_
          refine r_istore C (lv' := [(4, .int 0), (3, .ref ((xG X).1 v_25)), (0, .ref ((xG X).1 x0)), (1, .int x1), (2, .int x2)]) (q := 63) dX5_found_61 (by decide) rfl rfl ?_
          refine r_sub (lv' := [(0, .ref ((xG X).1 x0)), (2, .int x2), (3, .ref ((xG X).1 v_25)), (4, .int 0)]) [2, 4, 1, 0] rfl ?_
          exact w_X5_found_l63 C hr  FU _ _ _ _ _ hx0 hp_25 h
        · replace h := (if_pos c_50).symm.trans h
          refine r_aload_n C 1 (q := 54) dX5_found_53 rfl rfl ?_
          refine r_bipush C (v := (-2)) (q := 56) dX5_found_54 (by decide) rfl ?_
          obtain ⟨v_56, s_56, e_56, h⟩ := bs2 h
          refine r_callV C (ci := 5) (st := []) (st2 := [.int v_56]) (q := 59) (m_X5_refuse (xG X) (xl X) hx0 e_56) ok_X5_refuse hx0 rfl ⟨_, rfl⟩ q_242 rfl ⟨Nat.le_of_ble_eq_true rfl, Nat.le_of_ble_eq_true rfl⟩ rfl rfl (Nat.le_of_ble_eq_true rfl) dX5_found_56 rfl (fun hp_56 => ?_)
          obtain ⟨rfl, rfl⟩ := Prod.mk.inj (Option.some.inj h)
          exact hr _ _ dX5_found_59
      · replace h := (if_pos c_33).symm.trans h
        refine r_aload_n C 1 (q := 37) dX5_found_36 rfl rfl ?_
        refine r_aload_n C 0 (q := 38) dX5_found_37 rfl rfl ?_
        obtain ⟨v_38, e_38, h⟩ := bs h
        refine r_callV C (ci := 2) (st := [.ref ((xG X).1 x0)]) (st2 := [.int v_38, .ref ((xG X).1 x0)]) (q := 41) (m_X2_whyNoRow (xG X) (xl X) hp_25 e_38) ok_X2_whyNoRow hp_25 rfl ⟨_, rfl⟩ q_272 rfl ⟨Nat.le_of_ble_eq_true rfl, Nat.le_of_ble_eq_true rfl⟩ rfl rfl (Nat.le_of_ble_eq_true rfl) dX5_found_38 rfl (fun hp_38 => ?_)
        obtain ⟨v_41, s_41, e_41, h⟩ := bs2 h
        refine r_callV C (ci := 5) (st := []) (st2 := [.int v_41]) (q := 44) (m_X5_refuse (xG X) (xl X) hx0 e_41) ok_X5_refuse hx0 rfl ⟨_, rfl⟩ q_242 rfl ⟨Nat.le_of_ble_eq_true rfl, Nat.le_of_ble_eq_true rfl⟩ rfl rfl (Nat.le_of_ble_eq_true rfl) dX5_found_41 rfl (fun hp_41 => ?_)
        obtain ⟨rfl, rfl⟩ := Prod.mk.inj (Option.some.inj h)
        exact hr _ _ dX5_found_44
    · replace h := (if_pos c_13).symm.trans h
      refine r_sub (lv' := [(0, .ref ((xG X).1 x0))]) [0] rfl ?_
      exact w_X5_found_b16 C hr  _ _ hx0 h

theorem m_X5_found (G : Gm) (l : Launch) {σ σ' : St} {x0 : Nat} {x1 : Int32} {x2 : Int32} (hx0 : kd x0 = 6) {r : Int32} (h : f_X5_found σ x0 x1 x2 = some (r, σ')) : Ctr G l yX5_found cX5_found 5 (some .int) 5 120 [.ref (G.1 x0), .int x1, .int x2] σ (some (.int r)) True σ' := by
  refine Ctr.i (by decide) (Nat.le_of_ble_eq_true rfl) ?_
  intro X hG C hr
  subst hG
  exact w_X5_found_b0 C hr _ _ _ _ hx0 h
-- X5_many
set_option maxHeartbeats 4000000 in
set_option maxRecDepth 100000 in
theorem w_X5_many_b0 {X : CX} (C : Cok X RX5 cX5_many 2 3 69) {σ' : St} {r : Int32} (hr : RtI X cX5_many r σ') (σ : St) (x0 : Nat) (x1 : Int32) (hx0 : kd x0 = 6) (h : f_X5_many σ x0 x1 = some (r, σ')) : V X σ 0 [(0, .ref ((xG X).1 x0)), (1, .int x1)] [] := by
  unfold f_X5_many at h
  refine r_aload_n C 0 (q := 1) dX5_many_0 rfl rfl ?_
  refine r_iload_n C 1 (q := 2) dX5_many_1 rfl rfl ?_
  obtain ⟨v_2, e_2, h⟩ := bs h
  refine r_callV C (ci := 5) (st := []) (st2 := [.int v_2]) (q := 5) (m_X5_isLocks (xG X) (xl X) hx0 e_2) ok_X5_isLocks hx0 rfl ⟨_, rfl⟩ q_708 rfl ⟨Nat.le_of_ble_eq_true rfl, Nat.le_of_ble_eq_true rfl⟩ rfl rfl (Nat.le_of_ble_eq_true rfl) dX5_many_2 rfl (fun hp_2 => ?_)
  refine r_if_eq C (tgt := 19) (q := 8) dX5_many_5 (by decide) rfl (fun c_5 => ?_) (fun c_5 => ?_)
  · replace h := (if_pos c_5).symm.trans h
    refine r_aload_n C 0 (q := 20) dX5_many_19 rfl rfl ?_
    refine r_bipush C (v := (-2)) (q := 22) dX5_many_20 (by decide) rfl ?_
    obtain ⟨v_22, s_22, e_22, h⟩ := bs2 h
    refine r_callV C (ci := 5) (st := []) (st2 := [.int v_22]) (q := 25) (m_X5_refuse (xG X) (xl X) hx0 e_22) ok_X5_refuse hx0 rfl ⟨_, rfl⟩ q_242 rfl ⟨Nat.le_of_ble_eq_true rfl, Nat.le_of_ble_eq_true rfl⟩ rfl rfl (Nat.le_of_ble_eq_true rfl) dX5_many_22 rfl (fun hp_22 => ?_)
    obtain ⟨rfl, rfl⟩ := Prod.mk.inj (Option.some.inj h)
    exact hr _ _ dX5_many_25
  · replace h := (if_neg c_5).symm.trans h
    refine r_aload_n C 0 (q := 9) dX5_many_8 rfl rfl ?_
    refine g_X5_3 C (q := 12) dX5_many_9 q_206 hx0 rfl ?_
    refine r_iload_n C 1 (q := 13) dX5_many_12 rfl rfl ?_
    obtain ⟨v_13, s_13, e_13, h⟩ := bs2 h
    refine r_callV C (ci := 4) (st := []) (st2 := [.int v_13]) (q := 16) (m_X4_rowsFor (xG X) (xl X) (kf_X5_3 hx0) e_13) ok_X4_rowsFor (kf_X5_3 hx0) rfl ⟨_, rfl⟩ q_915 rfl ⟨Nat.le_of_ble_eq_true rfl, Nat.le_of_ble_eq_true rfl⟩ rfl rfl (Nat.le_of_ble_eq_true rfl) dX5_many_13 rfl (fun hp_13 => ?_)
    refine r_goto C (tgt := 25) dX5_many_16 (by decide) ?_
    obtain ⟨rfl, rfl⟩ := Prod.mk.inj (Option.some.inj h)
    exact hr _ _ dX5_many_25

theorem m_X5_many (G : Gm) (l : Launch) {σ σ' : St} {x0 : Nat} {x1 : Int32} (hx0 : kd x0 = 6) {r : Int32} (h : f_X5_many σ x0 x1 = some (r, σ')) : Ctr G l yX5_many cX5_many 2 (some .int) 3 69 [.ref (G.1 x0), .int x1] σ (some (.int r)) True σ' := by
  refine Ctr.i (by decide) (Nat.le_of_ble_eq_true rfl) ?_
  intro X hG C hr
  subst hG
  exact w_X5_many_b0 C hr _ _ _ hx0 h
-- X5_use
set_option maxHeartbeats 4000000 in
set_option maxRecDepth 100000 in
theorem w_X5_use_b16 {X : CX} (C : Cok X RX5 cX5_use 3 5 117) {σ' : St} {r : Int32} (hr : RtI X cX5_use r σ') (σ : St) (x0 : Nat) (hx0 : kd x0 = 6) (h : f_X5_use_b16 σ x0 = some (r, σ')) : V X σ 16 [(0, .ref ((xG X).1 x0))] [] := by
  unfold f_X5_use_b16 at h
  refine r_aload_n C 0 (q := 17) dX5_use_16 rfl rfl ?_
  refine r_bipush C (v := (-2)) (q := 19) dX5_use_17 (by decide) rfl ?_
  obtain ⟨v_19, s_19, e_19, h⟩ := bs2 h
  refine r_callV C (ci := 5) (st := []) (st2 := [.int v_19]) (q := 22) (m_X5_refuse (xG X) (xl X) hx0 e_19) ok_X5_refuse hx0 rfl ⟨_, rfl⟩ q_242 rfl ⟨Nat.le_of_ble_eq_true rfl, Nat.le_of_ble_eq_true rfl⟩ rfl rfl (Nat.le_of_ble_eq_true rfl) dX5_use_19 rfl (fun hp_19 => ?_)
  obtain ⟨rfl, rfl⟩ := Prod.mk.inj (Option.some.inj h)
  exact hr _ _ dX5_use_22

set_option maxHeartbeats 4000000 in
set_option maxRecDepth 100000 in
theorem w_X5_use_b0 {X : CX} (C : Cok X RX5 cX5_use 3 5 117) {σ' : St} {r : Int32} (hr : RtI X cX5_use r σ') (σ : St) (x0 : Nat) (x1 : Int32) (x2 : Int32) (hx0 : kd x0 = 6) (h : f_X5_use σ x0 x1 x2 = some (r, σ')) : V X σ 0 [(0, .ref ((xG X).1 x0)), (1, .int x1), (2, .int x2)] [] := by
  unfold f_X5_use at h
  refine r_aload_n C 0 (q := 1) dX5_use_0 rfl rfl ?_
  refine r_iload_n C 1 (q := 2) dX5_use_1 rfl rfl ?_
  obtain ⟨v_2, e_2, h⟩ := bs h
  refine r_callV C (ci := 5) (st := []) (st2 := [.int v_2]) (q := 5) (m_X5_isKey (xG X) (xl X) hx0 e_2) ok_X5_isKey hx0 rfl ⟨_, rfl⟩ q_321 rfl ⟨Nat.le_of_ble_eq_true rfl, Nat.le_of_ble_eq_true rfl⟩ rfl rfl (Nat.le_of_ble_eq_true rfl) dX5_use_2 rfl (fun hp_2 => ?_)
  refine r_if_eq C (tgt := 16) (q := 8) dX5_use_5 (by decide) rfl (fun c_5 => ?_) (fun c_5 => ?_)
  · replace h := (if_pos c_5).symm.trans h
    refine r_sub (lv' := [(0, .ref ((xG X).1 x0))]) [0] rfl ?_
    exact w_X5_use_b16 C hr  _ _ hx0 h
  · replace h := (if_neg c_5).symm.trans h
    refine r_aload_n C 0 (q := 9) dX5_use_8 rfl rfl ?_
    refine r_iload_n C 2 (q := 10) dX5_use_9 rfl rfl ?_
    obtain ⟨v_10, e_10, h⟩ := bs h
    refine r_callV C (ci := 5) (st := []) (st2 := [.int v_10]) (q := 13) (m_X5_isLock (xG X) (xl X) hx0 e_10) ok_X5_isLock hx0 rfl ⟨_, rfl⟩ q_453 rfl ⟨Nat.le_of_ble_eq_true rfl, Nat.le_of_ble_eq_true rfl⟩ rfl rfl (Nat.le_of_ble_eq_true rfl) dX5_use_10 rfl (fun hp_10 => ?_)
    refine r_if_ne C (tgt := 23) (q := 16) dX5_use_13 (by decide) rfl (fun c_13 => ?_) (fun c_13 => ?_)
    · replace h := (if_neg c_13).symm.trans h
      refine r_aload_n C 0 (q := 24) dX5_use_23 rfl rfl ?_
      refine g_X5_0 C (q := 27) dX5_use_24 q_203 hx0 rfl ?_
      refine r_iload_n C 1 (q := 28) dX5_use_27 rfl rfl ?_
      obtain ⟨v_28, e_28, h⟩ := bs h
      refine r_callV C (ci := 0) (st := []) (st2 := [.int v_28]) (q := 31) (m_X0_openedBy (xG X) (xl X) (kf_X5_0 hx0) e_28) ok_X0_openedBy (kf_X5_0 hx0) rfl ⟨_, rfl⟩ q_349 rfl ⟨Nat.le_of_ble_eq_true rfl, Nat.le_of_ble_eq_true rfl⟩ rfl rfl (Nat.le_of_ble_eq_true rfl) dX5_use_28 rfl (fun hp_28 => ?_)
      refine r_iload_n C 2 (q := 32) dX5_use_31 rfl rfl ?_
      obtain ⟨v_32, e_32, h⟩ := bs h
      refine r_callS C (st := []) (st2 := [.int v_32]) (q := 35) (m_X5_hasBit (xG X) (xl X) e_32) ok_X5_hasBit q_665 rfl ⟨Nat.le_of_ble_eq_true rfl, Nat.le_of_ble_eq_true rfl⟩ rfl rfl (Nat.le_of_ble_eq_true rfl) dX5_use_32 rfl (fun hp_32 => ?_)
      refine r_if_ne C (tgt := 45) (q := 38) dX5_use_35 (by decide) rfl (fun c_35 => ?_) (fun c_35 => ?_)
      · replace h := (if_neg c_35).symm.trans h
        refine r_aload_n C 0 (q := 46) dX5_use_45 rfl rfl ?_
        refine g_X5_0 C (q := 49) dX5_use_46 q_203 hx0 rfl ?_
        refine r_aload_n C 0 (q := 50) dX5_use_49 rfl rfl ?_
        refine g_X5_0 C (q := 53) dX5_use_50 q_203 hx0 rfl ?_
        refine r_iload_n C 1 (q := 54) dX5_use_53 rfl rfl ?_
        obtain ⟨v_54, e_54, h⟩ := bs h
        refine r_callV C (ci := 0) (st := [.ref ((xG X).1 39)]) (st2 := [.ref ((xG X).1 v_54), .ref ((xG X).1 39)]) (q := 57) (m_X0_keyAt (xG X) (xl X) (kf_X5_0 hx0) e_54) ok_X0_keyAt (kf_X5_0 hx0) rfl ⟨_, rfl⟩ q_329 rfl ⟨Nat.le_of_ble_eq_true rfl, Nat.le_of_ble_eq_true rfl⟩ rfl rfl (Nat.le_of_ble_eq_true rfl) dX5_use_54 rfl (fun hp_54 => ?_)
        obtain ⟨v_57, s_57, e_57, h⟩ := bs2 h
        refine r_callV C (ci := 0) (st := []) (st2 := [.int v_57]) (q := 60) (m_X0_wear (xG X) (xl X) (kf_X5_0 hx0) hp_54 e_57) ok_X0_wear (kf_X5_0 hx0) rfl ⟨_, rfl⟩ q_923 rfl ⟨Nat.le_of_ble_eq_true rfl, Nat.le_of_ble_eq_true rfl⟩ rfl rfl (Nat.le_of_ble_eq_true rfl) dX5_use_57 rfl (fun hp_57 => ?_)
        refine r_if_eq C (tgt := 67) (q := 63) dX5_use_60 (by decide) rfl (fun c_60 => ?_) (fun c_60 => ?_)
        · replace h := (if_pos c_60).symm.trans h
          refine r_iconst C (v := 0) (q := 68) dX5_use_67 (by decide) rfl ?_
          obtain ⟨rfl, rfl⟩ := Prod.mk.inj (Option.some.inj h)
          exact hr _ _ dX5_use_68
        · replace h := (if_neg c_60).symm.trans h
          refine r_iconst C (v := 1) (q := 64) dX5_use_63 (by decide) rfl ?_
          refine r_goto C (tgt := 68) dX5_use_64 (by decide) ?_
          obtain ⟨rfl, rfl⟩ := Prod.mk.inj (Option.some.inj h)
          exact hr _ _ dX5_use_68
      · replace h := (if_pos c_35).symm.trans h
        refine r_aload_n C 0 (q := 39) dX5_use_38 rfl rfl ?_
        refine r_bipush C (v := (-5)) (q := 41) dX5_use_39 (by decide) rfl ?_
        obtain ⟨v_41, s_41, e_41, h⟩ := bs2 h
        refine r_callV C (ci := 5) (st := []) (st2 := [.int v_41]) (q := 44) (m_X5_refuse (xG X) (xl X) hx0 e_41) ok_X5_refuse hx0 rfl ⟨_, rfl⟩ q_242 rfl ⟨Nat.le_of_ble_eq_true rfl, Nat.le_of_ble_eq_true rfl⟩ rfl rfl (Nat.le_of_ble_eq_true rfl) dX5_use_41 rfl (fun hp_41 => ?_)
        obtain ⟨rfl, rfl⟩ := Prod.mk.inj (Option.some.inj h)
        exact hr _ _ dX5_use_44
    · replace h := (if_pos c_13).symm.trans h
      refine r_sub (lv' := [(0, .ref ((xG X).1 x0))]) [0] rfl ?_
      exact w_X5_use_b16 C hr  _ _ hx0 h

theorem m_X5_use (G : Gm) (l : Launch) {σ σ' : St} {x0 : Nat} {x1 : Int32} {x2 : Int32} (hx0 : kd x0 = 6) {r : Int32} (h : f_X5_use σ x0 x1 x2 = some (r, σ')) : Ctr G l yX5_use cX5_use 3 (some .int) 5 117 [.ref (G.1 x0), .int x1, .int x2] σ (some (.int r)) True σ' := by
  refine Ctr.i (by decide) (Nat.le_of_ble_eq_true rfl) ?_
  intro X hG C hr
  subst hG
  exact w_X5_use_b0 C hr _ _ _ _ hx0 h
-- X5_days
set_option maxHeartbeats 4000000 in
set_option maxRecDepth 100000 in
theorem w_X5_days_b66 {X : CX} (C : Cok X RX5 cX5_days 4 6 139) {σ' : St} {r : Int32} (hr : RtI X cX5_days r σ') (k_48 : St → Nat → Int32 → Int32 → Int32 → Option (Int32 × St)) (hk_48 : ∀ (σ : St) (x0 : Nat) (x1 : Int32) (x2 : Int32) (x3 : Int32), kd x0 = 6 → k_48 σ x0 x1 x2 x3 = some (r, σ') → V X σ 48 [(0, .ref ((xG X).1 x0)), (1, .int x1), (2, .int x2), (3, .int x3)] []) (σ : St) (x0 : Nat) (x1 : Int32) (x2 : Int32) (x3 : Int32) (hx0 : kd x0 = 6) (h : f_X5_days_b66 k_48 σ x0 x1 x2 x3 = some (r, σ')) : V X σ 66 [(0, .ref ((xG X).1 x0)), (1, .int x1), (2, .int x2), (3, .int x3)] [] := by
  unfold f_X5_days_b66 at h
  obtain ⟨y_66, e_66, h⟩ := bs h
  refine r_iinc C (v := y_66) (lv' := [(3, .int y_66), (0, .ref ((xG X).1 x0)), (1, .int x1), (2, .int x2)]) (q := 69) 3 dX5_days_66 rfl (Option.some.inj e_66) (by decide) rfl rfl ?_
  refine r_goto C (tgt := 48) dX5_days_69 (by decide) ?_
  refine r_sub (lv' := [(0, .ref ((xG X).1 x0)), (1, .int x1), (2, .int x2), (3, .int y_66)]) [1, 2, 3, 0] rfl ?_
  exact hk_48 _ _ _ _ _ hx0 h

set_option maxHeartbeats 4000000 in
set_option maxRecDepth 100000 in
theorem w_X5_days_b48 {X : CX} (C : Cok X RX5 cX5_days 4 6 139) {σ' : St} {r : Int32} (hr : RtI X cX5_days r σ') (k_48 : St → Nat → Int32 → Int32 → Int32 → Option (Int32 × St)) (hk_48 : ∀ (σ : St) (x0 : Nat) (x1 : Int32) (x2 : Int32) (x3 : Int32), kd x0 = 6 → k_48 σ x0 x1 x2 x3 = some (r, σ') → V X σ 48 [(0, .ref ((xG X).1 x0)), (1, .int x1), (2, .int x2), (3, .int x3)] []) (σ : St) (x0 : Nat) (x1 : Int32) (x2 : Int32) (x3 : Int32) (hx0 : kd x0 = 6) (h : f_X5_days_b48 k_48 σ x0 x1 x2 x3 = some (r, σ')) : V X σ 48 [(0, .ref ((xG X).1 x0)), (1, .int x1), (2, .int x2), (3, .int x3)] [] := by
  unfold f_X5_days_b48 at h
  refine r_iload_n C 3 (q := 49) dX5_days_48 rfl rfl ?_
  refine r_iload_n C 1 (q := 50) dX5_days_49 rfl rfl ?_
  refine r_icmp_ge C (tgt := 72) (q := 53) dX5_days_50 (by decide) rfl (fun c_50 => ?_) (fun c_50 => ?_)
  · replace h := (if_pos c_50).symm.trans h
    refine r_iload_n C 2 (q := 73) dX5_days_72 rfl rfl ?_
    obtain ⟨rfl, rfl⟩ := Prod.mk.inj (Option.some.inj h)
    exact hr _ _ dX5_days_73
  · replace h := (if_neg c_50).symm.trans h
    refine r_aload_n C 0 (q := 54) dX5_days_53 rfl rfl ?_
    refine g_X5_0 C (q := 57) dX5_days_54 q_203 hx0 rfl ?_
    obtain ⟨v_57, s_57, e_57, h⟩ := bs2 h
    refine r_callV C (ci := 0) (st := []) (st2 := [.int v_57]) (q := 60) (m_X0_passDay (xG X) (xl X) (kf_X5_0 hx0) e_57) ok_X0_passDay (kf_X5_0 hx0) rfl ⟨_, rfl⟩ q_937 rfl ⟨Nat.le_of_ble_eq_true rfl, Nat.le_of_ble_eq_true rfl⟩ rfl rfl (Nat.le_of_ble_eq_true rfl) dX5_days_57 rfl (fun hp_57 => ?_)
    refine r_if_eq C (tgt := 66) (q := 63) dX5_days_60 (by decide) rfl (fun c_60 => ?_) (fun c_60 => ?_)
    · replace h := (if_pos c_60).symm.trans h
      exact w_X5_days_b66 C hr _ hk_48 _ _ _ _ _ hx0 h
    · replace h := (if_neg c_60).symm.trans h
      obtain ⟨y_63, e_63, h⟩ := bs h
      refine r_iinc C (v := y_63) (lv' := [(2, .int y_63), (0, .ref ((xG X).1 x0)), (1, .int x1), (3, .int x3)]) (q := 66) 2 dX5_days_63 rfl (Option.some.inj e_63) (by decide) rfl rfl ?_
      refine r_sub (lv' := [(0, .ref ((xG X).1 x0)), (1, .int x1), (2, .int y_63), (3, .int x3)]) [1, 2, 0, 3] rfl ?_
      exact w_X5_days_b66 C hr _ hk_48 _ _ _ _ _ hx0 h

theorem w_X5_days_l48 {X : CX} (C : Cok X RX5 cX5_days 4 6 139) {σ' : St} {r : Int32} (hr : RtI X cX5_days r σ') (n : Nat) : ∀ (σ : St) (x0 : Nat) (x1 : Int32) (x2 : Int32) (x3 : Int32), kd x0 = 6 → f_X5_days_l48 n σ x0 x1 x2 x3 = some (r, σ') → V X σ 48 [(0, .ref ((xG X).1 x0)), (1, .int x1), (2, .int x2), (3, .int x3)] [] := by
  induction n with
  | zero =>
    intro σ x0 x1 x2 x3 hx0 h
    exact nomatch (show (none : Option (Int32 × St)) = some (r, σ') from h)
  | succ n ih =>
    intro σ x0 x1 x2 x3 hx0 h
    exact w_X5_days_b48 C hr _ ih σ x0 x1 x2 x3 hx0 h
set_option maxHeartbeats 4000000 in
set_option maxRecDepth 100000 in
theorem w_X5_days_b37 {X : CX} (C : Cok X RX5 cX5_days 4 6 139) {σ' : St} {r : Int32} (hr : RtI X cX5_days r σ') (σ : St) (x0 : Nat) (hx0 : kd x0 = 6) (h : f_X5_days_b37 σ x0 = some (r, σ')) : V X σ 37 [(0, .ref ((xG X).1 x0))] [] := by
  unfold f_X5_days_b37 at h
  refine r_aload_n C 0 (q := 38) dX5_days_37 rfl rfl ?_
  refine r_bipush C (v := (-5)) (q := 40) dX5_days_38 (by decide) rfl ?_
  obtain ⟨v_40, s_40, e_40, h⟩ := bs2 h
  refine r_callV C (ci := 5) (st := []) (st2 := [.int v_40]) (q := 43) (m_X5_refuse (xG X) (xl X) hx0 e_40) ok_X5_refuse hx0 rfl ⟨_, rfl⟩ q_242 rfl ⟨Nat.le_of_ble_eq_true rfl, Nat.le_of_ble_eq_true rfl⟩ rfl rfl (Nat.le_of_ble_eq_true rfl) dX5_days_40 rfl (fun hp_40 => ?_)
  obtain ⟨rfl, rfl⟩ := Prod.mk.inj (Option.some.inj h)
  exact hr _ _ dX5_days_43

set_option maxHeartbeats 4000000 in
set_option maxRecDepth 100000 in
theorem w_X5_days_b0 {X : CX} (C : Cok X RX5 cX5_days 4 6 139) {σ' : St} {r : Int32} (hr : RtI X cX5_days r σ') (σ : St) (x0 : Nat) (x1 : Int32) (hx0 : kd x0 = 6) (h : f_X5_days σ x0 x1 = some (r, σ')) : V X σ 0 [(0, .ref ((xG X).1 x0)), (1, .int x1)] [] := by
  unfold f_X5_days at h
  refine r_iload_n C 1 (q := 1) dX5_days_0 rfl rfl ?_
  refine r_iconst C (v := 1) (q := 2) dX5_days_1 (by decide) rfl ?_
  refine r_bipush C (v := 40) (q := 4) dX5_days_2 (by decide) rfl ?_
  obtain ⟨v_4, e_4, h⟩ := bs h
  refine r_callS C (st := []) (st2 := [.int v_4]) (q := 7) (m_X5_isWithin (xG X) (xl X) e_4) ok_X5_isWithin q_239 rfl ⟨Nat.le_of_ble_eq_true rfl, Nat.le_of_ble_eq_true rfl⟩ rfl rfl (Nat.le_of_ble_eq_true rfl) dX5_days_4 rfl (fun hp_4 => ?_)
  refine r_if_ne C (tgt := 17) (q := 10) dX5_days_7 (by decide) rfl (fun c_7 => ?_) (fun c_7 => ?_)
  · replace h := (if_neg c_7).symm.trans h
    refine r_aload_n C 0 (q := 18) dX5_days_17 rfl rfl ?_
    refine g_X5_0 C (q := 21) dX5_days_18 q_203 hx0 rfl ?_
    refine g_X0_5 C (q := 24) dX5_days_21 q_80 (kf_X5_0 hx0) rfl ?_
    refine r_if_eq C (tgt := 37) (q := 27) dX5_days_24 (by decide) rfl (fun c_24 => ?_) (fun c_24 => ?_)
    · replace h := (if_pos c_24).symm.trans h
      refine r_sub (lv' := [(0, .ref ((xG X).1 x0))]) [0] rfl ?_
      exact w_X5_days_b37 C hr  _ _ hx0 h
    · replace h := (if_neg c_24).symm.trans h
      refine r_aload_n C 0 (q := 28) dX5_days_27 rfl rfl ?_
      refine g_X5_0 C (q := 31) dX5_days_28 q_203 hx0 rfl ?_
      refine g_X0_6 C (q := 34) dX5_days_31 q_84 (kf_X5_0 hx0) rfl ?_
      refine r_if_ne C (tgt := 44) (q := 37) dX5_days_34 (by decide) rfl (fun c_34 => ?_) (fun c_34 => ?_)
      · replace h := (if_neg c_34).symm.trans h
        refine r_iconst C (v := 0) (q := 45) dX5_days_44 (by decide) rfl ?_
        refine r_istore_n C (lv' := [(2, .int 0), (0, .ref ((xG X).1 x0)), (1, .int x1)]) (q := 46) dX5_days_45 rfl (by decide) rfl rfl ?_
        refine r_iconst C (v := 0) (q := 47) dX5_days_46 (by decide) rfl ?_
        refine r_istore_n C (lv' := [(3, .int 0), (2, .int 0), (0, .ref ((xG X).1 x0)), (1, .int x1)]) (q := 48) dX5_days_47 rfl (by decide) rfl rfl ?_
        refine r_sub (lv' := [(0, .ref ((xG X).1 x0)), (1, .int x1), (2, .int 0), (3, .int 0)]) [2, 3, 1, 0] rfl ?_
        exact w_X5_days_l48 C hr  FU _ _ _ _ _ hx0 h
      · replace h := (if_pos c_34).symm.trans h
        refine r_sub (lv' := [(0, .ref ((xG X).1 x0))]) [0] rfl ?_
        exact w_X5_days_b37 C hr  _ _ hx0 h
  · replace h := (if_pos c_7).symm.trans h
    refine r_aload_n C 0 (q := 11) dX5_days_10 rfl rfl ?_
    refine r_bipush C (v := (-2)) (q := 13) dX5_days_11 (by decide) rfl ?_
    obtain ⟨v_13, s_13, e_13, h⟩ := bs2 h
    refine r_callV C (ci := 5) (st := []) (st2 := [.int v_13]) (q := 16) (m_X5_refuse (xG X) (xl X) hx0 e_13) ok_X5_refuse hx0 rfl ⟨_, rfl⟩ q_242 rfl ⟨Nat.le_of_ble_eq_true rfl, Nat.le_of_ble_eq_true rfl⟩ rfl rfl (Nat.le_of_ble_eq_true rfl) dX5_days_13 rfl (fun hp_13 => ?_)
    obtain ⟨rfl, rfl⟩ := Prod.mk.inj (Option.some.inj h)
    exact hr _ _ dX5_days_16

theorem m_X5_days (G : Gm) (l : Launch) {σ σ' : St} {x0 : Nat} {x1 : Int32} (hx0 : kd x0 = 6) {r : Int32} (h : f_X5_days σ x0 x1 = some (r, σ')) : Ctr G l yX5_days cX5_days 4 (some .int) 6 139 [.ref (G.1 x0), .int x1] σ (some (.int r)) True σ' := by
  refine Ctr.i (by decide) (Nat.le_of_ble_eq_true rfl) ?_
  intro X hG C hr
  subst hG
  exact w_X5_days_b0 C hr _ _ _ hx0 h
-- X5_renew
set_option maxHeartbeats 4000000 in
set_option maxRecDepth 100000 in
theorem w_X5_renew_b0 {X : CX} (C : Cok X RX5 cX5_renew 4 2 45) {σ' : St} {r : Int32} (hr : RtI X cX5_renew r σ') (σ : St) (x0 : Nat) (x1 : Int32) (hx0 : kd x0 = 6) (h : f_X5_renew σ x0 x1 = some (r, σ')) : V X σ 0 [(0, .ref ((xG X).1 x0)), (1, .int x1)] [] := by
  unfold f_X5_renew at h
  refine r_aload_n C 0 (q := 1) dX5_renew_0 rfl rfl ?_
  refine r_iload_n C 1 (q := 2) dX5_renew_1 rfl rfl ?_
  obtain ⟨v_2, e_2, h⟩ := bs h
  refine r_callV C (ci := 5) (st := []) (st2 := [.int v_2]) (q := 5) (m_X5_isKey (xG X) (xl X) hx0 e_2) ok_X5_isKey hx0 rfl ⟨_, rfl⟩ q_321 rfl ⟨Nat.le_of_ble_eq_true rfl, Nat.le_of_ble_eq_true rfl⟩ rfl rfl (Nat.le_of_ble_eq_true rfl) dX5_renew_2 rfl (fun hp_2 => ?_)
  refine r_if_ne C (tgt := 15) (q := 8) dX5_renew_5 (by decide) rfl (fun c_5 => ?_) (fun c_5 => ?_)
  · replace h := (if_neg c_5).symm.trans h
    refine r_aload_n C 0 (q := 16) dX5_renew_15 rfl rfl ?_
    refine g_X5_0 C (q := 19) dX5_renew_16 q_203 hx0 rfl ?_
    refine r_iload_n C 1 (q := 20) dX5_renew_19 rfl rfl ?_
    obtain ⟨v_20, e_20, h⟩ := bs h
    refine r_callV C (ci := 0) (st := []) (st2 := [.ref ((xG X).1 v_20)]) (q := 23) (m_X0_keyAt (xG X) (xl X) (kf_X5_0 hx0) e_20) ok_X0_keyAt (kf_X5_0 hx0) rfl ⟨_, rfl⟩ q_329 rfl ⟨Nat.le_of_ble_eq_true rfl, Nat.le_of_ble_eq_true rfl⟩ rfl rfl (Nat.le_of_ble_eq_true rfl) dX5_renew_20 rfl (fun hp_20 => ?_)
    refine r_astore_n C (lv' := [(2, .ref ((xG X).1 v_20)), (0, .ref ((xG X).1 x0)), (1, .int x1)]) (q := 24) dX5_renew_23 rfl (by decide) rfl rfl ?_
    refine r_aload_n C 1 (q := 25) dX5_renew_24 rfl rfl ?_
    refine g_X5_0 C (q := 28) dX5_renew_25 q_203 hx0 rfl ?_
    refine r_aload_n C 0 (q := 29) dX5_renew_28 rfl rfl ?_
    refine r_aload_n C 0 (q := 30) dX5_renew_29 rfl rfl ?_
    refine g_X1_3 C (q := 33) dX5_renew_30 q_50 hp_20 rfl ?_
    obtain ⟨v_33, e_33, h⟩ := bs h
    refine r_callV C (ci := 0) (st := []) (st2 := [.int v_33]) (q := 36) (m_X0_breaks (xG X) (xl X) (kf_X5_0 hx0) hp_20 (kf_X1_3 hp_20) e_33) ok_X0_breaks (kf_X5_0 hx0) rfl ⟨_, rfl⟩ q_643 rfl ⟨Nat.le_of_ble_eq_true rfl, Nat.le_of_ble_eq_true rfl⟩ rfl rfl (Nat.le_of_ble_eq_true rfl) dX5_renew_33 rfl (fun hp_33 => ?_)
    refine r_if_ne C (tgt := 46) (q := 39) dX5_renew_36 (by decide) rfl (fun c_36 => ?_) (fun c_36 => ?_)
    · replace h := (if_neg c_36).symm.trans h
      refine r_aload_n C 0 (q := 47) dX5_renew_46 rfl rfl ?_
      refine g_X1_0 C (q := 50) dX5_renew_47 q_40 hp_20 rfl ?_
      obtain ⟨y_50, e_50, h⟩ := bs h
      refine r_topI (Option.some.inj e_50) ?_
      refine r_istore_n C (lv' := [(3, .int y_50), (2, .ref ((xG X).1 v_20)), (0, .ref ((xG X).1 x0)), (1, .int x1)]) (q := 51) dX5_renew_50 rfl (by decide) rfl rfl ?_
      refine r_aload_n C 1 (q := 52) dX5_renew_51 rfl rfl ?_
      refine r_iconst C (v := 0) (q := 53) dX5_renew_52 (by decide) rfl ?_
      obtain ⟨s_53, e_53, h⟩ := bs h
      refine p_X1_0 C (q := 56) dX5_renew_53 q_40 hp_20 e_53 rfl ?_
      refine r_aload_n C 1 (q := 57) dX5_renew_56 rfl rfl ?_
      refine g_X1_3 C (q := 60) dX5_renew_57 q_50 hp_20 rfl ?_
      refine r_iconst C (v := 0) (q := 61) dX5_renew_60 (by decide) rfl ?_
      obtain ⟨s_61, e_61, h⟩ := bs h
      refine r_callS C (st := []) (st2 := []) (q := 64) (m_J7_fill_53178 (xG X) (xl X) (kf_X1_3 hp_20) e_61) ok_J7_fill_53178 q_946 rfl ⟨Nat.le_of_ble_eq_true rfl, Nat.le_of_ble_eq_true rfl⟩ rfl rfl (Nat.le_of_ble_eq_true rfl) dX5_renew_61 rfl (fun hp_61 => ?_)
      refine r_iload_n C 0 (q := 65) dX5_renew_64 rfl rfl ?_
      obtain ⟨rfl, rfl⟩ := Prod.mk.inj (Option.some.inj h)
      exact hr _ _ dX5_renew_65
    · replace h := (if_pos c_36).symm.trans h
      refine r_aload_n C 1 (q := 40) dX5_renew_39 rfl rfl ?_
      refine r_bipush C (v := (-5)) (q := 42) dX5_renew_40 (by decide) rfl ?_
      obtain ⟨v_42, s_42, e_42, h⟩ := bs2 h
      refine r_callV C (ci := 5) (st := []) (st2 := [.int v_42]) (q := 45) (m_X5_refuse (xG X) (xl X) hx0 e_42) ok_X5_refuse hx0 rfl ⟨_, rfl⟩ q_242 rfl ⟨Nat.le_of_ble_eq_true rfl, Nat.le_of_ble_eq_true rfl⟩ rfl rfl (Nat.le_of_ble_eq_true rfl) dX5_renew_42 rfl (fun hp_42 => ?_)
      obtain ⟨rfl, rfl⟩ := Prod.mk.inj (Option.some.inj h)
      exact hr _ _ dX5_renew_45
  · replace h := (if_pos c_5).symm.trans h
    refine r_aload_n C 0 (q := 9) dX5_renew_8 rfl rfl ?_
    refine r_bipush C (v := (-2)) (q := 11) dX5_renew_9 (by decide) rfl ?_
    obtain ⟨v_11, s_11, e_11, h⟩ := bs2 h
    refine r_callV C (ci := 5) (st := []) (st2 := [.int v_11]) (q := 14) (m_X5_refuse (xG X) (xl X) hx0 e_11) ok_X5_refuse hx0 rfl ⟨_, rfl⟩ q_242 rfl ⟨Nat.le_of_ble_eq_true rfl, Nat.le_of_ble_eq_true rfl⟩ rfl rfl (Nat.le_of_ble_eq_true rfl) dX5_renew_11 rfl (fun hp_11 => ?_)
    obtain ⟨rfl, rfl⟩ := Prod.mk.inj (Option.some.inj h)
    exact hr _ _ dX5_renew_14

theorem m_X5_renew (G : Gm) (l : Launch) {σ σ' : St} {x0 : Nat} {x1 : Int32} (hx0 : kd x0 = 6) {r : Int32} (h : f_X5_renew σ x0 x1 = some (r, σ')) : Ctr G l yX5_renew cX5_renew 4 (some .int) 2 45 [.ref (G.1 x0), .int x1] σ (some (.int r)) True σ' := by
  refine Ctr.i (by decide) (Nat.le_of_ble_eq_true rfl) ?_
  intro X hG C hr
  subst hG
  exact w_X5_renew_b0 C hr _ _ _ hx0 h
-- X5_mend
set_option maxHeartbeats 4000000 in
set_option maxRecDepth 100000 in
theorem w_X5_mend_b0 {X : CX} (C : Cok X RX5 cX5_mend 2 6 142) {σ' : St} {r : Int32} (hr : RtI X cX5_mend r σ') (σ : St) (x0 : Nat) (hx0 : kd x0 = 6) (h : f_X5_mend σ x0 = some (r, σ')) : V X σ 0 [(0, .ref ((xG X).1 x0))] [] := by
  unfold f_X5_mend at h
  refine r_aload_n C 0 (q := 1) dX5_mend_0 rfl rfl ?_
  refine g_X5_3 C (q := 4) dX5_mend_1 q_206 hx0 rfl ?_
  obtain ⟨s_4, e_4, h⟩ := bs h
  refine r_callV C (ci := 4) (st := []) (st2 := []) (q := 7) (m_X4_planMending (xG X) (xl X) (kf_X5_3 hx0) e_4) ok_X4_planMending (kf_X5_3 hx0) rfl ⟨_, rfl⟩ q_792 rfl ⟨Nat.le_of_ble_eq_true rfl, Nat.le_of_ble_eq_true rfl⟩ rfl rfl (Nat.le_of_ble_eq_true rfl) dX5_mend_4 rfl (fun hp_4 => ?_)
  refine r_aload_n C 0 (q := 8) dX5_mend_7 rfl rfl ?_
  refine g_X5_3 C (q := 11) dX5_mend_8 q_206 hx0 rfl ?_
  obtain ⟨s_11, e_11, h⟩ := bs h
  refine r_callV C (ci := 4) (st := []) (st2 := []) (q := 14) (m_X4_doMending (xG X) (xl X) (kf_X5_3 hx0) e_11) ok_X4_doMending (kf_X5_3 hx0) rfl ⟨_, rfl⟩ q_951 rfl ⟨Nat.le_of_ble_eq_true rfl, Nat.le_of_ble_eq_true rfl⟩ rfl rfl (Nat.le_of_ble_eq_true rfl) dX5_mend_11 rfl (fun hp_11 => ?_)
  refine r_aload_n C 0 (q := 15) dX5_mend_14 rfl rfl ?_
  refine g_X5_3 C (q := 18) dX5_mend_15 q_206 hx0 rfl ?_
  obtain ⟨v_18, e_18, h⟩ := bs h
  refine r_callV C (ci := 4) (st := []) (st2 := [.int v_18]) (q := 21) (m_X4_mendingCoins (xG X) (xl X) (kf_X5_3 hx0) e_18) ok_X4_mendingCoins (kf_X5_3 hx0) rfl ⟨_, rfl⟩ q_806 rfl ⟨Nat.le_of_ble_eq_true rfl, Nat.le_of_ble_eq_true rfl⟩ rfl rfl (Nat.le_of_ble_eq_true rfl) dX5_mend_18 rfl (fun hp_18 => ?_)
  refine r_istore_n C (lv' := [(1, .int v_18), (0, .ref ((xG X).1 x0))]) (q := 22) dX5_mend_21 rfl (by decide) rfl rfl ?_
  refine r_aload_n C 1 (q := 23) dX5_mend_22 rfl rfl ?_
  refine g_X5_0 C (q := 26) dX5_mend_23 q_203 hx0 rfl ?_
  refine r_dup C (q := 27) dX5_mend_26 rfl rfl ?_
  refine g_X0_3 C (q := 30) dX5_mend_27 q_74 (kf_X5_0 hx0) rfl ?_
  refine r_iload_n C 0 (q := 31) dX5_mend_30 rfl rfl ?_
  refine r_iadd C (q := 32) dX5_mend_31 rfl ?_
  obtain ⟨s_32, e_32, h⟩ := bs h
  refine p_X0_3 C (q := 35) dX5_mend_32 q_74 (kf_X5_0 hx0) e_32 rfl ?_
  refine r_iload_n C 0 (q := 36) dX5_mend_35 rfl rfl ?_
  obtain ⟨rfl, rfl⟩ := Prod.mk.inj (Option.some.inj h)
  exact hr _ _ dX5_mend_36

theorem m_X5_mend (G : Gm) (l : Launch) {σ σ' : St} {x0 : Nat} (hx0 : kd x0 = 6) {r : Int32} (h : f_X5_mend σ x0 = some (r, σ')) : Ctr G l yX5_mend cX5_mend 2 (some .int) 6 142 [.ref (G.1 x0)] σ (some (.int r)) True σ' := by
  refine Ctr.i (by decide) (Nat.le_of_ble_eq_true rfl) ?_
  intro X hG C hr
  subst hG
  exact w_X5_mend_b0 C hr _ _ hx0 h
-- X5_seed
set_option maxHeartbeats 4000000 in
set_option maxRecDepth 100000 in
theorem w_X5_seed_b0 {X : CX} (C : Cok X RX5 cX5_seed 3 0 0) {σ' : St} {r : Int32} (hr : RtI X cX5_seed r σ') (σ : St) (x0 : Nat) (x1 : Int32) (hx0 : kd x0 = 6) (h : f_X5_seed σ x0 x1 = some (r, σ')) : V X σ 0 [(0, .ref ((xG X).1 x0)), (1, .int x1)] [] := by
  unfold f_X5_seed at h
  refine r_aload_n C 0 (q := 1) dX5_seed_0 rfl rfl ?_
  refine g_X5_0 C (q := 4) dX5_seed_1 q_203 hx0 rfl ?_
  refine g_X0_4 C (q := 7) dX5_seed_4 q_76 (kf_X5_0 hx0) rfl ?_
  obtain ⟨y_7, e_7, h⟩ := bs h
  refine r_topI (Option.some.inj e_7) ?_
  refine r_istore_n C (lv' := [(2, .int y_7), (0, .ref ((xG X).1 x0)), (1, .int x1)]) (q := 8) dX5_seed_7 rfl (by decide) rfl rfl ?_
  refine r_aload_n C 1 (q := 9) dX5_seed_8 rfl rfl ?_
  refine g_X5_0 C (q := 12) dX5_seed_9 q_203 hx0 rfl ?_
  refine r_iload_n C 2 (q := 13) dX5_seed_12 rfl rfl ?_
  obtain ⟨s_13, e_13, h⟩ := bs h
  refine p_X0_4 C (q := 16) dX5_seed_13 q_76 (kf_X5_0 hx0) e_13 rfl ?_
  refine r_iload_n C 0 (q := 17) dX5_seed_16 rfl rfl ?_
  obtain ⟨rfl, rfl⟩ := Prod.mk.inj (Option.some.inj h)
  exact hr _ _ dX5_seed_17

theorem m_X5_seed (G : Gm) (l : Launch) {σ σ' : St} {x0 : Nat} {x1 : Int32} (hx0 : kd x0 = 6) {r : Int32} (h : f_X5_seed σ x0 x1 = some (r, σ')) : Ctr G l yX5_seed cX5_seed 3 (some .int) 0 0 [.ref (G.1 x0), .int x1] σ (some (.int r)) True σ' := by
  refine Ctr.i (by decide) (Nat.le_of_ble_eq_true rfl) ?_
  intro X hG C hr
  subst hG
  exact w_X5_seed_b0 C hr _ _ _ hx0 h
-- X5_image
set_option maxHeartbeats 4000000 in
set_option maxRecDepth 100000 in
theorem w_X5_image_b0 {X : CX} (C : Cok X RX5 cX5_image 1 3 69) {σ' : St} {r : Int32} (hr : RtI X cX5_image r σ') (σ : St) (x0 : Nat) (hx0 : kd x0 = 6) (h : f_X5_image σ x0 = some (r, σ')) : V X σ 0 [(0, .ref ((xG X).1 x0))] [] := by
  unfold f_X5_image at h
  refine r_aload_n C 0 (q := 1) dX5_image_0 rfl rfl ?_
  refine g_X5_1 C (q := 4) dX5_image_1 q_204 hx0 rfl ?_
  refine r_aload_n C 0 (q := 5) dX5_image_4 rfl rfl ?_
  refine g_X5_0 C (q := 8) dX5_image_5 q_203 hx0 rfl ?_
  obtain ⟨s_8, e_8, h⟩ := bs h
  refine r_callV C (ci := 0) (st := []) (st2 := []) (q := 11) (m_X0_take (xG X) (xl X) (kf_X5_1 hx0) (kf_X5_0 hx0) e_8) ok_X0_take (kf_X5_1 hx0) rfl ⟨_, rfl⟩ q_499 rfl ⟨Nat.le_of_ble_eq_true rfl, Nat.le_of_ble_eq_true rfl⟩ rfl rfl (Nat.le_of_ble_eq_true rfl) dX5_image_8 rfl (fun hp_8 => ?_)
  refine r_aload_n C 0 (q := 12) dX5_image_11 rfl rfl ?_
  refine r_iconst C (v := 1) (q := 13) dX5_image_12 (by decide) rfl ?_
  obtain ⟨s_13, e_13, h⟩ := bs h
  refine p_X5_8 C (q := 16) dX5_image_13 q_211 hx0 e_13 (Or.inr rfl) rfl ?_
  refine r_iconst C (v := 1) (q := 17) dX5_image_16 (by decide) rfl ?_
  obtain ⟨rfl, rfl⟩ := Prod.mk.inj (Option.some.inj h)
  exact hr _ _ dX5_image_17

theorem m_X5_image (G : Gm) (l : Launch) {σ σ' : St} {x0 : Nat} (hx0 : kd x0 = 6) {r : Int32} (h : f_X5_image σ x0 = some (r, σ')) : Ctr G l yX5_image cX5_image 1 (some .int) 3 69 [.ref (G.1 x0)] σ (some (.int r)) True σ' := by
  refine Ctr.i (by decide) (Nat.le_of_ble_eq_true rfl) ?_
  intro X hG C hr
  subst hG
  exact w_X5_image_b0 C hr _ _ hx0 h
-- X5_back
set_option maxHeartbeats 4000000 in
set_option maxRecDepth 100000 in
theorem w_X5_back_b27 {X : CX} (C : Cok X RX5 cX5_back 2 3 69) {σ' : St} {r : Int32} (hr : RtI X cX5_back r σ') (k_27 : St → Nat → Int32 → Option (Int32 × St)) (hk_27 : ∀ (σ : St) (x0 : Nat) (x1 : Int32), kd x0 = 6 → k_27 σ x0 x1 = some (r, σ') → V X σ 27 [(0, .ref ((xG X).1 x0)), (1, .int x1)] []) (σ : St) (x0 : Nat) (x1 : Int32) (hx0 : kd x0 = 6) (h : f_X5_back_b27 k_27 σ x0 x1 = some (r, σ')) : V X σ 27 [(0, .ref ((xG X).1 x0)), (1, .int x1)] [] := by
  unfold f_X5_back_b27 at h
  refine r_iload_n C 1 (q := 28) dX5_back_27 rfl rfl ?_
  refine r_bipush C (v := 8) (q := 30) dX5_back_28 (by decide) rfl ?_
  refine r_icmp_ge C (tgt := 54) (q := 33) dX5_back_30 (by decide) rfl (fun c_30 => ?_) (fun c_30 => ?_)
  · replace h := (if_pos c_30).symm.trans h
    refine r_iconst C (v := 1) (q := 55) dX5_back_54 (by decide) rfl ?_
    obtain ⟨rfl, rfl⟩ := Prod.mk.inj (Option.some.inj h)
    exact hr _ _ dX5_back_55
  · replace h := (if_neg c_30).symm.trans h
    refine r_aload_n C 0 (q := 34) dX5_back_33 rfl rfl ?_
    refine r_iload_n C 1 (q := 35) dX5_back_34 rfl rfl ?_
    obtain ⟨v_35, e_35, h⟩ := bs h
    refine r_callV C (ci := 5) (st := []) (st2 := [.ref ((xG X).1 v_35)]) (q := 38) (m_X5_shelfAt (xG X) (xl X) hx0 e_35) ok_X5_shelfAt hx0 rfl ⟨_, rfl⟩ q_252 rfl ⟨Nat.le_of_ble_eq_true rfl, Nat.le_of_ble_eq_true rfl⟩ rfl rfl (Nat.le_of_ble_eq_true rfl) dX5_back_35 rfl (fun hp_35 => ?_)
    refine r_aload_n C 0 (q := 39) dX5_back_38 rfl rfl ?_
    refine g_X5_0 C (q := 42) dX5_back_39 q_203 hx0 rfl ?_
    refine g_X0_5 C (q := 45) dX5_back_42 q_80 (kf_X5_0 hx0) rfl ?_
    obtain ⟨s_45, e_45, h⟩ := bs h
    refine r_callV C (ci := 2) (st := []) (st2 := []) (q := 48) (m_X2_dropKeysFrom (xG X) (xl X) hp_35 e_45) ok_X2_dropKeysFrom hp_35 rfl ⟨_, rfl⟩ q_967 rfl ⟨Nat.le_of_ble_eq_true rfl, Nat.le_of_ble_eq_true rfl⟩ rfl rfl (Nat.le_of_ble_eq_true rfl) dX5_back_45 rfl (fun hp_45 => ?_)
    obtain ⟨y_48, e_48, h⟩ := bs h
    refine r_iinc C (v := y_48) (lv' := [(1, .int y_48), (0, .ref ((xG X).1 x0))]) (q := 51) 1 dX5_back_48 rfl (Option.some.inj e_48) (by decide) rfl rfl ?_
    refine r_goto C (tgt := 27) dX5_back_51 (by decide) ?_
    refine r_sub (lv' := [(0, .ref ((xG X).1 x0)), (1, .int y_48)]) [1, 0] rfl ?_
    exact hk_27 _ _ _ hx0 h

theorem w_X5_back_l27 {X : CX} (C : Cok X RX5 cX5_back 2 3 69) {σ' : St} {r : Int32} (hr : RtI X cX5_back r σ') (n : Nat) : ∀ (σ : St) (x0 : Nat) (x1 : Int32), kd x0 = 6 → f_X5_back_l27 n σ x0 x1 = some (r, σ') → V X σ 27 [(0, .ref ((xG X).1 x0)), (1, .int x1)] [] := by
  induction n with
  | zero =>
    intro σ x0 x1 hx0 h
    exact nomatch (show (none : Option (Int32 × St)) = some (r, σ') from h)
  | succ n ih =>
    intro σ x0 x1 hx0 h
    exact w_X5_back_b27 C hr _ ih σ x0 x1 hx0 h
set_option maxHeartbeats 4000000 in
set_option maxRecDepth 100000 in
theorem w_X5_back_b0 {X : CX} (C : Cok X RX5 cX5_back 2 3 69) {σ' : St} {r : Int32} (hr : RtI X cX5_back r σ') (σ : St) (x0 : Nat) (hx0 : kd x0 = 6) (h : f_X5_back σ x0 = some (r, σ')) : V X σ 0 [(0, .ref ((xG X).1 x0))] [] := by
  unfold f_X5_back at h
  refine r_aload_n C 0 (q := 1) dX5_back_0 rfl rfl ?_
  refine g_X5_8 C (q := 4) dX5_back_1 q_211 hx0 rfl ?_
  refine r_if_ne C (tgt := 14) (q := 7) dX5_back_4 (by decide) rfl (fun c_4 => ?_) (fun c_4 => ?_)
  · replace h := (if_neg c_4).symm.trans h
    refine r_aload_n C 0 (q := 15) dX5_back_14 rfl rfl ?_
    refine g_X5_0 C (q := 18) dX5_back_15 q_203 hx0 rfl ?_
    refine r_aload_n C 0 (q := 19) dX5_back_18 rfl rfl ?_
    refine g_X5_1 C (q := 22) dX5_back_19 q_204 hx0 rfl ?_
    obtain ⟨s_22, e_22, h⟩ := bs h
    refine r_callV C (ci := 0) (st := []) (st2 := []) (q := 25) (m_X0_take (xG X) (xl X) (kf_X5_0 hx0) (kf_X5_1 hx0) e_22) ok_X0_take (kf_X5_0 hx0) rfl ⟨_, rfl⟩ q_499 rfl ⟨Nat.le_of_ble_eq_true rfl, Nat.le_of_ble_eq_true rfl⟩ rfl rfl (Nat.le_of_ble_eq_true rfl) dX5_back_22 rfl (fun hp_22 => ?_)
    refine r_iconst C (v := 0) (q := 26) dX5_back_25 (by decide) rfl ?_
    refine r_istore_n C (lv' := [(1, .int 0), (0, .ref ((xG X).1 x0))]) (q := 27) dX5_back_26 rfl (by decide) rfl rfl ?_
    refine r_sub (lv' := [(0, .ref ((xG X).1 x0)), (1, .int 0)]) [1, 0] rfl ?_
    exact w_X5_back_l27 C hr  FU _ _ _ hx0 h
  · replace h := (if_pos c_4).symm.trans h
    refine r_aload_n C 0 (q := 8) dX5_back_7 rfl rfl ?_
    refine r_bipush C (v := (-5)) (q := 10) dX5_back_8 (by decide) rfl ?_
    obtain ⟨v_10, s_10, e_10, h⟩ := bs2 h
    refine r_callV C (ci := 5) (st := []) (st2 := [.int v_10]) (q := 13) (m_X5_refuse (xG X) (xl X) hx0 e_10) ok_X5_refuse hx0 rfl ⟨_, rfl⟩ q_242 rfl ⟨Nat.le_of_ble_eq_true rfl, Nat.le_of_ble_eq_true rfl⟩ rfl rfl (Nat.le_of_ble_eq_true rfl) dX5_back_10 rfl (fun hp_10 => ?_)
    obtain ⟨rfl, rfl⟩ := Prod.mk.inj (Option.some.inj h)
    exact hr _ _ dX5_back_13

theorem m_X5_back (G : Gm) (l : Launch) {σ σ' : St} {x0 : Nat} (hx0 : kd x0 = 6) {r : Int32} (h : f_X5_back σ x0 = some (r, σ')) : Ctr G l yX5_back cX5_back 2 (some .int) 3 69 [.ref (G.1 x0)] σ (some (.int r)) True σ' := by
  refine Ctr.i (by decide) (Nat.le_of_ble_eq_true rfl) ?_
  intro X hG C hr
  subst hG
  exact w_X5_back_b0 C hr _ _ hx0 h
-- X5_shelvesInUse
set_option maxHeartbeats 4000000 in
set_option maxRecDepth 100000 in
theorem w_X5_shelvesInUse_b25 {X : CX} (C : Cok X RX5 cX5_shelvesInUse 3 1 21) {σ : St} {r : Int32} (hr : RtI X cX5_shelvesInUse r σ) (k_4 : Nat → Int32 → Int32 → Option Int32) (hk_4 : ∀ (x0 : Nat) (x1 : Int32) (x2 : Int32), kd x0 = 6 → k_4 x0 x1 x2 = some r → V X σ 4 [(0, .ref ((xG X).1 x0)), (1, .int x1), (2, .int x2)] []) (x0 : Nat) (x1 : Int32) (x2 : Int32) (hx0 : kd x0 = 6) (h : f_X5_shelvesInUse_b25 σ k_4 x0 x1 x2 = some r) : V X σ 25 [(0, .ref ((xG X).1 x0)), (1, .int x1), (2, .int x2)] [] := by
  unfold f_X5_shelvesInUse_b25 at h
  obtain ⟨y_25, e_25, h⟩ := bs h
  refine r_iinc C (v := y_25) (lv' := [(2, .int y_25), (0, .ref ((xG X).1 x0)), (1, .int x1)]) (q := 28) 2 dX5_shelvesInUse_25 rfl (Option.some.inj e_25) (by decide) rfl rfl ?_
  refine r_goto C (tgt := 4) dX5_shelvesInUse_28 (by decide) ?_
  refine r_sub (lv' := [(0, .ref ((xG X).1 x0)), (1, .int x1), (2, .int y_25)]) [1, 2, 0] rfl ?_
  exact hk_4 _ _ _ hx0 h

set_option maxHeartbeats 4000000 in
set_option maxRecDepth 100000 in
theorem w_X5_shelvesInUse_b4 {X : CX} (C : Cok X RX5 cX5_shelvesInUse 3 1 21) {σ : St} {r : Int32} (hr : RtI X cX5_shelvesInUse r σ) (k_4 : Nat → Int32 → Int32 → Option Int32) (hk_4 : ∀ (x0 : Nat) (x1 : Int32) (x2 : Int32), kd x0 = 6 → k_4 x0 x1 x2 = some r → V X σ 4 [(0, .ref ((xG X).1 x0)), (1, .int x1), (2, .int x2)] []) (x0 : Nat) (x1 : Int32) (x2 : Int32) (hx0 : kd x0 = 6) (h : f_X5_shelvesInUse_b4 σ k_4 x0 x1 x2 = some r) : V X σ 4 [(0, .ref ((xG X).1 x0)), (1, .int x1), (2, .int x2)] [] := by
  unfold f_X5_shelvesInUse_b4 at h
  refine r_iload_n C 2 (q := 5) dX5_shelvesInUse_4 rfl rfl ?_
  refine r_bipush C (v := 8) (q := 7) dX5_shelvesInUse_5 (by decide) rfl ?_
  refine r_icmp_ge C (tgt := 31) (q := 10) dX5_shelvesInUse_7 (by decide) rfl (fun c_7 => ?_) (fun c_7 => ?_)
  · replace h := (if_pos c_7).symm.trans h
    refine r_iload_n C 1 (q := 32) dX5_shelvesInUse_31 rfl rfl ?_
    obtain rfl := Option.some.inj h
    exact hr _ _ dX5_shelvesInUse_32
  · replace h := (if_neg c_7).symm.trans h
    refine r_aload_n C 0 (q := 11) dX5_shelvesInUse_10 rfl rfl ?_
    refine r_iload_n C 2 (q := 12) dX5_shelvesInUse_11 rfl rfl ?_
    obtain ⟨v_12, e_12, h⟩ := bs h
    refine r_callV C (ci := 5) (st := []) (st2 := [.ref ((xG X).1 v_12)]) (q := 15) (m_X5_shelfAt (xG X) (xl X) hx0 e_12) ok_X5_shelfAt hx0 rfl ⟨_, rfl⟩ q_252 rfl ⟨Nat.le_of_ble_eq_true rfl, Nat.le_of_ble_eq_true rfl⟩ rfl rfl (Nat.le_of_ble_eq_true rfl) dX5_shelvesInUse_12 rfl (fun hp_12 => ?_)
    refine g_X2_0 C (q := 18) dX5_shelvesInUse_15 q_190 hp_12 rfl ?_
    refine r_iconst C (v := (-1)) (q := 19) dX5_shelvesInUse_18 (by decide) rfl ?_
    refine r_icmp_eq C (tgt := 25) (q := 22) dX5_shelvesInUse_19 (by decide) rfl (fun c_19 => ?_) (fun c_19 => ?_)
    · replace h := (if_pos c_19).symm.trans h
      exact w_X5_shelvesInUse_b25 C hr _ hk_4 _ _ _ hx0 h
    · replace h := (if_neg c_19).symm.trans h
      obtain ⟨y_22, e_22, h⟩ := bs h
      refine r_iinc C (v := y_22) (lv' := [(1, .int y_22), (0, .ref ((xG X).1 x0)), (2, .int x2)]) (q := 25) 1 dX5_shelvesInUse_22 rfl (Option.some.inj e_22) (by decide) rfl rfl ?_
      refine r_sub (lv' := [(0, .ref ((xG X).1 x0)), (1, .int y_22), (2, .int x2)]) [1, 0, 2] rfl ?_
      exact w_X5_shelvesInUse_b25 C hr _ hk_4 _ _ _ hx0 h

theorem w_X5_shelvesInUse_l4 {X : CX} (C : Cok X RX5 cX5_shelvesInUse 3 1 21) {σ : St} {r : Int32} (hr : RtI X cX5_shelvesInUse r σ) (n : Nat) : ∀ (x0 : Nat) (x1 : Int32) (x2 : Int32), kd x0 = 6 → f_X5_shelvesInUse_l4 σ n x0 x1 x2 = some r → V X σ 4 [(0, .ref ((xG X).1 x0)), (1, .int x1), (2, .int x2)] [] := by
  induction n with
  | zero =>
    intro x0 x1 x2 hx0 h
    exact nomatch (show (none : Option Int32) = some r from h)
  | succ n ih =>
    intro x0 x1 x2 hx0 h
    exact w_X5_shelvesInUse_b4 C hr _ ih x0 x1 x2 hx0 h
set_option maxHeartbeats 4000000 in
set_option maxRecDepth 100000 in
theorem w_X5_shelvesInUse_b0 {X : CX} (C : Cok X RX5 cX5_shelvesInUse 3 1 21) {σ : St} {r : Int32} (hr : RtI X cX5_shelvesInUse r σ) (x0 : Nat) (hx0 : kd x0 = 6) (h : f_X5_shelvesInUse σ x0 = some r) : V X σ 0 [(0, .ref ((xG X).1 x0))] [] := by
  unfold f_X5_shelvesInUse at h
  refine r_iconst C (v := 0) (q := 1) dX5_shelvesInUse_0 (by decide) rfl ?_
  refine r_istore_n C (lv' := [(1, .int 0), (0, .ref ((xG X).1 x0))]) (q := 2) dX5_shelvesInUse_1 rfl (by decide) rfl rfl ?_
  refine r_iconst C (v := 0) (q := 3) dX5_shelvesInUse_2 (by decide) rfl ?_
  refine r_istore_n C (lv' := [(2, .int 0), (1, .int 0), (0, .ref ((xG X).1 x0))]) (q := 4) dX5_shelvesInUse_3 rfl (by decide) rfl rfl ?_
  refine r_sub (lv' := [(0, .ref ((xG X).1 x0)), (1, .int 0), (2, .int 0)]) [2, 1, 0] rfl ?_
  exact w_X5_shelvesInUse_l4 C hr  FU _ _ _ hx0 h

theorem m_X5_shelvesInUse (G : Gm) (l : Launch) {σ : St} {x0 : Nat} (hx0 : kd x0 = 6) {r : Int32} (h : f_X5_shelvesInUse σ x0 = some r) : Ctr G l yX5_shelvesInUse cX5_shelvesInUse 3 (some .int) 1 21 [.ref (G.1 x0)] σ (some (.int r)) True σ := by
  refine Ctr.i (by decide) (Nat.le_of_ble_eq_true rfl) ?_
  intro X hG C hr
  subst hG
  exact w_X5_shelvesInUse_b0 C hr _ hx0 h
-- X5_status
set_option maxHeartbeats 4000000 in
set_option maxRecDepth 100000 in
theorem w_X5_status_b0 {X : CX} (C : Cok X RX5 cX5_status 2 3 67) {σ : St} {r : Int32} (hr : RtI X cX5_status r σ) (x0 : Nat) (x1 : Int32) (hx0 : kd x0 = 6) (h : f_X5_status σ x0 x1 = some r) : V X σ 0 [(0, .ref ((xG X).1 x0)), (1, .int x1)] [] := by
  unfold f_X5_status at h
  refine r_iload_n C 1 (q := 1) dX5_status_0 rfl rfl ?_
  by_cases c_1_0 : x1 = 0
  · replace h := (if_pos c_1_0).symm.trans h
    refine r_tabIn C (tgt := 60) (off := 59) dX5_status_1 (by rw [c_1_0]; decide) (by rw [c_1_0]; decide) (by rw [c_1_0]; rfl) (by decide) ?_
    refine r_aload_n C 0 (q := 61) dX5_status_60 rfl rfl ?_
    refine g_X5_0 C (q := 64) dX5_status_61 q_203 hx0 rfl ?_
    refine g_X0_5 C (q := 67) dX5_status_64 q_80 (kf_X5_0 hx0) rfl ?_
    obtain rfl := Option.some.inj h
    exact hr _ _ dX5_status_67
  · replace h := (if_neg c_1_0).symm.trans h
    by_cases c_1_1 : x1 = 1
    · replace h := (if_pos c_1_1).symm.trans h
      refine r_tabIn C (tgt := 68) (off := 67) dX5_status_1 (by rw [c_1_1]; decide) (by rw [c_1_1]; decide) (by rw [c_1_1]; rfl) (by decide) ?_
      refine r_aload_n C 0 (q := 69) dX5_status_68 rfl rfl ?_
      refine g_X5_0 C (q := 72) dX5_status_69 q_203 hx0 rfl ?_
      refine g_X0_6 C (q := 75) dX5_status_72 q_84 (kf_X5_0 hx0) rfl ?_
      obtain rfl := Option.some.inj h
      exact hr _ _ dX5_status_75
    · replace h := (if_neg c_1_1).symm.trans h
      by_cases c_1_2 : x1 = 2
      · replace h := (if_pos c_1_2).symm.trans h
        refine r_tabIn C (tgt := 76) (off := 75) dX5_status_1 (by rw [c_1_2]; decide) (by rw [c_1_2]; decide) (by rw [c_1_2]; rfl) (by decide) ?_
        refine r_aload_n C 0 (q := 77) dX5_status_76 rfl rfl ?_
        refine g_X5_0 C (q := 80) dX5_status_77 q_203 hx0 rfl ?_
        refine g_X0_0 C (q := 83) dX5_status_80 q_65 (kf_X5_0 hx0) rfl ?_
        obtain rfl := Option.some.inj h
        exact hr _ _ dX5_status_83
      · replace h := (if_neg c_1_2).symm.trans h
        by_cases c_1_3 : x1 = 3
        · replace h := (if_pos c_1_3).symm.trans h
          refine r_tabIn C (tgt := 84) (off := 83) dX5_status_1 (by rw [c_1_3]; decide) (by rw [c_1_3]; decide) (by rw [c_1_3]; rfl) (by decide) ?_
          refine r_aload_n C 0 (q := 85) dX5_status_84 rfl rfl ?_
          refine g_X5_0 C (q := 88) dX5_status_85 q_203 hx0 rfl ?_
          refine g_X0_1 C (q := 91) dX5_status_88 q_68 (kf_X5_0 hx0) rfl ?_
          obtain rfl := Option.some.inj h
          exact hr _ _ dX5_status_91
        · replace h := (if_neg c_1_3).symm.trans h
          by_cases c_1_4 : x1 = 4
          · replace h := (if_pos c_1_4).symm.trans h
            refine r_tabIn C (tgt := 92) (off := 91) dX5_status_1 (by rw [c_1_4]; decide) (by rw [c_1_4]; decide) (by rw [c_1_4]; rfl) (by decide) ?_
            refine r_aload_n C 0 (q := 93) dX5_status_92 rfl rfl ?_
            refine g_X5_0 C (q := 96) dX5_status_93 q_203 hx0 rfl ?_
            refine g_X0_2 C (q := 99) dX5_status_96 q_72 (kf_X5_0 hx0) rfl ?_
            obtain rfl := Option.some.inj h
            exact hr _ _ dX5_status_99
          · replace h := (if_neg c_1_4).symm.trans h
            by_cases c_1_5 : x1 = 5
            · replace h := (if_pos c_1_5).symm.trans h
              refine r_tabIn C (tgt := 100) (off := 99) dX5_status_1 (by rw [c_1_5]; decide) (by rw [c_1_5]; decide) (by rw [c_1_5]; rfl) (by decide) ?_
              refine r_aload_n C 0 (q := 101) dX5_status_100 rfl rfl ?_
              refine g_X5_0 C (q := 104) dX5_status_101 q_203 hx0 rfl ?_
              refine g_X0_3 C (q := 107) dX5_status_104 q_74 (kf_X5_0 hx0) rfl ?_
              obtain rfl := Option.some.inj h
              exact hr _ _ dX5_status_107
            · replace h := (if_neg c_1_5).symm.trans h
              by_cases c_1_6 : x1 = 6
              · replace h := (if_pos c_1_6).symm.trans h
                refine r_tabIn C (tgt := 108) (off := 107) dX5_status_1 (by rw [c_1_6]; decide) (by rw [c_1_6]; decide) (by rw [c_1_6]; rfl) (by decide) ?_
                refine r_aload_n C 0 (q := 109) dX5_status_108 rfl rfl ?_
                refine g_X5_0 C (q := 112) dX5_status_109 q_203 hx0 rfl ?_
                obtain ⟨v_112, e_112, h⟩ := bs h
                refine r_callV C (ci := 0) (st := []) (st2 := [.int v_112]) (q := 115) (m_X0_brokenKeys (xG X) (xl X) (kf_X5_0 hx0) e_112) ok_X0_brokenKeys (kf_X5_0 hx0) rfl ⟨_, rfl⟩ q_975 rfl ⟨Nat.le_of_ble_eq_true rfl, Nat.le_of_ble_eq_true rfl⟩ rfl rfl (Nat.le_of_ble_eq_true rfl) dX5_status_112 rfl (fun hp_112 => ?_)
                obtain rfl := Option.some.inj h
                exact hr _ _ dX5_status_115
              · replace h := (if_neg c_1_6).symm.trans h
                by_cases c_1_7 : x1 = 7
                · replace h := (if_pos c_1_7).symm.trans h
                  refine r_tabIn C (tgt := 116) (off := 115) dX5_status_1 (by rw [c_1_7]; decide) (by rw [c_1_7]; decide) (by rw [c_1_7]; rfl) (by decide) ?_
                  refine r_aload_n C 0 (q := 117) dX5_status_116 rfl rfl ?_
                  refine g_X5_0 C (q := 120) dX5_status_117 q_203 hx0 rfl ?_
                  refine g_X0_7 C (q := 123) dX5_status_120 q_87 (kf_X5_0 hx0) rfl ?_
                  obtain rfl := Option.some.inj h
                  exact hr _ _ dX5_status_123
                · replace h := (if_neg c_1_7).symm.trans h
                  by_cases c_1_8 : x1 = 8
                  · replace h := (if_pos c_1_8).symm.trans h
                    refine r_tabIn C (tgt := 124) (off := 123) dX5_status_1 (by rw [c_1_8]; decide) (by rw [c_1_8]; decide) (by rw [c_1_8]; rfl) (by decide) ?_
                    refine r_aload_n C 0 (q := 125) dX5_status_124 rfl rfl ?_
                    refine g_X5_4 C (q := 128) dX5_status_125 q_207 hx0 rfl ?_
                    refine g_X3_1 C (q := 131) dX5_status_128 q_166 (kf_X5_4 hx0) rfl ?_
                    obtain rfl := Option.some.inj h
                    exact hr _ _ dX5_status_131
                  · replace h := (if_neg c_1_8).symm.trans h
                    by_cases c_1_9 : x1 = 9
                    · replace h := (if_pos c_1_9).symm.trans h
                      refine r_tabIn C (tgt := 132) (off := 131) dX5_status_1 (by rw [c_1_9]; decide) (by rw [c_1_9]; decide) (by rw [c_1_9]; rfl) (by decide) ?_
                      refine r_aload_n C 0 (q := 133) dX5_status_132 rfl rfl ?_
                      refine g_X5_0 C (q := 136) dX5_status_133 q_203 hx0 rfl ?_
                      refine g_X0_4 C (q := 139) dX5_status_136 q_76 (kf_X5_0 hx0) rfl ?_
                      obtain rfl := Option.some.inj h
                      exact hr _ _ dX5_status_139
                    · replace h := (if_neg c_1_9).symm.trans h
                      by_cases c_1_10 : x1 = 10
                      · replace h := (if_pos c_1_10).symm.trans h
                        refine r_tabIn C (tgt := 140) (off := 139) dX5_status_1 (by rw [c_1_10]; decide) (by rw [c_1_10]; decide) (by rw [c_1_10]; rfl) (by decide) ?_
                        refine r_aload_n C 0 (q := 141) dX5_status_140 rfl rfl ?_
                        obtain ⟨v_141, e_141, h⟩ := bs h
                        refine r_callV C (ci := 5) (st := []) (st2 := [.int v_141]) (q := 144) (m_X5_shelvesInUse (xG X) (xl X) hx0 e_141) ok_X5_shelvesInUse hx0 rfl ⟨_, rfl⟩ q_979 rfl ⟨Nat.le_of_ble_eq_true rfl, Nat.le_of_ble_eq_true rfl⟩ rfl rfl (Nat.le_of_ble_eq_true rfl) dX5_status_141 rfl (fun hp_141 => ?_)
                        obtain rfl := Option.some.inj h
                        exact hr _ _ dX5_status_144
                      · replace h := (if_neg c_1_10).symm.trans h
                        refine r_tabOut C (tgt := 145) dX5_status_1 (tab_out (lt_s (lt_s (lt_s (lt_s (lt_s (lt_s (lt_s (lt_s (lt_s (lt_s (lt_s lt_0 c_1_0) c_1_1) c_1_2) c_1_3) c_1_4) c_1_5) c_1_6) c_1_7) c_1_8) c_1_9) c_1_10) (by decide)) (by decide) ?_
                        refine r_iload_n C 1 (q := 146) dX5_status_145 rfl rfl ?_
                        refine r_bipush C (v := 12) (q := 148) dX5_status_146 (by decide) rfl ?_
                        refine r_bipush C (v := 16) (q := 150) dX5_status_148 (by decide) rfl ?_
                        obtain ⟨v_150, e_150, h⟩ := bs h
                        refine r_callS C (st := []) (st2 := [.int v_150]) (q := 153) (m_X5_isWithin (xG X) (xl X) e_150) ok_X5_isWithin q_239 rfl ⟨Nat.le_of_ble_eq_true rfl, Nat.le_of_ble_eq_true rfl⟩ rfl rfl (Nat.le_of_ble_eq_true rfl) dX5_status_150 rfl (fun hp_150 => ?_)
                        refine r_if_eq C (tgt := 170) (q := 156) dX5_status_153 (by decide) rfl (fun c_153 => ?_) (fun c_153 => ?_)
                        · replace h := (if_pos c_153).symm.trans h
                          refine r_iconst C (v := (-1)) (q := 171) dX5_status_170 (by decide) rfl ?_
                          obtain rfl := Option.some.inj h
                          exact hr _ _ dX5_status_171
                        · replace h := (if_neg c_153).symm.trans h
                          refine r_aload_n C 0 (q := 157) dX5_status_156 rfl rfl ?_
                          refine g_X5_7 C (q := 160) dX5_status_157 q_210 hx0 rfl ?_
                          refine r_iload_n C 1 (q := 161) dX5_status_160 rfl rfl ?_
                          refine r_bipush C (v := 12) (q := 163) dX5_status_161 (by decide) rfl ?_
                          refine r_isub C (q := 164) dX5_status_163 rfl ?_
                          obtain ⟨v_164, e_164, h⟩ := bs h
                          refine r_callS C (st := []) (st2 := [.int v_164]) (q := 167) (m_X5_at (xG X) (xl X) (kf_X5_7 hx0) e_164) ok_X5_at q_246 rfl ⟨Nat.le_of_ble_eq_true rfl, Nat.le_of_ble_eq_true rfl⟩ rfl rfl (Nat.le_of_ble_eq_true rfl) dX5_status_164 rfl (fun hp_164 => ?_)
                          refine r_goto C (tgt := 171) dX5_status_167 (by decide) ?_
                          obtain rfl := Option.some.inj h
                          exact hr _ _ dX5_status_171

theorem m_X5_status (G : Gm) (l : Launch) {σ : St} {x0 : Nat} {x1 : Int32} (hx0 : kd x0 = 6) {r : Int32} (h : f_X5_status σ x0 x1 = some r) : Ctr G l yX5_status cX5_status 2 (some .int) 3 67 [.ref (G.1 x0), .int x1] σ (some (.int r)) True σ := by
  refine Ctr.i (by decide) (Nat.le_of_ble_eq_true rfl) ?_
  intro X hG C hr
  subst hG
  exact w_X5_status_b0 C hr _ _ hx0 h
-- X6_no
set_option maxHeartbeats 4000000 in
set_option maxRecDepth 100000 in
theorem w_X6_no_b0 {X : CX} (C : Cok X RX6 cX6_no 2 0 0) {σ' : St} {r : Int32} (hr : RtI X cX6_no r σ') (σ : St) (x0 : Nat) (x1 : Int32) (hx0 : kd x0 = 7) (h : f_X6_no σ x0 x1 = some (r, σ')) : V X σ 0 [(0, .ref ((xG X).1 x0)), (1, .int x1)] [] := by
  unfold f_X6_no at h
  refine r_aload_n C 0 (q := 1) dX6_no_0 rfl rfl ?_
  refine g_X6_22 C (q := 4) dX6_no_1 q_1011 hx0 rfl ?_
  refine r_iload_n C 1 (q := 5) dX6_no_4 rfl rfl ?_
  refine r_ineg C (q := 6) dX6_no_5 rfl ?_
  refine r_dup2 C (q := 7) dX6_no_6 rfl rfl rfl ?_
  obtain ⟨v_7, e_7, h⟩ := bs h
  refine r_iald C (q := 8) dX6_no_7 (kf_X6_22 hx0) e_7 rfl ?_
  refine r_iconst C (v := 1) (q := 9) dX6_no_8 (by decide) rfl ?_
  refine r_iadd C (q := 10) dX6_no_9 rfl ?_
  obtain ⟨s_10, e_10, h⟩ := bs h
  refine r_iast C (q := 11) dX6_no_10 (kf_X6_22 hx0) e_10 rfl ?_
  refine r_iload_n C 1 (q := 12) dX6_no_11 rfl rfl ?_
  obtain ⟨rfl, rfl⟩ := Prod.mk.inj (Option.some.inj h)
  exact hr _ _ dX6_no_12

theorem m_X6_no (G : Gm) (l : Launch) {σ σ' : St} {x0 : Nat} {x1 : Int32} (hx0 : kd x0 = 7) {r : Int32} (h : f_X6_no σ x0 x1 = some (r, σ')) : Ctr G l yX6_no cX6_no 2 (some .int) 0 0 [.ref (G.1 x0), .int x1] σ (some (.int r)) True σ' := by
  refine Ctr.i (by decide) (Nat.le_of_ble_eq_true rfl) ?_
  intro X hG C hr
  subst hG
  exact w_X6_no_b0 C hr _ _ _ hx0 h
-- X6_within
set_option maxHeartbeats 4000000 in
set_option maxRecDepth 100000 in
theorem w_X6_within_b0 {X : CX} (C : Cok X RX6 cX6_within 3 0 0) {σ : St} {r : Int32} (hr : RtZ X cX6_within r σ) (x0 : Int32) (x1 : Int32) (x2 : Int32) (h : f_X6_within x0 x1 x2 = some r) : V X σ 0 [(0, .int x0), (1, .int x1), (2, .int x2)] [] := by
  unfold f_X6_within at h
  refine r_iload_n C 0 (q := 1) dX6_within_0 rfl rfl ?_
  refine r_iload_n C 1 (q := 2) dX6_within_1 rfl rfl ?_
  refine r_icmp_lt C (tgt := 14) (q := 5) dX6_within_2 (by decide) rfl (fun c_2 => ?_) (fun c_2 => ?_)
  · replace h := (if_pos c_2).symm.trans h
    refine r_iconst C (v := 0) (q := 15) dX6_within_14 (by decide) rfl ?_
    obtain rfl := Option.some.inj h
    exact hr _ _ dX6_within_15 (Or.inl rfl)
  · replace h := (if_neg c_2).symm.trans h
    refine r_iload_n C 0 (q := 6) dX6_within_5 rfl rfl ?_
    refine r_iload_n C 2 (q := 7) dX6_within_6 rfl rfl ?_
    refine r_icmp_gt C (tgt := 14) (q := 10) dX6_within_7 (by decide) rfl (fun c_7 => ?_) (fun c_7 => ?_)
    · replace h := (if_pos c_7).symm.trans h
      refine r_iconst C (v := 0) (q := 15) dX6_within_14 (by decide) rfl ?_
      obtain rfl := Option.some.inj h
      exact hr _ _ dX6_within_15 (Or.inl rfl)
    · replace h := (if_neg c_7).symm.trans h
      refine r_iconst C (v := 1) (q := 11) dX6_within_10 (by decide) rfl ?_
      refine r_goto C (tgt := 15) dX6_within_11 (by decide) ?_
      obtain rfl := Option.some.inj h
      exact hr _ _ dX6_within_15 (Or.inr rfl)

theorem m_X6_within (G : Gm) (l : Launch) {σ : St} {x0 : Int32} {x1 : Int32} {x2 : Int32} {r : Int32} (h : f_X6_within x0 x1 x2 = some r) : Ctr G l yX6_within cX6_within 3 (some .boolean) 0 0 [.int x0, .int x1, .int x2] σ (some (.int r)) (r = 0 ∨ r = 1) σ := by
  refine Ctr.z (by decide) (Nat.le_of_ble_eq_true rfl) ?_
  intro X hG C hr
  subst hG
  exact w_X6_within_b0 C hr _ _ _ h
-- X6_has
set_option maxHeartbeats 4000000 in
set_option maxRecDepth 100000 in
theorem w_X6_has_b0 {X : CX} (C : Cok X RX6 cX6_has 2 0 0) {σ : St} {r : Int32} (hr : RtZ X cX6_has r σ) (x0 : Int32) (x1 : Int32) (h : f_X6_has x0 x1 = some r) : V X σ 0 [(0, .int x0), (1, .int x1)] [] := by
  unfold f_X6_has at h
  refine r_iload_n C 0 (q := 1) dX6_has_0 rfl rfl ?_
  refine r_iload_n C 1 (q := 2) dX6_has_1 rfl rfl ?_
  refine r_ishr C (q := 3) dX6_has_2 rfl ?_
  refine r_iconst C (v := 1) (q := 4) dX6_has_3 (by decide) rfl ?_
  refine r_iand C (q := 5) dX6_has_4 rfl ?_
  refine r_iconst C (v := 1) (q := 6) dX6_has_5 (by decide) rfl ?_
  refine r_icmp_ne C (tgt := 13) (q := 9) dX6_has_6 (by decide) rfl (fun c_6 => ?_) (fun c_6 => ?_)
  · replace h := (if_neg c_6).symm.trans h
    refine r_iconst C (v := 0) (q := 14) dX6_has_13 (by decide) rfl ?_
    obtain rfl := Option.some.inj h
    exact hr _ _ dX6_has_14 (Or.inl rfl)
  · replace h := (if_pos c_6).symm.trans h
    refine r_iconst C (v := 1) (q := 10) dX6_has_9 (by decide) rfl ?_
    refine r_goto C (tgt := 14) dX6_has_10 (by decide) ?_
    obtain rfl := Option.some.inj h
    exact hr _ _ dX6_has_14 (Or.inr rfl)

theorem m_X6_has (G : Gm) (l : Launch) {σ : St} {x0 : Int32} {x1 : Int32} {r : Int32} (h : f_X6_has x0 x1 = some r) : Ctr G l yX6_has cX6_has 2 (some .boolean) 0 0 [.int x0, .int x1] σ (some (.int r)) (r = 0 ∨ r = 1) σ := by
  refine Ctr.z (by decide) (Nat.le_of_ble_eq_true rfl) ?_
  intro X hG C hr
  subst hG
  exact w_X6_has_b0 C hr _ _ h
-- X6_isKey
set_option maxHeartbeats 4000000 in
set_option maxRecDepth 100000 in
theorem w_X6_isKey_b0 {X : CX} (C : Cok X RX6 cX6_isKey 2 1 22) {σ : St} {r : Int32} (hr : RtZ X cX6_isKey r σ) (x0 : Nat) (x1 : Int32) (hx0 : kd x0 = 7) (h : f_X6_isKey σ x0 x1 = some r) : V X σ 0 [(0, .ref ((xG X).1 x0)), (1, .int x1)] [] := by
  unfold f_X6_isKey at h
  refine r_iload_n C 1 (q := 1) dX6_isKey_0 rfl rfl ?_
  refine r_iconst C (v := 0) (q := 2) dX6_isKey_1 (by decide) rfl ?_
  refine r_aload_n C 0 (q := 3) dX6_isKey_2 rfl rfl ?_
  refine g_X6_6 C (q := 6) dX6_isKey_3 q_995 hx0 rfl ?_
  refine r_iconst C (v := 1) (q := 7) dX6_isKey_6 (by decide) rfl ?_
  refine r_isub C (q := 8) dX6_isKey_7 rfl ?_
  obtain ⟨v_8, e_8, h⟩ := bs h
  refine r_callS C (st := []) (st2 := [.int v_8]) (q := 11) (m_X6_within (xG X) (xl X) e_8) ok_X6_within q_1081 rfl ⟨Nat.le_of_ble_eq_true rfl, Nat.le_of_ble_eq_true rfl⟩ rfl rfl (Nat.le_of_ble_eq_true rfl) dX6_isKey_8 rfl (fun hp_8 => ?_)
  obtain rfl := Option.some.inj h
  exact hr _ _ dX6_isKey_11 hp_8

theorem m_X6_isKey (G : Gm) (l : Launch) {σ : St} {x0 : Nat} {x1 : Int32} (hx0 : kd x0 = 7) {r : Int32} (h : f_X6_isKey σ x0 x1 = some r) : Ctr G l yX6_isKey cX6_isKey 2 (some .boolean) 1 22 [.ref (G.1 x0), .int x1] σ (some (.int r)) (r = 0 ∨ r = 1) σ := by
  refine Ctr.z (by decide) (Nat.le_of_ble_eq_true rfl) ?_
  intro X hG C hr
  subst hG
  exact w_X6_isKey_b0 C hr _ _ hx0 h
-- X6_isLock
set_option maxHeartbeats 4000000 in
set_option maxRecDepth 100000 in
theorem w_X6_isLock_b0 {X : CX} (C : Cok X RX6 cX6_isLock 2 1 22) {σ : St} {r : Int32} (hr : RtZ X cX6_isLock r σ) (x0 : Nat) (x1 : Int32) (hx0 : kd x0 = 7) (h : f_X6_isLock σ x0 x1 = some r) : V X σ 0 [(0, .ref ((xG X).1 x0)), (1, .int x1)] [] := by
  unfold f_X6_isLock at h
  refine r_iload_n C 1 (q := 1) dX6_isLock_0 rfl rfl ?_
  refine r_iconst C (v := 0) (q := 2) dX6_isLock_1 (by decide) rfl ?_
  refine r_aload_n C 0 (q := 3) dX6_isLock_2 rfl rfl ?_
  refine g_X6_11 C (q := 6) dX6_isLock_3 q_1000 hx0 rfl ?_
  refine r_iconst C (v := 1) (q := 7) dX6_isLock_6 (by decide) rfl ?_
  refine r_isub C (q := 8) dX6_isLock_7 rfl ?_
  obtain ⟨v_8, e_8, h⟩ := bs h
  refine r_callS C (st := []) (st2 := [.int v_8]) (q := 11) (m_X6_within (xG X) (xl X) e_8) ok_X6_within q_1081 rfl ⟨Nat.le_of_ble_eq_true rfl, Nat.le_of_ble_eq_true rfl⟩ rfl rfl (Nat.le_of_ble_eq_true rfl) dX6_isLock_8 rfl (fun hp_8 => ?_)
  obtain rfl := Option.some.inj h
  exact hr _ _ dX6_isLock_11 hp_8

theorem m_X6_isLock (G : Gm) (l : Launch) {σ : St} {x0 : Nat} {x1 : Int32} (hx0 : kd x0 = 7) {r : Int32} (h : f_X6_isLock σ x0 x1 = some r) : Ctr G l yX6_isLock cX6_isLock 2 (some .boolean) 1 22 [.ref (G.1 x0), .int x1] σ (some (.int r)) (r = 0 ∨ r = 1) σ := by
  refine Ctr.z (by decide) (Nat.le_of_ble_eq_true rfl) ?_
  intro X hG C hr
  subst hG
  exact w_X6_isLock_b0 C hr _ _ hx0 h
-- X6_isPlace
set_option maxHeartbeats 4000000 in
set_option maxRecDepth 100000 in
theorem w_X6_isPlace_b0 {X : CX} (C : Cok X RX6 cX6_isPlace 2 1 22) {σ : St} {r : Int32} (hr : RtZ X cX6_isPlace r σ) (x0 : Nat) (x1 : Int32) (hx0 : kd x0 = 7) (h : f_X6_isPlace σ x0 x1 = some r) : V X σ 0 [(0, .ref ((xG X).1 x0)), (1, .int x1)] [] := by
  unfold f_X6_isPlace at h
  refine r_iload_n C 1 (q := 1) dX6_isPlace_0 rfl rfl ?_
  refine r_iconst C (v := 0) (q := 2) dX6_isPlace_1 (by decide) rfl ?_
  refine r_aload_n C 0 (q := 3) dX6_isPlace_2 rfl rfl ?_
  refine g_X6_3 C (q := 6) dX6_isPlace_3 q_992 hx0 rfl ?_
  refine r_iconst C (v := 1) (q := 7) dX6_isPlace_6 (by decide) rfl ?_
  refine r_isub C (q := 8) dX6_isPlace_7 rfl ?_
  obtain ⟨v_8, e_8, h⟩ := bs h
  refine r_callS C (st := []) (st2 := [.int v_8]) (q := 11) (m_X6_within (xG X) (xl X) e_8) ok_X6_within q_1081 rfl ⟨Nat.le_of_ble_eq_true rfl, Nat.le_of_ble_eq_true rfl⟩ rfl rfl (Nat.le_of_ble_eq_true rfl) dX6_isPlace_8 rfl (fun hp_8 => ?_)
  obtain rfl := Option.some.inj h
  exact hr _ _ dX6_isPlace_11 hp_8

theorem m_X6_isPlace (G : Gm) (l : Launch) {σ : St} {x0 : Nat} {x1 : Int32} (hx0 : kd x0 = 7) {r : Int32} (h : f_X6_isPlace σ x0 x1 = some r) : Ctr G l yX6_isPlace cX6_isPlace 2 (some .boolean) 1 22 [.ref (G.1 x0), .int x1] σ (some (.int r)) (r = 0 ∨ r = 1) σ := by
  refine Ctr.z (by decide) (Nat.le_of_ble_eq_true rfl) ?_
  intro X hG C hr
  subst hG
  exact w_X6_isPlace_b0 C hr _ _ hx0 h
-- X6_isRow
set_option maxHeartbeats 4000000 in
set_option maxRecDepth 100000 in
theorem w_X6_isRow_b0 {X : CX} (C : Cok X RX6 cX6_isRow 2 1 22) {σ : St} {r : Int32} (hr : RtZ X cX6_isRow r σ) (x0 : Nat) (x1 : Int32) (hx0 : kd x0 = 7) (h : f_X6_isRow σ x0 x1 = some r) : V X σ 0 [(0, .ref ((xG X).1 x0)), (1, .int x1)] [] := by
  unfold f_X6_isRow at h
  refine r_aload_n C 0 (q := 1) dX6_isRow_0 rfl rfl ?_
  refine g_X6_0 C (q := 4) dX6_isRow_1 q_989 hx0 rfl ?_
  refine r_iload_n C 1 (q := 5) dX6_isRow_4 rfl rfl ?_
  obtain ⟨v_5, e_5, h⟩ := bs h
  refine r_iald C (q := 6) dX6_isRow_5 (kf_X6_0 hx0) e_5 rfl ?_
  refine r_iconst C (v := 0) (q := 7) dX6_isRow_6 (by decide) rfl ?_
  refine r_iconst C (v := 4) (q := 8) dX6_isRow_7 (by decide) rfl ?_
  obtain ⟨v_8, e_8, h⟩ := bs h
  refine r_callS C (st := []) (st2 := [.int v_8]) (q := 11) (m_X6_within (xG X) (xl X) e_8) ok_X6_within q_1081 rfl ⟨Nat.le_of_ble_eq_true rfl, Nat.le_of_ble_eq_true rfl⟩ rfl rfl (Nat.le_of_ble_eq_true rfl) dX6_isRow_8 rfl (fun hp_8 => ?_)
  obtain rfl := Option.some.inj h
  exact hr _ _ dX6_isRow_11 hp_8

theorem m_X6_isRow (G : Gm) (l : Launch) {σ : St} {x0 : Nat} {x1 : Int32} (hx0 : kd x0 = 7) {r : Int32} (h : f_X6_isRow σ x0 x1 = some r) : Ctr G l yX6_isRow cX6_isRow 2 (some .boolean) 1 22 [.ref (G.1 x0), .int x1] σ (some (.int r)) (r = 0 ∨ r = 1) σ := by
  refine Ctr.z (by decide) (Nat.le_of_ble_eq_true rfl) ?_
  intro X hG C hr
  subst hG
  exact w_X6_isRow_b0 C hr _ _ hx0 h
-- X6_row
set_option maxHeartbeats 4000000 in
set_option maxRecDepth 100000 in
theorem w_X6_row_b53 {X : CX} (C : Cok X RX6 cX6_row 5 1 22) {σ' : St} {r : Int32} (hr : RtI X cX6_row r σ') (k_53 : St → Nat → Int32 → Int32 → Option (Int32 × St)) (hk_53 : ∀ (σ : St) (x0 : Nat) (x1 : Int32) (x4 : Int32), kd x0 = 7 → k_53 σ x0 x1 x4 = some (r, σ') → V X σ 53 [(0, .ref ((xG X).1 x0)), (1, .int x1), (4, .int x4)] []) (σ : St) (x0 : Nat) (x1 : Int32) (x4 : Int32) (hx0 : kd x0 = 7) (h : f_X6_row_b53 k_53 σ x0 x1 x4 = some (r, σ')) : V X σ 53 [(0, .ref ((xG X).1 x0)), (1, .int x1), (4, .int x4)] [] := by
  unfold f_X6_row_b53 at h
  refine r_iload C 2 (q := 55) dX6_row_53 rfl rfl ?_
  refine r_bipush C (v := 40) (q := 57) dX6_row_55 (by decide) rfl ?_
  refine r_icmp_ge C (tgt := 79) (q := 60) dX6_row_57 (by decide) rfl (fun c_57 => ?_) (fun c_57 => ?_)
  · replace h := (if_pos c_57).symm.trans h
    refine r_iconst C (v := 1) (q := 80) dX6_row_79 (by decide) rfl ?_
    obtain ⟨rfl, rfl⟩ := Prod.mk.inj (Option.some.inj h)
    exact hr _ _ dX6_row_80
  · replace h := (if_neg c_57).symm.trans h
    refine r_aload_n C 0 (q := 61) dX6_row_60 rfl rfl ?_
    refine g_X6_2 C (q := 64) dX6_row_61 q_991 hx0 rfl ?_
    refine r_bipush C (v := 40) (q := 66) dX6_row_64 (by decide) rfl ?_
    refine r_iload_n C 1 (q := 67) dX6_row_66 rfl rfl ?_
    refine r_imul C (q := 68) dX6_row_67 rfl ?_
    refine r_iload C 2 (q := 70) dX6_row_68 rfl rfl ?_
    refine r_iadd C (q := 71) dX6_row_70 rfl ?_
    refine r_lconst C (v := 0) (q := 72) dX6_row_71 (by decide) rfl ?_
    obtain ⟨s_72, e_72, h⟩ := bs h
    refine r_last C (q := 73) dX6_row_72 (kf_X6_2 hx0) e_72 rfl ?_
    obtain ⟨y_73, e_73, h⟩ := bs h
    refine r_iinc C (v := y_73) (lv' := [(4, .int y_73), (0, .ref ((xG X).1 x0)), (1, .int x1)]) (q := 76) 2 dX6_row_73 rfl (Option.some.inj e_73) (by decide) rfl rfl ?_
    refine r_goto C (tgt := 53) dX6_row_76 (by decide) ?_
    refine r_sub (lv' := [(0, .ref ((xG X).1 x0)), (1, .int x1), (4, .int y_73)]) [1, 2, 0] rfl ?_
    exact hk_53 _ _ _ _ hx0 h

theorem w_X6_row_l53 {X : CX} (C : Cok X RX6 cX6_row 5 1 22) {σ' : St} {r : Int32} (hr : RtI X cX6_row r σ') (n : Nat) : ∀ (σ : St) (x0 : Nat) (x1 : Int32) (x4 : Int32), kd x0 = 7 → f_X6_row_l53 n σ x0 x1 x4 = some (r, σ') → V X σ 53 [(0, .ref ((xG X).1 x0)), (1, .int x1), (4, .int x4)] [] := by
  induction n with
  | zero =>
    intro σ x0 x1 x4 hx0 h
    exact nomatch (show (none : Option (Int32 × St)) = some (r, σ') from h)
  | succ n ih =>
    intro σ x0 x1 x4 hx0 h
    exact w_X6_row_b53 C hr _ ih σ x0 x1 x4 hx0 h
set_option maxHeartbeats 4000000 in
set_option maxRecDepth 100000 in
theorem w_X6_row_b29 {X : CX} (C : Cok X RX6 cX6_row 5 1 22) {σ' : St} {r : Int32} (hr : RtI X cX6_row r σ') (σ : St) (x0 : Nat) (hx0 : kd x0 = 7) (h : f_X6_row_b29 σ x0 = some (r, σ')) : V X σ 29 [(0, .ref ((xG X).1 x0))] [] := by
  unfold f_X6_row_b29 at h
  refine r_aload_n C 0 (q := 30) dX6_row_29 rfl rfl ?_
  refine r_bipush C (v := (-2)) (q := 32) dX6_row_30 (by decide) rfl ?_
  obtain ⟨v_32, s_32, e_32, h⟩ := bs2 h
  refine r_callV C (ci := 6) (st := []) (st2 := [.int v_32]) (q := 35) (m_X6_no (xG X) (xl X) hx0 e_32) ok_X6_no hx0 rfl ⟨_, rfl⟩ q_1084 rfl ⟨Nat.le_of_ble_eq_true rfl, Nat.le_of_ble_eq_true rfl⟩ rfl rfl (Nat.le_of_ble_eq_true rfl) dX6_row_32 rfl (fun hp_32 => ?_)
  obtain ⟨rfl, rfl⟩ := Prod.mk.inj (Option.some.inj h)
  exact hr _ _ dX6_row_35

set_option maxHeartbeats 4000000 in
set_option maxRecDepth 100000 in
theorem w_X6_row_b0 {X : CX} (C : Cok X RX6 cX6_row 5 1 22) {σ' : St} {r : Int32} (hr : RtI X cX6_row r σ') (σ : St) (x0 : Nat) (x1 : Int32) (x2 : Int32) (x3 : Int32) (hx0 : kd x0 = 7) (h : f_X6_row σ x0 x1 x2 x3 = some (r, σ')) : V X σ 0 [(0, .ref ((xG X).1 x0)), (1, .int x1), (2, .int x2), (3, .int x3)] [] := by
  unfold f_X6_row at h
  refine r_iload_n C 1 (q := 1) dX6_row_0 rfl rfl ?_
  refine r_iconst C (v := 0) (q := 2) dX6_row_1 (by decide) rfl ?_
  refine r_bipush C (v := 7) (q := 4) dX6_row_2 (by decide) rfl ?_
  obtain ⟨v_4, e_4, h⟩ := bs h
  refine r_callS C (st := []) (st2 := [.int v_4]) (q := 7) (m_X6_within (xG X) (xl X) e_4) ok_X6_within q_1081 rfl ⟨Nat.le_of_ble_eq_true rfl, Nat.le_of_ble_eq_true rfl⟩ rfl rfl (Nat.le_of_ble_eq_true rfl) dX6_row_4 rfl (fun hp_4 => ?_)
  refine r_if_eq C (tgt := 29) (q := 10) dX6_row_7 (by decide) rfl (fun c_7 => ?_) (fun c_7 => ?_)
  · replace h := (if_pos c_7).symm.trans h
    refine r_sub (lv' := [(0, .ref ((xG X).1 x0))]) [0] rfl ?_
    exact w_X6_row_b29 C hr  _ _ hx0 h
  · replace h := (if_neg c_7).symm.trans h
    refine r_iload_n C 2 (q := 11) dX6_row_10 rfl rfl ?_
    refine r_iconst C (v := 0) (q := 12) dX6_row_11 (by decide) rfl ?_
    refine r_iconst C (v := 4) (q := 13) dX6_row_12 (by decide) rfl ?_
    obtain ⟨v_13, e_13, h⟩ := bs h
    refine r_callS C (st := []) (st2 := [.int v_13]) (q := 16) (m_X6_within (xG X) (xl X) e_13) ok_X6_within q_1081 rfl ⟨Nat.le_of_ble_eq_true rfl, Nat.le_of_ble_eq_true rfl⟩ rfl rfl (Nat.le_of_ble_eq_true rfl) dX6_row_13 rfl (fun hp_13 => ?_)
    refine r_if_eq C (tgt := 29) (q := 19) dX6_row_16 (by decide) rfl (fun c_16 => ?_) (fun c_16 => ?_)
    · replace h := (if_pos c_16).symm.trans h
      refine r_sub (lv' := [(0, .ref ((xG X).1 x0))]) [0] rfl ?_
      exact w_X6_row_b29 C hr  _ _ hx0 h
    · replace h := (if_neg c_16).symm.trans h
      refine r_iload_n C 3 (q := 20) dX6_row_19 rfl rfl ?_
      refine r_iconst C (v := 0) (q := 21) dX6_row_20 (by decide) rfl ?_
      refine r_bipush C (v := 40) (q := 23) dX6_row_21 (by decide) rfl ?_
      obtain ⟨v_23, e_23, h⟩ := bs h
      refine r_callS C (st := []) (st2 := [.int v_23]) (q := 26) (m_X6_within (xG X) (xl X) e_23) ok_X6_within q_1081 rfl ⟨Nat.le_of_ble_eq_true rfl, Nat.le_of_ble_eq_true rfl⟩ rfl rfl (Nat.le_of_ble_eq_true rfl) dX6_row_23 rfl (fun hp_23 => ?_)
      refine r_if_ne C (tgt := 36) (q := 29) dX6_row_26 (by decide) rfl (fun c_26 => ?_) (fun c_26 => ?_)
      · replace h := (if_neg c_26).symm.trans h
        refine r_aload_n C 0 (q := 37) dX6_row_36 rfl rfl ?_
        refine g_X6_0 C (q := 40) dX6_row_37 q_989 hx0 rfl ?_
        refine r_iload_n C 1 (q := 41) dX6_row_40 rfl rfl ?_
        refine r_iload_n C 2 (q := 42) dX6_row_41 rfl rfl ?_
        obtain ⟨s_42, e_42, h⟩ := bs h
        refine r_iast C (q := 43) dX6_row_42 (kf_X6_0 hx0) e_42 rfl ?_
        refine r_aload_n C 0 (q := 44) dX6_row_43 rfl rfl ?_
        refine g_X6_1 C (q := 47) dX6_row_44 q_990 hx0 rfl ?_
        refine r_iload_n C 1 (q := 48) dX6_row_47 rfl rfl ?_
        refine r_iload_n C 3 (q := 49) dX6_row_48 rfl rfl ?_
        obtain ⟨s_49, e_49, h⟩ := bs h
        refine r_iast C (q := 50) dX6_row_49 (kf_X6_1 hx0) e_49 rfl ?_
        refine r_iconst C (v := 0) (q := 51) dX6_row_50 (by decide) rfl ?_
        refine r_istore C (lv' := [(4, .int 0), (0, .ref ((xG X).1 x0)), (1, .int x1), (2, .int x2), (3, .int x3)]) (q := 53) dX6_row_51 (by decide) rfl rfl ?_
        refine r_sub (lv' := [(0, .ref ((xG X).1 x0)), (1, .int x1), (4, .int 0)]) [1, 2, 0] rfl ?_
        exact w_X6_row_l53 C hr  FU _ _ _ _ hx0 h
      · replace h := (if_pos c_26).symm.trans h
        refine r_sub (lv' := [(0, .ref ((xG X).1 x0))]) [0] rfl ?_
        exact w_X6_row_b29 C hr  _ _ hx0 h

theorem m_X6_row (G : Gm) (l : Launch) {σ σ' : St} {x0 : Nat} {x1 : Int32} {x2 : Int32} {x3 : Int32} (hx0 : kd x0 = 7) {r : Int32} (h : f_X6_row σ x0 x1 x2 x3 = some (r, σ')) : Ctr G l yX6_row cX6_row 5 (some .int) 1 22 [.ref (G.1 x0), .int x1, .int x2, .int x3] σ (some (.int r)) True σ' := by
  refine Ctr.i (by decide) (Nat.le_of_ble_eq_true rfl) ?_
  intro X hG C hr
  subst hG
  exact w_X6_row_b0 C hr _ _ _ _ _ hx0 h
-- X6_noRow
set_option maxHeartbeats 4000000 in
set_option maxRecDepth 100000 in
theorem w_X6_noRow_b0 {X : CX} (C : Cok X RX6 cX6_noRow 2 1 22) {σ : St} {r : Int32} (hr : RtI X cX6_noRow r σ) (x0 : Nat) (x1 : Int32) (hx0 : kd x0 = 7) (h : f_X6_noRow σ x0 x1 = some r) : V X σ 0 [(0, .ref ((xG X).1 x0)), (1, .int x1)] [] := by
  unfold f_X6_noRow at h
  refine r_iload_n C 1 (q := 1) dX6_noRow_0 rfl rfl ?_
  refine r_iconst C (v := 0) (q := 2) dX6_noRow_1 (by decide) rfl ?_
  refine r_bipush C (v := 7) (q := 4) dX6_noRow_2 (by decide) rfl ?_
  obtain ⟨v_4, e_4, h⟩ := bs h
  refine r_callS C (st := []) (st2 := [.int v_4]) (q := 7) (m_X6_within (xG X) (xl X) e_4) ok_X6_within q_1081 rfl ⟨Nat.le_of_ble_eq_true rfl, Nat.le_of_ble_eq_true rfl⟩ rfl rfl (Nat.le_of_ble_eq_true rfl) dX6_noRow_4 rfl (fun hp_4 => ?_)
  refine r_if_ne C (tgt := 13) (q := 10) dX6_noRow_7 (by decide) rfl (fun c_7 => ?_) (fun c_7 => ?_)
  · replace h := (if_neg c_7).symm.trans h
    refine r_aload_n C 0 (q := 14) dX6_noRow_13 rfl rfl ?_
    refine g_X6_0 C (q := 17) dX6_noRow_14 q_989 hx0 rfl ?_
    refine r_iload_n C 1 (q := 18) dX6_noRow_17 rfl rfl ?_
    obtain ⟨v_18, e_18, h⟩ := bs h
    refine r_iald C (q := 19) dX6_noRow_18 (kf_X6_0 hx0) e_18 rfl ?_
    refine r_iconst C (v := 4) (q := 20) dX6_noRow_19 (by decide) rfl ?_
    refine r_icmp_le C (tgt := 26) (q := 23) dX6_noRow_20 (by decide) rfl (fun c_20 => ?_) (fun c_20 => ?_)
    · replace h := (if_pos c_20).symm.trans h
      refine r_aload_n C 0 (q := 27) dX6_noRow_26 rfl rfl ?_
      refine g_X6_0 C (q := 30) dX6_noRow_27 q_989 hx0 rfl ?_
      refine r_iload_n C 1 (q := 31) dX6_noRow_30 rfl rfl ?_
      obtain ⟨v_31, e_31, h⟩ := bs h
      refine r_iald C (q := 32) dX6_noRow_31 (kf_X6_0 hx0) e_31 rfl ?_
      refine r_if_ge C (tgt := 40) (q := 35) dX6_noRow_32 (by decide) rfl (fun c_32 => ?_) (fun c_32 => ?_)
      · replace h := (if_pos c_32).symm.trans h
        refine r_iconst C (v := 0) (q := 41) dX6_noRow_40 (by decide) rfl ?_
        obtain rfl := Option.some.inj h
        exact hr _ _ dX6_noRow_41
      · replace h := (if_neg c_32).symm.trans h
        refine r_bipush C (v := (-4)) (q := 37) dX6_noRow_35 (by decide) rfl ?_
        refine r_goto C (tgt := 41) dX6_noRow_37 (by decide) ?_
        obtain rfl := Option.some.inj h
        exact hr _ _ dX6_noRow_41
    · replace h := (if_neg c_20).symm.trans h
      refine r_bipush C (v := (-3)) (q := 25) dX6_noRow_23 (by decide) rfl ?_
      obtain rfl := Option.some.inj h
      exact hr _ _ dX6_noRow_25
  · replace h := (if_pos c_7).symm.trans h
    refine r_bipush C (v := (-2)) (q := 12) dX6_noRow_10 (by decide) rfl ?_
    obtain rfl := Option.some.inj h
    exact hr _ _ dX6_noRow_12

theorem m_X6_noRow (G : Gm) (l : Launch) {σ : St} {x0 : Nat} {x1 : Int32} (hx0 : kd x0 = 7) {r : Int32} (h : f_X6_noRow σ x0 x1 = some r) : Ctr G l yX6_noRow cX6_noRow 2 (some .int) 1 22 [.ref (G.1 x0), .int x1] σ (some (.int r)) True σ := by
  refine Ctr.i (by decide) (Nat.le_of_ble_eq_true rfl) ?_
  intro X hG C hr
  subst hG
  exact w_X6_noRow_b0 C hr _ _ hx0 h
-- X6_set
set_option maxHeartbeats 4000000 in
set_option maxRecDepth 100000 in
theorem w_X6_set_b114 {X : CX} (C : Cok X RX6 cX6_set 8 2 43) {σ' : St} {r : Int32} (hr : RtI X cX6_set r σ') (σ : St) (x0 : Nat) (x1 : Int32) (x2 : Int32) (x6 : Int64) (hx0 : kd x0 = 7) (h : f_X6_set_b114 σ x0 x1 x2 x6 = some (r, σ')) : V X σ 114 [(0, .ref ((xG X).1 x0)), (1, .int x1), (2, .int x2), (6, .long x6)] [] := by
  unfold f_X6_set_b114 at h
  refine r_aload_n C 0 (q := 115) dX6_set_114 rfl rfl ?_
  refine g_X6_2 C (q := 118) dX6_set_115 q_991 hx0 rfl ?_
  refine r_bipush C (v := 40) (q := 120) dX6_set_118 (by decide) rfl ?_
  refine r_iload_n C 1 (q := 121) dX6_set_120 rfl rfl ?_
  refine r_imul C (q := 122) dX6_set_121 rfl ?_
  refine r_iload_n C 2 (q := 123) dX6_set_122 rfl rfl ?_
  refine r_iadd C (q := 124) dX6_set_123 rfl ?_
  refine r_lload C 3 (q := 126) dX6_set_124 rfl rfl ?_
  obtain ⟨s_126, e_126, h⟩ := bs h
  refine r_last C (q := 127) dX6_set_126 (kf_X6_2 hx0) e_126 rfl ?_
  refine r_iconst C (v := 1) (q := 128) dX6_set_127 (by decide) rfl ?_
  obtain ⟨rfl, rfl⟩ := Prod.mk.inj (Option.some.inj h)
  exact hr _ _ dX6_set_128

set_option maxHeartbeats 4000000 in
set_option maxRecDepth 100000 in
theorem w_X6_set_b112 {X : CX} (C : Cok X RX6 cX6_set 8 2 43) {σ' : St} {r : Int32} (hr : RtI X cX6_set r σ') (σ : St) (x0 : Nat) (x1 : Int32) (x2 : Int32) (t0 : Int64) (hx0 : kd x0 = 7) (h : f_X6_set_b112 σ x0 x1 x2 t0 = some (r, σ')) : V X σ 112 [(0, .ref ((xG X).1 x0)), (1, .int x1), (2, .int x2)] [.long t0] := by
  unfold f_X6_set_b112 at h
  refine r_lstore C (lv' := [(6, .long t0), (0, .ref ((xG X).1 x0)), (1, .int x1), (2, .int x2)]) (q := 114) dX6_set_112 (by decide) rfl rfl ?_
  refine r_sub (lv' := [(0, .ref ((xG X).1 x0)), (1, .int x1), (2, .int x2), (6, .long t0)]) [1, 2, 3, 0] rfl ?_
  exact w_X6_set_b114 C hr  _ _ _ _ _ hx0 h

set_option maxHeartbeats 4000000 in
set_option maxRecDepth 100000 in
theorem w_X6_set_b91 {X : CX} (C : Cok X RX6 cX6_set 8 2 43) {σ' : St} {r : Int32} (hr : RtI X cX6_set r σ') (σ : St) (x0 : Nat) (x1 : Int32) (x2 : Int32) (x3 : Int64) (x6 : Int64) (hx0 : kd x0 = 7) (h : f_X6_set_b91 σ x0 x1 x2 x3 x6 = some (r, σ')) : V X σ 91 [(0, .ref ((xG X).1 x0)), (1, .int x1), (2, .int x2), (3, .long x3), (6, .long x6)] [] := by
  unfold f_X6_set_b91 at h
  refine r_aload_n C 0 (q := 92) dX6_set_91 rfl rfl ?_
  refine g_X6_0 C (q := 95) dX6_set_92 q_989 hx0 rfl ?_
  refine r_iload_n C 1 (q := 96) dX6_set_95 rfl rfl ?_
  obtain ⟨v_96, e_96, h⟩ := bs h
  refine r_iald C (q := 97) dX6_set_96 (kf_X6_0 hx0) e_96 rfl ?_
  refine r_iconst C (v := 4) (q := 98) dX6_set_97 (by decide) rfl ?_
  refine r_icmp_ne C (tgt := 114) (q := 101) dX6_set_98 (by decide) rfl (fun c_98 => ?_) (fun c_98 => ?_)
  · replace h := (if_neg c_98).symm.trans h
    refine r_sub (lv' := [(0, .ref ((xG X).1 x0)), (1, .int x1), (2, .int x2), (6, .long x6)]) [0, 1, 2, 4] rfl ?_
    exact w_X6_set_b114 C hr  _ _ _ _ _ hx0 h
  · replace h := (if_pos c_98).symm.trans h
    refine r_lload_n C 3 (q := 102) dX6_set_101 rfl rfl ?_
    refine r_lconst C (v := 0) (q := 103) dX6_set_102 (by decide) rfl ?_
    refine r_lcmp C (q := 104) dX6_set_103 rfl ?_
    refine r_if_eq C (tgt := 111) (q := 107) dX6_set_104 (by decide) rfl (fun c_104 => ?_) (fun c_104 => ?_)
    · replace h := (if_pos c_104).symm.trans h
      refine r_lconst C (v := 0) (q := 112) dX6_set_111 (by decide) rfl ?_
      refine r_sub (lv' := [(0, .ref ((xG X).1 x0)), (1, .int x1), (2, .int x2)]) [0, 1, 2] rfl ?_
      exact w_X6_set_b112 C hr  _ _ _ _ _ hx0 h
    · replace h := (if_neg c_104).symm.trans h
      refine r_lconst C (v := 1) (q := 108) dX6_set_107 (by decide) rfl ?_
      refine r_goto C (tgt := 112) dX6_set_108 (by decide) ?_
      refine r_sub (lv' := [(0, .ref ((xG X).1 x0)), (1, .int x1), (2, .int x2)]) [0, 1, 2] rfl ?_
      exact w_X6_set_b112 C hr  _ _ _ _ _ hx0 h

set_option maxHeartbeats 4000000 in
set_option maxRecDepth 100000 in
theorem w_X6_set_b76 {X : CX} (C : Cok X RX6 cX6_set 8 2 43) {σ' : St} {r : Int32} (hr : RtI X cX6_set r σ') (σ : St) (x0 : Nat) (x1 : Int32) (x2 : Int32) (x3 : Int64) (x6 : Int64) (hx0 : kd x0 = 7) (h : f_X6_set_b76 σ x0 x1 x2 x3 x6 = some (r, σ')) : V X σ 76 [(0, .ref ((xG X).1 x0)), (1, .int x1), (2, .int x2), (3, .long x3), (6, .long x6)] [] := by
  unfold f_X6_set_b76 at h
  refine r_aload_n C 0 (q := 77) dX6_set_76 rfl rfl ?_
  refine g_X6_0 C (q := 80) dX6_set_77 q_989 hx0 rfl ?_
  refine r_iload_n C 1 (q := 81) dX6_set_80 rfl rfl ?_
  obtain ⟨v_81, e_81, h⟩ := bs h
  refine r_iald C (q := 82) dX6_set_81 (kf_X6_0 hx0) e_81 rfl ?_
  refine r_iconst C (v := 2) (q := 83) dX6_set_82 (by decide) rfl ?_
  refine r_icmp_ne C (tgt := 91) (q := 86) dX6_set_83 (by decide) rfl (fun c_83 => ?_) (fun c_83 => ?_)
  · replace h := (if_neg c_83).symm.trans h
    exact w_X6_set_b91 C hr  _ _ _ _ _ _ hx0 h
  · replace h := (if_pos c_83).symm.trans h
    refine r_lload_n C 3 (q := 87) dX6_set_86 rfl rfl ?_
    refine r_l2i C (q := 88) dX6_set_87 rfl ?_
    refine r_i2l C (q := 89) dX6_set_88 rfl ?_
    obtain ⟨y_89, e_89, h⟩ := bs h
    refine r_topJ (Option.some.inj e_89) ?_
    refine r_lstore C (lv' := [(6, .long y_89), (0, .ref ((xG X).1 x0)), (1, .int x1), (2, .int x2), (3, .long x3)]) (q := 91) dX6_set_89 (by decide) rfl rfl ?_
    refine r_sub (lv' := [(0, .ref ((xG X).1 x0)), (1, .int x1), (2, .int x2), (3, .long x3), (6, .long y_89)]) [1, 2, 3, 4, 0] rfl ?_
    exact w_X6_set_b91 C hr  _ _ _ _ _ _ hx0 h

set_option maxHeartbeats 4000000 in
set_option maxRecDepth 100000 in
theorem w_X6_set_b60 {X : CX} (C : Cok X RX6 cX6_set 8 2 43) {σ' : St} {r : Int32} (hr : RtI X cX6_set r σ') (σ : St) (x0 : Nat) (x1 : Int32) (x2 : Int32) (x3 : Int64) (x6 : Int64) (hx0 : kd x0 = 7) (h : f_X6_set_b60 σ x0 x1 x2 x3 x6 = some (r, σ')) : V X σ 60 [(0, .ref ((xG X).1 x0)), (1, .int x1), (2, .int x2), (3, .long x3), (6, .long x6)] [] := by
  unfold f_X6_set_b60 at h
  refine r_aload_n C 0 (q := 61) dX6_set_60 rfl rfl ?_
  refine g_X6_0 C (q := 64) dX6_set_61 q_989 hx0 rfl ?_
  refine r_iload_n C 1 (q := 65) dX6_set_64 rfl rfl ?_
  obtain ⟨v_65, e_65, h⟩ := bs h
  refine r_iald C (q := 66) dX6_set_65 (kf_X6_0 hx0) e_65 rfl ?_
  refine r_iconst C (v := 1) (q := 67) dX6_set_66 (by decide) rfl ?_
  refine r_icmp_ne C (tgt := 76) (q := 70) dX6_set_67 (by decide) rfl (fun c_67 => ?_) (fun c_67 => ?_)
  · replace h := (if_neg c_67).symm.trans h
    exact w_X6_set_b76 C hr  _ _ _ _ _ _ hx0 h
  · replace h := (if_pos c_67).symm.trans h
    refine r_lload_n C 3 (q := 71) dX6_set_70 rfl rfl ?_
    refine r_l2i C (q := 72) dX6_set_71 rfl ?_
    refine r_i2s C (q := 73) dX6_set_72 rfl ?_
    refine r_i2l C (q := 74) dX6_set_73 rfl ?_
    obtain ⟨y_74, e_74, h⟩ := bs h
    refine r_topJ (Option.some.inj e_74) ?_
    refine r_lstore C (lv' := [(6, .long y_74), (0, .ref ((xG X).1 x0)), (1, .int x1), (2, .int x2), (3, .long x3)]) (q := 76) dX6_set_74 (by decide) rfl rfl ?_
    refine r_sub (lv' := [(0, .ref ((xG X).1 x0)), (1, .int x1), (2, .int x2), (3, .long x3), (6, .long y_74)]) [1, 2, 3, 4, 0] rfl ?_
    exact w_X6_set_b76 C hr  _ _ _ _ _ _ hx0 h

set_option maxHeartbeats 4000000 in
set_option maxRecDepth 100000 in
theorem w_X6_set_b0 {X : CX} (C : Cok X RX6 cX6_set 8 2 43) {σ' : St} {r : Int32} (hr : RtI X cX6_set r σ') (σ : St) (x0 : Nat) (x1 : Int32) (x2 : Int32) (x3 : Int64) (hx0 : kd x0 = 7) (h : f_X6_set σ x0 x1 x2 x3 = some (r, σ')) : V X σ 0 [(0, .ref ((xG X).1 x0)), (1, .int x1), (2, .int x2), (3, .long x3)] [] := by
  unfold f_X6_set at h
  refine r_aload_n C 0 (q := 1) dX6_set_0 rfl rfl ?_
  refine r_iload_n C 1 (q := 2) dX6_set_1 rfl rfl ?_
  obtain ⟨v_2, e_2, h⟩ := bs h
  refine r_callV C (ci := 6) (st := []) (st2 := [.int v_2]) (q := 5) (m_X6_noRow (xG X) (xl X) hx0 e_2) ok_X6_noRow hx0 rfl ⟨_, rfl⟩ q_1092 rfl ⟨Nat.le_of_ble_eq_true rfl, Nat.le_of_ble_eq_true rfl⟩ rfl rfl (Nat.le_of_ble_eq_true rfl) dX6_set_2 rfl (fun hp_2 => ?_)
  refine r_istore C (lv' := [(5, .int v_2), (0, .ref ((xG X).1 x0)), (1, .int x1), (2, .int x2), (3, .long x3)]) (q := 7) dX6_set_5 (by decide) rfl rfl ?_
  refine r_iload C 0 (q := 9) dX6_set_7 rfl rfl ?_
  refine r_if_ge C (tgt := 19) (q := 12) dX6_set_9 (by decide) rfl (fun c_9 => ?_) (fun c_9 => ?_)
  · replace h := (if_pos c_9).symm.trans h
    refine r_iload_n C 3 (q := 20) dX6_set_19 rfl rfl ?_
    refine r_iconst C (v := 0) (q := 21) dX6_set_20 (by decide) rfl ?_
    refine r_aload_n C 1 (q := 22) dX6_set_21 rfl rfl ?_
    refine g_X6_1 C (q := 25) dX6_set_22 q_990 hx0 rfl ?_
    refine r_iload_n C 2 (q := 26) dX6_set_25 rfl rfl ?_
    obtain ⟨v_26, e_26, h⟩ := bs h
    refine r_iald C (q := 27) dX6_set_26 (kf_X6_1 hx0) e_26 rfl ?_
    refine r_iconst C (v := 1) (q := 28) dX6_set_27 (by decide) rfl ?_
    refine r_isub C (q := 29) dX6_set_28 rfl ?_
    obtain ⟨v_29, e_29, h⟩ := bs h
    refine r_callS C (st := []) (st2 := [.int v_29]) (q := 32) (m_X6_within (xG X) (xl X) e_29) ok_X6_within q_1081 rfl ⟨Nat.le_of_ble_eq_true rfl, Nat.le_of_ble_eq_true rfl⟩ rfl rfl (Nat.le_of_ble_eq_true rfl) dX6_set_29 rfl (fun hp_29 => ?_)
    refine r_if_ne C (tgt := 42) (q := 35) dX6_set_32 (by decide) rfl (fun c_32 => ?_) (fun c_32 => ?_)
    · replace h := (if_neg c_32).symm.trans h
      refine r_lload_n C 4 (q := 43) dX6_set_42 rfl rfl ?_
      refine r_lstore C (lv' := [(6, .long x3), (5, .int v_2), (0, .ref ((xG X).1 x0)), (1, .int x1), (2, .int x2), (3, .long x3)]) (q := 45) dX6_set_43 (by decide) rfl rfl ?_
      refine r_aload_n C 2 (q := 46) dX6_set_45 rfl rfl ?_
      refine g_X6_0 C (q := 49) dX6_set_46 q_989 hx0 rfl ?_
      refine r_iload_n C 3 (q := 50) dX6_set_49 rfl rfl ?_
      obtain ⟨v_50, e_50, h⟩ := bs h
      refine r_iald C (q := 51) dX6_set_50 (kf_X6_0 hx0) e_50 rfl ?_
      refine r_if_ne C (tgt := 60) (q := 54) dX6_set_51 (by decide) rfl (fun c_51 => ?_) (fun c_51 => ?_)
      · replace h := (if_neg c_51).symm.trans h
        refine r_sub (lv' := [(0, .ref ((xG X).1 x0)), (1, .int x1), (2, .int x2), (3, .long x3), (6, .long x3)]) [2, 3, 4, 5, 0] rfl ?_
        exact w_X6_set_b60 C hr  _ _ _ _ _ _ hx0 h
      · replace h := (if_pos c_51).symm.trans h
        refine r_lload_n C 5 (q := 55) dX6_set_54 rfl rfl ?_
        refine r_l2i C (q := 56) dX6_set_55 rfl ?_
        refine r_i2b C (q := 57) dX6_set_56 rfl ?_
        refine r_i2l C (q := 58) dX6_set_57 rfl ?_
        obtain ⟨y_58, e_58, h⟩ := bs h
        refine r_topJ (Option.some.inj e_58) ?_
        refine r_lstore C (lv' := [(6, .long y_58), (5, .int v_2), (0, .ref ((xG X).1 x0)), (1, .int x1), (2, .int x2), (3, .long x3)]) (q := 60) dX6_set_58 (by decide) rfl rfl ?_
        refine r_sub (lv' := [(0, .ref ((xG X).1 x0)), (1, .int x1), (2, .int x2), (3, .long x3), (6, .long y_58)]) [2, 3, 4, 5, 0] rfl ?_
        exact w_X6_set_b60 C hr  _ _ _ _ _ _ hx0 h
    · replace h := (if_pos c_32).symm.trans h
      refine r_aload_n C 1 (q := 36) dX6_set_35 rfl rfl ?_
      refine r_bipush C (v := (-2)) (q := 38) dX6_set_36 (by decide) rfl ?_
      obtain ⟨v_38, s_38, e_38, h⟩ := bs2 h
      refine r_callV C (ci := 6) (st := []) (st2 := [.int v_38]) (q := 41) (m_X6_no (xG X) (xl X) hx0 e_38) ok_X6_no hx0 rfl ⟨_, rfl⟩ q_1084 rfl ⟨Nat.le_of_ble_eq_true rfl, Nat.le_of_ble_eq_true rfl⟩ rfl rfl (Nat.le_of_ble_eq_true rfl) dX6_set_38 rfl (fun hp_38 => ?_)
      obtain ⟨rfl, rfl⟩ := Prod.mk.inj (Option.some.inj h)
      exact hr _ _ dX6_set_41
  · replace h := (if_neg c_9).symm.trans h
    refine r_aload_n C 1 (q := 13) dX6_set_12 rfl rfl ?_
    refine r_iload C 0 (q := 15) dX6_set_13 rfl rfl ?_
    obtain ⟨v_15, s_15, e_15, h⟩ := bs2 h
    refine r_callV C (ci := 6) (st := []) (st2 := [.int v_15]) (q := 18) (m_X6_no (xG X) (xl X) hx0 e_15) ok_X6_no hx0 rfl ⟨_, rfl⟩ q_1084 rfl ⟨Nat.le_of_ble_eq_true rfl, Nat.le_of_ble_eq_true rfl⟩ rfl rfl (Nat.le_of_ble_eq_true rfl) dX6_set_15 rfl (fun hp_15 => ?_)
    obtain ⟨rfl, rfl⟩ := Prod.mk.inj (Option.some.inj h)
    exact hr _ _ dX6_set_18

theorem m_X6_set (G : Gm) (l : Launch) {σ σ' : St} {x0 : Nat} {x1 : Int32} {x2 : Int32} {x3 : Int64} (hx0 : kd x0 = 7) {r : Int32} (h : f_X6_set σ x0 x1 x2 x3 = some (r, σ')) : Ctr G l yX6_set cX6_set 8 (some .int) 2 43 [.ref (G.1 x0), .int x1, .int x2, .long x3] σ (some (.int r)) True σ' := by
  refine Ctr.i (by decide) (Nat.le_of_ble_eq_true rfl) ?_
  intro X hG C hr
  subst hG
  exact w_X6_set_b0 C hr _ _ _ _ _ hx0 h
-- X6_copy
set_option maxHeartbeats 4000000 in
set_option maxRecDepth 100000 in
theorem w_X6_copy_b229 {X : CX} (C : Cok X RX6 cX6_copy 7 2 43) {σ' : St} {r : Int32} (hr : RtI X cX6_copy r σ') (k_229 : St → Nat → Int32 → Int32 → Int32 → Int32 → Int32 → Int32 → Option (Int32 × St)) (hk_229 : ∀ (σ : St) (x0 : Nat) (x1 : Int32) (x2 : Int32) (x3 : Int32) (x4 : Int32) (x5 : Int32) (x6 : Int32), kd x0 = 7 → k_229 σ x0 x1 x2 x3 x4 x5 x6 = some (r, σ') → V X σ 229 [(0, .ref ((xG X).1 x0)), (1, .int x1), (2, .int x2), (3, .int x3), (4, .int x4), (5, .int x5), (6, .int x6)] []) (σ : St) (x0 : Nat) (x1 : Int32) (x2 : Int32) (x3 : Int32) (x4 : Int32) (x5 : Int32) (x6 : Int32) (hx0 : kd x0 = 7) (h : f_X6_copy_b229 k_229 σ x0 x1 x2 x3 x4 x5 x6 = some (r, σ')) : V X σ 229 [(0, .ref ((xG X).1 x0)), (1, .int x1), (2, .int x2), (3, .int x3), (4, .int x4), (5, .int x5), (6, .int x6)] [] := by
  unfold f_X6_copy_b229 at h
  refine r_iload C 6 (q := 231) dX6_copy_229 rfl rfl ?_
  refine r_iload C 5 (q := 233) dX6_copy_231 rfl rfl ?_
  refine r_icmp_ge C (tgt := 271) (q := 236) dX6_copy_233 (by decide) rfl (fun c_233 => ?_) (fun c_233 => ?_)
  · replace h := (if_pos c_233).symm.trans h
    refine r_iload C 5 (q := 273) dX6_copy_271 rfl rfl ?_
    obtain ⟨rfl, rfl⟩ := Prod.mk.inj (Option.some.inj h)
    exact hr _ _ dX6_copy_273
  · replace h := (if_neg c_233).symm.trans h
    refine r_aload_n C 0 (q := 237) dX6_copy_236 rfl rfl ?_
    refine g_X6_2 C (q := 240) dX6_copy_237 q_991 hx0 rfl ?_
    refine r_bipush C (v := 40) (q := 242) dX6_copy_240 (by decide) rfl ?_
    refine r_iload_n C 2 (q := 243) dX6_copy_242 rfl rfl ?_
    refine r_imul C (q := 244) dX6_copy_243 rfl ?_
    refine r_iload C 4 (q := 246) dX6_copy_244 rfl rfl ?_
    refine r_iadd C (q := 247) dX6_copy_246 rfl ?_
    refine r_iload C 6 (q := 249) dX6_copy_247 rfl rfl ?_
    refine r_iadd C (q := 250) dX6_copy_249 rfl ?_
    refine r_aload_n C 0 (q := 251) dX6_copy_250 rfl rfl ?_
    refine g_X6_2 C (q := 254) dX6_copy_251 q_991 hx0 rfl ?_
    refine r_bipush C (v := 40) (q := 256) dX6_copy_254 (by decide) rfl ?_
    refine r_iload_n C 1 (q := 257) dX6_copy_256 rfl rfl ?_
    refine r_imul C (q := 258) dX6_copy_257 rfl ?_
    refine r_iload_n C 3 (q := 259) dX6_copy_258 rfl rfl ?_
    refine r_iadd C (q := 260) dX6_copy_259 rfl ?_
    refine r_iload C 6 (q := 262) dX6_copy_260 rfl rfl ?_
    refine r_iadd C (q := 263) dX6_copy_262 rfl ?_
    obtain ⟨v_263, e_263, h⟩ := bs h
    refine r_lald C (q := 264) dX6_copy_263 (kf_X6_2 hx0) e_263 rfl ?_
    obtain ⟨s_264, e_264, h⟩ := bs h
    refine r_last C (q := 265) dX6_copy_264 (kf_X6_2 hx0) e_264 rfl ?_
    obtain ⟨y_265, e_265, h⟩ := bs h
    refine r_iinc C (v := y_265) (lv' := [(6, .int y_265), (0, .ref ((xG X).1 x0)), (1, .int x1), (2, .int x2), (3, .int x3), (4, .int x4), (5, .int x5)]) (q := 268) 6 dX6_copy_265 rfl (Option.some.inj e_265) (by decide) rfl rfl ?_
    refine r_goto C (tgt := 229) dX6_copy_268 (by decide) ?_
    refine r_sub (lv' := [(0, .ref ((xG X).1 x0)), (1, .int x1), (2, .int x2), (3, .int x3), (4, .int x4), (5, .int x5), (6, .int y_265)]) [1, 2, 3, 4, 5, 6, 0] rfl ?_
    exact hk_229 _ _ _ _ _ _ _ _ hx0 h

theorem w_X6_copy_l229 {X : CX} (C : Cok X RX6 cX6_copy 7 2 43) {σ' : St} {r : Int32} (hr : RtI X cX6_copy r σ') (n : Nat) : ∀ (σ : St) (x0 : Nat) (x1 : Int32) (x2 : Int32) (x3 : Int32) (x4 : Int32) (x5 : Int32) (x6 : Int32), kd x0 = 7 → f_X6_copy_l229 n σ x0 x1 x2 x3 x4 x5 x6 = some (r, σ') → V X σ 229 [(0, .ref ((xG X).1 x0)), (1, .int x1), (2, .int x2), (3, .int x3), (4, .int x4), (5, .int x5), (6, .int x6)] [] := by
  induction n with
  | zero =>
    intro σ x0 x1 x2 x3 x4 x5 x6 hx0 h
    exact nomatch (show (none : Option (Int32 × St)) = some (r, σ') from h)
  | succ n ih =>
    intro σ x0 x1 x2 x3 x4 x5 x6 hx0 h
    exact w_X6_copy_b229 C hr _ ih σ x0 x1 x2 x3 x4 x5 x6 hx0 h
set_option maxHeartbeats 4000000 in
set_option maxRecDepth 100000 in
theorem w_X6_copy_b226 {X : CX} (C : Cok X RX6 cX6_copy 7 2 43) {σ' : St} {r : Int32} (hr : RtI X cX6_copy r σ') (σ : St) (x0 : Nat) (x1 : Int32) (x2 : Int32) (x3 : Int32) (x4 : Int32) (x5 : Int32) (hx0 : kd x0 = 7) (h : f_X6_copy_b226 σ x0 x1 x2 x3 x4 x5 = some (r, σ')) : V X σ 226 [(0, .ref ((xG X).1 x0)), (1, .int x1), (2, .int x2), (3, .int x3), (4, .int x4), (5, .int x5)] [] := by
  unfold f_X6_copy_b226 at h
  refine r_iconst C (v := 0) (q := 227) dX6_copy_226 (by decide) rfl ?_
  refine r_istore C (lv' := [(6, .int 0), (0, .ref ((xG X).1 x0)), (1, .int x1), (2, .int x2), (3, .int x3), (4, .int x4), (5, .int x5)]) (q := 229) dX6_copy_227 (by decide) rfl rfl ?_
  refine r_sub (lv' := [(0, .ref ((xG X).1 x0)), (1, .int x1), (2, .int x2), (3, .int x3), (4, .int x4), (5, .int x5), (6, .int 0)]) [1, 2, 3, 4, 5, 6, 0] rfl ?_
  exact w_X6_copy_l229 C hr  FU _ _ _ _ _ _ _ _ hx0 h

set_option maxHeartbeats 4000000 in
set_option maxRecDepth 100000 in
theorem w_X6_copy_b183 {X : CX} (C : Cok X RX6 cX6_copy 7 2 43) {σ' : St} {r : Int32} (hr : RtI X cX6_copy r σ') (k_183 : St → Nat → Int32 → Int32 → Int32 → Int32 → Int32 → Int32 → Option (Int32 × St)) (hk_183 : ∀ (σ : St) (x0 : Nat) (x1 : Int32) (x2 : Int32) (x3 : Int32) (x4 : Int32) (x5 : Int32) (x6 : Int32), kd x0 = 7 → k_183 σ x0 x1 x2 x3 x4 x5 x6 = some (r, σ') → V X σ 183 [(0, .ref ((xG X).1 x0)), (1, .int x1), (2, .int x2), (3, .int x3), (4, .int x4), (5, .int x5), (6, .int x6)] []) (σ : St) (x0 : Nat) (x1 : Int32) (x2 : Int32) (x3 : Int32) (x4 : Int32) (x5 : Int32) (x6 : Int32) (hx0 : kd x0 = 7) (h : f_X6_copy_b183 k_183 σ x0 x1 x2 x3 x4 x5 x6 = some (r, σ')) : V X σ 183 [(0, .ref ((xG X).1 x0)), (1, .int x1), (2, .int x2), (3, .int x3), (4, .int x4), (5, .int x5), (6, .int x6)] [] := by
  unfold f_X6_copy_b183 at h
  refine r_iload C 6 (q := 185) dX6_copy_183 rfl rfl ?_
  refine r_if_lt C (tgt := 223) (q := 188) dX6_copy_185 (by decide) rfl (fun c_185 => ?_) (fun c_185 => ?_)
  · replace h := (if_pos c_185).symm.trans h
    refine r_goto C (tgt := 271) dX6_copy_223 (by decide) ?_
    refine r_iload C 5 (q := 273) dX6_copy_271 rfl rfl ?_
    obtain ⟨rfl, rfl⟩ := Prod.mk.inj (Option.some.inj h)
    exact hr _ _ dX6_copy_273
  · replace h := (if_neg c_185).symm.trans h
    refine r_aload_n C 0 (q := 189) dX6_copy_188 rfl rfl ?_
    refine g_X6_2 C (q := 192) dX6_copy_189 q_991 hx0 rfl ?_
    refine r_bipush C (v := 40) (q := 194) dX6_copy_192 (by decide) rfl ?_
    refine r_iload_n C 2 (q := 195) dX6_copy_194 rfl rfl ?_
    refine r_imul C (q := 196) dX6_copy_195 rfl ?_
    refine r_iload C 4 (q := 198) dX6_copy_196 rfl rfl ?_
    refine r_iadd C (q := 199) dX6_copy_198 rfl ?_
    refine r_iload C 6 (q := 201) dX6_copy_199 rfl rfl ?_
    refine r_iadd C (q := 202) dX6_copy_201 rfl ?_
    refine r_aload_n C 0 (q := 203) dX6_copy_202 rfl rfl ?_
    refine g_X6_2 C (q := 206) dX6_copy_203 q_991 hx0 rfl ?_
    refine r_bipush C (v := 40) (q := 208) dX6_copy_206 (by decide) rfl ?_
    refine r_iload_n C 1 (q := 209) dX6_copy_208 rfl rfl ?_
    refine r_imul C (q := 210) dX6_copy_209 rfl ?_
    refine r_iload_n C 3 (q := 211) dX6_copy_210 rfl rfl ?_
    refine r_iadd C (q := 212) dX6_copy_211 rfl ?_
    refine r_iload C 6 (q := 214) dX6_copy_212 rfl rfl ?_
    refine r_iadd C (q := 215) dX6_copy_214 rfl ?_
    obtain ⟨v_215, e_215, h⟩ := bs h
    refine r_lald C (q := 216) dX6_copy_215 (kf_X6_2 hx0) e_215 rfl ?_
    obtain ⟨s_216, e_216, h⟩ := bs h
    refine r_last C (q := 217) dX6_copy_216 (kf_X6_2 hx0) e_216 rfl ?_
    obtain ⟨y_217, e_217, h⟩ := bs h
    refine r_iinc C (v := y_217) (lv' := [(6, .int y_217), (0, .ref ((xG X).1 x0)), (1, .int x1), (2, .int x2), (3, .int x3), (4, .int x4), (5, .int x5)]) (q := 220) 6 dX6_copy_217 rfl (Option.some.inj e_217) (by decide) rfl rfl ?_
    refine r_goto C (tgt := 183) dX6_copy_220 (by decide) ?_
    refine r_sub (lv' := [(0, .ref ((xG X).1 x0)), (1, .int x1), (2, .int x2), (3, .int x3), (4, .int x4), (5, .int x5), (6, .int y_217)]) [1, 2, 3, 4, 5, 6, 0] rfl ?_
    exact hk_183 _ _ _ _ _ _ _ _ hx0 h

theorem w_X6_copy_l183 {X : CX} (C : Cok X RX6 cX6_copy 7 2 43) {σ' : St} {r : Int32} (hr : RtI X cX6_copy r σ') (n : Nat) : ∀ (σ : St) (x0 : Nat) (x1 : Int32) (x2 : Int32) (x3 : Int32) (x4 : Int32) (x5 : Int32) (x6 : Int32), kd x0 = 7 → f_X6_copy_l183 n σ x0 x1 x2 x3 x4 x5 x6 = some (r, σ') → V X σ 183 [(0, .ref ((xG X).1 x0)), (1, .int x1), (2, .int x2), (3, .int x3), (4, .int x4), (5, .int x5), (6, .int x6)] [] := by
  induction n with
  | zero =>
    intro σ x0 x1 x2 x3 x4 x5 x6 hx0 h
    exact nomatch (show (none : Option (Int32 × St)) = some (r, σ') from h)
  | succ n ih =>
    intro σ x0 x1 x2 x3 x4 x5 x6 hx0 h
    exact w_X6_copy_b183 C hr _ ih σ x0 x1 x2 x3 x4 x5 x6 hx0 h
set_option maxHeartbeats 4000000 in
set_option maxRecDepth 100000 in
theorem w_X6_copy_b159 {X : CX} (C : Cok X RX6 cX6_copy 7 2 43) {σ' : St} {r : Int32} (hr : RtI X cX6_copy r σ') (σ : St) (x0 : Nat) (hx0 : kd x0 = 7) (h : f_X6_copy_b159 σ x0 = some (r, σ')) : V X σ 159 [(0, .ref ((xG X).1 x0))] [] := by
  unfold f_X6_copy_b159 at h
  refine r_aload_n C 0 (q := 160) dX6_copy_159 rfl rfl ?_
  refine r_bipush C (v := (-2)) (q := 162) dX6_copy_160 (by decide) rfl ?_
  obtain ⟨v_162, s_162, e_162, h⟩ := bs2 h
  refine r_callV C (ci := 6) (st := []) (st2 := [.int v_162]) (q := 165) (m_X6_no (xG X) (xl X) hx0 e_162) ok_X6_no hx0 rfl ⟨_, rfl⟩ q_1084 rfl ⟨Nat.le_of_ble_eq_true rfl, Nat.le_of_ble_eq_true rfl⟩ rfl rfl (Nat.le_of_ble_eq_true rfl) dX6_copy_162 rfl (fun hp_162 => ?_)
  obtain ⟨rfl, rfl⟩ := Prod.mk.inj (Option.some.inj h)
  exact hr _ _ dX6_copy_165

set_option maxHeartbeats 4000000 in
set_option maxRecDepth 100000 in
theorem w_X6_copy_b103 {X : CX} (C : Cok X RX6 cX6_copy 7 2 43) {σ' : St} {r : Int32} (hr : RtI X cX6_copy r σ') (σ : St) (x0 : Nat) (hx0 : kd x0 = 7) (h : f_X6_copy_b103 σ x0 = some (r, σ')) : V X σ 103 [(0, .ref ((xG X).1 x0))] [] := by
  unfold f_X6_copy_b103 at h
  refine r_aload_n C 0 (q := 104) dX6_copy_103 rfl rfl ?_
  refine r_bipush C (v := (-4)) (q := 106) dX6_copy_104 (by decide) rfl ?_
  obtain ⟨v_106, s_106, e_106, h⟩ := bs2 h
  refine r_callV C (ci := 6) (st := []) (st2 := [.int v_106]) (q := 109) (m_X6_no (xG X) (xl X) hx0 e_106) ok_X6_no hx0 rfl ⟨_, rfl⟩ q_1084 rfl ⟨Nat.le_of_ble_eq_true rfl, Nat.le_of_ble_eq_true rfl⟩ rfl rfl (Nat.le_of_ble_eq_true rfl) dX6_copy_106 rfl (fun hp_106 => ?_)
  obtain ⟨rfl, rfl⟩ := Prod.mk.inj (Option.some.inj h)
  exact hr _ _ dX6_copy_109

set_option maxHeartbeats 4000000 in
set_option maxRecDepth 100000 in
theorem w_X6_copy_b85 {X : CX} (C : Cok X RX6 cX6_copy 7 2 43) {σ' : St} {r : Int32} (hr : RtI X cX6_copy r σ') (σ : St) (x0 : Nat) (x1 : Int32) (x2 : Int32) (x3 : Int32) (x4 : Int32) (x5 : Int32) (hx0 : kd x0 = 7) (h : f_X6_copy_b85 σ x0 x1 x2 x3 x4 x5 = some (r, σ')) : V X σ 85 [(0, .ref ((xG X).1 x0)), (1, .int x1), (2, .int x2), (3, .int x3), (4, .int x4), (5, .int x5)] [] := by
  unfold f_X6_copy_b85 at h
  refine r_aload_n C 0 (q := 86) dX6_copy_85 rfl rfl ?_
  refine g_X6_0 C (q := 89) dX6_copy_86 q_989 hx0 rfl ?_
  refine r_iload_n C 1 (q := 90) dX6_copy_89 rfl rfl ?_
  obtain ⟨v_90, e_90, h⟩ := bs h
  refine r_iald C (q := 91) dX6_copy_90 (kf_X6_0 hx0) e_90 rfl ?_
  refine r_if_lt C (tgt := 103) (q := 94) dX6_copy_91 (by decide) rfl (fun c_91 => ?_) (fun c_91 => ?_)
  · replace h := (if_pos c_91).symm.trans h
    refine r_sub (lv' := [(0, .ref ((xG X).1 x0))]) [0] rfl ?_
    exact w_X6_copy_b103 C hr  _ _ hx0 h
  · replace h := (if_neg c_91).symm.trans h
    refine r_aload_n C 0 (q := 95) dX6_copy_94 rfl rfl ?_
    refine g_X6_0 C (q := 98) dX6_copy_95 q_989 hx0 rfl ?_
    refine r_iload_n C 2 (q := 99) dX6_copy_98 rfl rfl ?_
    obtain ⟨v_99, e_99, h⟩ := bs h
    refine r_iald C (q := 100) dX6_copy_99 (kf_X6_0 hx0) e_99 rfl ?_
    refine r_if_ge C (tgt := 110) (q := 103) dX6_copy_100 (by decide) rfl (fun c_100 => ?_) (fun c_100 => ?_)
    · replace h := (if_pos c_100).symm.trans h
      refine r_iload C 5 (q := 112) dX6_copy_110 rfl rfl ?_
      refine r_if_lt C (tgt := 159) (q := 115) dX6_copy_112 (by decide) rfl (fun c_112 => ?_) (fun c_112 => ?_)
      · replace h := (if_pos c_112).symm.trans h
        refine r_sub (lv' := [(0, .ref ((xG X).1 x0))]) [0] rfl ?_
        exact w_X6_copy_b159 C hr  _ _ hx0 h
      · replace h := (if_neg c_112).symm.trans h
        refine r_iload_n C 3 (q := 116) dX6_copy_115 rfl rfl ?_
        refine r_if_lt C (tgt := 159) (q := 119) dX6_copy_116 (by decide) rfl (fun c_116 => ?_) (fun c_116 => ?_)
        · replace h := (if_pos c_116).symm.trans h
          refine r_sub (lv' := [(0, .ref ((xG X).1 x0))]) [0] rfl ?_
          exact w_X6_copy_b159 C hr  _ _ hx0 h
        · replace h := (if_neg c_116).symm.trans h
          refine r_iload C 4 (q := 121) dX6_copy_119 rfl rfl ?_
          refine r_if_lt C (tgt := 159) (q := 124) dX6_copy_121 (by decide) rfl (fun c_121 => ?_) (fun c_121 => ?_)
          · replace h := (if_pos c_121).symm.trans h
            refine r_sub (lv' := [(0, .ref ((xG X).1 x0))]) [0] rfl ?_
            exact w_X6_copy_b159 C hr  _ _ hx0 h
          · replace h := (if_neg c_121).symm.trans h
            refine r_iload_n C 3 (q := 125) dX6_copy_124 rfl rfl ?_
            refine r_i2l C (q := 126) dX6_copy_125 rfl ?_
            refine r_iload C 5 (q := 128) dX6_copy_126 rfl rfl ?_
            refine r_i2l C (q := 129) dX6_copy_128 rfl ?_
            refine r_ladd C (q := 130) dX6_copy_129 rfl ?_
            refine r_aload_n C 0 (q := 131) dX6_copy_130 rfl rfl ?_
            refine g_X6_1 C (q := 134) dX6_copy_131 q_990 hx0 rfl ?_
            refine r_iload_n C 1 (q := 135) dX6_copy_134 rfl rfl ?_
            obtain ⟨v_135, e_135, h⟩ := bs h
            refine r_iald C (q := 136) dX6_copy_135 (kf_X6_1 hx0) e_135 rfl ?_
            refine r_i2l C (q := 137) dX6_copy_136 rfl ?_
            refine r_lcmp C (q := 138) dX6_copy_137 rfl ?_
            refine r_if_gt C (tgt := 159) (q := 141) dX6_copy_138 (by decide) rfl (fun c_138 => ?_) (fun c_138 => ?_)
            · replace h := (if_pos c_138).symm.trans h
              refine r_sub (lv' := [(0, .ref ((xG X).1 x0))]) [0] rfl ?_
              exact w_X6_copy_b159 C hr  _ _ hx0 h
            · replace h := (if_neg c_138).symm.trans h
              refine r_iload C 4 (q := 143) dX6_copy_141 rfl rfl ?_
              refine r_i2l C (q := 144) dX6_copy_143 rfl ?_
              refine r_iload C 5 (q := 146) dX6_copy_144 rfl rfl ?_
              refine r_i2l C (q := 147) dX6_copy_146 rfl ?_
              refine r_ladd C (q := 148) dX6_copy_147 rfl ?_
              refine r_aload_n C 0 (q := 149) dX6_copy_148 rfl rfl ?_
              refine g_X6_1 C (q := 152) dX6_copy_149 q_990 hx0 rfl ?_
              refine r_iload_n C 2 (q := 153) dX6_copy_152 rfl rfl ?_
              obtain ⟨v_153, e_153, h⟩ := bs h
              refine r_iald C (q := 154) dX6_copy_153 (kf_X6_1 hx0) e_153 rfl ?_
              refine r_i2l C (q := 155) dX6_copy_154 rfl ?_
              refine r_lcmp C (q := 156) dX6_copy_155 rfl ?_
              refine r_if_le C (tgt := 166) (q := 159) dX6_copy_156 (by decide) rfl (fun c_156 => ?_) (fun c_156 => ?_)
              · replace h := (if_pos c_156).symm.trans h
                refine r_iload_n C 1 (q := 167) dX6_copy_166 rfl rfl ?_
                refine r_iload_n C 2 (q := 168) dX6_copy_167 rfl rfl ?_
                refine r_icmp_ne C (tgt := 226) (q := 171) dX6_copy_168 (by decide) rfl (fun c_168 => ?_) (fun c_168 => ?_)
                · replace h := (if_neg c_168).symm.trans h
                  exact w_X6_copy_b226 C hr  _ _ _ _ _ _ _ hx0 h
                · replace h := (if_pos c_168).symm.trans h
                  refine r_iload_n C 3 (q := 172) dX6_copy_171 rfl rfl ?_
                  refine r_iload C 4 (q := 174) dX6_copy_172 rfl rfl ?_
                  refine r_icmp_ge C (tgt := 226) (q := 177) dX6_copy_174 (by decide) rfl (fun c_174 => ?_) (fun c_174 => ?_)
                  · replace h := (if_pos c_174).symm.trans h
                    exact w_X6_copy_b226 C hr  _ _ _ _ _ _ _ hx0 h
                  · replace h := (if_neg c_174).symm.trans h
                    refine r_iload C 5 (q := 179) dX6_copy_177 rfl rfl ?_
                    refine r_iconst C (v := 1) (q := 180) dX6_copy_179 (by decide) rfl ?_
                    refine r_isub C (q := 181) dX6_copy_180 rfl ?_
                    obtain ⟨y_181, e_181, h⟩ := bs h
                    refine r_topI (Option.some.inj e_181) ?_
                    refine r_istore C (lv' := [(6, .int y_181), (0, .ref ((xG X).1 x0)), (1, .int x1), (2, .int x2), (3, .int x3), (4, .int x4), (5, .int x5)]) (q := 183) dX6_copy_181 (by decide) rfl rfl ?_
                    refine r_sub (lv' := [(0, .ref ((xG X).1 x0)), (1, .int x1), (2, .int x2), (3, .int x3), (4, .int x4), (5, .int x5), (6, .int y_181)]) [1, 2, 3, 4, 5, 6, 0] rfl ?_
                    exact w_X6_copy_l183 C hr  FU _ _ _ _ _ _ _ _ hx0 h
              · replace h := (if_neg c_156).symm.trans h
                refine r_sub (lv' := [(0, .ref ((xG X).1 x0))]) [0] rfl ?_
                exact w_X6_copy_b159 C hr  _ _ hx0 h
    · replace h := (if_neg c_100).symm.trans h
      refine r_sub (lv' := [(0, .ref ((xG X).1 x0))]) [0] rfl ?_
      exact w_X6_copy_b103 C hr  _ _ hx0 h

set_option maxHeartbeats 4000000 in
set_option maxRecDepth 100000 in
theorem w_X6_copy_b78 {X : CX} (C : Cok X RX6 cX6_copy 7 2 43) {σ' : St} {r : Int32} (hr : RtI X cX6_copy r σ') (σ : St) (x0 : Nat) (hx0 : kd x0 = 7) (h : f_X6_copy_b78 σ x0 = some (r, σ')) : V X σ 78 [(0, .ref ((xG X).1 x0))] [] := by
  unfold f_X6_copy_b78 at h
  refine r_aload_n C 0 (q := 79) dX6_copy_78 rfl rfl ?_
  refine r_bipush C (v := (-3)) (q := 81) dX6_copy_79 (by decide) rfl ?_
  obtain ⟨v_81, s_81, e_81, h⟩ := bs2 h
  refine r_callV C (ci := 6) (st := []) (st2 := [.int v_81]) (q := 84) (m_X6_no (xG X) (xl X) hx0 e_81) ok_X6_no hx0 rfl ⟨_, rfl⟩ q_1084 rfl ⟨Nat.le_of_ble_eq_true rfl, Nat.le_of_ble_eq_true rfl⟩ rfl rfl (Nat.le_of_ble_eq_true rfl) dX6_copy_81 rfl (fun hp_81 => ?_)
  obtain ⟨rfl, rfl⟩ := Prod.mk.inj (Option.some.inj h)
  exact hr _ _ dX6_copy_84

set_option maxHeartbeats 4000000 in
set_option maxRecDepth 100000 in
theorem w_X6_copy_b20 {X : CX} (C : Cok X RX6 cX6_copy 7 2 43) {σ' : St} {r : Int32} (hr : RtI X cX6_copy r σ') (σ : St) (x0 : Nat) (hx0 : kd x0 = 7) (h : f_X6_copy_b20 σ x0 = some (r, σ')) : V X σ 20 [(0, .ref ((xG X).1 x0))] [] := by
  unfold f_X6_copy_b20 at h
  refine r_aload_n C 0 (q := 21) dX6_copy_20 rfl rfl ?_
  refine r_bipush C (v := (-2)) (q := 23) dX6_copy_21 (by decide) rfl ?_
  obtain ⟨v_23, s_23, e_23, h⟩ := bs2 h
  refine r_callV C (ci := 6) (st := []) (st2 := [.int v_23]) (q := 26) (m_X6_no (xG X) (xl X) hx0 e_23) ok_X6_no hx0 rfl ⟨_, rfl⟩ q_1084 rfl ⟨Nat.le_of_ble_eq_true rfl, Nat.le_of_ble_eq_true rfl⟩ rfl rfl (Nat.le_of_ble_eq_true rfl) dX6_copy_23 rfl (fun hp_23 => ?_)
  obtain ⟨rfl, rfl⟩ := Prod.mk.inj (Option.some.inj h)
  exact hr _ _ dX6_copy_26

set_option maxHeartbeats 4000000 in
set_option maxRecDepth 100000 in
theorem w_X6_copy_b0 {X : CX} (C : Cok X RX6 cX6_copy 7 2 43) {σ' : St} {r : Int32} (hr : RtI X cX6_copy r σ') (σ : St) (x0 : Nat) (x1 : Int32) (x2 : Int32) (x3 : Int32) (x4 : Int32) (x5 : Int32) (hx0 : kd x0 = 7) (h : f_X6_copy σ x0 x1 x2 x3 x4 x5 = some (r, σ')) : V X σ 0 [(0, .ref ((xG X).1 x0)), (1, .int x1), (2, .int x2), (3, .int x3), (4, .int x4), (5, .int x5)] [] := by
  unfold f_X6_copy at h
  refine r_iload_n C 1 (q := 1) dX6_copy_0 rfl rfl ?_
  refine r_iconst C (v := 0) (q := 2) dX6_copy_1 (by decide) rfl ?_
  refine r_bipush C (v := 7) (q := 4) dX6_copy_2 (by decide) rfl ?_
  obtain ⟨v_4, e_4, h⟩ := bs h
  refine r_callS C (st := []) (st2 := [.int v_4]) (q := 7) (m_X6_within (xG X) (xl X) e_4) ok_X6_within q_1081 rfl ⟨Nat.le_of_ble_eq_true rfl, Nat.le_of_ble_eq_true rfl⟩ rfl rfl (Nat.le_of_ble_eq_true rfl) dX6_copy_4 rfl (fun hp_4 => ?_)
  refine r_if_eq C (tgt := 20) (q := 10) dX6_copy_7 (by decide) rfl (fun c_7 => ?_) (fun c_7 => ?_)
  · replace h := (if_pos c_7).symm.trans h
    refine r_sub (lv' := [(0, .ref ((xG X).1 x0))]) [0] rfl ?_
    exact w_X6_copy_b20 C hr  _ _ hx0 h
  · replace h := (if_neg c_7).symm.trans h
    refine r_iload_n C 2 (q := 11) dX6_copy_10 rfl rfl ?_
    refine r_iconst C (v := 0) (q := 12) dX6_copy_11 (by decide) rfl ?_
    refine r_bipush C (v := 7) (q := 14) dX6_copy_12 (by decide) rfl ?_
    obtain ⟨v_14, e_14, h⟩ := bs h
    refine r_callS C (st := []) (st2 := [.int v_14]) (q := 17) (m_X6_within (xG X) (xl X) e_14) ok_X6_within q_1081 rfl ⟨Nat.le_of_ble_eq_true rfl, Nat.le_of_ble_eq_true rfl⟩ rfl rfl (Nat.le_of_ble_eq_true rfl) dX6_copy_14 rfl (fun hp_14 => ?_)
    refine r_if_ne C (tgt := 27) (q := 20) dX6_copy_17 (by decide) rfl (fun c_17 => ?_) (fun c_17 => ?_)
    · replace h := (if_neg c_17).symm.trans h
      refine r_aload_n C 0 (q := 28) dX6_copy_27 rfl rfl ?_
      refine g_X6_0 C (q := 31) dX6_copy_28 q_989 hx0 rfl ?_
      refine r_iload_n C 1 (q := 32) dX6_copy_31 rfl rfl ?_
      obtain ⟨v_32, e_32, h⟩ := bs h
      refine r_iald C (q := 33) dX6_copy_32 (kf_X6_0 hx0) e_32 rfl ?_
      refine r_iconst C (v := 4) (q := 34) dX6_copy_33 (by decide) rfl ?_
      refine r_icmp_gt C (tgt := 78) (q := 37) dX6_copy_34 (by decide) rfl (fun c_34 => ?_) (fun c_34 => ?_)
      · replace h := (if_pos c_34).symm.trans h
        refine r_sub (lv' := [(0, .ref ((xG X).1 x0))]) [0] rfl ?_
        exact w_X6_copy_b78 C hr  _ _ hx0 h
      · replace h := (if_neg c_34).symm.trans h
        refine r_aload_n C 0 (q := 38) dX6_copy_37 rfl rfl ?_
        refine g_X6_0 C (q := 41) dX6_copy_38 q_989 hx0 rfl ?_
        refine r_iload_n C 2 (q := 42) dX6_copy_41 rfl rfl ?_
        obtain ⟨v_42, e_42, h⟩ := bs h
        refine r_iald C (q := 43) dX6_copy_42 (kf_X6_0 hx0) e_42 rfl ?_
        refine r_iconst C (v := 4) (q := 44) dX6_copy_43 (by decide) rfl ?_
        refine r_icmp_gt C (tgt := 78) (q := 47) dX6_copy_44 (by decide) rfl (fun c_44 => ?_) (fun c_44 => ?_)
        · replace h := (if_pos c_44).symm.trans h
          refine r_sub (lv' := [(0, .ref ((xG X).1 x0))]) [0] rfl ?_
          exact w_X6_copy_b78 C hr  _ _ hx0 h
        · replace h := (if_neg c_44).symm.trans h
          refine r_aload_n C 0 (q := 48) dX6_copy_47 rfl rfl ?_
          refine r_iload_n C 1 (q := 49) dX6_copy_48 rfl rfl ?_
          obtain ⟨v_49, e_49, h⟩ := bs h
          refine r_callV C (ci := 6) (st := []) (st2 := [.int v_49]) (q := 52) (m_X6_isRow (xG X) (xl X) hx0 e_49) ok_X6_isRow hx0 rfl ⟨_, rfl⟩ q_1100 rfl ⟨Nat.le_of_ble_eq_true rfl, Nat.le_of_ble_eq_true rfl⟩ rfl rfl (Nat.le_of_ble_eq_true rfl) dX6_copy_49 rfl (fun hp_49 => ?_)
          refine r_if_eq C (tgt := 85) (q := 55) dX6_copy_52 (by decide) rfl (fun c_52 => ?_) (fun c_52 => ?_)
          · replace h := (if_pos c_52).symm.trans h
            exact w_X6_copy_b85 C hr  _ _ _ _ _ _ _ hx0 h
          · replace h := (if_neg c_52).symm.trans h
            refine r_aload_n C 0 (q := 56) dX6_copy_55 rfl rfl ?_
            refine r_iload_n C 2 (q := 57) dX6_copy_56 rfl rfl ?_
            obtain ⟨v_57, e_57, h⟩ := bs h
            refine r_callV C (ci := 6) (st := []) (st2 := [.int v_57]) (q := 60) (m_X6_isRow (xG X) (xl X) hx0 e_57) ok_X6_isRow hx0 rfl ⟨_, rfl⟩ q_1100 rfl ⟨Nat.le_of_ble_eq_true rfl, Nat.le_of_ble_eq_true rfl⟩ rfl rfl (Nat.le_of_ble_eq_true rfl) dX6_copy_57 rfl (fun hp_57 => ?_)
            refine r_if_eq C (tgt := 85) (q := 63) dX6_copy_60 (by decide) rfl (fun c_60 => ?_) (fun c_60 => ?_)
            · replace h := (if_pos c_60).symm.trans h
              exact w_X6_copy_b85 C hr  _ _ _ _ _ _ _ hx0 h
            · replace h := (if_neg c_60).symm.trans h
              refine r_aload_n C 0 (q := 64) dX6_copy_63 rfl rfl ?_
              refine g_X6_0 C (q := 67) dX6_copy_64 q_989 hx0 rfl ?_
              refine r_iload_n C 1 (q := 68) dX6_copy_67 rfl rfl ?_
              obtain ⟨v_68, e_68, h⟩ := bs h
              refine r_iald C (q := 69) dX6_copy_68 (kf_X6_0 hx0) e_68 rfl ?_
              refine r_aload_n C 0 (q := 70) dX6_copy_69 rfl rfl ?_
              refine g_X6_0 C (q := 73) dX6_copy_70 q_989 hx0 rfl ?_
              refine r_iload_n C 2 (q := 74) dX6_copy_73 rfl rfl ?_
              obtain ⟨v_74, e_74, h⟩ := bs h
              refine r_iald C (q := 75) dX6_copy_74 (kf_X6_0 hx0) e_74 rfl ?_
              refine r_icmp_eq C (tgt := 85) (q := 78) dX6_copy_75 (by decide) rfl (fun c_75 => ?_) (fun c_75 => ?_)
              · replace h := (if_pos c_75).symm.trans h
                exact w_X6_copy_b85 C hr  _ _ _ _ _ _ _ hx0 h
              · replace h := (if_neg c_75).symm.trans h
                refine r_sub (lv' := [(0, .ref ((xG X).1 x0))]) [0] rfl ?_
                exact w_X6_copy_b78 C hr  _ _ hx0 h
    · replace h := (if_pos c_17).symm.trans h
      refine r_sub (lv' := [(0, .ref ((xG X).1 x0))]) [0] rfl ?_
      exact w_X6_copy_b20 C hr  _ _ hx0 h

theorem m_X6_copy (G : Gm) (l : Launch) {σ σ' : St} {x0 : Nat} {x1 : Int32} {x2 : Int32} {x3 : Int32} {x4 : Int32} {x5 : Int32} (hx0 : kd x0 = 7) {r : Int32} (h : f_X6_copy σ x0 x1 x2 x3 x4 x5 = some (r, σ')) : Ctr G l yX6_copy cX6_copy 7 (some .int) 2 43 [.ref (G.1 x0), .int x1, .int x2, .int x3, .int x4, .int x5] σ (some (.int r)) True σ' := by
  refine Ctr.i (by decide) (Nat.le_of_ble_eq_true rfl) ?_
  intro X hG C hr
  subst hG
  exact w_X6_copy_b0 C hr _ _ _ _ _ _ _ hx0 h
-- X6_element
set_option maxHeartbeats 4000000 in
set_option maxRecDepth 100000 in
theorem w_X6_element_b0 {X : CX} (C : Cok X RX6 cX6_element 3 2 43) {σ : St} {r : Int64} (hr : RtJ X cX6_element r σ) (x0 : Nat) (x1 : Int32) (x2 : Int32) (hx0 : kd x0 = 7) (h : f_X6_element σ x0 x1 x2 = some r) : V X σ 0 [(0, .ref ((xG X).1 x0)), (1, .int x1), (2, .int x2)] [] := by
  unfold f_X6_element at h
  refine r_iload_n C 1 (q := 1) dX6_element_0 rfl rfl ?_
  refine r_iconst C (v := 0) (q := 2) dX6_element_1 (by decide) rfl ?_
  refine r_bipush C (v := 7) (q := 4) dX6_element_2 (by decide) rfl ?_
  obtain ⟨v_4, e_4, h⟩ := bs h
  refine r_callS C (st := []) (st2 := [.int v_4]) (q := 7) (m_X6_within (xG X) (xl X) e_4) ok_X6_within q_1081 rfl ⟨Nat.le_of_ble_eq_true rfl, Nat.le_of_ble_eq_true rfl⟩ rfl rfl (Nat.le_of_ble_eq_true rfl) dX6_element_4 rfl (fun hp_4 => ?_)
  refine r_if_eq C (tgt := 48) (q := 10) dX6_element_7 (by decide) rfl (fun c_7 => ?_) (fun c_7 => ?_)
  · replace h := (if_pos c_7).symm.trans h
    refine r_lconst C (v := 0) (q := 49) dX6_element_48 (by decide) rfl ?_
    obtain rfl := Option.some.inj h
    exact hr _ _ dX6_element_49
  · replace h := (if_neg c_7).symm.trans h
    refine r_aload_n C 0 (q := 11) dX6_element_10 rfl rfl ?_
    refine r_iload_n C 1 (q := 12) dX6_element_11 rfl rfl ?_
    obtain ⟨v_12, e_12, h⟩ := bs h
    refine r_callV C (ci := 6) (st := []) (st2 := [.int v_12]) (q := 15) (m_X6_isRow (xG X) (xl X) hx0 e_12) ok_X6_isRow hx0 rfl ⟨_, rfl⟩ q_1100 rfl ⟨Nat.le_of_ble_eq_true rfl, Nat.le_of_ble_eq_true rfl⟩ rfl rfl (Nat.le_of_ble_eq_true rfl) dX6_element_12 rfl (fun hp_12 => ?_)
    refine r_if_eq C (tgt := 48) (q := 18) dX6_element_15 (by decide) rfl (fun c_15 => ?_) (fun c_15 => ?_)
    · replace h := (if_pos c_15).symm.trans h
      refine r_lconst C (v := 0) (q := 49) dX6_element_48 (by decide) rfl ?_
      obtain rfl := Option.some.inj h
      exact hr _ _ dX6_element_49
    · replace h := (if_neg c_15).symm.trans h
      refine r_iload_n C 2 (q := 19) dX6_element_18 rfl rfl ?_
      refine r_iconst C (v := 0) (q := 20) dX6_element_19 (by decide) rfl ?_
      refine r_aload_n C 0 (q := 21) dX6_element_20 rfl rfl ?_
      refine g_X6_1 C (q := 24) dX6_element_21 q_990 hx0 rfl ?_
      refine r_iload_n C 1 (q := 25) dX6_element_24 rfl rfl ?_
      obtain ⟨v_25, e_25, h⟩ := bs h
      refine r_iald C (q := 26) dX6_element_25 (kf_X6_1 hx0) e_25 rfl ?_
      refine r_iconst C (v := 1) (q := 27) dX6_element_26 (by decide) rfl ?_
      refine r_isub C (q := 28) dX6_element_27 rfl ?_
      obtain ⟨v_28, e_28, h⟩ := bs h
      refine r_callS C (st := []) (st2 := [.int v_28]) (q := 31) (m_X6_within (xG X) (xl X) e_28) ok_X6_within q_1081 rfl ⟨Nat.le_of_ble_eq_true rfl, Nat.le_of_ble_eq_true rfl⟩ rfl rfl (Nat.le_of_ble_eq_true rfl) dX6_element_28 rfl (fun hp_28 => ?_)
      refine r_if_eq C (tgt := 48) (q := 34) dX6_element_31 (by decide) rfl (fun c_31 => ?_) (fun c_31 => ?_)
      · replace h := (if_pos c_31).symm.trans h
        refine r_lconst C (v := 0) (q := 49) dX6_element_48 (by decide) rfl ?_
        obtain rfl := Option.some.inj h
        exact hr _ _ dX6_element_49
      · replace h := (if_neg c_31).symm.trans h
        refine r_aload_n C 0 (q := 35) dX6_element_34 rfl rfl ?_
        refine g_X6_2 C (q := 38) dX6_element_35 q_991 hx0 rfl ?_
        refine r_bipush C (v := 40) (q := 40) dX6_element_38 (by decide) rfl ?_
        refine r_iload_n C 1 (q := 41) dX6_element_40 rfl rfl ?_
        refine r_imul C (q := 42) dX6_element_41 rfl ?_
        refine r_iload_n C 2 (q := 43) dX6_element_42 rfl rfl ?_
        refine r_iadd C (q := 44) dX6_element_43 rfl ?_
        obtain ⟨v_44, e_44, h⟩ := bs h
        refine r_lald C (q := 45) dX6_element_44 (kf_X6_2 hx0) e_44 rfl ?_
        refine r_goto C (tgt := 49) dX6_element_45 (by decide) ?_
        obtain rfl := Option.some.inj h
        exact hr _ _ dX6_element_49

theorem m_X6_element (G : Gm) (l : Launch) {σ : St} {x0 : Nat} {x1 : Int32} {x2 : Int32} (hx0 : kd x0 = 7) {r : Int64} (h : f_X6_element σ x0 x1 x2 = some r) : Ctr G l yX6_element cX6_element 3 (some .long) 2 43 [.ref (G.1 x0), .int x1, .int x2] σ (some (.long r)) True σ := by
  refine Ctr.j (by decide) (Nat.le_of_ble_eq_true rfl) ?_
  intro X hG C hr
  subst hG
  exact w_X6_element_b0 C hr _ _ _ hx0 h
-- X6_holds
set_option maxHeartbeats 4000000 in
set_option maxRecDepth 100000 in
theorem w_X6_holds_b0 {X : CX} (C : Cok X RX6 cX6_holds 2 1 22) {σ : St} {r : Int32} (hr : RtI X cX6_holds r σ) (x0 : Nat) (x1 : Int32) (hx0 : kd x0 = 7) (h : f_X6_holds σ x0 x1 = some r) : V X σ 0 [(0, .ref ((xG X).1 x0)), (1, .int x1)] [] := by
  unfold f_X6_holds at h
  refine r_iload_n C 1 (q := 1) dX6_holds_0 rfl rfl ?_
  refine r_iconst C (v := 0) (q := 2) dX6_holds_1 (by decide) rfl ?_
  refine r_bipush C (v := 7) (q := 4) dX6_holds_2 (by decide) rfl ?_
  obtain ⟨v_4, e_4, h⟩ := bs h
  refine r_callS C (st := []) (st2 := [.int v_4]) (q := 7) (m_X6_within (xG X) (xl X) e_4) ok_X6_within q_1081 rfl ⟨Nat.le_of_ble_eq_true rfl, Nat.le_of_ble_eq_true rfl⟩ rfl rfl (Nat.le_of_ble_eq_true rfl) dX6_holds_4 rfl (fun hp_4 => ?_)
  refine r_if_eq C (tgt := 19) (q := 10) dX6_holds_7 (by decide) rfl (fun c_7 => ?_) (fun c_7 => ?_)
  · replace h := (if_pos c_7).symm.trans h
    refine r_iconst C (v := (-1)) (q := 20) dX6_holds_19 (by decide) rfl ?_
    obtain rfl := Option.some.inj h
    exact hr _ _ dX6_holds_20
  · replace h := (if_neg c_7).symm.trans h
    refine r_aload_n C 0 (q := 11) dX6_holds_10 rfl rfl ?_
    refine g_X6_0 C (q := 14) dX6_holds_11 q_989 hx0 rfl ?_
    refine r_iload_n C 1 (q := 15) dX6_holds_14 rfl rfl ?_
    obtain ⟨v_15, e_15, h⟩ := bs h
    refine r_iald C (q := 16) dX6_holds_15 (kf_X6_0 hx0) e_15 rfl ?_
    refine r_goto C (tgt := 20) dX6_holds_16 (by decide) ?_
    obtain rfl := Option.some.inj h
    exact hr _ _ dX6_holds_20

theorem m_X6_holds (G : Gm) (l : Launch) {σ : St} {x0 : Nat} {x1 : Int32} (hx0 : kd x0 = 7) {r : Int32} (h : f_X6_holds σ x0 x1 = some r) : Ctr G l yX6_holds cX6_holds 2 (some .int) 1 22 [.ref (G.1 x0), .int x1] σ (some (.int r)) True σ := by
  refine Ctr.i (by decide) (Nat.le_of_ble_eq_true rfl) ?_
  intro X hG C hr
  subst hG
  exact w_X6_holds_b0 C hr _ _ hx0 h
-- X6_show
set_option maxHeartbeats 4000000 in
set_option maxRecDepth 100000 in
theorem w_X6_show_b48 {X : CX} (C : Cok X RX6 cX6_show 3 2 43) {σ' : St} {r : Int32} (hr : RtI X cX6_show r σ') (σ : St) (t0 : Nat) (t1 : Int32) (t2 : Int32) (ht0 : kd t0 = 8) (h : f_X6_show_b48 σ t0 t1 t2 = some (r, σ')) : V X σ 48 [] [.int t2, .int t1, .ref ((xG X).1 t0)] := by
  unfold f_X6_show_b48 at h
  obtain ⟨s_48, e_48, h⟩ := bs h
  refine r_iast C (q := 49) dX6_show_48 ht0 e_48 rfl ?_
  refine r_iconst C (v := 1) (q := 50) dX6_show_49 (by decide) rfl ?_
  obtain ⟨rfl, rfl⟩ := Prod.mk.inj (Option.some.inj h)
  exact hr _ _ dX6_show_50

set_option maxHeartbeats 4000000 in
set_option maxRecDepth 100000 in
theorem w_X6_show_b30 {X : CX} (C : Cok X RX6 cX6_show 3 2 43) {σ' : St} {r : Int32} (hr : RtI X cX6_show r σ') (σ : St) (x0 : Nat) (x1 : Int32) (x2 : Int32) (hx0 : kd x0 = 7) (h : f_X6_show_b30 σ x0 x1 x2 = some (r, σ')) : V X σ 30 [(0, .ref ((xG X).1 x0)), (1, .int x1), (2, .int x2)] [] := by
  unfold f_X6_show_b30 at h
  refine r_aload_n C 0 (q := 31) dX6_show_30 rfl rfl ?_
  refine g_X6_0 C (q := 34) dX6_show_31 q_989 hx0 rfl ?_
  refine r_iload_n C 1 (q := 35) dX6_show_34 rfl rfl ?_
  refine r_iload_n C 2 (q := 36) dX6_show_35 rfl rfl ?_
  refine r_iconst C (v := (-1)) (q := 37) dX6_show_36 (by decide) rfl ?_
  refine r_icmp_ne C (tgt := 44) (q := 40) dX6_show_37 (by decide) rfl (fun c_37 => ?_) (fun c_37 => ?_)
  · replace h := (if_neg c_37).symm.trans h
    refine r_bipush C (v := 10) (q := 46) dX6_show_44 (by decide) rfl ?_
    refine r_iload_n C 2 (q := 47) dX6_show_46 rfl rfl ?_
    refine r_iadd C (q := 48) dX6_show_47 rfl ?_
    refine r_sub (lv' := []) [] rfl ?_
    exact w_X6_show_b48 C hr  _ _ _ _ (kf_X6_0 hx0) h
  · replace h := (if_pos c_37).symm.trans h
    refine r_iconst C (v := (-1)) (q := 41) dX6_show_40 (by decide) rfl ?_
    refine r_goto C (tgt := 48) dX6_show_41 (by decide) ?_
    refine r_sub (lv' := []) [] rfl ?_
    exact w_X6_show_b48 C hr  _ _ _ _ (kf_X6_0 hx0) h

set_option maxHeartbeats 4000000 in
set_option maxRecDepth 100000 in
theorem w_X6_show_b23 {X : CX} (C : Cok X RX6 cX6_show 3 2 43) {σ' : St} {r : Int32} (hr : RtI X cX6_show r σ') (σ : St) (x0 : Nat) (hx0 : kd x0 = 7) (h : f_X6_show_b23 σ x0 = some (r, σ')) : V X σ 23 [(0, .ref ((xG X).1 x0))] [] := by
  unfold f_X6_show_b23 at h
  refine r_aload_n C 0 (q := 24) dX6_show_23 rfl rfl ?_
  refine r_bipush C (v := (-2)) (q := 26) dX6_show_24 (by decide) rfl ?_
  obtain ⟨v_26, s_26, e_26, h⟩ := bs2 h
  refine r_callV C (ci := 6) (st := []) (st2 := [.int v_26]) (q := 29) (m_X6_no (xG X) (xl X) hx0 e_26) ok_X6_no hx0 rfl ⟨_, rfl⟩ q_1084 rfl ⟨Nat.le_of_ble_eq_true rfl, Nat.le_of_ble_eq_true rfl⟩ rfl rfl (Nat.le_of_ble_eq_true rfl) dX6_show_26 rfl (fun hp_26 => ?_)
  obtain ⟨rfl, rfl⟩ := Prod.mk.inj (Option.some.inj h)
  exact hr _ _ dX6_show_29

set_option maxHeartbeats 4000000 in
set_option maxRecDepth 100000 in
theorem w_X6_show_b0 {X : CX} (C : Cok X RX6 cX6_show 3 2 43) {σ' : St} {r : Int32} (hr : RtI X cX6_show r σ') (σ : St) (x0 : Nat) (x1 : Int32) (x2 : Int32) (hx0 : kd x0 = 7) (h : f_X6_show σ x0 x1 x2 = some (r, σ')) : V X σ 0 [(0, .ref ((xG X).1 x0)), (1, .int x1), (2, .int x2)] [] := by
  unfold f_X6_show at h
  refine r_iload_n C 1 (q := 1) dX6_show_0 rfl rfl ?_
  refine r_iconst C (v := 0) (q := 2) dX6_show_1 (by decide) rfl ?_
  refine r_bipush C (v := 7) (q := 4) dX6_show_2 (by decide) rfl ?_
  obtain ⟨v_4, e_4, h⟩ := bs h
  refine r_callS C (st := []) (st2 := [.int v_4]) (q := 7) (m_X6_within (xG X) (xl X) e_4) ok_X6_within q_1081 rfl ⟨Nat.le_of_ble_eq_true rfl, Nat.le_of_ble_eq_true rfl⟩ rfl rfl (Nat.le_of_ble_eq_true rfl) dX6_show_4 rfl (fun hp_4 => ?_)
  refine r_if_eq C (tgt := 23) (q := 10) dX6_show_7 (by decide) rfl (fun c_7 => ?_) (fun c_7 => ?_)
  · replace h := (if_pos c_7).symm.trans h
    refine r_sub (lv' := [(0, .ref ((xG X).1 x0))]) [0] rfl ?_
    exact w_X6_show_b23 C hr  _ _ hx0 h
  · replace h := (if_neg c_7).symm.trans h
    refine r_iload_n C 2 (q := 11) dX6_show_10 rfl rfl ?_
    refine r_iconst C (v := (-1)) (q := 12) dX6_show_11 (by decide) rfl ?_
    refine r_icmp_eq C (tgt := 30) (q := 15) dX6_show_12 (by decide) rfl (fun c_12 => ?_) (fun c_12 => ?_)
    · replace h := (if_pos c_12).symm.trans h
      exact w_X6_show_b30 C hr  _ _ _ _ hx0 h
    · replace h := (if_neg c_12).symm.trans h
      refine r_aload_n C 0 (q := 16) dX6_show_15 rfl rfl ?_
      refine r_iload_n C 2 (q := 17) dX6_show_16 rfl rfl ?_
      obtain ⟨v_17, e_17, h⟩ := bs h
      refine r_callV C (ci := 6) (st := []) (st2 := [.int v_17]) (q := 20) (m_X6_isKey (xG X) (xl X) hx0 e_17) ok_X6_isKey hx0 rfl ⟨_, rfl⟩ q_1116 rfl ⟨Nat.le_of_ble_eq_true rfl, Nat.le_of_ble_eq_true rfl⟩ rfl rfl (Nat.le_of_ble_eq_true rfl) dX6_show_17 rfl (fun hp_17 => ?_)
      refine r_if_ne C (tgt := 30) (q := 23) dX6_show_20 (by decide) rfl (fun c_20 => ?_) (fun c_20 => ?_)
      · replace h := (if_neg c_20).symm.trans h
        exact w_X6_show_b30 C hr  _ _ _ _ hx0 h
      · replace h := (if_pos c_20).symm.trans h
        refine r_sub (lv' := [(0, .ref ((xG X).1 x0))]) [0] rfl ?_
        exact w_X6_show_b23 C hr  _ _ hx0 h

theorem m_X6_show (G : Gm) (l : Launch) {σ σ' : St} {x0 : Nat} {x1 : Int32} {x2 : Int32} (hx0 : kd x0 = 7) {r : Int32} (h : f_X6_show σ x0 x1 x2 = some (r, σ')) : Ctr G l yX6_show cX6_show 3 (some .int) 2 43 [.ref (G.1 x0), .int x1, .int x2] σ (some (.int r)) True σ' := by
  refine Ctr.i (by decide) (Nat.le_of_ble_eq_true rfl) ?_
  intro X hG C hr
  subst hG
  exact w_X6_show_b0 C hr _ _ _ _ hx0 h
-- X6_isUnder
set_option maxHeartbeats 4000000 in
set_option maxRecDepth 100000 in
theorem w_X6_isUnder_b29 {X : CX} (C : Cok X RX6 cX6_isUnder 2 0 0) {σ : St} {r : Int32} (hr : RtZ X cX6_isUnder r σ) (h : f_X6_isUnder_b29 = some r) : V X σ 29 [] [] := by
  unfold f_X6_isUnder_b29 at h
  refine r_iconst C (v := 1) (q := 30) dX6_isUnder_29 (by decide) rfl ?_
  refine r_goto C (tgt := 34) dX6_isUnder_30 (by decide) ?_
  obtain rfl := Option.some.inj h
  exact hr _ _ dX6_isUnder_34 (Or.inr rfl)

set_option maxHeartbeats 4000000 in
set_option maxRecDepth 100000 in
theorem w_X6_isUnder_b19 {X : CX} (C : Cok X RX6 cX6_isUnder 2 0 0) {σ : St} {r : Int32} (hr : RtZ X cX6_isUnder r σ) (x0 : Int32) (x1 : Int32) (h : f_X6_isUnder_b19 x0 x1 = some r) : V X σ 19 [(0, .int x0), (1, .int x1)] [] := by
  unfold f_X6_isUnder_b19 at h
  refine r_iload_n C 0 (q := 20) dX6_isUnder_19 rfl rfl ?_
  refine r_iconst C (v := 5) (q := 21) dX6_isUnder_20 (by decide) rfl ?_
  refine r_icmp_ne C (tgt := 33) (q := 24) dX6_isUnder_21 (by decide) rfl (fun c_21 => ?_) (fun c_21 => ?_)
  · replace h := (if_neg c_21).symm.trans h
    refine r_iconst C (v := 0) (q := 34) dX6_isUnder_33 (by decide) rfl ?_
    obtain rfl := Option.some.inj h
    exact hr _ _ dX6_isUnder_34 (Or.inl rfl)
  · replace h := (if_pos c_21).symm.trans h
    refine r_iload_n C 1 (q := 25) dX6_isUnder_24 rfl rfl ?_
    refine r_iconst C (v := 3) (q := 26) dX6_isUnder_25 (by decide) rfl ?_
    refine r_icmp_ne C (tgt := 33) (q := 29) dX6_isUnder_26 (by decide) rfl (fun c_26 => ?_) (fun c_26 => ?_)
    · replace h := (if_neg c_26).symm.trans h
      refine r_iconst C (v := 0) (q := 34) dX6_isUnder_33 (by decide) rfl ?_
      obtain rfl := Option.some.inj h
      exact hr _ _ dX6_isUnder_34 (Or.inl rfl)
    · replace h := (if_pos c_26).symm.trans h
      refine r_sub (lv' := []) [] rfl ?_
      exact w_X6_isUnder_b29 C hr    h

set_option maxHeartbeats 4000000 in
set_option maxRecDepth 100000 in
theorem w_X6_isUnder_b0 {X : CX} (C : Cok X RX6 cX6_isUnder 2 0 0) {σ : St} {r : Int32} (hr : RtZ X cX6_isUnder r σ) (x0 : Int32) (x1 : Int32) (h : f_X6_isUnder x0 x1 = some r) : V X σ 0 [(0, .int x0), (1, .int x1)] [] := by
  unfold f_X6_isUnder at h
  refine r_iload_n C 1 (q := 1) dX6_isUnder_0 rfl rfl ?_
  refine r_if_eq C (tgt := 29) (q := 4) dX6_isUnder_1 (by decide) rfl (fun c_1 => ?_) (fun c_1 => ?_)
  · replace h := (if_pos c_1).symm.trans h
    refine r_sub (lv' := []) [] rfl ?_
    exact w_X6_isUnder_b29 C hr    h
  · replace h := (if_neg c_1).symm.trans h
    refine r_iload_n C 0 (q := 5) dX6_isUnder_4 rfl rfl ?_
    refine r_iload_n C 1 (q := 6) dX6_isUnder_5 rfl rfl ?_
    refine r_icmp_eq C (tgt := 29) (q := 9) dX6_isUnder_6 (by decide) rfl (fun c_6 => ?_) (fun c_6 => ?_)
    · replace h := (if_pos c_6).symm.trans h
      refine r_sub (lv' := []) [] rfl ?_
      exact w_X6_isUnder_b29 C hr    h
    · replace h := (if_neg c_6).symm.trans h
      refine r_iload_n C 0 (q := 10) dX6_isUnder_9 rfl rfl ?_
      refine r_iconst C (v := 4) (q := 11) dX6_isUnder_10 (by decide) rfl ?_
      refine r_icmp_ne C (tgt := 19) (q := 14) dX6_isUnder_11 (by decide) rfl (fun c_11 => ?_) (fun c_11 => ?_)
      · replace h := (if_neg c_11).symm.trans h
        exact w_X6_isUnder_b19 C hr  _ _  h
      · replace h := (if_pos c_11).symm.trans h
        refine r_iload_n C 1 (q := 15) dX6_isUnder_14 rfl rfl ?_
        refine r_iconst C (v := 2) (q := 16) dX6_isUnder_15 (by decide) rfl ?_
        refine r_icmp_eq C (tgt := 29) (q := 19) dX6_isUnder_16 (by decide) rfl (fun c_16 => ?_) (fun c_16 => ?_)
        · replace h := (if_pos c_16).symm.trans h
          refine r_sub (lv' := []) [] rfl ?_
          exact w_X6_isUnder_b29 C hr    h
        · replace h := (if_neg c_16).symm.trans h
          exact w_X6_isUnder_b19 C hr  _ _  h

theorem m_X6_isUnder (G : Gm) (l : Launch) {σ : St} {x0 : Int32} {x1 : Int32} {r : Int32} (h : f_X6_isUnder x0 x1 = some r) : Ctr G l yX6_isUnder cX6_isUnder 2 (some .boolean) 0 0 [.int x0, .int x1] σ (some (.int r)) (r = 0 ∨ r = 1) σ := by
  refine Ctr.z (by decide) (Nat.le_of_ble_eq_true rfl) ?_
  intro X hG C hr
  subst hG
  exact w_X6_isUnder_b0 C hr _ _ h
-- X6_gone
set_option maxHeartbeats 4000000 in
set_option maxRecDepth 100000 in
theorem w_X6_gone_b4 {X : CX} (C : Cok X RX6 cX6_gone 4 0 0) {σ : St} {r : Int32} (hr : RtI X cX6_gone r σ) (k_4 : Nat → Int32 → Int32 → Int32 → Option Int32) (hk_4 : ∀ (x0 : Nat) (x1 : Int32) (x2 : Int32) (x3 : Int32), kd x0 = 7 → k_4 x0 x1 x2 x3 = some r → V X σ 4 [(0, .ref ((xG X).1 x0)), (1, .int x1), (2, .int x2), (3, .int x3)] []) (x0 : Nat) (x1 : Int32) (x2 : Int32) (x3 : Int32) (hx0 : kd x0 = 7) (h : f_X6_gone_b4 σ k_4 x0 x1 x2 x3 = some r) : V X σ 4 [(0, .ref ((xG X).1 x0)), (1, .int x1), (2, .int x2), (3, .int x3)] [] := by
  unfold f_X6_gone_b4 at h
  refine r_iload_n C 3 (q := 5) dX6_gone_4 rfl rfl ?_
  refine r_aload_n C 0 (q := 6) dX6_gone_5 rfl rfl ?_
  refine g_X6_3 C (q := 9) dX6_gone_6 q_992 hx0 rfl ?_
  refine r_icmp_ge C (tgt := 31) (q := 12) dX6_gone_9 (by decide) rfl (fun c_9 => ?_) (fun c_9 => ?_)
  · replace h := (if_pos c_9).symm.trans h
    refine r_iload_n C 2 (q := 32) dX6_gone_31 rfl rfl ?_
    obtain rfl := Option.some.inj h
    exact hr _ _ dX6_gone_32
  · replace h := (if_neg c_9).symm.trans h
    refine r_iload_n C 2 (q := 13) dX6_gone_12 rfl rfl ?_
    refine r_aload_n C 0 (q := 14) dX6_gone_13 rfl rfl ?_
    refine g_X6_10 C (q := 17) dX6_gone_14 q_999 hx0 rfl ?_
    refine r_iconst C (v := 5) (q := 18) dX6_gone_17 (by decide) rfl ?_
    refine r_iload_n C 1 (q := 19) dX6_gone_18 rfl rfl ?_
    refine r_imul C (q := 20) dX6_gone_19 rfl ?_
    refine r_iload_n C 3 (q := 21) dX6_gone_20 rfl rfl ?_
    refine r_iadd C (q := 22) dX6_gone_21 rfl ?_
    obtain ⟨v_22, e_22, h⟩ := bs h
    refine r_iald C (q := 23) dX6_gone_22 (kf_X6_10 hx0) e_22 rfl ?_
    refine r_iadd C (q := 24) dX6_gone_23 rfl ?_
    obtain ⟨y_24, e_24, h⟩ := bs h
    refine r_topI (Option.some.inj e_24) ?_
    refine r_istore_n C (lv' := [(2, .int y_24), (0, .ref ((xG X).1 x0)), (1, .int x1), (3, .int x3)]) (q := 25) dX6_gone_24 rfl (by decide) rfl rfl ?_
    obtain ⟨y_25, e_25, h⟩ := bs h
    refine r_iinc C (v := y_25) (lv' := [(3, .int y_25), (2, .int y_24), (0, .ref ((xG X).1 x0)), (1, .int x1)]) (q := 28) 3 dX6_gone_25 rfl (Option.some.inj e_25) (by decide) rfl rfl ?_
    refine r_goto C (tgt := 4) dX6_gone_28 (by decide) ?_
    refine r_sub (lv' := [(0, .ref ((xG X).1 x0)), (1, .int x1), (2, .int y_24), (3, .int y_25)]) [2, 3, 1, 0] rfl ?_
    exact hk_4 _ _ _ _ hx0 h

theorem w_X6_gone_l4 {X : CX} (C : Cok X RX6 cX6_gone 4 0 0) {σ : St} {r : Int32} (hr : RtI X cX6_gone r σ) (n : Nat) : ∀ (x0 : Nat) (x1 : Int32) (x2 : Int32) (x3 : Int32), kd x0 = 7 → f_X6_gone_l4 σ n x0 x1 x2 x3 = some r → V X σ 4 [(0, .ref ((xG X).1 x0)), (1, .int x1), (2, .int x2), (3, .int x3)] [] := by
  induction n with
  | zero =>
    intro x0 x1 x2 x3 hx0 h
    exact nomatch (show (none : Option Int32) = some r from h)
  | succ n ih =>
    intro x0 x1 x2 x3 hx0 h
    exact w_X6_gone_b4 C hr _ ih x0 x1 x2 x3 hx0 h
set_option maxHeartbeats 4000000 in
set_option maxRecDepth 100000 in
theorem w_X6_gone_b0 {X : CX} (C : Cok X RX6 cX6_gone 4 0 0) {σ : St} {r : Int32} (hr : RtI X cX6_gone r σ) (x0 : Nat) (x1 : Int32) (hx0 : kd x0 = 7) (h : f_X6_gone σ x0 x1 = some r) : V X σ 0 [(0, .ref ((xG X).1 x0)), (1, .int x1)] [] := by
  unfold f_X6_gone at h
  refine r_iconst C (v := 0) (q := 1) dX6_gone_0 (by decide) rfl ?_
  refine r_istore_n C (lv' := [(2, .int 0), (0, .ref ((xG X).1 x0)), (1, .int x1)]) (q := 2) dX6_gone_1 rfl (by decide) rfl rfl ?_
  refine r_iconst C (v := 0) (q := 3) dX6_gone_2 (by decide) rfl ?_
  refine r_istore_n C (lv' := [(3, .int 0), (2, .int 0), (0, .ref ((xG X).1 x0)), (1, .int x1)]) (q := 4) dX6_gone_3 rfl (by decide) rfl rfl ?_
  refine r_sub (lv' := [(0, .ref ((xG X).1 x0)), (1, .int x1), (2, .int 0), (3, .int 0)]) [2, 3, 1, 0] rfl ?_
  exact w_X6_gone_l4 C hr  FU _ _ _ _ hx0 h

theorem m_X6_gone (G : Gm) (l : Launch) {σ : St} {x0 : Nat} {x1 : Int32} (hx0 : kd x0 = 7) {r : Int32} (h : f_X6_gone σ x0 x1 = some r) : Ctr G l yX6_gone cX6_gone 4 (some .int) 0 0 [.ref (G.1 x0), .int x1] σ (some (.int r)) True σ := by
  refine Ctr.i (by decide) (Nat.le_of_ble_eq_true rfl) ?_
  intro X hG C hr
  subst hG
  exact w_X6_gone_b0 C hr _ _ hx0 h
-- X6_depth
set_option maxHeartbeats 4000000 in
set_option maxRecDepth 100000 in
theorem w_X6_depth_b0 {X : CX} (C : Cok X RX6 cX6_depth 4 1 21) {σ : St} {r : Int32} (hr : RtI X cX6_depth r σ) (x0 : Nat) (x1 : Int32) (x2 : Int32) (hx0 : kd x0 = 7) (h : f_X6_depth σ x0 x1 x2 = some r) : V X σ 0 [(0, .ref ((xG X).1 x0)), (1, .int x1), (2, .int x2)] [] := by
  unfold f_X6_depth at h
  refine r_aload_n C 0 (q := 1) dX6_depth_0 rfl rfl ?_
  refine g_X6_10 C (q := 4) dX6_depth_1 q_999 hx0 rfl ?_
  refine r_iconst C (v := 5) (q := 5) dX6_depth_4 (by decide) rfl ?_
  refine r_iload_n C 1 (q := 6) dX6_depth_5 rfl rfl ?_
  refine r_imul C (q := 7) dX6_depth_6 rfl ?_
  refine r_iload_n C 2 (q := 8) dX6_depth_7 rfl rfl ?_
  refine r_iadd C (q := 9) dX6_depth_8 rfl ?_
  obtain ⟨v_9, e_9, h⟩ := bs h
  refine r_iald C (q := 10) dX6_depth_9 (kf_X6_10 hx0) e_9 rfl ?_
  refine r_istore_n C (lv' := [(3, .int v_9), (0, .ref ((xG X).1 x0)), (1, .int x1), (2, .int x2)]) (q := 11) dX6_depth_10 rfl (by decide) rfl rfl ?_
  refine r_aload_n C 1 (q := 12) dX6_depth_11 rfl rfl ?_
  refine g_X6_7 C (q := 15) dX6_depth_12 q_996 hx0 rfl ?_
  refine r_iload_n C 2 (q := 16) dX6_depth_15 rfl rfl ?_
  obtain ⟨v_16, e_16, h⟩ := bs h
  refine r_iald C (q := 17) dX6_depth_16 (kf_X6_7 hx0) e_16 rfl ?_
  refine r_iconst C (v := 1) (q := 18) dX6_depth_17 (by decide) rfl ?_
  refine r_icmp_ne C (tgt := 49) (q := 21) dX6_depth_18 (by decide) rfl (fun c_18 => ?_) (fun c_18 => ?_)
  · replace h := (if_neg c_18).symm.trans h
    refine r_iload_n C 0 (q := 50) dX6_depth_49 rfl rfl ?_
    obtain rfl := Option.some.inj h
    exact hr _ _ dX6_depth_50
  · replace h := (if_pos c_18).symm.trans h
    refine r_aload_n C 1 (q := 22) dX6_depth_21 rfl rfl ?_
    refine g_X6_8 C (q := 25) dX6_depth_22 q_997 hx0 rfl ?_
    refine r_iload_n C 2 (q := 26) dX6_depth_25 rfl rfl ?_
    obtain ⟨v_26, e_26, h⟩ := bs h
    refine r_iald C (q := 27) dX6_depth_26 (kf_X6_8 hx0) e_26 rfl ?_
    refine r_aload_n C 1 (q := 28) dX6_depth_27 rfl rfl ?_
    refine g_X6_3 C (q := 31) dX6_depth_28 q_992 hx0 rfl ?_
    obtain ⟨v_31, e_31, h⟩ := bs h
    refine r_irem C (q := 32) dX6_depth_31 e_31 rfl ?_
    refine r_iload_n C 3 (q := 33) dX6_depth_32 rfl rfl ?_
    refine r_icmp_ne C (tgt := 49) (q := 36) dX6_depth_33 (by decide) rfl (fun c_33 => ?_) (fun c_33 => ?_)
    · replace h := (if_neg c_33).symm.trans h
      refine r_iload_n C 0 (q := 50) dX6_depth_49 rfl rfl ?_
      obtain rfl := Option.some.inj h
      exact hr _ _ dX6_depth_50
    · replace h := (if_pos c_33).symm.trans h
      refine r_aload_n C 1 (q := 37) dX6_depth_36 rfl rfl ?_
      refine g_X6_4 C (q := 40) dX6_depth_37 q_993 hx0 rfl ?_
      refine r_iload_n C 0 (q := 41) dX6_depth_40 rfl rfl ?_
      refine r_iconst C (v := 1) (q := 42) dX6_depth_41 (by decide) rfl ?_
      refine r_iadd C (q := 43) dX6_depth_42 rfl ?_
      refine r_min C (st := []) (q := 46) dX6_depth_43 q_1147 ok_min ⟨Nat.le_of_ble_eq_true rfl, Nat.le_of_ble_eq_true rfl⟩ rfl ?_
      refine r_goto C (tgt := 50) dX6_depth_46 (by decide) ?_
      obtain rfl := Option.some.inj h
      exact hr _ _ dX6_depth_50

theorem m_X6_depth (G : Gm) (l : Launch) {σ : St} {x0 : Nat} {x1 : Int32} {x2 : Int32} (hx0 : kd x0 = 7) {r : Int32} (h : f_X6_depth σ x0 x1 x2 = some r) : Ctr G l yX6_depth cX6_depth 4 (some .int) 1 21 [.ref (G.1 x0), .int x1, .int x2] σ (some (.int r)) True σ := by
  refine Ctr.i (by decide) (Nat.le_of_ble_eq_true rfl) ?_
  intro X hG C hr
  subst hG
  exact w_X6_depth_b0 C hr _ _ _ hx0 h
-- X6_fits
set_option maxHeartbeats 4000000 in
set_option maxRecDepth 100000 in
theorem w_X6_fits_b2 {X : CX} (C : Cok X RX6 cX6_fits 4 2 44) {σ : St} {r : Int32} (hr : RtZ X cX6_fits r σ) (k_2 : Nat → Int32 → Int32 → Int32 → Option Int32) (hk_2 : ∀ (x0 : Nat) (x1 : Int32) (x2 : Int32) (x3 : Int32), kd x0 = 7 → k_2 x0 x1 x2 x3 = some r → V X σ 2 [(0, .ref ((xG X).1 x0)), (1, .int x1), (2, .int x2), (3, .int x3)] []) (x0 : Nat) (x1 : Int32) (x2 : Int32) (x3 : Int32) (hx0 : kd x0 = 7) (h : f_X6_fits_b2 σ k_2 x0 x1 x2 x3 = some r) : V X σ 2 [(0, .ref ((xG X).1 x0)), (1, .int x1), (2, .int x2), (3, .int x3)] [] := by
  unfold f_X6_fits_b2 at h
  refine r_iload_n C 3 (q := 3) dX6_fits_2 rfl rfl ?_
  refine r_aload_n C 0 (q := 4) dX6_fits_3 rfl rfl ?_
  refine g_X6_3 C (q := 7) dX6_fits_4 q_992 hx0 rfl ?_
  refine r_icmp_ge C (tgt := 37) (q := 10) dX6_fits_7 (by decide) rfl (fun c_7 => ?_) (fun c_7 => ?_)
  · replace h := (if_pos c_7).symm.trans h
    refine r_iconst C (v := 1) (q := 38) dX6_fits_37 (by decide) rfl ?_
    obtain rfl := Option.some.inj h
    exact hr _ _ dX6_fits_38 (Or.inr rfl)
  · replace h := (if_neg c_7).symm.trans h
    refine r_aload_n C 0 (q := 11) dX6_fits_10 rfl rfl ?_
    refine r_iload_n C 1 (q := 12) dX6_fits_11 rfl rfl ?_
    refine r_iload_n C 3 (q := 13) dX6_fits_12 rfl rfl ?_
    obtain ⟨v_13, e_13, h⟩ := bs h
    refine r_callV C (ci := 6) (st := []) (st2 := [.int v_13]) (q := 16) (m_X6_depth (xG X) (xl X) hx0 e_13) ok_X6_depth hx0 rfl ⟨_, rfl⟩ q_1143 rfl ⟨Nat.le_of_ble_eq_true rfl, Nat.le_of_ble_eq_true rfl⟩ rfl rfl (Nat.le_of_ble_eq_true rfl) dX6_fits_13 rfl (fun hp_13 => ?_)
    refine r_aload_n C 0 (q := 17) dX6_fits_16 rfl rfl ?_
    refine g_X6_13 C (q := 20) dX6_fits_17 q_1002 hx0 rfl ?_
    refine r_iconst C (v := 5) (q := 21) dX6_fits_20 (by decide) rfl ?_
    refine r_iload_n C 2 (q := 22) dX6_fits_21 rfl rfl ?_
    refine r_imul C (q := 23) dX6_fits_22 rfl ?_
    refine r_iload_n C 3 (q := 24) dX6_fits_23 rfl rfl ?_
    refine r_iadd C (q := 25) dX6_fits_24 rfl ?_
    obtain ⟨v_25, e_25, h⟩ := bs h
    refine r_iald C (q := 26) dX6_fits_25 (kf_X6_13 hx0) e_25 rfl ?_
    refine r_icmp_ge C (tgt := 31) (q := 29) dX6_fits_26 (by decide) rfl (fun c_26 => ?_) (fun c_26 => ?_)
    · replace h := (if_pos c_26).symm.trans h
      obtain ⟨y_31, e_31, h⟩ := bs h
      refine r_iinc C (v := y_31) (lv' := [(3, .int y_31), (0, .ref ((xG X).1 x0)), (1, .int x1), (2, .int x2)]) (q := 34) 3 dX6_fits_31 rfl (Option.some.inj e_31) (by decide) rfl rfl ?_
      refine r_goto C (tgt := 2) dX6_fits_34 (by decide) ?_
      refine r_sub (lv' := [(0, .ref ((xG X).1 x0)), (1, .int x1), (2, .int x2), (3, .int y_31)]) [1, 2, 3, 0] rfl ?_
      exact hk_2 _ _ _ _ hx0 h
    · replace h := (if_neg c_26).symm.trans h
      refine r_iconst C (v := 0) (q := 30) dX6_fits_29 (by decide) rfl ?_
      obtain rfl := Option.some.inj h
      exact hr _ _ dX6_fits_30 (Or.inl rfl)

theorem w_X6_fits_l2 {X : CX} (C : Cok X RX6 cX6_fits 4 2 44) {σ : St} {r : Int32} (hr : RtZ X cX6_fits r σ) (n : Nat) : ∀ (x0 : Nat) (x1 : Int32) (x2 : Int32) (x3 : Int32), kd x0 = 7 → f_X6_fits_l2 σ n x0 x1 x2 x3 = some r → V X σ 2 [(0, .ref ((xG X).1 x0)), (1, .int x1), (2, .int x2), (3, .int x3)] [] := by
  induction n with
  | zero =>
    intro x0 x1 x2 x3 hx0 h
    exact nomatch (show (none : Option Int32) = some r from h)
  | succ n ih =>
    intro x0 x1 x2 x3 hx0 h
    exact w_X6_fits_b2 C hr _ ih x0 x1 x2 x3 hx0 h
set_option maxHeartbeats 4000000 in
set_option maxRecDepth 100000 in
theorem w_X6_fits_b0 {X : CX} (C : Cok X RX6 cX6_fits 4 2 44) {σ : St} {r : Int32} (hr : RtZ X cX6_fits r σ) (x0 : Nat) (x1 : Int32) (x2 : Int32) (hx0 : kd x0 = 7) (h : f_X6_fits σ x0 x1 x2 = some r) : V X σ 0 [(0, .ref ((xG X).1 x0)), (1, .int x1), (2, .int x2)] [] := by
  unfold f_X6_fits at h
  refine r_iconst C (v := 0) (q := 1) dX6_fits_0 (by decide) rfl ?_
  refine r_istore_n C (lv' := [(3, .int 0), (0, .ref ((xG X).1 x0)), (1, .int x1), (2, .int x2)]) (q := 2) dX6_fits_1 rfl (by decide) rfl rfl ?_
  refine r_sub (lv' := [(0, .ref ((xG X).1 x0)), (1, .int x1), (2, .int x2), (3, .int 0)]) [1, 2, 3, 0] rfl ?_
  exact w_X6_fits_l2 C hr  FU _ _ _ _ hx0 h

theorem m_X6_fits (G : Gm) (l : Launch) {σ : St} {x0 : Nat} {x1 : Int32} {x2 : Int32} (hx0 : kd x0 = 7) {r : Int32} (h : f_X6_fits σ x0 x1 x2 = some r) : Ctr G l yX6_fits cX6_fits 4 (some .boolean) 2 44 [.ref (G.1 x0), .int x1, .int x2] σ (some (.int r)) (r = 0 ∨ r = 1) σ := by
  refine Ctr.z (by decide) (Nat.le_of_ble_eq_true rfl) ?_
  intro X hG C hr
  subst hG
  exact w_X6_fits_b0 C hr _ _ _ hx0 h
-- X6_bears
set_option maxHeartbeats 4000000 in
set_option maxRecDepth 100000 in
theorem w_X6_bears_b20 {X : CX} (C : Cok X RX6 cX6_bears 2 1 21) {σ : St} {r : Int32} (hr : RtI X cX6_bears r σ) (x0 : Nat) (x1 : Int32) (hx0 : kd x0 = 7) (h : f_X6_bears_b20 σ x0 x1 = some r) : V X σ 20 [(0, .ref ((xG X).1 x0)), (1, .int x1)] [] := by
  unfold f_X6_bears_b20 at h
  refine r_iconst C (v := 0) (q := 21) dX6_bears_20 (by decide) rfl ?_
  refine r_aload_n C 0 (q := 22) dX6_bears_21 rfl rfl ?_
  refine g_X6_5 C (q := 25) dX6_bears_22 q_994 hx0 rfl ?_
  refine r_aload_n C 0 (q := 26) dX6_bears_25 rfl rfl ?_
  refine g_X6_8 C (q := 29) dX6_bears_26 q_997 hx0 rfl ?_
  refine r_iload_n C 1 (q := 30) dX6_bears_29 rfl rfl ?_
  obtain ⟨v_30, e_30, h⟩ := bs h
  refine r_iald C (q := 31) dX6_bears_30 (kf_X6_8 hx0) e_30 rfl ?_
  refine r_isub C (q := 32) dX6_bears_31 rfl ?_
  refine r_max C (st := []) (q := 35) dX6_bears_32 q_1158 ok_max ⟨Nat.le_of_ble_eq_true rfl, Nat.le_of_ble_eq_true rfl⟩ rfl ?_
  refine r_goto C (tgt := 42) dX6_bears_35 (by decide) ?_
  obtain rfl := Option.some.inj h
  exact hr _ _ dX6_bears_42

set_option maxHeartbeats 4000000 in
set_option maxRecDepth 100000 in
theorem w_X6_bears_b0 {X : CX} (C : Cok X RX6 cX6_bears 2 1 21) {σ : St} {r : Int32} (hr : RtI X cX6_bears r σ) (x0 : Nat) (x1 : Int32) (hx0 : kd x0 = 7) (h : f_X6_bears σ x0 x1 = some r) : V X σ 0 [(0, .ref ((xG X).1 x0)), (1, .int x1)] [] := by
  unfold f_X6_bears at h
  refine r_aload_n C 0 (q := 1) dX6_bears_0 rfl rfl ?_
  refine g_X6_7 C (q := 4) dX6_bears_1 q_996 hx0 rfl ?_
  refine r_iload_n C 1 (q := 5) dX6_bears_4 rfl rfl ?_
  obtain ⟨v_5, e_5, h⟩ := bs h
  refine r_iald C (q := 6) dX6_bears_5 (kf_X6_7 hx0) e_5 rfl ?_
  refine r_iconst C (v := 2) (q := 7) dX6_bears_6 (by decide) rfl ?_
  refine r_icmp_eq C (tgt := 20) (q := 10) dX6_bears_7 (by decide) rfl (fun c_7 => ?_) (fun c_7 => ?_)
  · replace h := (if_pos c_7).symm.trans h
    exact w_X6_bears_b20 C hr  _ _ hx0 h
  · replace h := (if_neg c_7).symm.trans h
    refine r_aload_n C 0 (q := 11) dX6_bears_10 rfl rfl ?_
    refine g_X6_7 C (q := 14) dX6_bears_11 q_996 hx0 rfl ?_
    refine r_iload_n C 1 (q := 15) dX6_bears_14 rfl rfl ?_
    obtain ⟨v_15, e_15, h⟩ := bs h
    refine r_iald C (q := 16) dX6_bears_15 (kf_X6_7 hx0) e_15 rfl ?_
    refine r_iconst C (v := 4) (q := 17) dX6_bears_16 (by decide) rfl ?_
    refine r_icmp_ne C (tgt := 38) (q := 20) dX6_bears_17 (by decide) rfl (fun c_17 => ?_) (fun c_17 => ?_)
    · replace h := (if_neg c_17).symm.trans h
      refine r_aload_n C 0 (q := 39) dX6_bears_38 rfl rfl ?_
      refine g_X6_5 C (q := 42) dX6_bears_39 q_994 hx0 rfl ?_
      obtain rfl := Option.some.inj h
      exact hr _ _ dX6_bears_42
    · replace h := (if_pos c_17).symm.trans h
      exact w_X6_bears_b20 C hr  _ _ hx0 h

theorem m_X6_bears (G : Gm) (l : Launch) {σ : St} {x0 : Nat} {x1 : Int32} (hx0 : kd x0 = 7) {r : Int32} (h : f_X6_bears σ x0 x1 = some r) : Ctr G l yX6_bears cX6_bears 2 (some .int) 1 21 [.ref (G.1 x0), .int x1] σ (some (.int r)) True σ := by
  refine Ctr.i (by decide) (Nat.le_of_ble_eq_true rfl) ?_
  intro X hG C hr
  subst hG
  exact w_X6_bears_b0 C hr _ _ hx0 h
-- X6_broken
set_option maxHeartbeats 4000000 in
set_option maxRecDepth 100000 in
theorem w_X6_broken_b0 {X : CX} (C : Cok X RX6 cX6_broken 2 2 42) {σ : St} {r : Int32} (hr : RtZ X cX6_broken r σ) (x0 : Nat) (x1 : Int32) (hx0 : kd x0 = 7) (h : f_X6_broken σ x0 x1 = some r) : V X σ 0 [(0, .ref ((xG X).1 x0)), (1, .int x1)] [] := by
  unfold f_X6_broken at h
  refine r_aload_n C 0 (q := 1) dX6_broken_0 rfl rfl ?_
  refine r_iload_n C 1 (q := 2) dX6_broken_1 rfl rfl ?_
  obtain ⟨v_2, e_2, h⟩ := bs h
  refine r_callV C (ci := 6) (st := []) (st2 := [.int v_2]) (q := 5) (m_X6_gone (xG X) (xl X) hx0 e_2) ok_X6_gone hx0 rfl ⟨_, rfl⟩ q_1127 rfl ⟨Nat.le_of_ble_eq_true rfl, Nat.le_of_ble_eq_true rfl⟩ rfl rfl (Nat.le_of_ble_eq_true rfl) dX6_broken_2 rfl (fun hp_2 => ?_)
  refine r_aload_n C 0 (q := 6) dX6_broken_5 rfl rfl ?_
  refine r_iload_n C 1 (q := 7) dX6_broken_6 rfl rfl ?_
  obtain ⟨v_7, e_7, h⟩ := bs h
  refine r_callV C (ci := 6) (st := [.int v_2]) (st2 := [.int v_7, .int v_2]) (q := 10) (m_X6_bears (xG X) (xl X) hx0 e_7) ok_X6_bears hx0 rfl ⟨_, rfl⟩ q_1154 rfl ⟨Nat.le_of_ble_eq_true rfl, Nat.le_of_ble_eq_true rfl⟩ rfl rfl (Nat.le_of_ble_eq_true rfl) dX6_broken_7 rfl (fun hp_7 => ?_)
  refine r_icmp_le C (tgt := 17) (q := 13) dX6_broken_10 (by decide) rfl (fun c_10 => ?_) (fun c_10 => ?_)
  · replace h := (if_pos c_10).symm.trans h
    refine r_iconst C (v := 0) (q := 18) dX6_broken_17 (by decide) rfl ?_
    obtain rfl := Option.some.inj h
    exact hr _ _ dX6_broken_18 (Or.inl rfl)
  · replace h := (if_neg c_10).symm.trans h
    refine r_iconst C (v := 1) (q := 14) dX6_broken_13 (by decide) rfl ?_
    refine r_goto C (tgt := 18) dX6_broken_14 (by decide) ?_
    obtain rfl := Option.some.inj h
    exact hr _ _ dX6_broken_18 (Or.inr rfl)

theorem m_X6_broken (G : Gm) (l : Launch) {σ : St} {x0 : Nat} {x1 : Int32} (hx0 : kd x0 = 7) {r : Int32} (h : f_X6_broken σ x0 x1 = some r) : Ctr G l yX6_broken cX6_broken 2 (some .boolean) 2 42 [.ref (G.1 x0), .int x1] σ (some (.int r)) (r = 0 ∨ r = 1) σ := by
  refine Ctr.z (by decide) (Nat.le_of_ble_eq_true rfl) ?_
  intro X hG C hr
  subst hG
  exact w_X6_broken_b0 C hr _ _ hx0 h
-- X6_opensSo
set_option maxHeartbeats 4000000 in
set_option maxRecDepth 100000 in
theorem w_X6_opensSo_b46 {X : CX} (C : Cok X RX6 cX6_opensSo 3 3 67) {σ : St} {r : Int32} (hr : RtZ X cX6_opensSo r σ) (h : f_X6_opensSo_b46 σ = some r) : V X σ 46 [] [] := by
  unfold f_X6_opensSo_b46 at h
  refine r_iconst C (v := 1) (q := 47) dX6_opensSo_46 (by decide) rfl ?_
  refine r_goto C (tgt := 51) dX6_opensSo_47 (by decide) ?_
  obtain rfl := Option.some.inj h
  exact hr _ _ dX6_opensSo_51 (Or.inr rfl)

set_option maxHeartbeats 4000000 in
set_option maxRecDepth 100000 in
theorem w_X6_opensSo_b0 {X : CX} (C : Cok X RX6 cX6_opensSo 3 3 67) {σ : St} {r : Int32} (hr : RtZ X cX6_opensSo r σ) (x0 : Nat) (x1 : Int32) (x2 : Int32) (hx0 : kd x0 = 7) (h : f_X6_opensSo σ x0 x1 x2 = some r) : V X σ 0 [(0, .ref ((xG X).1 x0)), (1, .int x1), (2, .int x2)] [] := by
  unfold f_X6_opensSo at h
  refine r_aload_n C 0 (q := 1) dX6_opensSo_0 rfl rfl ?_
  refine r_iload_n C 1 (q := 2) dX6_opensSo_1 rfl rfl ?_
  refine r_iload_n C 2 (q := 3) dX6_opensSo_2 rfl rfl ?_
  obtain ⟨v_3, e_3, h⟩ := bs h
  refine r_callV C (ci := 6) (st := []) (st2 := [.int v_3]) (q := 6) (m_X6_fits (xG X) (xl X) hx0 e_3) ok_X6_fits hx0 rfl ⟨_, rfl⟩ q_1139 rfl ⟨Nat.le_of_ble_eq_true rfl, Nat.le_of_ble_eq_true rfl⟩ rfl rfl (Nat.le_of_ble_eq_true rfl) dX6_opensSo_3 rfl (fun hp_3 => ?_)
  refine r_if_eq C (tgt := 50) (q := 9) dX6_opensSo_6 (by decide) rfl (fun c_6 => ?_) (fun c_6 => ?_)
  · replace h := (if_pos c_6).symm.trans h
    refine r_iconst C (v := 0) (q := 51) dX6_opensSo_50 (by decide) rfl ?_
    obtain rfl := Option.some.inj h
    exact hr _ _ dX6_opensSo_51 (Or.inl rfl)
  · replace h := (if_neg c_6).symm.trans h
    refine r_aload_n C 0 (q := 10) dX6_opensSo_9 rfl rfl ?_
    refine r_iload_n C 1 (q := 11) dX6_opensSo_10 rfl rfl ?_
    obtain ⟨v_11, e_11, h⟩ := bs h
    refine r_callV C (ci := 6) (st := []) (st2 := [.int v_11]) (q := 14) (m_X6_broken (xG X) (xl X) hx0 e_11) ok_X6_broken hx0 rfl ⟨_, rfl⟩ q_1150 rfl ⟨Nat.le_of_ble_eq_true rfl, Nat.le_of_ble_eq_true rfl⟩ rfl rfl (Nat.le_of_ble_eq_true rfl) dX6_opensSo_11 rfl (fun hp_11 => ?_)
    refine r_if_ne C (tgt := 50) (q := 17) dX6_opensSo_14 (by decide) rfl (fun c_14 => ?_) (fun c_14 => ?_)
    · replace h := (if_neg c_14).symm.trans h
      refine r_iconst C (v := 0) (q := 51) dX6_opensSo_50 (by decide) rfl ?_
      obtain rfl := Option.some.inj h
      exact hr _ _ dX6_opensSo_51 (Or.inl rfl)
    · replace h := (if_pos c_14).symm.trans h
      refine r_aload_n C 0 (q := 18) dX6_opensSo_17 rfl rfl ?_
      refine g_X6_12 C (q := 21) dX6_opensSo_18 q_1001 hx0 rfl ?_
      refine r_iload_n C 2 (q := 22) dX6_opensSo_21 rfl rfl ?_
      obtain ⟨v_22, e_22, h⟩ := bs h
      refine r_iald C (q := 23) dX6_opensSo_22 (kf_X6_12 hx0) e_22 rfl ?_
      refine r_if_eq C (tgt := 46) (q := 26) dX6_opensSo_23 (by decide) rfl (fun c_23 => ?_) (fun c_23 => ?_)
      · replace h := (if_pos c_23).symm.trans h
        refine r_sub (lv' := []) [] rfl ?_
        exact w_X6_opensSo_b46 C hr    h
      · replace h := (if_neg c_23).symm.trans h
        refine r_aload_n C 0 (q := 27) dX6_opensSo_26 rfl rfl ?_
        refine g_X6_7 C (q := 30) dX6_opensSo_27 q_996 hx0 rfl ?_
        refine r_iload_n C 1 (q := 31) dX6_opensSo_30 rfl rfl ?_
        obtain ⟨v_31, e_31, h⟩ := bs h
        refine r_iald C (q := 32) dX6_opensSo_31 (kf_X6_7 hx0) e_31 rfl ?_
        refine r_iconst C (v := 3) (q := 33) dX6_opensSo_32 (by decide) rfl ?_
        refine r_icmp_eq C (tgt := 46) (q := 36) dX6_opensSo_33 (by decide) rfl (fun c_33 => ?_) (fun c_33 => ?_)
        · replace h := (if_pos c_33).symm.trans h
          refine r_sub (lv' := []) [] rfl ?_
          exact w_X6_opensSo_b46 C hr    h
        · replace h := (if_neg c_33).symm.trans h
          refine r_aload_n C 0 (q := 37) dX6_opensSo_36 rfl rfl ?_
          refine g_X6_7 C (q := 40) dX6_opensSo_37 q_996 hx0 rfl ?_
          refine r_iload_n C 1 (q := 41) dX6_opensSo_40 rfl rfl ?_
          obtain ⟨v_41, e_41, h⟩ := bs h
          refine r_iald C (q := 42) dX6_opensSo_41 (kf_X6_7 hx0) e_41 rfl ?_
          refine r_iconst C (v := 5) (q := 43) dX6_opensSo_42 (by decide) rfl ?_
          refine r_icmp_ne C (tgt := 50) (q := 46) dX6_opensSo_43 (by decide) rfl (fun c_43 => ?_) (fun c_43 => ?_)
          · replace h := (if_neg c_43).symm.trans h
            refine r_iconst C (v := 0) (q := 51) dX6_opensSo_50 (by decide) rfl ?_
            obtain rfl := Option.some.inj h
            exact hr _ _ dX6_opensSo_51 (Or.inl rfl)
          · replace h := (if_pos c_43).symm.trans h
            refine r_sub (lv' := []) [] rfl ?_
            exact w_X6_opensSo_b46 C hr    h

theorem m_X6_opensSo (G : Gm) (l : Launch) {σ : St} {x0 : Nat} {x1 : Int32} {x2 : Int32} (hx0 : kd x0 = 7) {r : Int32} (h : f_X6_opensSo σ x0 x1 x2 = some r) : Ctr G l yX6_opensSo cX6_opensSo 3 (some .boolean) 3 67 [.ref (G.1 x0), .int x1, .int x2] σ (some (.int r)) (r = 0 ∨ r = 1) σ := by
  refine Ctr.z (by decide) (Nat.le_of_ble_eq_true rfl) ?_
  intro X hG C hr
  subst hG
  exact w_X6_opensSo_b0 C hr _ _ _ hx0 h
-- X6_opensIt
set_option maxHeartbeats 4000000 in
set_option maxRecDepth 100000 in
theorem w_X6_opensIt_b61 {X : CX} (C : Cok X RX6 cX6_opensIt 4 4 89) {σ : St} {r : Int32} (hr : RtZ X cX6_opensIt r σ) (k_33 : Nat → Int32 → Int32 → Option Int32) (hk_33 : ∀ (x0 : Nat) (x2 : Int32) (x3 : Int32), kd x0 = 7 → k_33 x0 x2 x3 = some r → V X σ 33 [(0, .ref ((xG X).1 x0)), (2, .int x2), (3, .int x3)] []) (x0 : Nat) (x2 : Int32) (x3 : Int32) (hx0 : kd x0 = 7) (h : f_X6_opensIt_b61 σ k_33 x0 x2 x3 = some r) : V X σ 61 [(0, .ref ((xG X).1 x0)), (2, .int x2), (3, .int x3)] [] := by
  unfold f_X6_opensIt_b61 at h
  obtain ⟨y_61, e_61, h⟩ := bs h
  refine r_iinc C (v := y_61) (lv' := [(3, .int y_61), (0, .ref ((xG X).1 x0)), (2, .int x2)]) (q := 64) 2 dX6_opensIt_61 rfl (Option.some.inj e_61) (by decide) rfl rfl ?_
  refine r_goto C (tgt := 33) dX6_opensIt_64 (by decide) ?_
  refine r_sub (lv' := [(0, .ref ((xG X).1 x0)), (2, .int x2), (3, .int y_61)]) [1, 2, 0] rfl ?_
  exact hk_33 _ _ _ hx0 h

set_option maxHeartbeats 4000000 in
set_option maxRecDepth 100000 in
theorem w_X6_opensIt_b33 {X : CX} (C : Cok X RX6 cX6_opensIt 4 4 89) {σ : St} {r : Int32} (hr : RtZ X cX6_opensIt r σ) (k_33 : Nat → Int32 → Int32 → Option Int32) (hk_33 : ∀ (x0 : Nat) (x2 : Int32) (x3 : Int32), kd x0 = 7 → k_33 x0 x2 x3 = some r → V X σ 33 [(0, .ref ((xG X).1 x0)), (2, .int x2), (3, .int x3)] []) (x0 : Nat) (x2 : Int32) (x3 : Int32) (hx0 : kd x0 = 7) (h : f_X6_opensIt_b33 σ k_33 x0 x2 x3 = some r) : V X σ 33 [(0, .ref ((xG X).1 x0)), (2, .int x2), (3, .int x3)] [] := by
  unfold f_X6_opensIt_b33 at h
  refine r_iload_n C 2 (q := 34) dX6_opensIt_33 rfl rfl ?_
  refine r_aload_n C 0 (q := 35) dX6_opensIt_34 rfl rfl ?_
  refine g_X6_6 C (q := 38) dX6_opensIt_35 q_995 hx0 rfl ?_
  refine r_icmp_ge C (tgt := 67) (q := 41) dX6_opensIt_38 (by decide) rfl (fun c_38 => ?_) (fun c_38 => ?_)
  · replace h := (if_pos c_38).symm.trans h
    refine r_iconst C (v := 0) (q := 68) dX6_opensIt_67 (by decide) rfl ?_
    obtain rfl := Option.some.inj h
    exact hr _ _ dX6_opensIt_68 (Or.inl rfl)
  · replace h := (if_neg c_38).symm.trans h
    refine r_aload_n C 0 (q := 42) dX6_opensIt_41 rfl rfl ?_
    refine g_X6_7 C (q := 45) dX6_opensIt_42 q_996 hx0 rfl ?_
    refine r_iload_n C 2 (q := 46) dX6_opensIt_45 rfl rfl ?_
    obtain ⟨v_46, e_46, h⟩ := bs h
    refine r_iald C (q := 47) dX6_opensIt_46 (kf_X6_7 hx0) e_46 rfl ?_
    refine r_if_ne C (tgt := 61) (q := 50) dX6_opensIt_47 (by decide) rfl (fun c_47 => ?_) (fun c_47 => ?_)
    · replace h := (if_neg c_47).symm.trans h
      exact w_X6_opensIt_b61 C hr _ hk_33 _ _ _ hx0 h
    · replace h := (if_pos c_47).symm.trans h
      refine r_aload_n C 0 (q := 51) dX6_opensIt_50 rfl rfl ?_
      refine r_iload_n C 2 (q := 52) dX6_opensIt_51 rfl rfl ?_
      refine r_iload_n C 1 (q := 53) dX6_opensIt_52 rfl rfl ?_
      obtain ⟨v_53, e_53, h⟩ := bs h
      refine r_callV C (ci := 6) (st := []) (st2 := [.int v_53]) (q := 56) (m_X6_opensSo (xG X) (xl X) hx0 e_53) ok_X6_opensSo hx0 rfl ⟨_, rfl⟩ q_1135 rfl ⟨Nat.le_of_ble_eq_true rfl, Nat.le_of_ble_eq_true rfl⟩ rfl rfl (Nat.le_of_ble_eq_true rfl) dX6_opensIt_53 rfl (fun hp_53 => ?_)
      refine r_if_eq C (tgt := 61) (q := 59) dX6_opensIt_56 (by decide) rfl (fun c_56 => ?_) (fun c_56 => ?_)
      · replace h := (if_pos c_56).symm.trans h
        exact w_X6_opensIt_b61 C hr _ hk_33 _ _ _ hx0 h
      · replace h := (if_neg c_56).symm.trans h
        refine r_iconst C (v := 1) (q := 60) dX6_opensIt_59 (by decide) rfl ?_
        obtain rfl := Option.some.inj h
        exact hr _ _ dX6_opensIt_60 (Or.inr rfl)

theorem w_X6_opensIt_l33 {X : CX} (C : Cok X RX6 cX6_opensIt 4 4 89) {σ : St} {r : Int32} (hr : RtZ X cX6_opensIt r σ) (n : Nat) : ∀ (x0 : Nat) (x2 : Int32) (x3 : Int32), kd x0 = 7 → f_X6_opensIt_l33 σ n x0 x2 x3 = some r → V X σ 33 [(0, .ref ((xG X).1 x0)), (2, .int x2), (3, .int x3)] [] := by
  induction n with
  | zero =>
    intro x0 x2 x3 hx0 h
    exact nomatch (show (none : Option Int32) = some r from h)
  | succ n ih =>
    intro x0 x2 x3 hx0 h
    exact w_X6_opensIt_b33 C hr _ ih x0 x2 x3 hx0 h
set_option maxHeartbeats 4000000 in
set_option maxRecDepth 100000 in
theorem w_X6_opensIt_b0 {X : CX} (C : Cok X RX6 cX6_opensIt 4 4 89) {σ : St} {r : Int32} (hr : RtZ X cX6_opensIt r σ) (x0 : Nat) (x1 : Int32) (x2 : Int32) (hx0 : kd x0 = 7) (h : f_X6_opensIt σ x0 x1 x2 = some r) : V X σ 0 [(0, .ref ((xG X).1 x0)), (1, .int x1), (2, .int x2)] [] := by
  unfold f_X6_opensIt at h
  refine r_aload_n C 0 (q := 1) dX6_opensIt_0 rfl rfl ?_
  refine r_iload_n C 1 (q := 2) dX6_opensIt_1 rfl rfl ?_
  refine r_iload_n C 2 (q := 3) dX6_opensIt_2 rfl rfl ?_
  obtain ⟨v_3, e_3, h⟩ := bs h
  refine r_callV C (ci := 6) (st := []) (st2 := [.int v_3]) (q := 6) (m_X6_opensSo (xG X) (xl X) hx0 e_3) ok_X6_opensSo hx0 rfl ⟨_, rfl⟩ q_1135 rfl ⟨Nat.le_of_ble_eq_true rfl, Nat.le_of_ble_eq_true rfl⟩ rfl rfl (Nat.le_of_ble_eq_true rfl) dX6_opensIt_3 rfl (fun hp_3 => ?_)
  refine r_if_eq C (tgt := 11) (q := 9) dX6_opensIt_6 (by decide) rfl (fun c_6 => ?_) (fun c_6 => ?_)
  · replace h := (if_pos c_6).symm.trans h
    refine r_aload_n C 0 (q := 12) dX6_opensIt_11 rfl rfl ?_
    refine g_X6_7 C (q := 15) dX6_opensIt_12 q_996 hx0 rfl ?_
    refine r_iload_n C 1 (q := 16) dX6_opensIt_15 rfl rfl ?_
    obtain ⟨v_16, e_16, h⟩ := bs h
    refine r_iald C (q := 17) dX6_opensIt_16 (kf_X6_7 hx0) e_16 rfl ?_
    refine r_iconst C (v := 5) (q := 18) dX6_opensIt_17 (by decide) rfl ?_
    refine r_icmp_ne C (tgt := 29) (q := 21) dX6_opensIt_18 (by decide) rfl (fun c_18 => ?_) (fun c_18 => ?_)
    · replace h := (if_neg c_18).symm.trans h
      refine r_iconst C (v := 0) (q := 30) dX6_opensIt_29 (by decide) rfl ?_
      obtain rfl := Option.some.inj h
      exact hr _ _ dX6_opensIt_30 (Or.inl rfl)
    · replace h := (if_pos c_18).symm.trans h
      refine r_aload_n C 0 (q := 22) dX6_opensIt_21 rfl rfl ?_
      refine r_iload_n C 1 (q := 23) dX6_opensIt_22 rfl rfl ?_
      obtain ⟨v_23, e_23, h⟩ := bs h
      refine r_callV C (ci := 6) (st := []) (st2 := [.int v_23]) (q := 26) (m_X6_broken (xG X) (xl X) hx0 e_23) ok_X6_broken hx0 rfl ⟨_, rfl⟩ q_1150 rfl ⟨Nat.le_of_ble_eq_true rfl, Nat.le_of_ble_eq_true rfl⟩ rfl rfl (Nat.le_of_ble_eq_true rfl) dX6_opensIt_23 rfl (fun hp_23 => ?_)
      refine r_if_eq C (tgt := 31) (q := 29) dX6_opensIt_26 (by decide) rfl (fun c_26 => ?_) (fun c_26 => ?_)
      · replace h := (if_pos c_26).symm.trans h
        refine r_iconst C (v := 0) (q := 32) dX6_opensIt_31 (by decide) rfl ?_
        refine r_istore_n C (lv' := [(3, .int 0), (0, .ref ((xG X).1 x0)), (1, .int x1), (2, .int x2)]) (q := 33) dX6_opensIt_32 rfl (by decide) rfl rfl ?_
        refine r_sub (lv' := [(0, .ref ((xG X).1 x0)), (2, .int x2), (3, .int 0)]) [1, 3, 0] rfl ?_
        exact w_X6_opensIt_l33 C hr  FU _ _ _ hx0 h
      · replace h := (if_neg c_26).symm.trans h
        refine r_iconst C (v := 0) (q := 30) dX6_opensIt_29 (by decide) rfl ?_
        obtain rfl := Option.some.inj h
        exact hr _ _ dX6_opensIt_30 (Or.inl rfl)
  · replace h := (if_neg c_6).symm.trans h
    refine r_iconst C (v := 1) (q := 10) dX6_opensIt_9 (by decide) rfl ?_
    obtain rfl := Option.some.inj h
    exact hr _ _ dX6_opensIt_10 (Or.inr rfl)

theorem m_X6_opensIt (G : Gm) (l : Launch) {σ : St} {x0 : Nat} {x1 : Int32} {x2 : Int32} (hx0 : kd x0 = 7) {r : Int32} (h : f_X6_opensIt σ x0 x1 x2 = some r) : Ctr G l yX6_opensIt cX6_opensIt 4 (some .boolean) 4 89 [.ref (G.1 x0), .int x1, .int x2] σ (some (.int r)) (r = 0 ∨ r = 1) σ := by
  refine Ctr.z (by decide) (Nat.le_of_ble_eq_true rfl) ?_
  intro X hG C hr
  subst hG
  exact w_X6_opensIt_b0 C hr _ _ _ hx0 h
-- X6_openedBy
set_option maxHeartbeats 4000000 in
set_option maxRecDepth 100000 in
theorem w_X6_openedBy_b27 {X : CX} (C : Cok X RX6 cX6_openedBy 4 5 112) {σ : St} {r : Int32} (hr : RtI X cX6_openedBy r σ) (k_4 : Nat → Int32 → Int32 → Int32 → Option Int32) (hk_4 : ∀ (x0 : Nat) (x1 : Int32) (x2 : Int32) (x3 : Int32), kd x0 = 7 → k_4 x0 x1 x2 x3 = some r → V X σ 4 [(0, .ref ((xG X).1 x0)), (1, .int x1), (2, .int x2), (3, .int x3)] []) (x0 : Nat) (x1 : Int32) (x2 : Int32) (x3 : Int32) (hx0 : kd x0 = 7) (h : f_X6_openedBy_b27 σ k_4 x0 x1 x2 x3 = some r) : V X σ 27 [(0, .ref ((xG X).1 x0)), (1, .int x1), (2, .int x2), (3, .int x3)] [] := by
  unfold f_X6_openedBy_b27 at h
  obtain ⟨y_27, e_27, h⟩ := bs h
  refine r_iinc C (v := y_27) (lv' := [(3, .int y_27), (0, .ref ((xG X).1 x0)), (1, .int x1), (2, .int x2)]) (q := 30) 3 dX6_openedBy_27 rfl (Option.some.inj e_27) (by decide) rfl rfl ?_
  refine r_goto C (tgt := 4) dX6_openedBy_30 (by decide) ?_
  refine r_sub (lv' := [(0, .ref ((xG X).1 x0)), (1, .int x1), (2, .int x2), (3, .int y_27)]) [1, 2, 3, 0] rfl ?_
  exact hk_4 _ _ _ _ hx0 h

set_option maxHeartbeats 4000000 in
set_option maxRecDepth 100000 in
theorem w_X6_openedBy_b4 {X : CX} (C : Cok X RX6 cX6_openedBy 4 5 112) {σ : St} {r : Int32} (hr : RtI X cX6_openedBy r σ) (k_4 : Nat → Int32 → Int32 → Int32 → Option Int32) (hk_4 : ∀ (x0 : Nat) (x1 : Int32) (x2 : Int32) (x3 : Int32), kd x0 = 7 → k_4 x0 x1 x2 x3 = some r → V X σ 4 [(0, .ref ((xG X).1 x0)), (1, .int x1), (2, .int x2), (3, .int x3)] []) (x0 : Nat) (x1 : Int32) (x2 : Int32) (x3 : Int32) (hx0 : kd x0 = 7) (h : f_X6_openedBy_b4 σ k_4 x0 x1 x2 x3 = some r) : V X σ 4 [(0, .ref ((xG X).1 x0)), (1, .int x1), (2, .int x2), (3, .int x3)] [] := by
  unfold f_X6_openedBy_b4 at h
  refine r_iload_n C 3 (q := 5) dX6_openedBy_4 rfl rfl ?_
  refine r_aload_n C 0 (q := 6) dX6_openedBy_5 rfl rfl ?_
  refine g_X6_11 C (q := 9) dX6_openedBy_6 q_1000 hx0 rfl ?_
  refine r_icmp_ge C (tgt := 33) (q := 12) dX6_openedBy_9 (by decide) rfl (fun c_9 => ?_) (fun c_9 => ?_)
  · replace h := (if_pos c_9).symm.trans h
    refine r_iload_n C 2 (q := 34) dX6_openedBy_33 rfl rfl ?_
    obtain rfl := Option.some.inj h
    exact hr _ _ dX6_openedBy_34
  · replace h := (if_neg c_9).symm.trans h
    refine r_aload_n C 0 (q := 13) dX6_openedBy_12 rfl rfl ?_
    refine r_iload_n C 1 (q := 14) dX6_openedBy_13 rfl rfl ?_
    refine r_iload_n C 3 (q := 15) dX6_openedBy_14 rfl rfl ?_
    obtain ⟨v_15, e_15, h⟩ := bs h
    refine r_callV C (ci := 6) (st := []) (st2 := [.int v_15]) (q := 18) (m_X6_opensIt (xG X) (xl X) hx0 e_15) ok_X6_opensIt hx0 rfl ⟨_, rfl⟩ q_1131 rfl ⟨Nat.le_of_ble_eq_true rfl, Nat.le_of_ble_eq_true rfl⟩ rfl rfl (Nat.le_of_ble_eq_true rfl) dX6_openedBy_15 rfl (fun hp_15 => ?_)
    refine r_if_eq C (tgt := 27) (q := 21) dX6_openedBy_18 (by decide) rfl (fun c_18 => ?_) (fun c_18 => ?_)
    · replace h := (if_pos c_18).symm.trans h
      exact w_X6_openedBy_b27 C hr _ hk_4 _ _ _ _ hx0 h
    · replace h := (if_neg c_18).symm.trans h
      refine r_iload_n C 2 (q := 22) dX6_openedBy_21 rfl rfl ?_
      refine r_iconst C (v := 1) (q := 23) dX6_openedBy_22 (by decide) rfl ?_
      refine r_iload_n C 3 (q := 24) dX6_openedBy_23 rfl rfl ?_
      refine r_ishl C (q := 25) dX6_openedBy_24 rfl ?_
      refine r_ior C (q := 26) dX6_openedBy_25 rfl ?_
      obtain ⟨y_26, e_26, h⟩ := bs h
      refine r_topI (Option.some.inj e_26) ?_
      refine r_istore_n C (lv' := [(2, .int y_26), (0, .ref ((xG X).1 x0)), (1, .int x1), (3, .int x3)]) (q := 27) dX6_openedBy_26 rfl (by decide) rfl rfl ?_
      refine r_sub (lv' := [(0, .ref ((xG X).1 x0)), (1, .int x1), (2, .int y_26), (3, .int x3)]) [1, 2, 0, 3] rfl ?_
      exact w_X6_openedBy_b27 C hr _ hk_4 _ _ _ _ hx0 h

theorem w_X6_openedBy_l4 {X : CX} (C : Cok X RX6 cX6_openedBy 4 5 112) {σ : St} {r : Int32} (hr : RtI X cX6_openedBy r σ) (n : Nat) : ∀ (x0 : Nat) (x1 : Int32) (x2 : Int32) (x3 : Int32), kd x0 = 7 → f_X6_openedBy_l4 σ n x0 x1 x2 x3 = some r → V X σ 4 [(0, .ref ((xG X).1 x0)), (1, .int x1), (2, .int x2), (3, .int x3)] [] := by
  induction n with
  | zero =>
    intro x0 x1 x2 x3 hx0 h
    exact nomatch (show (none : Option Int32) = some r from h)
  | succ n ih =>
    intro x0 x1 x2 x3 hx0 h
    exact w_X6_openedBy_b4 C hr _ ih x0 x1 x2 x3 hx0 h
set_option maxHeartbeats 4000000 in
set_option maxRecDepth 100000 in
theorem w_X6_openedBy_b0 {X : CX} (C : Cok X RX6 cX6_openedBy 4 5 112) {σ : St} {r : Int32} (hr : RtI X cX6_openedBy r σ) (x0 : Nat) (x1 : Int32) (hx0 : kd x0 = 7) (h : f_X6_openedBy σ x0 x1 = some r) : V X σ 0 [(0, .ref ((xG X).1 x0)), (1, .int x1)] [] := by
  unfold f_X6_openedBy at h
  refine r_iconst C (v := 0) (q := 1) dX6_openedBy_0 (by decide) rfl ?_
  refine r_istore_n C (lv' := [(2, .int 0), (0, .ref ((xG X).1 x0)), (1, .int x1)]) (q := 2) dX6_openedBy_1 rfl (by decide) rfl rfl ?_
  refine r_iconst C (v := 0) (q := 3) dX6_openedBy_2 (by decide) rfl ?_
  refine r_istore_n C (lv' := [(3, .int 0), (2, .int 0), (0, .ref ((xG X).1 x0)), (1, .int x1)]) (q := 4) dX6_openedBy_3 rfl (by decide) rfl rfl ?_
  refine r_sub (lv' := [(0, .ref ((xG X).1 x0)), (1, .int x1), (2, .int 0), (3, .int 0)]) [2, 3, 1, 0] rfl ?_
  exact w_X6_openedBy_l4 C hr  FU _ _ _ _ hx0 h

theorem m_X6_openedBy (G : Gm) (l : Launch) {σ : St} {x0 : Nat} {x1 : Int32} (hx0 : kd x0 = 7) {r : Int32} (h : f_X6_openedBy σ x0 x1 = some r) : Ctr G l yX6_openedBy cX6_openedBy 4 (some .int) 5 112 [.ref (G.1 x0), .int x1] σ (some (.int r)) True σ := by
  refine Ctr.i (by decide) (Nat.le_of_ble_eq_true rfl) ?_
  intro X hG C hr
  subst hG
  exact w_X6_openedBy_b0 C hr _ _ hx0 h
-- X6_says
set_option maxHeartbeats 4000000 in
set_option maxRecDepth 100000 in
theorem w_X6_says_b227 {X : CX} (C : Cok X RX6 cX6_says 7 6 135) {σ' : St} {r : Int32} (hr : RtI X cX6_says r σ') (k_192 : St → Nat → Int32 → Int32 → Int32 → Option (Int32 × St)) (hk_192 : ∀ (σ : St) (x0 : Nat) (x3 : Int32) (x5 : Int32) (x6 : Int32), kd x0 = 7 → k_192 σ x0 x3 x5 x6 = some (r, σ') → V X σ 192 [(0, .ref ((xG X).1 x0)), (3, .int x3), (5, .int x5), (6, .int x6)] []) (σ : St) (x0 : Nat) (x3 : Int32) (x5 : Int32) (x6 : Int32) (hx0 : kd x0 = 7) (h : f_X6_says_b227 k_192 σ x0 x3 x5 x6 = some (r, σ')) : V X σ 227 [(0, .ref ((xG X).1 x0)), (3, .int x3), (5, .int x5), (6, .int x6)] [] := by
  unfold f_X6_says_b227 at h
  obtain ⟨y_227, e_227, h⟩ := bs h
  refine r_iinc C (v := y_227) (lv' := [(6, .int y_227), (0, .ref ((xG X).1 x0)), (3, .int x3), (5, .int x5)]) (q := 230) 3 dX6_says_227 rfl (Option.some.inj e_227) (by decide) rfl rfl ?_
  refine r_goto C (tgt := 192) dX6_says_230 (by decide) ?_
  refine r_sub (lv' := [(0, .ref ((xG X).1 x0)), (3, .int x3), (5, .int x5), (6, .int y_227)]) [1, 2, 3, 0] rfl ?_
  exact hk_192 _ _ _ _ _ hx0 h

set_option maxHeartbeats 4000000 in
set_option maxRecDepth 100000 in
theorem w_X6_says_b192 {X : CX} (C : Cok X RX6 cX6_says 7 6 135) {σ' : St} {r : Int32} (hr : RtI X cX6_says r σ') (k_192 : St → Nat → Int32 → Int32 → Int32 → Option (Int32 × St)) (hk_192 : ∀ (σ : St) (x0 : Nat) (x3 : Int32) (x5 : Int32) (x6 : Int32), kd x0 = 7 → k_192 σ x0 x3 x5 x6 = some (r, σ') → V X σ 192 [(0, .ref ((xG X).1 x0)), (3, .int x3), (5, .int x5), (6, .int x6)] []) (σ : St) (x0 : Nat) (x3 : Int32) (x5 : Int32) (x6 : Int32) (hx0 : kd x0 = 7) (h : f_X6_says_b192 k_192 σ x0 x3 x5 x6 = some (r, σ')) : V X σ 192 [(0, .ref ((xG X).1 x0)), (3, .int x3), (5, .int x5), (6, .int x6)] [] := by
  unfold f_X6_says_b192 at h
  refine r_iload C 3 (q := 194) dX6_says_192 rfl rfl ?_
  refine r_aload_n C 0 (q := 195) dX6_says_194 rfl rfl ?_
  refine g_X6_6 C (q := 198) dX6_says_195 q_995 hx0 rfl ?_
  refine r_icmp_ge C (tgt := 233) (q := 201) dX6_says_198 (by decide) rfl (fun c_198 => ?_) (fun c_198 => ?_)
  · replace h := (if_pos c_198).symm.trans h
    refine r_iload C 2 (q := 235) dX6_says_233 rfl rfl ?_
    obtain ⟨rfl, rfl⟩ := Prod.mk.inj (Option.some.inj h)
    exact hr _ _ dX6_says_235
  · replace h := (if_neg c_198).symm.trans h
    refine r_iload C 3 (q := 203) dX6_says_201 rfl rfl ?_
    refine r_iload_n C 1 (q := 204) dX6_says_203 rfl rfl ?_
    refine r_icmp_eq C (tgt := 227) (q := 207) dX6_says_204 (by decide) rfl (fun c_204 => ?_) (fun c_204 => ?_)
    · replace h := (if_pos c_204).symm.trans h
      exact w_X6_says_b227 C hr _ hk_192 _ _ _ _ _ hx0 h
    · replace h := (if_neg c_204).symm.trans h
      refine r_aload_n C 0 (q := 208) dX6_says_207 rfl rfl ?_
      refine r_iload C 3 (q := 210) dX6_says_208 rfl rfl ?_
      obtain ⟨v_210, e_210, h⟩ := bs h
      refine r_callV C (ci := 6) (st := []) (st2 := [.int v_210]) (q := 213) (m_X6_openedBy (xG X) (xl X) hx0 e_210) ok_X6_openedBy hx0 rfl ⟨_, rfl⟩ q_1159 rfl ⟨Nat.le_of_ble_eq_true rfl, Nat.le_of_ble_eq_true rfl⟩ rfl rfl (Nat.le_of_ble_eq_true rfl) dX6_says_210 rfl (fun hp_210 => ?_)
      refine r_aload_n C 0 (q := 214) dX6_says_213 rfl rfl ?_
      refine r_iload_n C 1 (q := 215) dX6_says_214 rfl rfl ?_
      obtain ⟨v_215, e_215, h⟩ := bs h
      refine r_callV C (ci := 6) (st := [.int v_210]) (st2 := [.int v_215, .int v_210]) (q := 218) (m_X6_openedBy (xG X) (xl X) hx0 e_215) ok_X6_openedBy hx0 rfl ⟨_, rfl⟩ q_1159 rfl ⟨Nat.le_of_ble_eq_true rfl, Nat.le_of_ble_eq_true rfl⟩ rfl rfl (Nat.le_of_ble_eq_true rfl) dX6_says_215 rfl (fun hp_215 => ?_)
      refine r_iconst C (v := (-1)) (q := 219) dX6_says_218 (by decide) rfl ?_
      refine r_ixor C (q := 220) dX6_says_219 rfl ?_
      refine r_iand C (q := 221) dX6_says_220 rfl ?_
      refine r_if_ne C (tgt := 227) (q := 224) dX6_says_221 (by decide) rfl (fun c_221 => ?_) (fun c_221 => ?_)
      · replace h := (if_neg c_221).symm.trans h
        exact w_X6_says_b227 C hr _ hk_192 _ _ _ _ _ hx0 h
      · replace h := (if_pos c_221).symm.trans h
        obtain ⟨y_224, e_224, h⟩ := bs h
        refine r_iinc C (v := y_224) (lv' := [(5, .int y_224), (0, .ref ((xG X).1 x0)), (3, .int x3), (6, .int x6)]) (q := 227) 2 dX6_says_224 rfl (Option.some.inj e_224) (by decide) rfl rfl ?_
        refine r_sub (lv' := [(0, .ref ((xG X).1 x0)), (3, .int x3), (5, .int y_224), (6, .int x6)]) [1, 2, 0, 3] rfl ?_
        exact w_X6_says_b227 C hr _ hk_192 _ _ _ _ _ hx0 h

theorem w_X6_says_l192 {X : CX} (C : Cok X RX6 cX6_says 7 6 135) {σ' : St} {r : Int32} (hr : RtI X cX6_says r σ') (n : Nat) : ∀ (σ : St) (x0 : Nat) (x3 : Int32) (x5 : Int32) (x6 : Int32), kd x0 = 7 → f_X6_says_l192 n σ x0 x3 x5 x6 = some (r, σ') → V X σ 192 [(0, .ref ((xG X).1 x0)), (3, .int x3), (5, .int x5), (6, .int x6)] [] := by
  induction n with
  | zero =>
    intro σ x0 x3 x5 x6 hx0 h
    exact nomatch (show (none : Option (Int32 × St)) = some (r, σ') from h)
  | succ n ih =>
    intro σ x0 x3 x5 x6 hx0 h
    exact w_X6_says_b192 C hr _ ih σ x0 x3 x5 x6 hx0 h
set_option maxHeartbeats 4000000 in
set_option maxRecDepth 100000 in
theorem w_X6_says_b177 {X : CX} (C : Cok X RX6 cX6_says 7 6 135) {σ' : St} {r : Int32} (hr : RtI X cX6_says r σ') (k_144 : St → Nat → Int32 → Int32 → Int32 → Option (Int32 × St)) (hk_144 : ∀ (σ : St) (x0 : Nat) (x3 : Int32) (x4 : Int32) (x5 : Int32), kd x0 = 7 → k_144 σ x0 x3 x4 x5 = some (r, σ') → V X σ 144 [(0, .ref ((xG X).1 x0)), (3, .int x3), (4, .int x4), (5, .int x5)] []) (σ : St) (x0 : Nat) (x3 : Int32) (x4 : Int32) (x5 : Int32) (hx0 : kd x0 = 7) (h : f_X6_says_b177 k_144 σ x0 x3 x4 x5 = some (r, σ')) : V X σ 177 [(0, .ref ((xG X).1 x0)), (3, .int x3), (4, .int x4), (5, .int x5)] [] := by
  unfold f_X6_says_b177 at h
  obtain ⟨y_177, e_177, h⟩ := bs h
  refine r_iinc C (v := y_177) (lv' := [(5, .int y_177), (0, .ref ((xG X).1 x0)), (3, .int x3), (4, .int x4)]) (q := 180) 3 dX6_says_177 rfl (Option.some.inj e_177) (by decide) rfl rfl ?_
  refine r_goto C (tgt := 144) dX6_says_180 (by decide) ?_
  refine r_sub (lv' := [(0, .ref ((xG X).1 x0)), (3, .int x3), (4, .int x4), (5, .int y_177)]) [1, 2, 3, 0] rfl ?_
  exact hk_144 _ _ _ _ _ hx0 h

set_option maxHeartbeats 4000000 in
set_option maxRecDepth 100000 in
theorem w_X6_says_b144 {X : CX} (C : Cok X RX6 cX6_says 7 6 135) {σ' : St} {r : Int32} (hr : RtI X cX6_says r σ') (k_144 : St → Nat → Int32 → Int32 → Int32 → Option (Int32 × St)) (hk_144 : ∀ (σ : St) (x0 : Nat) (x3 : Int32) (x4 : Int32) (x5 : Int32), kd x0 = 7 → k_144 σ x0 x3 x4 x5 = some (r, σ') → V X σ 144 [(0, .ref ((xG X).1 x0)), (3, .int x3), (4, .int x4), (5, .int x5)] []) (σ : St) (x0 : Nat) (x3 : Int32) (x4 : Int32) (x5 : Int32) (hx0 : kd x0 = 7) (h : f_X6_says_b144 k_144 σ x0 x3 x4 x5 = some (r, σ')) : V X σ 144 [(0, .ref ((xG X).1 x0)), (3, .int x3), (4, .int x4), (5, .int x5)] [] := by
  unfold f_X6_says_b144 at h
  refine r_iload C 3 (q := 146) dX6_says_144 rfl rfl ?_
  refine r_aload_n C 0 (q := 147) dX6_says_146 rfl rfl ?_
  refine g_X6_11 C (q := 150) dX6_says_147 q_1000 hx0 rfl ?_
  refine r_icmp_ge C (tgt := 183) (q := 153) dX6_says_150 (by decide) rfl (fun c_150 => ?_) (fun c_150 => ?_)
  · replace h := (if_pos c_150).symm.trans h
    refine r_iload C 2 (q := 185) dX6_says_183 rfl rfl ?_
    obtain ⟨rfl, rfl⟩ := Prod.mk.inj (Option.some.inj h)
    exact hr _ _ dX6_says_185
  · replace h := (if_neg c_150).symm.trans h
    refine r_aload_n C 0 (q := 154) dX6_says_153 rfl rfl ?_
    refine g_X6_12 C (q := 157) dX6_says_154 q_1001 hx0 rfl ?_
    refine r_iload C 3 (q := 159) dX6_says_157 rfl rfl ?_
    obtain ⟨v_159, e_159, h⟩ := bs h
    refine r_iald C (q := 160) dX6_says_159 (kf_X6_12 hx0) e_159 rfl ?_
    refine r_iconst C (v := 1) (q := 161) dX6_says_160 (by decide) rfl ?_
    refine r_icmp_ne C (tgt := 177) (q := 164) dX6_says_161 (by decide) rfl (fun c_161 => ?_) (fun c_161 => ?_)
    · replace h := (if_neg c_161).symm.trans h
      exact w_X6_says_b177 C hr _ hk_144 _ _ _ _ _ hx0 h
    · replace h := (if_pos c_161).symm.trans h
      refine r_aload_n C 0 (q := 165) dX6_says_164 rfl rfl ?_
      refine r_iload_n C 1 (q := 166) dX6_says_165 rfl rfl ?_
      refine r_iload C 3 (q := 168) dX6_says_166 rfl rfl ?_
      obtain ⟨v_168, e_168, h⟩ := bs h
      refine r_callV C (ci := 6) (st := []) (st2 := [.int v_168]) (q := 171) (m_X6_opensIt (xG X) (xl X) hx0 e_168) ok_X6_opensIt hx0 rfl ⟨_, rfl⟩ q_1131 rfl ⟨Nat.le_of_ble_eq_true rfl, Nat.le_of_ble_eq_true rfl⟩ rfl rfl (Nat.le_of_ble_eq_true rfl) dX6_says_168 rfl (fun hp_168 => ?_)
      refine r_if_eq C (tgt := 177) (q := 174) dX6_says_171 (by decide) rfl (fun c_171 => ?_) (fun c_171 => ?_)
      · replace h := (if_pos c_171).symm.trans h
        exact w_X6_says_b177 C hr _ hk_144 _ _ _ _ _ hx0 h
      · replace h := (if_neg c_171).symm.trans h
        obtain ⟨y_174, e_174, h⟩ := bs h
        refine r_iinc C (v := y_174) (lv' := [(4, .int y_174), (0, .ref ((xG X).1 x0)), (3, .int x3), (5, .int x5)]) (q := 177) 2 dX6_says_174 rfl (Option.some.inj e_174) (by decide) rfl rfl ?_
        refine r_sub (lv' := [(0, .ref ((xG X).1 x0)), (3, .int x3), (4, .int y_174), (5, .int x5)]) [1, 2, 0, 3] rfl ?_
        exact w_X6_says_b177 C hr _ hk_144 _ _ _ _ _ hx0 h

theorem w_X6_says_l144 {X : CX} (C : Cok X RX6 cX6_says 7 6 135) {σ' : St} {r : Int32} (hr : RtI X cX6_says r σ') (n : Nat) : ∀ (σ : St) (x0 : Nat) (x3 : Int32) (x4 : Int32) (x5 : Int32), kd x0 = 7 → f_X6_says_l144 n σ x0 x3 x4 x5 = some (r, σ') → V X σ 144 [(0, .ref ((xG X).1 x0)), (3, .int x3), (4, .int x4), (5, .int x5)] [] := by
  induction n with
  | zero =>
    intro σ x0 x3 x4 x5 hx0 h
    exact nomatch (show (none : Option (Int32 × St)) = some (r, σ') from h)
  | succ n ih =>
    intro σ x0 x3 x4 x5 hx0 h
    exact w_X6_says_b144 C hr _ ih σ x0 x3 x4 x5 hx0 h
set_option maxHeartbeats 4000000 in
set_option maxRecDepth 100000 in
theorem w_X6_says_b68 {X : CX} (C : Cok X RX6 cX6_says 7 6 135) {σ' : St} {r : Int32} (hr : RtI X cX6_says r σ') (σ : St) (x0 : Nat) (x2 : Int32) (x3 : Int32) (hx0 : kd x0 = 7) (h : f_X6_says_b68 σ x0 x2 x3 = some (r, σ')) : V X σ 68 [(0, .ref ((xG X).1 x0)), (2, .int x2), (3, .int x3)] [] := by
  unfold f_X6_says_b68 at h
  refine r_iload_n C 2 (q := 69) dX6_says_68 rfl rfl ?_
  refine r_if_ge C (tgt := 79) (q := 72) dX6_says_69 (by decide) rfl (fun c_69 => ?_) (fun c_69 => ?_)
  · replace h := (if_pos c_69).symm.trans h
    refine r_iload_n C 1 (q := 80) dX6_says_79 rfl rfl ?_
    by_cases c_80_0 : x2 = 0
    · replace h := (if_pos c_80_0).symm.trans h
      refine r_tabIn C (tgt := 120) (off := 40) dX6_says_80 (by rw [c_80_0]; decide) (by rw [c_80_0]; decide) (by rw [c_80_0]; rfl) (by decide) ?_
      refine r_aload_n C 0 (q := 121) dX6_says_120 rfl rfl ?_
      refine r_iload_n C 2 (q := 122) dX6_says_121 rfl rfl ?_
      obtain ⟨v_122, e_122, h⟩ := bs h
      refine r_callV C (ci := 6) (st := []) (st2 := [.int v_122]) (q := 125) (m_X6_gone (xG X) (xl X) hx0 e_122) ok_X6_gone hx0 rfl ⟨_, rfl⟩ q_1127 rfl ⟨Nat.le_of_ble_eq_true rfl, Nat.le_of_ble_eq_true rfl⟩ rfl rfl (Nat.le_of_ble_eq_true rfl) dX6_says_122 rfl (fun hp_122 => ?_)
      obtain ⟨rfl, rfl⟩ := Prod.mk.inj (Option.some.inj h)
      exact hr _ _ dX6_says_125
    · replace h := (if_neg c_80_0).symm.trans h
      by_cases c_80_1 : x2 = 1
      · replace h := (if_pos c_80_1).symm.trans h
        refine r_tabIn C (tgt := 126) (off := 46) dX6_says_80 (by rw [c_80_1]; decide) (by rw [c_80_1]; decide) (by rw [c_80_1]; rfl) (by decide) ?_
        refine r_aload_n C 0 (q := 127) dX6_says_126 rfl rfl ?_
        refine g_X6_8 C (q := 130) dX6_says_127 q_997 hx0 rfl ?_
        refine r_iload_n C 2 (q := 131) dX6_says_130 rfl rfl ?_
        obtain ⟨v_131, e_131, h⟩ := bs h
        refine r_iald C (q := 132) dX6_says_131 (kf_X6_8 hx0) e_131 rfl ?_
        refine r_aload_n C 0 (q := 133) dX6_says_132 rfl rfl ?_
        refine g_X6_3 C (q := 136) dX6_says_133 q_992 hx0 rfl ?_
        obtain ⟨v_136, e_136, h⟩ := bs h
        refine r_irem C (q := 137) dX6_says_136 e_136 rfl ?_
        obtain ⟨rfl, rfl⟩ := Prod.mk.inj (Option.some.inj h)
        exact hr _ _ dX6_says_137
      · replace h := (if_neg c_80_1).symm.trans h
        by_cases c_80_2 : x2 = 2
        · replace h := (if_pos c_80_2).symm.trans h
          refine r_tabIn C (tgt := 236) (off := 156) dX6_says_80 (by rw [c_80_2]; decide) (by rw [c_80_2]; decide) (by rw [c_80_2]; rfl) (by decide) ?_
          refine r_aload_n C 0 (q := 237) dX6_says_236 rfl rfl ?_
          refine r_iload_n C 2 (q := 238) dX6_says_237 rfl rfl ?_
          obtain ⟨v_238, e_238, h⟩ := bs h
          refine r_callV C (ci := 6) (st := []) (st2 := [.int v_238]) (q := 241) (m_X6_bears (xG X) (xl X) hx0 e_238) ok_X6_bears hx0 rfl ⟨_, rfl⟩ q_1154 rfl ⟨Nat.le_of_ble_eq_true rfl, Nat.le_of_ble_eq_true rfl⟩ rfl rfl (Nat.le_of_ble_eq_true rfl) dX6_says_238 rfl (fun hp_238 => ?_)
          obtain ⟨rfl, rfl⟩ := Prod.mk.inj (Option.some.inj h)
          exact hr _ _ dX6_says_241
        · replace h := (if_neg c_80_2).symm.trans h
          by_cases c_80_3 : x2 = 3
          · replace h := (if_pos c_80_3).symm.trans h
            refine r_tabIn C (tgt := 138) (off := 58) dX6_says_80 (by rw [c_80_3]; decide) (by rw [c_80_3]; decide) (by rw [c_80_3]; rfl) (by decide) ?_
            refine r_iconst C (v := 0) (q := 139) dX6_says_138 (by decide) rfl ?_
            refine r_istore C (lv' := [(4, .int 0), (0, .ref ((xG X).1 x0)), (2, .int x2), (3, .int x3)]) (q := 141) dX6_says_139 (by decide) rfl rfl ?_
            refine r_iconst C (v := 0) (q := 142) dX6_says_141 (by decide) rfl ?_
            refine r_istore C (lv' := [(5, .int 0), (4, .int 0), (0, .ref ((xG X).1 x0)), (2, .int x2), (3, .int x3)]) (q := 144) dX6_says_142 (by decide) rfl rfl ?_
            refine r_sub (lv' := [(0, .ref ((xG X).1 x0)), (3, .int x3), (4, .int 0), (5, .int 0)]) [2, 4, 1, 0] rfl ?_
            exact w_X6_says_l144 C hr  FU _ _ _ _ _ hx0 h
          · replace h := (if_neg c_80_3).symm.trans h
            by_cases c_80_4 : x2 = 4
            · replace h := (if_pos c_80_4).symm.trans h
              refine r_tabIn C (tgt := 236) (off := 156) dX6_says_80 (by rw [c_80_4]; decide) (by rw [c_80_4]; decide) (by rw [c_80_4]; rfl) (by decide) ?_
              refine r_aload_n C 0 (q := 237) dX6_says_236 rfl rfl ?_
              refine r_iload_n C 2 (q := 238) dX6_says_237 rfl rfl ?_
              obtain ⟨v_238, e_238, h⟩ := bs h
              refine r_callV C (ci := 6) (st := []) (st2 := [.int v_238]) (q := 241) (m_X6_bears (xG X) (xl X) hx0 e_238) ok_X6_bears hx0 rfl ⟨_, rfl⟩ q_1154 rfl ⟨Nat.le_of_ble_eq_true rfl, Nat.le_of_ble_eq_true rfl⟩ rfl rfl (Nat.le_of_ble_eq_true rfl) dX6_says_238 rfl (fun hp_238 => ?_)
              obtain ⟨rfl, rfl⟩ := Prod.mk.inj (Option.some.inj h)
              exact hr _ _ dX6_says_241
            · replace h := (if_neg c_80_4).symm.trans h
              by_cases c_80_5 : x2 = 5
              · replace h := (if_pos c_80_5).symm.trans h
                refine r_tabIn C (tgt := 186) (off := 106) dX6_says_80 (by rw [c_80_5]; decide) (by rw [c_80_5]; decide) (by rw [c_80_5]; rfl) (by decide) ?_
                refine r_iconst C (v := 0) (q := 187) dX6_says_186 (by decide) rfl ?_
                refine r_istore C (lv' := [(5, .int 0), (0, .ref ((xG X).1 x0)), (2, .int x2), (3, .int x3)]) (q := 189) dX6_says_187 (by decide) rfl rfl ?_
                refine r_iconst C (v := 0) (q := 190) dX6_says_189 (by decide) rfl ?_
                refine r_istore C (lv' := [(6, .int 0), (5, .int 0), (0, .ref ((xG X).1 x0)), (2, .int x2), (3, .int x3)]) (q := 192) dX6_says_190 (by decide) rfl rfl ?_
                refine r_sub (lv' := [(0, .ref ((xG X).1 x0)), (3, .int x3), (5, .int 0), (6, .int 0)]) [2, 4, 1, 0] rfl ?_
                exact w_X6_says_l192 C hr  FU _ _ _ _ _ hx0 h
              · replace h := (if_neg c_80_5).symm.trans h
                refine r_tabOut C (tgt := 236) dX6_says_80 (tab_out (lt_s (lt_s (lt_s (lt_s (lt_s (lt_s lt_0 c_80_0) c_80_1) c_80_2) c_80_3) c_80_4) c_80_5) (by decide)) (by decide) ?_
                refine r_aload_n C 0 (q := 237) dX6_says_236 rfl rfl ?_
                refine r_iload_n C 2 (q := 238) dX6_says_237 rfl rfl ?_
                obtain ⟨v_238, e_238, h⟩ := bs h
                refine r_callV C (ci := 6) (st := []) (st2 := [.int v_238]) (q := 241) (m_X6_bears (xG X) (xl X) hx0 e_238) ok_X6_bears hx0 rfl ⟨_, rfl⟩ q_1154 rfl ⟨Nat.le_of_ble_eq_true rfl, Nat.le_of_ble_eq_true rfl⟩ rfl rfl (Nat.le_of_ble_eq_true rfl) dX6_says_238 rfl (fun hp_238 => ?_)
                obtain ⟨rfl, rfl⟩ := Prod.mk.inj (Option.some.inj h)
                exact hr _ _ dX6_says_241
  · replace h := (if_neg c_69).symm.trans h
    refine r_aload_n C 0 (q := 73) dX6_says_72 rfl rfl ?_
    refine r_bipush C (v := (-4)) (q := 75) dX6_says_73 (by decide) rfl ?_
    obtain ⟨v_75, s_75, e_75, h⟩ := bs2 h
    refine r_callV C (ci := 6) (st := []) (st2 := [.int v_75]) (q := 78) (m_X6_no (xG X) (xl X) hx0 e_75) ok_X6_no hx0 rfl ⟨_, rfl⟩ q_1084 rfl ⟨Nat.le_of_ble_eq_true rfl, Nat.le_of_ble_eq_true rfl⟩ rfl rfl (Nat.le_of_ble_eq_true rfl) dX6_says_75 rfl (fun hp_75 => ?_)
    obtain ⟨rfl, rfl⟩ := Prod.mk.inj (Option.some.inj h)
    exact hr _ _ dX6_says_78

set_option maxHeartbeats 4000000 in
set_option maxRecDepth 100000 in
theorem w_X6_says_b61 {X : CX} (C : Cok X RX6 cX6_says 7 6 135) {σ' : St} {r : Int32} (hr : RtI X cX6_says r σ') (σ : St) (x0 : Nat) (hx0 : kd x0 = 7) (h : f_X6_says_b61 σ x0 = some (r, σ')) : V X σ 61 [(0, .ref ((xG X).1 x0))] [] := by
  unfold f_X6_says_b61 at h
  refine r_aload_n C 0 (q := 62) dX6_says_61 rfl rfl ?_
  refine r_bipush C (v := (-3)) (q := 64) dX6_says_62 (by decide) rfl ?_
  obtain ⟨v_64, s_64, e_64, h⟩ := bs2 h
  refine r_callV C (ci := 6) (st := []) (st2 := [.int v_64]) (q := 67) (m_X6_no (xG X) (xl X) hx0 e_64) ok_X6_no hx0 rfl ⟨_, rfl⟩ q_1084 rfl ⟨Nat.le_of_ble_eq_true rfl, Nat.le_of_ble_eq_true rfl⟩ rfl rfl (Nat.le_of_ble_eq_true rfl) dX6_says_64 rfl (fun hp_64 => ?_)
  obtain ⟨rfl, rfl⟩ := Prod.mk.inj (Option.some.inj h)
  exact hr _ _ dX6_says_67

set_option maxHeartbeats 4000000 in
set_option maxRecDepth 100000 in
theorem w_X6_says_b19 {X : CX} (C : Cok X RX6 cX6_says 7 6 135) {σ' : St} {r : Int32} (hr : RtI X cX6_says r σ') (σ : St) (x0 : Nat) (hx0 : kd x0 = 7) (h : f_X6_says_b19 σ x0 = some (r, σ')) : V X σ 19 [(0, .ref ((xG X).1 x0))] [] := by
  unfold f_X6_says_b19 at h
  refine r_aload_n C 0 (q := 20) dX6_says_19 rfl rfl ?_
  refine r_bipush C (v := (-2)) (q := 22) dX6_says_20 (by decide) rfl ?_
  obtain ⟨v_22, s_22, e_22, h⟩ := bs2 h
  refine r_callV C (ci := 6) (st := []) (st2 := [.int v_22]) (q := 25) (m_X6_no (xG X) (xl X) hx0 e_22) ok_X6_no hx0 rfl ⟨_, rfl⟩ q_1084 rfl ⟨Nat.le_of_ble_eq_true rfl, Nat.le_of_ble_eq_true rfl⟩ rfl rfl (Nat.le_of_ble_eq_true rfl) dX6_says_22 rfl (fun hp_22 => ?_)
  obtain ⟨rfl, rfl⟩ := Prod.mk.inj (Option.some.inj h)
  exact hr _ _ dX6_says_25

set_option maxHeartbeats 4000000 in
set_option maxRecDepth 100000 in
theorem w_X6_says_b0 {X : CX} (C : Cok X RX6 cX6_says 7 6 135) {σ' : St} {r : Int32} (hr : RtI X cX6_says r σ') (σ : St) (x0 : Nat) (x1 : Int32) (x2 : Int32) (hx0 : kd x0 = 7) (h : f_X6_says σ x0 x1 x2 = some (r, σ')) : V X σ 0 [(0, .ref ((xG X).1 x0)), (1, .int x1), (2, .int x2)] [] := by
  unfold f_X6_says at h
  refine r_iload_n C 1 (q := 1) dX6_says_0 rfl rfl ?_
  refine r_iconst C (v := 0) (q := 2) dX6_says_1 (by decide) rfl ?_
  refine r_bipush C (v := 7) (q := 4) dX6_says_2 (by decide) rfl ?_
  obtain ⟨v_4, e_4, h⟩ := bs h
  refine r_callS C (st := []) (st2 := [.int v_4]) (q := 7) (m_X6_within (xG X) (xl X) e_4) ok_X6_within q_1081 rfl ⟨Nat.le_of_ble_eq_true rfl, Nat.le_of_ble_eq_true rfl⟩ rfl rfl (Nat.le_of_ble_eq_true rfl) dX6_says_4 rfl (fun hp_4 => ?_)
  refine r_if_eq C (tgt := 19) (q := 10) dX6_says_7 (by decide) rfl (fun c_7 => ?_) (fun c_7 => ?_)
  · replace h := (if_pos c_7).symm.trans h
    refine r_sub (lv' := [(0, .ref ((xG X).1 x0))]) [0] rfl ?_
    exact w_X6_says_b19 C hr  _ _ hx0 h
  · replace h := (if_neg c_7).symm.trans h
    refine r_iload_n C 2 (q := 11) dX6_says_10 rfl rfl ?_
    refine r_iconst C (v := 0) (q := 12) dX6_says_11 (by decide) rfl ?_
    refine r_iconst C (v := 5) (q := 13) dX6_says_12 (by decide) rfl ?_
    obtain ⟨v_13, e_13, h⟩ := bs h
    refine r_callS C (st := []) (st2 := [.int v_13]) (q := 16) (m_X6_within (xG X) (xl X) e_13) ok_X6_within q_1081 rfl ⟨Nat.le_of_ble_eq_true rfl, Nat.le_of_ble_eq_true rfl⟩ rfl rfl (Nat.le_of_ble_eq_true rfl) dX6_says_13 rfl (fun hp_13 => ?_)
    refine r_if_ne C (tgt := 26) (q := 19) dX6_says_16 (by decide) rfl (fun c_16 => ?_) (fun c_16 => ?_)
    · replace h := (if_neg c_16).symm.trans h
      refine r_aload_n C 0 (q := 27) dX6_says_26 rfl rfl ?_
      refine g_X6_0 C (q := 30) dX6_says_27 q_989 hx0 rfl ?_
      refine r_iload_n C 1 (q := 31) dX6_says_30 rfl rfl ?_
      obtain ⟨v_31, e_31, h⟩ := bs h
      refine r_iald C (q := 32) dX6_says_31 (kf_X6_0 hx0) e_31 rfl ?_
      refine r_bipush C (v := 10) (q := 34) dX6_says_32 (by decide) rfl ?_
      refine r_isub C (q := 35) dX6_says_34 rfl ?_
      obtain ⟨y_35, e_35, h⟩ := bs h
      refine r_topI (Option.some.inj e_35) ?_
      refine r_istore_n C (lv' := [(3, .int y_35), (0, .ref ((xG X).1 x0)), (1, .int x1), (2, .int x2)]) (q := 36) dX6_says_35 rfl (by decide) rfl rfl ?_
      refine r_aload_n C 1 (q := 37) dX6_says_36 rfl rfl ?_
      refine r_iload_n C 2 (q := 38) dX6_says_37 rfl rfl ?_
      obtain ⟨v_38, e_38, h⟩ := bs h
      refine r_callV C (ci := 6) (st := []) (st2 := [.int v_38]) (q := 41) (m_X6_isRow (xG X) (xl X) hx0 e_38) ok_X6_isRow hx0 rfl ⟨_, rfl⟩ q_1100 rfl ⟨Nat.le_of_ble_eq_true rfl, Nat.le_of_ble_eq_true rfl⟩ rfl rfl (Nat.le_of_ble_eq_true rfl) dX6_says_38 rfl (fun hp_38 => ?_)
      refine r_if_ne C (tgt := 61) (q := 44) dX6_says_41 (by decide) rfl (fun c_41 => ?_) (fun c_41 => ?_)
      · replace h := (if_neg c_41).symm.trans h
        refine r_sub (lv' := [(0, .ref ((xG X).1 x0))]) [1] rfl ?_
        exact w_X6_says_b61 C hr  _ _ hx0 h
      · replace h := (if_pos c_41).symm.trans h
        refine r_iload_n C 0 (q := 45) dX6_says_44 rfl rfl ?_
        refine r_if_lt C (tgt := 68) (q := 48) dX6_says_45 (by decide) rfl (fun c_45 => ?_) (fun c_45 => ?_)
        · replace h := (if_pos c_45).symm.trans h
          refine r_sub (lv' := [(0, .ref ((xG X).1 x0)), (2, .int x2), (3, .int y_35)]) [1, 3, 0] rfl ?_
          exact w_X6_says_b68 C hr  _ _ _ _ hx0 h
        · replace h := (if_neg c_45).symm.trans h
          refine r_aload_n C 1 (q := 49) dX6_says_48 rfl rfl ?_
          refine g_X6_7 C (q := 52) dX6_says_49 q_996 hx0 rfl ?_
          refine r_iload_n C 0 (q := 53) dX6_says_52 rfl rfl ?_
          obtain ⟨v_53, e_53, h⟩ := bs h
          refine r_iald C (q := 54) dX6_says_53 (kf_X6_7 hx0) e_53 rfl ?_
          refine r_iload_n C 3 (q := 55) dX6_says_54 rfl rfl ?_
          obtain ⟨v_55, e_55, h⟩ := bs h
          refine r_callS C (st := []) (st2 := [.int v_55]) (q := 58) (m_X6_isUnder (xG X) (xl X) e_55) ok_X6_isUnder q_1124 rfl ⟨Nat.le_of_ble_eq_true rfl, Nat.le_of_ble_eq_true rfl⟩ rfl rfl (Nat.le_of_ble_eq_true rfl) dX6_says_55 rfl (fun hp_55 => ?_)
          refine r_if_ne C (tgt := 68) (q := 61) dX6_says_58 (by decide) rfl (fun c_58 => ?_) (fun c_58 => ?_)
          · replace h := (if_neg c_58).symm.trans h
            refine r_sub (lv' := [(0, .ref ((xG X).1 x0)), (2, .int x2), (3, .int y_35)]) [1, 3, 0] rfl ?_
            exact w_X6_says_b68 C hr  _ _ _ _ hx0 h
          · replace h := (if_pos c_58).symm.trans h
            refine r_sub (lv' := [(0, .ref ((xG X).1 x0))]) [1] rfl ?_
            exact w_X6_says_b61 C hr  _ _ hx0 h
    · replace h := (if_pos c_16).symm.trans h
      refine r_sub (lv' := [(0, .ref ((xG X).1 x0))]) [0] rfl ?_
      exact w_X6_says_b19 C hr  _ _ hx0 h

theorem m_X6_says (G : Gm) (l : Launch) {σ σ' : St} {x0 : Nat} {x1 : Int32} {x2 : Int32} (hx0 : kd x0 = 7) {r : Int32} (h : f_X6_says σ x0 x1 x2 = some (r, σ')) : Ctr G l yX6_says cX6_says 7 (some .int) 6 135 [.ref (G.1 x0), .int x1, .int x2] σ (some (.int r)) True σ' := by
  refine Ctr.i (by decide) (Nat.le_of_ble_eq_true rfl) ?_
  intro X hG C hr
  subst hG
  exact w_X6_says_b0 C hr _ _ _ _ hx0 h
