theorem q_231 : Cond.methodLink RL 13 yX5_row ∈ TB := tb_t 231 (by decide +kernel) rfl
theorem q_263 : Cond.methodLink RL 20 yX5_set ∈ TB := tb_t 263 (by decide +kernel) rfl
theorem q_293 : Cond.methodLink RL 25 yX5_copy ∈ TB := tb_t 293 (by decide +kernel) rfl
theorem q_305 : Cond.methodLink RL 30 yX5_element ∈ TB := tb_t 305 (by decide +kernel) rfl
theorem q_313 : Cond.methodLink RL 35 yX5_holds ∈ TB := tb_t 313 (by decide +kernel) rfl
theorem q_317 : Cond.methodLink RL 40 yX5_show ∈ TB := tb_t 317 (by decide +kernel) rfl
theorem q_325 : Cond.methodLink RL 45 yX5_says ∈ TB := tb_t 325 (by decide +kernel) rfl
theorem q_397 : Cond.methodLink RL 49 yX5_ask ∈ TB := tb_t 397 (by decide +kernel) rfl
theorem q_417 : Cond.methodLink RL 53 yX5_key ∈ TB := tb_t 417 (by decide +kernel) rfl
theorem q_432 : Cond.methodLink RL 57 yX5_lock ∈ TB := tb_t 432 (by decide +kernel) rfl
theorem q_449 : Cond.methodLink RL 62 yX5_asks ∈ TB := tb_t 449 (by decide +kernel) rfl
theorem q_466 : Cond.methodLink RL 66 yX5_may ∈ TB := tb_t 466 (by decide +kernel) rfl
theorem q_474 : Cond.methodLink RL 71 yX5_file ∈ TB := tb_t 474 (by decide +kernel) rfl
theorem q_482 : Cond.methodLink RL 75 yX5_feed ∈ TB := tb_t 482 (by decide +kernel) rfl
theorem q_491 : Cond.methodLink RL 79 yX5_wipe ∈ TB := tb_t 491 (by decide +kernel) rfl
theorem q_495 : Cond.methodLink RL 84 yX5_house ∈ TB := tb_t 495 (by decide +kernel) rfl
theorem q_635 : Cond.methodLink RL 88 yX5_keyOf ∈ TB := tb_t 635 (by decide +kernel) rfl
theorem q_644 : Cond.methodLink RL 92 yX5_lockOf ∈ TB := tb_t 644 (by decide +kernel) rfl
theorem q_660 : Cond.methodLink RL 96 yX5_opens ∈ TB := tb_t 660 (by decide +kernel) rfl
theorem q_666 : Cond.methodLink RL 100 yX5_opened ∈ TB := tb_t 666 (by decide +kernel) rfl
theorem q_670 : Cond.methodLink RL 104 yX5_who ∈ TB := tb_t 670 (by decide +kernel) rfl
theorem q_679 : Cond.methodLink RL 108 yX5_wrong ∈ TB := tb_t 679 (by decide +kernel) rfl
theorem q_683 : Cond.methodLink RL 112 yX5_wrongs ∈ TB := tb_t 683 (by decide +kernel) rfl
theorem q_687 : Cond.methodLink RL 116 yX5_judge ∈ TB := tb_t 687 (by decide +kernel) rfl
theorem q_700 : Cond.methodLink RL 120 yX5_list ∈ TB := tb_t 700 (by decide +kernel) rfl
theorem q_704 : Cond.methodLink RL 124 yX5_cuts ∈ TB := tb_t 704 (by decide +kernel) rfl
theorem q_737 : Cond.methodLink RL 128 yX5_asked ∈ TB := tb_t 737 (by decide +kernel) rfl
theorem q_756 : Cond.methodLink RL 132 yX5_toOpen ∈ TB := tb_t 756 (by decide +kernel) rfl
theorem q_775 : Cond.methodLink RL 136 yX5_safe ∈ TB := tb_t 775 (by decide +kernel) rfl
theorem q_784 : Cond.methodLink RL 140 yX5_safest ∈ TB := tb_t 784 (by decide +kernel) rfl
theorem q_788 : Cond.methodLink RL 144 yX5_mended ∈ TB := tb_t 788 (by decide +kernel) rfl
theorem q_814 : Cond.methodLink RL 148 yX5_left ∈ TB := tb_t 814 (by decide +kernel) rfl
theorem q_819 : Cond.methodLink RL 152 yX5_idle ∈ TB := tb_t 819 (by decide +kernel) rfl
theorem q_824 : Cond.methodLink RL 156 yX5_together ∈ TB := tb_t 824 (by decide +kernel) rfl
theorem q_832 : Cond.methodLink RL 160 yX5_pair ∈ TB := tb_t 832 (by decide +kernel) rfl
theorem q_842 : Cond.methodLink RL 164 yX5_unlike ∈ TB := tb_t 842 (by decide +kernel) rfl
theorem q_854 : Cond.methodLink RL 168 yX5_alike ∈ TB := tb_t 854 (by decide +kernel) rfl
theorem q_862 : Cond.methodLink RL 172 yX5_over ∈ TB := tb_t 862 (by decide +kernel) rfl
theorem q_870 : Cond.methodLink RL 176 yX5_chain ∈ TB := tb_t 870 (by decide +kernel) rfl
theorem q_882 : Cond.methodLink RL 180 yX5_ward ∈ TB := tb_t 882 (by decide +kernel) rfl
theorem q_891 : Cond.methodLink RL 184 yX5_found ∈ TB := tb_t 891 (by decide +kernel) rfl
theorem q_911 : Cond.methodLink RL 188 yX5_many ∈ TB := tb_t 911 (by decide +kernel) rfl
theorem q_919 : Cond.methodLink RL 192 yX5_use ∈ TB := tb_t 919 (by decide +kernel) rfl
theorem q_933 : Cond.methodLink RL 196 yX5_days ∈ TB := tb_t 933 (by decide +kernel) rfl
theorem q_942 : Cond.methodLink RL 200 yX5_renew ∈ TB := tb_t 942 (by decide +kernel) rfl
theorem q_947 : Cond.methodLink RL 204 yX5_mend ∈ TB := tb_t 947 (by decide +kernel) rfl
theorem q_955 : Cond.methodLink RL 208 yX5_seed ∈ TB := tb_t 955 (by decide +kernel) rfl
theorem q_959 : Cond.methodLink RL 212 yX5_image ∈ TB := tb_t 959 (by decide +kernel) rfl
theorem q_963 : Cond.methodLink RL 216 yX5_back ∈ TB := tb_t 963 (by decide +kernel) rfl
theorem q_971 : Cond.methodLink RL 220 yX5_status ∈ TB := tb_t 971 (by decide +kernel) rfl
theorem q_1077 : Cond.methodLink RL 17 yX6_row ∈ TB := tb_t 1077 (by decide +kernel) rfl
theorem q_1088 : Cond.methodLink RL 24 yX6_set ∈ TB := tb_t 1088 (by decide +kernel) rfl
theorem q_1096 : Cond.methodLink RL 29 yX6_copy ∈ TB := tb_t 1096 (by decide +kernel) rfl
theorem q_1104 : Cond.methodLink RL 34 yX6_element ∈ TB := tb_t 1104 (by decide +kernel) rfl
theorem q_1108 : Cond.methodLink RL 39 yX6_holds ∈ TB := tb_t 1108 (by decide +kernel) rfl
theorem q_1112 : Cond.methodLink RL 44 yX6_show ∈ TB := tb_t 1112 (by decide +kernel) rfl
theorem q_1120 : Cond.methodLink RL 48 yX6_says ∈ TB := tb_t 1120 (by decide +kernel) rfl
theorem q_1163 : Cond.methodLink RL 52 yX6_ask ∈ TB := tb_t 1163 (by decide +kernel) rfl
theorem q_1167 : Cond.methodLink RL 56 yX6_key ∈ TB := tb_t 1167 (by decide +kernel) rfl
theorem q_1175 : Cond.methodLink RL 61 yX6_lock ∈ TB := tb_t 1175 (by decide +kernel) rfl
theorem q_1183 : Cond.methodLink RL 65 yX6_asks ∈ TB := tb_t 1183 (by decide +kernel) rfl
theorem q_1195 : Cond.methodLink RL 70 yX6_may ∈ TB := tb_t 1195 (by decide +kernel) rfl
theorem q_1202 : Cond.methodLink RL 74 yX6_file ∈ TB := tb_t 1202 (by decide +kernel) rfl
theorem q_1206 : Cond.methodLink RL 78 yX6_feed ∈ TB := tb_t 1206 (by decide +kernel) rfl
theorem q_1210 : Cond.methodLink RL 83 yX6_wipe ∈ TB := tb_t 1210 (by decide +kernel) rfl
theorem q_1214 : Cond.methodLink RL 87 yX6_house ∈ TB := tb_t 1214 (by decide +kernel) rfl
theorem q_1259 : Cond.methodLink RL 91 yX6_keyOf ∈ TB := tb_t 1259 (by decide +kernel) rfl
theorem q_1263 : Cond.methodLink RL 95 yX6_lockOf ∈ TB := tb_t 1263 (by decide +kernel) rfl
theorem q_1267 : Cond.methodLink RL 99 yX6_opens ∈ TB := tb_t 1267 (by decide +kernel) rfl
theorem q_1271 : Cond.methodLink RL 103 yX6_opened ∈ TB := tb_t 1271 (by decide +kernel) rfl
theorem q_1275 : Cond.methodLink RL 107 yX6_who ∈ TB := tb_t 1275 (by decide +kernel) rfl
theorem q_1283 : Cond.methodLink RL 111 yX6_wrong ∈ TB := tb_t 1283 (by decide +kernel) rfl
theorem q_1287 : Cond.methodLink RL 115 yX6_wrongs ∈ TB := tb_t 1287 (by decide +kernel) rfl
theorem q_1292 : Cond.methodLink RL 119 yX6_judge ∈ TB := tb_t 1292 (by decide +kernel) rfl
theorem q_1304 : Cond.methodLink RL 123 yX6_list ∈ TB := tb_t 1304 (by decide +kernel) rfl
theorem q_1308 : Cond.methodLink RL 127 yX6_cuts ∈ TB := tb_t 1308 (by decide +kernel) rfl
theorem q_1332 : Cond.methodLink RL 191 yX6_many ∈ TB := tb_t 1332 (by decide +kernel) rfl
theorem q_1336 : Cond.methodLink RL 131 yX6_asked ∈ TB := tb_t 1336 (by decide +kernel) rfl
theorem q_1340 : Cond.methodLink RL 135 yX6_toOpen ∈ TB := tb_t 1340 (by decide +kernel) rfl
theorem q_1352 : Cond.methodLink RL 139 yX6_safe ∈ TB := tb_t 1352 (by decide +kernel) rfl
theorem q_1360 : Cond.methodLink RL 143 yX6_safest ∈ TB := tb_t 1360 (by decide +kernel) rfl
theorem q_1364 : Cond.methodLink RL 147 yX6_mended ∈ TB := tb_t 1364 (by decide +kernel) rfl
theorem q_1368 : Cond.methodLink RL 207 yX6_mend ∈ TB := tb_t 1368 (by decide +kernel) rfl
theorem q_1372 : Cond.methodLink RL 151 yX6_left ∈ TB := tb_t 1372 (by decide +kernel) rfl
theorem q_1376 : Cond.methodLink RL 155 yX6_idle ∈ TB := tb_t 1376 (by decide +kernel) rfl
theorem q_1380 : Cond.methodLink RL 159 yX6_together ∈ TB := tb_t 1380 (by decide +kernel) rfl
theorem q_1388 : Cond.methodLink RL 163 yX6_pair ∈ TB := tb_t 1388 (by decide +kernel) rfl
theorem q_1392 : Cond.methodLink RL 167 yX6_unlike ∈ TB := tb_t 1392 (by decide +kernel) rfl
theorem q_1396 : Cond.methodLink RL 171 yX6_alike ∈ TB := tb_t 1396 (by decide +kernel) rfl
theorem q_1400 : Cond.methodLink RL 175 yX6_over ∈ TB := tb_t 1400 (by decide +kernel) rfl
theorem q_1404 : Cond.methodLink RL 179 yX6_chain ∈ TB := tb_t 1404 (by decide +kernel) rfl
theorem q_1408 : Cond.methodLink RL 183 yX6_ward ∈ TB := tb_t 1408 (by decide +kernel) rfl
theorem q_1416 : Cond.methodLink RL 187 yX6_found ∈ TB := tb_t 1416 (by decide +kernel) rfl
theorem q_1420 : Cond.methodLink RL 195 yX6_use ∈ TB := tb_t 1420 (by decide +kernel) rfl
theorem q_1433 : Cond.methodLink RL 199 yX6_days ∈ TB := tb_t 1433 (by decide +kernel) rfl
theorem q_1437 : Cond.methodLink RL 203 yX6_renew ∈ TB := tb_t 1437 (by decide +kernel) rfl
theorem q_1441 : Cond.methodLink RL 211 yX6_seed ∈ TB := tb_t 1441 (by decide +kernel) rfl
theorem q_1445 : Cond.methodLink RL 215 yX6_image ∈ TB := tb_t 1445 (by decide +kernel) rfl
theorem q_1449 : Cond.methodLink RL 219 yX6_back ∈ TB := tb_t 1449 (by decide +kernel) rfl
theorem q_1453 : Cond.methodLink RL 223 yX6_status ∈ TB := tb_t 1453 (by decide +kernel) rfl
theorem q_1457 : Cond.constantLong RL 18 4294967295 ∈ TB := tb_t 1457 (by decide +kernel) rfl
abbrev xs_ (X : CX) : State := xs X
section HX
variable {X : CX} {own : String} {cc : ByteArray} {nL fr lo : Nat} {σ : St} {pc q : Nat} {lv : List (Nat × Value)} {st : List Value}
theorem r_sld (C : Cok X own cc nL fr lo) {b L : Nat} {f : Nat → Int32} (hX : va_X b L f (xs X) (xs X).heap) (hbl : b < (xs X).heap.size) (hbA : ¬ dom (xG X) b) {i v : Int32} (d : decode cc pc = .ok (.iaload, 1)) (hv : ldX L f i = some v) (hq : pc + 1 = q) (k : V X σ q lv (.int v :: st)) : V X σ pc lv (.int i :: .ref b :: st) := by
  subst hq
  obtain ⟨h, rfl⟩ := grd hv
  exact fun H locs ls hP hS hl => va_sld C.1 C.2.1 hX hbl hbA hS h d (k H locs ls hP hS hl)
theorem r_xlen (C : Cok X own cc nL fr lo) {b L : Nat} {f : Nat → Int32} (hX : va_X b L f (xs X) (xs X).heap) (hbl : b < (xs X).heap.size) (hbA : ¬ dom (xG X) b) (d : decode cc pc = .ok (.arraylength, 1)) (hq : pc + 1 = q) (k : V X σ q lv (.int (nI L) :: st)) : V X σ pc lv (.ref b :: st) := by
  subst hq
  exact fun H locs ls hP hS hl => va_slen C.1 C.2.1 hX hbl hbA hS d (k H locs ls hP hS hl)
end HX
set_option maxHeartbeats 4000000 in
set_option maxRecDepth 100000 in
theorem w_L_law_b1621 {X : CX} (C : Cok X RL cL_law 4 13 478) {σ' : St} {r : Int32} (hr : RtZ X cL_law r σ') {b L : Nat} {xs : Nat → Int32} (hX : va_X b L xs (xs_ X) (xs_ X).heap) (hbl : b < (xs_ X).heap.size) (hbA : ¬ dom (xG X) b) (k_18 : St → Nat → Nat → Int32 → Option (Int32 × St)) (hk_18 : ∀ (σ : St) (x1 : Nat) (x2 : Nat) (x3 : Int32), kd x1 = 6 → kd x2 = 7 → k_18 σ x1 x2 x3 = some (r, σ') → V X σ 18 [(0, .ref b), (1, .ref ((xG X).1 x1)), (2, .ref ((xG X).1 x2)), (3, .int x3)] []) (σ : St) (x1 : Nat) (x2 : Nat) (x3 : Int32) (hx1 : kd x1 = 6) (hx2 : kd x2 = 7) (h : f_L_law_b1621 L xs k_18 σ x1 x2 x3 = some (r, σ')) : V X σ 1621 [(0, .ref b), (1, .ref ((xG X).1 x1)), (2, .ref ((xG X).1 x2)), (3, .int x3)] [] := by
  unfold f_L_law_b1621 at h
  obtain ⟨y_1621, e_1621, h⟩ := bs h
  refine r_iinc C (v := y_1621) (lv' := [(3, .int y_1621), (0, .ref b), (1, .ref ((xG X).1 x1)), (2, .ref ((xG X).1 x2))]) (q := 1624) 3 dL_law_1621 rfl (Option.some.inj e_1621) (by decide) rfl rfl ?_
  refine r_goto C (tgt := 18) dL_law_1624 (by decide) ?_
  refine r_sub (lv' := [(0, .ref b), (1, .ref ((xG X).1 x1)), (2, .ref ((xG X).1 x2)), (3, .int y_1621)]) [1, 2, 3, 0] rfl ?_
  exact hk_18 _ _ _ _ hx1 hx2 h

set_option maxHeartbeats 4000000 in
set_option maxRecDepth 100000 in
theorem w_L_law_b1598 {X : CX} (C : Cok X RL cL_law 4 13 478) {σ' : St} {r : Int32} (hr : RtZ X cL_law r σ') {b L : Nat} {xs : Nat → Int32} (hX : va_X b L xs (xs_ X) (xs_ X).heap) (hbl : b < (xs_ X).heap.size) (hbA : ¬ dom (xG X) b) (k_18 : St → Nat → Nat → Int32 → Option (Int32 × St)) (hk_18 : ∀ (σ : St) (x1 : Nat) (x2 : Nat) (x3 : Int32), kd x1 = 6 → kd x2 = 7 → k_18 σ x1 x2 x3 = some (r, σ') → V X σ 18 [(0, .ref b), (1, .ref ((xG X).1 x1)), (2, .ref ((xG X).1 x2)), (3, .int x3)] []) (σ : St) (x1 : Nat) (x2 : Nat) (x3 : Int32) (hx1 : kd x1 = 6) (hx2 : kd x2 = 7) (h : f_L_law_b1598 L xs k_18 σ x1 x2 x3 = some (r, σ')) : V X σ 1598 [(0, .ref b), (1, .ref ((xG X).1 x1)), (2, .ref ((xG X).1 x2)), (3, .int x3)] [] := by
  unfold f_L_law_b1598 at h
  refine r_aload_n C 1 (q := 1599) dL_law_1598 rfl rfl ?_
  refine r_aload_n C 0 (q := 1600) dL_law_1599 rfl rfl ?_
  refine r_iload_n C 3 (q := 1601) dL_law_1600 rfl rfl ?_
  refine r_iconst C (v := 1) (q := 1602) dL_law_1601 (by decide) rfl ?_
  refine r_iadd C (q := 1603) dL_law_1602 rfl ?_
  obtain ⟨v_1603, e_1603, h⟩ := bs h
  refine r_sld C hX hbl hbA (q := 1604) dL_law_1603 e_1603 rfl ?_
  obtain ⟨v_1604, e_1604, h⟩ := bs h
  refine r_callV C (ci := 5) (st := []) (st2 := [.int v_1604]) (q := 1607) (m_X5_status (xG X) (xl X) hx1 e_1604) ok_X5_status hx1 rfl ⟨_, rfl⟩ q_971 rfl ⟨Nat.le_of_ble_eq_true rfl, Nat.le_of_ble_eq_true rfl⟩ rfl rfl (Nat.le_of_ble_eq_true rfl) dL_law_1604 rfl (fun hp_1604 => ?_)
  refine r_aload_n C 2 (q := 1608) dL_law_1607 rfl rfl ?_
  refine r_aload_n C 0 (q := 1609) dL_law_1608 rfl rfl ?_
  refine r_iload_n C 3 (q := 1610) dL_law_1609 rfl rfl ?_
  refine r_iconst C (v := 1) (q := 1611) dL_law_1610 (by decide) rfl ?_
  refine r_iadd C (q := 1612) dL_law_1611 rfl ?_
  obtain ⟨v_1612, e_1612, h⟩ := bs h
  refine r_sld C hX hbl hbA (q := 1613) dL_law_1612 e_1612 rfl ?_
  obtain ⟨v_1613, e_1613, h⟩ := bs h
  refine r_callV C (ci := 6) (st := [.int v_1604]) (st2 := [.int v_1613, .int v_1604]) (q := 1616) (m_X6_status (xG X) (xl X) hx2 e_1613) ok_X6_status hx2 rfl ⟨_, rfl⟩ q_1453 rfl ⟨Nat.le_of_ble_eq_true rfl, Nat.le_of_ble_eq_true rfl⟩ rfl rfl (Nat.le_of_ble_eq_true rfl) dL_law_1613 rfl (fun hp_1613 => ?_)
  refine r_icmp_eq C (tgt := 1621) (q := 1619) dL_law_1616 (by decide) rfl (fun c_1616 => ?_) (fun c_1616 => ?_)
  · replace h := (if_pos c_1616).symm.trans h
    exact w_L_law_b1621 C hr hX hbl hbA _ hk_18 _ _ _ _ hx1 hx2 h
  · replace h := (if_neg c_1616).symm.trans h
    refine r_iconst C (v := 0) (q := 1620) dL_law_1619 (by decide) rfl ?_
    obtain ⟨rfl, rfl⟩ := Prod.mk.inj (Option.some.inj h)
    exact hr _ _ dL_law_1620 (Or.inl rfl)

set_option maxHeartbeats 4000000 in
set_option maxRecDepth 100000 in
theorem w_L_law_b1585 {X : CX} (C : Cok X RL cL_law 4 13 478) {σ' : St} {r : Int32} (hr : RtZ X cL_law r σ') {b L : Nat} {xs : Nat → Int32} (hX : va_X b L xs (xs_ X) (xs_ X).heap) (hbl : b < (xs_ X).heap.size) (hbA : ¬ dom (xG X) b) (k_18 : St → Nat → Nat → Int32 → Option (Int32 × St)) (hk_18 : ∀ (σ : St) (x1 : Nat) (x2 : Nat) (x3 : Int32), kd x1 = 6 → kd x2 = 7 → k_18 σ x1 x2 x3 = some (r, σ') → V X σ 18 [(0, .ref b), (1, .ref ((xG X).1 x1)), (2, .ref ((xG X).1 x2)), (3, .int x3)] []) (σ : St) (x1 : Nat) (x2 : Nat) (x3 : Int32) (hx1 : kd x1 = 6) (hx2 : kd x2 = 7) (h : f_L_law_b1585 L xs k_18 σ x1 x2 x3 = some (r, σ')) : V X σ 1585 [(0, .ref b), (1, .ref ((xG X).1 x1)), (2, .ref ((xG X).1 x2)), (3, .int x3)] [] := by
  unfold f_L_law_b1585 at h
  refine r_aload_n C 1 (q := 1586) dL_law_1585 rfl rfl ?_
  obtain ⟨v_1586, s_1586, e_1586, h⟩ := bs2 h
  refine r_callV C (ci := 5) (st := []) (st2 := [.int v_1586]) (q := 1589) (m_X5_back (xG X) (xl X) hx1 e_1586) ok_X5_back hx1 rfl ⟨_, rfl⟩ q_963 rfl ⟨Nat.le_of_ble_eq_true rfl, Nat.le_of_ble_eq_true rfl⟩ rfl rfl (Nat.le_of_ble_eq_true rfl) dL_law_1586 rfl (fun hp_1586 => ?_)
  refine r_aload_n C 2 (q := 1590) dL_law_1589 rfl rfl ?_
  obtain ⟨v_1590, s_1590, e_1590, h⟩ := bs2 h
  refine r_callV C (ci := 6) (st := [.int v_1586]) (st2 := [.int v_1590, .int v_1586]) (q := 1593) (m_X6_back (xG X) (xl X) hx2 e_1590) ok_X6_back hx2 rfl ⟨_, rfl⟩ q_1449 rfl ⟨Nat.le_of_ble_eq_true rfl, Nat.le_of_ble_eq_true rfl⟩ rfl rfl (Nat.le_of_ble_eq_true rfl) dL_law_1590 rfl (fun hp_1590 => ?_)
  refine r_icmp_eq C (tgt := 1621) (q := 1596) dL_law_1593 (by decide) rfl (fun c_1593 => ?_) (fun c_1593 => ?_)
  · replace h := (if_pos c_1593).symm.trans h
    exact w_L_law_b1621 C hr hX hbl hbA _ hk_18 _ _ _ _ hx1 hx2 h
  · replace h := (if_neg c_1593).symm.trans h
    refine r_iconst C (v := 0) (q := 1597) dL_law_1596 (by decide) rfl ?_
    obtain ⟨rfl, rfl⟩ := Prod.mk.inj (Option.some.inj h)
    exact hr _ _ dL_law_1597 (Or.inl rfl)

set_option maxHeartbeats 4000000 in
set_option maxRecDepth 100000 in
theorem w_L_law_b1572 {X : CX} (C : Cok X RL cL_law 4 13 478) {σ' : St} {r : Int32} (hr : RtZ X cL_law r σ') {b L : Nat} {xs : Nat → Int32} (hX : va_X b L xs (xs_ X) (xs_ X).heap) (hbl : b < (xs_ X).heap.size) (hbA : ¬ dom (xG X) b) (k_18 : St → Nat → Nat → Int32 → Option (Int32 × St)) (hk_18 : ∀ (σ : St) (x1 : Nat) (x2 : Nat) (x3 : Int32), kd x1 = 6 → kd x2 = 7 → k_18 σ x1 x2 x3 = some (r, σ') → V X σ 18 [(0, .ref b), (1, .ref ((xG X).1 x1)), (2, .ref ((xG X).1 x2)), (3, .int x3)] []) (σ : St) (x1 : Nat) (x2 : Nat) (x3 : Int32) (hx1 : kd x1 = 6) (hx2 : kd x2 = 7) (h : f_L_law_b1572 L xs k_18 σ x1 x2 x3 = some (r, σ')) : V X σ 1572 [(0, .ref b), (1, .ref ((xG X).1 x1)), (2, .ref ((xG X).1 x2)), (3, .int x3)] [] := by
  unfold f_L_law_b1572 at h
  refine r_aload_n C 1 (q := 1573) dL_law_1572 rfl rfl ?_
  obtain ⟨v_1573, s_1573, e_1573, h⟩ := bs2 h
  refine r_callV C (ci := 5) (st := []) (st2 := [.int v_1573]) (q := 1576) (m_X5_image (xG X) (xl X) hx1 e_1573) ok_X5_image hx1 rfl ⟨_, rfl⟩ q_959 rfl ⟨Nat.le_of_ble_eq_true rfl, Nat.le_of_ble_eq_true rfl⟩ rfl rfl (Nat.le_of_ble_eq_true rfl) dL_law_1573 rfl (fun hp_1573 => ?_)
  refine r_aload_n C 2 (q := 1577) dL_law_1576 rfl rfl ?_
  obtain ⟨v_1577, s_1577, e_1577, h⟩ := bs2 h
  refine r_callV C (ci := 6) (st := [.int v_1573]) (st2 := [.int v_1577, .int v_1573]) (q := 1580) (m_X6_image (xG X) (xl X) hx2 e_1577) ok_X6_image hx2 rfl ⟨_, rfl⟩ q_1445 rfl ⟨Nat.le_of_ble_eq_true rfl, Nat.le_of_ble_eq_true rfl⟩ rfl rfl (Nat.le_of_ble_eq_true rfl) dL_law_1577 rfl (fun hp_1577 => ?_)
  refine r_icmp_eq C (tgt := 1621) (q := 1583) dL_law_1580 (by decide) rfl (fun c_1580 => ?_) (fun c_1580 => ?_)
  · replace h := (if_pos c_1580).symm.trans h
    exact w_L_law_b1621 C hr hX hbl hbA _ hk_18 _ _ _ _ hx1 hx2 h
  · replace h := (if_neg c_1580).symm.trans h
    refine r_iconst C (v := 0) (q := 1584) dL_law_1583 (by decide) rfl ?_
    obtain ⟨rfl, rfl⟩ := Prod.mk.inj (Option.some.inj h)
    exact hr _ _ dL_law_1584 (Or.inl rfl)

set_option maxHeartbeats 4000000 in
set_option maxRecDepth 100000 in
theorem w_L_law_b1549 {X : CX} (C : Cok X RL cL_law 4 13 478) {σ' : St} {r : Int32} (hr : RtZ X cL_law r σ') {b L : Nat} {xs : Nat → Int32} (hX : va_X b L xs (xs_ X) (xs_ X).heap) (hbl : b < (xs_ X).heap.size) (hbA : ¬ dom (xG X) b) (k_18 : St → Nat → Nat → Int32 → Option (Int32 × St)) (hk_18 : ∀ (σ : St) (x1 : Nat) (x2 : Nat) (x3 : Int32), kd x1 = 6 → kd x2 = 7 → k_18 σ x1 x2 x3 = some (r, σ') → V X σ 18 [(0, .ref b), (1, .ref ((xG X).1 x1)), (2, .ref ((xG X).1 x2)), (3, .int x3)] []) (σ : St) (x1 : Nat) (x2 : Nat) (x3 : Int32) (hx1 : kd x1 = 6) (hx2 : kd x2 = 7) (h : f_L_law_b1549 L xs k_18 σ x1 x2 x3 = some (r, σ')) : V X σ 1549 [(0, .ref b), (1, .ref ((xG X).1 x1)), (2, .ref ((xG X).1 x2)), (3, .int x3)] [] := by
  unfold f_L_law_b1549 at h
  refine r_aload_n C 1 (q := 1550) dL_law_1549 rfl rfl ?_
  refine r_aload_n C 0 (q := 1551) dL_law_1550 rfl rfl ?_
  refine r_iload_n C 3 (q := 1552) dL_law_1551 rfl rfl ?_
  refine r_iconst C (v := 1) (q := 1553) dL_law_1552 (by decide) rfl ?_
  refine r_iadd C (q := 1554) dL_law_1553 rfl ?_
  obtain ⟨v_1554, e_1554, h⟩ := bs h
  refine r_sld C hX hbl hbA (q := 1555) dL_law_1554 e_1554 rfl ?_
  obtain ⟨v_1555, s_1555, e_1555, h⟩ := bs2 h
  refine r_callV C (ci := 5) (st := []) (st2 := [.int v_1555]) (q := 1558) (m_X5_seed (xG X) (xl X) hx1 e_1555) ok_X5_seed hx1 rfl ⟨_, rfl⟩ q_955 rfl ⟨Nat.le_of_ble_eq_true rfl, Nat.le_of_ble_eq_true rfl⟩ rfl rfl (Nat.le_of_ble_eq_true rfl) dL_law_1555 rfl (fun hp_1555 => ?_)
  refine r_aload_n C 2 (q := 1559) dL_law_1558 rfl rfl ?_
  refine r_aload_n C 0 (q := 1560) dL_law_1559 rfl rfl ?_
  refine r_iload_n C 3 (q := 1561) dL_law_1560 rfl rfl ?_
  refine r_iconst C (v := 1) (q := 1562) dL_law_1561 (by decide) rfl ?_
  refine r_iadd C (q := 1563) dL_law_1562 rfl ?_
  obtain ⟨v_1563, e_1563, h⟩ := bs h
  refine r_sld C hX hbl hbA (q := 1564) dL_law_1563 e_1563 rfl ?_
  obtain ⟨v_1564, s_1564, e_1564, h⟩ := bs2 h
  refine r_callV C (ci := 6) (st := [.int v_1555]) (st2 := [.int v_1564, .int v_1555]) (q := 1567) (m_X6_seed (xG X) (xl X) hx2 e_1564) ok_X6_seed hx2 rfl ⟨_, rfl⟩ q_1441 rfl ⟨Nat.le_of_ble_eq_true rfl, Nat.le_of_ble_eq_true rfl⟩ rfl rfl (Nat.le_of_ble_eq_true rfl) dL_law_1564 rfl (fun hp_1564 => ?_)
  refine r_icmp_eq C (tgt := 1621) (q := 1570) dL_law_1567 (by decide) rfl (fun c_1567 => ?_) (fun c_1567 => ?_)
  · replace h := (if_pos c_1567).symm.trans h
    exact w_L_law_b1621 C hr hX hbl hbA _ hk_18 _ _ _ _ hx1 hx2 h
  · replace h := (if_neg c_1567).symm.trans h
    refine r_iconst C (v := 0) (q := 1571) dL_law_1570 (by decide) rfl ?_
    obtain ⟨rfl, rfl⟩ := Prod.mk.inj (Option.some.inj h)
    exact hr _ _ dL_law_1571 (Or.inl rfl)

set_option maxHeartbeats 4000000 in
set_option maxRecDepth 100000 in
theorem w_L_law_b1536 {X : CX} (C : Cok X RL cL_law 4 13 478) {σ' : St} {r : Int32} (hr : RtZ X cL_law r σ') {b L : Nat} {xs : Nat → Int32} (hX : va_X b L xs (xs_ X) (xs_ X).heap) (hbl : b < (xs_ X).heap.size) (hbA : ¬ dom (xG X) b) (k_18 : St → Nat → Nat → Int32 → Option (Int32 × St)) (hk_18 : ∀ (σ : St) (x1 : Nat) (x2 : Nat) (x3 : Int32), kd x1 = 6 → kd x2 = 7 → k_18 σ x1 x2 x3 = some (r, σ') → V X σ 18 [(0, .ref b), (1, .ref ((xG X).1 x1)), (2, .ref ((xG X).1 x2)), (3, .int x3)] []) (σ : St) (x1 : Nat) (x2 : Nat) (x3 : Int32) (hx1 : kd x1 = 6) (hx2 : kd x2 = 7) (h : f_L_law_b1536 L xs k_18 σ x1 x2 x3 = some (r, σ')) : V X σ 1536 [(0, .ref b), (1, .ref ((xG X).1 x1)), (2, .ref ((xG X).1 x2)), (3, .int x3)] [] := by
  unfold f_L_law_b1536 at h
  refine r_aload_n C 1 (q := 1537) dL_law_1536 rfl rfl ?_
  obtain ⟨v_1537, s_1537, e_1537, h⟩ := bs2 h
  refine r_callV C (ci := 5) (st := []) (st2 := [.int v_1537]) (q := 1540) (m_X5_mend (xG X) (xl X) hx1 e_1537) ok_X5_mend hx1 rfl ⟨_, rfl⟩ q_947 rfl ⟨Nat.le_of_ble_eq_true rfl, Nat.le_of_ble_eq_true rfl⟩ rfl rfl (Nat.le_of_ble_eq_true rfl) dL_law_1537 rfl (fun hp_1537 => ?_)
  refine r_aload_n C 2 (q := 1541) dL_law_1540 rfl rfl ?_
  obtain ⟨v_1541, s_1541, e_1541, h⟩ := bs2 h
  refine r_callV C (ci := 6) (st := [.int v_1537]) (st2 := [.int v_1541, .int v_1537]) (q := 1544) (m_X6_mend (xG X) (xl X) hx2 e_1541) ok_X6_mend hx2 rfl ⟨_, rfl⟩ q_1368 rfl ⟨Nat.le_of_ble_eq_true rfl, Nat.le_of_ble_eq_true rfl⟩ rfl rfl (Nat.le_of_ble_eq_true rfl) dL_law_1541 rfl (fun hp_1541 => ?_)
  refine r_icmp_eq C (tgt := 1621) (q := 1547) dL_law_1544 (by decide) rfl (fun c_1544 => ?_) (fun c_1544 => ?_)
  · replace h := (if_pos c_1544).symm.trans h
    exact w_L_law_b1621 C hr hX hbl hbA _ hk_18 _ _ _ _ hx1 hx2 h
  · replace h := (if_neg c_1544).symm.trans h
    refine r_iconst C (v := 0) (q := 1548) dL_law_1547 (by decide) rfl ?_
    obtain ⟨rfl, rfl⟩ := Prod.mk.inj (Option.some.inj h)
    exact hr _ _ dL_law_1548 (Or.inl rfl)

set_option maxHeartbeats 4000000 in
set_option maxRecDepth 100000 in
theorem w_L_law_b1513 {X : CX} (C : Cok X RL cL_law 4 13 478) {σ' : St} {r : Int32} (hr : RtZ X cL_law r σ') {b L : Nat} {xs : Nat → Int32} (hX : va_X b L xs (xs_ X) (xs_ X).heap) (hbl : b < (xs_ X).heap.size) (hbA : ¬ dom (xG X) b) (k_18 : St → Nat → Nat → Int32 → Option (Int32 × St)) (hk_18 : ∀ (σ : St) (x1 : Nat) (x2 : Nat) (x3 : Int32), kd x1 = 6 → kd x2 = 7 → k_18 σ x1 x2 x3 = some (r, σ') → V X σ 18 [(0, .ref b), (1, .ref ((xG X).1 x1)), (2, .ref ((xG X).1 x2)), (3, .int x3)] []) (σ : St) (x1 : Nat) (x2 : Nat) (x3 : Int32) (hx1 : kd x1 = 6) (hx2 : kd x2 = 7) (h : f_L_law_b1513 L xs k_18 σ x1 x2 x3 = some (r, σ')) : V X σ 1513 [(0, .ref b), (1, .ref ((xG X).1 x1)), (2, .ref ((xG X).1 x2)), (3, .int x3)] [] := by
  unfold f_L_law_b1513 at h
  refine r_aload_n C 1 (q := 1514) dL_law_1513 rfl rfl ?_
  refine r_aload_n C 0 (q := 1515) dL_law_1514 rfl rfl ?_
  refine r_iload_n C 3 (q := 1516) dL_law_1515 rfl rfl ?_
  refine r_iconst C (v := 1) (q := 1517) dL_law_1516 (by decide) rfl ?_
  refine r_iadd C (q := 1518) dL_law_1517 rfl ?_
  obtain ⟨v_1518, e_1518, h⟩ := bs h
  refine r_sld C hX hbl hbA (q := 1519) dL_law_1518 e_1518 rfl ?_
  obtain ⟨v_1519, s_1519, e_1519, h⟩ := bs2 h
  refine r_callV C (ci := 5) (st := []) (st2 := [.int v_1519]) (q := 1522) (m_X5_renew (xG X) (xl X) hx1 e_1519) ok_X5_renew hx1 rfl ⟨_, rfl⟩ q_942 rfl ⟨Nat.le_of_ble_eq_true rfl, Nat.le_of_ble_eq_true rfl⟩ rfl rfl (Nat.le_of_ble_eq_true rfl) dL_law_1519 rfl (fun hp_1519 => ?_)
  refine r_aload_n C 2 (q := 1523) dL_law_1522 rfl rfl ?_
  refine r_aload_n C 0 (q := 1524) dL_law_1523 rfl rfl ?_
  refine r_iload_n C 3 (q := 1525) dL_law_1524 rfl rfl ?_
  refine r_iconst C (v := 1) (q := 1526) dL_law_1525 (by decide) rfl ?_
  refine r_iadd C (q := 1527) dL_law_1526 rfl ?_
  obtain ⟨v_1527, e_1527, h⟩ := bs h
  refine r_sld C hX hbl hbA (q := 1528) dL_law_1527 e_1527 rfl ?_
  obtain ⟨v_1528, s_1528, e_1528, h⟩ := bs2 h
  refine r_callV C (ci := 6) (st := [.int v_1519]) (st2 := [.int v_1528, .int v_1519]) (q := 1531) (m_X6_renew (xG X) (xl X) hx2 e_1528) ok_X6_renew hx2 rfl ⟨_, rfl⟩ q_1437 rfl ⟨Nat.le_of_ble_eq_true rfl, Nat.le_of_ble_eq_true rfl⟩ rfl rfl (Nat.le_of_ble_eq_true rfl) dL_law_1528 rfl (fun hp_1528 => ?_)
  refine r_icmp_eq C (tgt := 1621) (q := 1534) dL_law_1531 (by decide) rfl (fun c_1531 => ?_) (fun c_1531 => ?_)
  · replace h := (if_pos c_1531).symm.trans h
    exact w_L_law_b1621 C hr hX hbl hbA _ hk_18 _ _ _ _ hx1 hx2 h
  · replace h := (if_neg c_1531).symm.trans h
    refine r_iconst C (v := 0) (q := 1535) dL_law_1534 (by decide) rfl ?_
    obtain ⟨rfl, rfl⟩ := Prod.mk.inj (Option.some.inj h)
    exact hr _ _ dL_law_1535 (Or.inl rfl)

set_option maxHeartbeats 4000000 in
set_option maxRecDepth 100000 in
theorem w_L_law_b1490 {X : CX} (C : Cok X RL cL_law 4 13 478) {σ' : St} {r : Int32} (hr : RtZ X cL_law r σ') {b L : Nat} {xs : Nat → Int32} (hX : va_X b L xs (xs_ X) (xs_ X).heap) (hbl : b < (xs_ X).heap.size) (hbA : ¬ dom (xG X) b) (k_18 : St → Nat → Nat → Int32 → Option (Int32 × St)) (hk_18 : ∀ (σ : St) (x1 : Nat) (x2 : Nat) (x3 : Int32), kd x1 = 6 → kd x2 = 7 → k_18 σ x1 x2 x3 = some (r, σ') → V X σ 18 [(0, .ref b), (1, .ref ((xG X).1 x1)), (2, .ref ((xG X).1 x2)), (3, .int x3)] []) (σ : St) (x1 : Nat) (x2 : Nat) (x3 : Int32) (hx1 : kd x1 = 6) (hx2 : kd x2 = 7) (h : f_L_law_b1490 L xs k_18 σ x1 x2 x3 = some (r, σ')) : V X σ 1490 [(0, .ref b), (1, .ref ((xG X).1 x1)), (2, .ref ((xG X).1 x2)), (3, .int x3)] [] := by
  unfold f_L_law_b1490 at h
  refine r_aload_n C 1 (q := 1491) dL_law_1490 rfl rfl ?_
  refine r_aload_n C 0 (q := 1492) dL_law_1491 rfl rfl ?_
  refine r_iload_n C 3 (q := 1493) dL_law_1492 rfl rfl ?_
  refine r_iconst C (v := 1) (q := 1494) dL_law_1493 (by decide) rfl ?_
  refine r_iadd C (q := 1495) dL_law_1494 rfl ?_
  obtain ⟨v_1495, e_1495, h⟩ := bs h
  refine r_sld C hX hbl hbA (q := 1496) dL_law_1495 e_1495 rfl ?_
  obtain ⟨v_1496, s_1496, e_1496, h⟩ := bs2 h
  refine r_callV C (ci := 5) (st := []) (st2 := [.int v_1496]) (q := 1499) (m_X5_days (xG X) (xl X) hx1 e_1496) ok_X5_days hx1 rfl ⟨_, rfl⟩ q_933 rfl ⟨Nat.le_of_ble_eq_true rfl, Nat.le_of_ble_eq_true rfl⟩ rfl rfl (Nat.le_of_ble_eq_true rfl) dL_law_1496 rfl (fun hp_1496 => ?_)
  refine r_aload_n C 2 (q := 1500) dL_law_1499 rfl rfl ?_
  refine r_aload_n C 0 (q := 1501) dL_law_1500 rfl rfl ?_
  refine r_iload_n C 3 (q := 1502) dL_law_1501 rfl rfl ?_
  refine r_iconst C (v := 1) (q := 1503) dL_law_1502 (by decide) rfl ?_
  refine r_iadd C (q := 1504) dL_law_1503 rfl ?_
  obtain ⟨v_1504, e_1504, h⟩ := bs h
  refine r_sld C hX hbl hbA (q := 1505) dL_law_1504 e_1504 rfl ?_
  obtain ⟨v_1505, s_1505, e_1505, h⟩ := bs2 h
  refine r_callV C (ci := 6) (st := [.int v_1496]) (st2 := [.int v_1505, .int v_1496]) (q := 1508) (m_X6_days (xG X) (xl X) hx2 e_1505) ok_X6_days hx2 rfl ⟨_, rfl⟩ q_1433 rfl ⟨Nat.le_of_ble_eq_true rfl, Nat.le_of_ble_eq_true rfl⟩ rfl rfl (Nat.le_of_ble_eq_true rfl) dL_law_1505 rfl (fun hp_1505 => ?_)
  refine r_icmp_eq C (tgt := 1621) (q := 1511) dL_law_1508 (by decide) rfl (fun c_1508 => ?_) (fun c_1508 => ?_)
  · replace h := (if_pos c_1508).symm.trans h
    exact w_L_law_b1621 C hr hX hbl hbA _ hk_18 _ _ _ _ hx1 hx2 h
  · replace h := (if_neg c_1508).symm.trans h
    refine r_iconst C (v := 0) (q := 1512) dL_law_1511 (by decide) rfl ?_
    obtain ⟨rfl, rfl⟩ := Prod.mk.inj (Option.some.inj h)
    exact hr _ _ dL_law_1512 (Or.inl rfl)

set_option maxHeartbeats 4000000 in
set_option maxRecDepth 100000 in
theorem w_L_law_b1457 {X : CX} (C : Cok X RL cL_law 4 13 478) {σ' : St} {r : Int32} (hr : RtZ X cL_law r σ') {b L : Nat} {xs : Nat → Int32} (hX : va_X b L xs (xs_ X) (xs_ X).heap) (hbl : b < (xs_ X).heap.size) (hbA : ¬ dom (xG X) b) (k_18 : St → Nat → Nat → Int32 → Option (Int32 × St)) (hk_18 : ∀ (σ : St) (x1 : Nat) (x2 : Nat) (x3 : Int32), kd x1 = 6 → kd x2 = 7 → k_18 σ x1 x2 x3 = some (r, σ') → V X σ 18 [(0, .ref b), (1, .ref ((xG X).1 x1)), (2, .ref ((xG X).1 x2)), (3, .int x3)] []) (σ : St) (x1 : Nat) (x2 : Nat) (x3 : Int32) (hx1 : kd x1 = 6) (hx2 : kd x2 = 7) (h : f_L_law_b1457 L xs k_18 σ x1 x2 x3 = some (r, σ')) : V X σ 1457 [(0, .ref b), (1, .ref ((xG X).1 x1)), (2, .ref ((xG X).1 x2)), (3, .int x3)] [] := by
  unfold f_L_law_b1457 at h
  refine r_aload_n C 1 (q := 1458) dL_law_1457 rfl rfl ?_
  refine r_aload_n C 0 (q := 1459) dL_law_1458 rfl rfl ?_
  refine r_iload_n C 3 (q := 1460) dL_law_1459 rfl rfl ?_
  refine r_iconst C (v := 1) (q := 1461) dL_law_1460 (by decide) rfl ?_
  refine r_iadd C (q := 1462) dL_law_1461 rfl ?_
  obtain ⟨v_1462, e_1462, h⟩ := bs h
  refine r_sld C hX hbl hbA (q := 1463) dL_law_1462 e_1462 rfl ?_
  refine r_aload_n C 0 (q := 1464) dL_law_1463 rfl rfl ?_
  refine r_iload_n C 3 (q := 1465) dL_law_1464 rfl rfl ?_
  refine r_iconst C (v := 2) (q := 1466) dL_law_1465 (by decide) rfl ?_
  refine r_iadd C (q := 1467) dL_law_1466 rfl ?_
  obtain ⟨v_1467, e_1467, h⟩ := bs h
  refine r_sld C hX hbl hbA (q := 1468) dL_law_1467 e_1467 rfl ?_
  obtain ⟨v_1468, s_1468, e_1468, h⟩ := bs2 h
  refine r_callV C (ci := 5) (st := []) (st2 := [.int v_1468]) (q := 1471) (m_X5_use (xG X) (xl X) hx1 e_1468) ok_X5_use hx1 rfl ⟨_, rfl⟩ q_919 rfl ⟨Nat.le_of_ble_eq_true rfl, Nat.le_of_ble_eq_true rfl⟩ rfl rfl (Nat.le_of_ble_eq_true rfl) dL_law_1468 rfl (fun hp_1468 => ?_)
  refine r_aload_n C 2 (q := 1472) dL_law_1471 rfl rfl ?_
  refine r_aload_n C 0 (q := 1473) dL_law_1472 rfl rfl ?_
  refine r_iload_n C 3 (q := 1474) dL_law_1473 rfl rfl ?_
  refine r_iconst C (v := 1) (q := 1475) dL_law_1474 (by decide) rfl ?_
  refine r_iadd C (q := 1476) dL_law_1475 rfl ?_
  obtain ⟨v_1476, e_1476, h⟩ := bs h
  refine r_sld C hX hbl hbA (q := 1477) dL_law_1476 e_1476 rfl ?_
  refine r_aload_n C 0 (q := 1478) dL_law_1477 rfl rfl ?_
  refine r_iload_n C 3 (q := 1479) dL_law_1478 rfl rfl ?_
  refine r_iconst C (v := 2) (q := 1480) dL_law_1479 (by decide) rfl ?_
  refine r_iadd C (q := 1481) dL_law_1480 rfl ?_
  obtain ⟨v_1481, e_1481, h⟩ := bs h
  refine r_sld C hX hbl hbA (q := 1482) dL_law_1481 e_1481 rfl ?_
  obtain ⟨v_1482, s_1482, e_1482, h⟩ := bs2 h
  refine r_callV C (ci := 6) (st := [.int v_1468]) (st2 := [.int v_1482, .int v_1468]) (q := 1485) (m_X6_use (xG X) (xl X) hx2 e_1482) ok_X6_use hx2 rfl ⟨_, rfl⟩ q_1420 rfl ⟨Nat.le_of_ble_eq_true rfl, Nat.le_of_ble_eq_true rfl⟩ rfl rfl (Nat.le_of_ble_eq_true rfl) dL_law_1482 rfl (fun hp_1482 => ?_)
  refine r_icmp_eq C (tgt := 1621) (q := 1488) dL_law_1485 (by decide) rfl (fun c_1485 => ?_) (fun c_1485 => ?_)
  · replace h := (if_pos c_1485).symm.trans h
    exact w_L_law_b1621 C hr hX hbl hbA _ hk_18 _ _ _ _ hx1 hx2 h
  · replace h := (if_neg c_1485).symm.trans h
    refine r_iconst C (v := 0) (q := 1489) dL_law_1488 (by decide) rfl ?_
    obtain ⟨rfl, rfl⟩ := Prod.mk.inj (Option.some.inj h)
    exact hr _ _ dL_law_1489 (Or.inl rfl)

set_option maxHeartbeats 4000000 in
set_option maxRecDepth 100000 in
theorem w_L_law_b1434 {X : CX} (C : Cok X RL cL_law 4 13 478) {σ' : St} {r : Int32} (hr : RtZ X cL_law r σ') {b L : Nat} {xs : Nat → Int32} (hX : va_X b L xs (xs_ X) (xs_ X).heap) (hbl : b < (xs_ X).heap.size) (hbA : ¬ dom (xG X) b) (k_18 : St → Nat → Nat → Int32 → Option (Int32 × St)) (hk_18 : ∀ (σ : St) (x1 : Nat) (x2 : Nat) (x3 : Int32), kd x1 = 6 → kd x2 = 7 → k_18 σ x1 x2 x3 = some (r, σ') → V X σ 18 [(0, .ref b), (1, .ref ((xG X).1 x1)), (2, .ref ((xG X).1 x2)), (3, .int x3)] []) (σ : St) (x1 : Nat) (x2 : Nat) (x3 : Int32) (hx1 : kd x1 = 6) (hx2 : kd x2 = 7) (h : f_L_law_b1434 L xs k_18 σ x1 x2 x3 = some (r, σ')) : V X σ 1434 [(0, .ref b), (1, .ref ((xG X).1 x1)), (2, .ref ((xG X).1 x2)), (3, .int x3)] [] := by
  unfold f_L_law_b1434 at h
  refine r_aload_n C 1 (q := 1435) dL_law_1434 rfl rfl ?_
  refine r_aload_n C 0 (q := 1436) dL_law_1435 rfl rfl ?_
  refine r_iload_n C 3 (q := 1437) dL_law_1436 rfl rfl ?_
  refine r_iconst C (v := 1) (q := 1438) dL_law_1437 (by decide) rfl ?_
  refine r_iadd C (q := 1439) dL_law_1438 rfl ?_
  obtain ⟨v_1439, e_1439, h⟩ := bs h
  refine r_sld C hX hbl hbA (q := 1440) dL_law_1439 e_1439 rfl ?_
  obtain ⟨v_1440, s_1440, e_1440, h⟩ := bs2 h
  refine r_callV C (ci := 5) (st := []) (st2 := [.int v_1440]) (q := 1443) (m_X5_many (xG X) (xl X) hx1 e_1440) ok_X5_many hx1 rfl ⟨_, rfl⟩ q_911 rfl ⟨Nat.le_of_ble_eq_true rfl, Nat.le_of_ble_eq_true rfl⟩ rfl rfl (Nat.le_of_ble_eq_true rfl) dL_law_1440 rfl (fun hp_1440 => ?_)
  refine r_aload_n C 2 (q := 1444) dL_law_1443 rfl rfl ?_
  refine r_aload_n C 0 (q := 1445) dL_law_1444 rfl rfl ?_
  refine r_iload_n C 3 (q := 1446) dL_law_1445 rfl rfl ?_
  refine r_iconst C (v := 1) (q := 1447) dL_law_1446 (by decide) rfl ?_
  refine r_iadd C (q := 1448) dL_law_1447 rfl ?_
  obtain ⟨v_1448, e_1448, h⟩ := bs h
  refine r_sld C hX hbl hbA (q := 1449) dL_law_1448 e_1448 rfl ?_
  obtain ⟨v_1449, s_1449, e_1449, h⟩ := bs2 h
  refine r_callV C (ci := 6) (st := [.int v_1440]) (st2 := [.int v_1449, .int v_1440]) (q := 1452) (m_X6_many (xG X) (xl X) hx2 e_1449) ok_X6_many hx2 rfl ⟨_, rfl⟩ q_1332 rfl ⟨Nat.le_of_ble_eq_true rfl, Nat.le_of_ble_eq_true rfl⟩ rfl rfl (Nat.le_of_ble_eq_true rfl) dL_law_1449 rfl (fun hp_1449 => ?_)
  refine r_icmp_eq C (tgt := 1621) (q := 1455) dL_law_1452 (by decide) rfl (fun c_1452 => ?_) (fun c_1452 => ?_)
  · replace h := (if_pos c_1452).symm.trans h
    exact w_L_law_b1621 C hr hX hbl hbA _ hk_18 _ _ _ _ hx1 hx2 h
  · replace h := (if_neg c_1452).symm.trans h
    refine r_iconst C (v := 0) (q := 1456) dL_law_1455 (by decide) rfl ?_
    obtain ⟨rfl, rfl⟩ := Prod.mk.inj (Option.some.inj h)
    exact hr _ _ dL_law_1456 (Or.inl rfl)

set_option maxHeartbeats 4000000 in
set_option maxRecDepth 100000 in
theorem w_L_law_b1401 {X : CX} (C : Cok X RL cL_law 4 13 478) {σ' : St} {r : Int32} (hr : RtZ X cL_law r σ') {b L : Nat} {xs : Nat → Int32} (hX : va_X b L xs (xs_ X) (xs_ X).heap) (hbl : b < (xs_ X).heap.size) (hbA : ¬ dom (xG X) b) (k_18 : St → Nat → Nat → Int32 → Option (Int32 × St)) (hk_18 : ∀ (σ : St) (x1 : Nat) (x2 : Nat) (x3 : Int32), kd x1 = 6 → kd x2 = 7 → k_18 σ x1 x2 x3 = some (r, σ') → V X σ 18 [(0, .ref b), (1, .ref ((xG X).1 x1)), (2, .ref ((xG X).1 x2)), (3, .int x3)] []) (σ : St) (x1 : Nat) (x2 : Nat) (x3 : Int32) (hx1 : kd x1 = 6) (hx2 : kd x2 = 7) (h : f_L_law_b1401 L xs k_18 σ x1 x2 x3 = some (r, σ')) : V X σ 1401 [(0, .ref b), (1, .ref ((xG X).1 x1)), (2, .ref ((xG X).1 x2)), (3, .int x3)] [] := by
  unfold f_L_law_b1401 at h
  refine r_aload_n C 1 (q := 1402) dL_law_1401 rfl rfl ?_
  refine r_aload_n C 0 (q := 1403) dL_law_1402 rfl rfl ?_
  refine r_iload_n C 3 (q := 1404) dL_law_1403 rfl rfl ?_
  refine r_iconst C (v := 1) (q := 1405) dL_law_1404 (by decide) rfl ?_
  refine r_iadd C (q := 1406) dL_law_1405 rfl ?_
  obtain ⟨v_1406, e_1406, h⟩ := bs h
  refine r_sld C hX hbl hbA (q := 1407) dL_law_1406 e_1406 rfl ?_
  refine r_aload_n C 0 (q := 1408) dL_law_1407 rfl rfl ?_
  refine r_iload_n C 3 (q := 1409) dL_law_1408 rfl rfl ?_
  refine r_iconst C (v := 2) (q := 1410) dL_law_1409 (by decide) rfl ?_
  refine r_iadd C (q := 1411) dL_law_1410 rfl ?_
  obtain ⟨v_1411, e_1411, h⟩ := bs h
  refine r_sld C hX hbl hbA (q := 1412) dL_law_1411 e_1411 rfl ?_
  obtain ⟨v_1412, s_1412, e_1412, h⟩ := bs2 h
  refine r_callV C (ci := 5) (st := []) (st2 := [.int v_1412]) (q := 1415) (m_X5_found (xG X) (xl X) hx1 e_1412) ok_X5_found hx1 rfl ⟨_, rfl⟩ q_891 rfl ⟨Nat.le_of_ble_eq_true rfl, Nat.le_of_ble_eq_true rfl⟩ rfl rfl (Nat.le_of_ble_eq_true rfl) dL_law_1412 rfl (fun hp_1412 => ?_)
  refine r_aload_n C 2 (q := 1416) dL_law_1415 rfl rfl ?_
  refine r_aload_n C 0 (q := 1417) dL_law_1416 rfl rfl ?_
  refine r_iload_n C 3 (q := 1418) dL_law_1417 rfl rfl ?_
  refine r_iconst C (v := 1) (q := 1419) dL_law_1418 (by decide) rfl ?_
  refine r_iadd C (q := 1420) dL_law_1419 rfl ?_
  obtain ⟨v_1420, e_1420, h⟩ := bs h
  refine r_sld C hX hbl hbA (q := 1421) dL_law_1420 e_1420 rfl ?_
  refine r_aload_n C 0 (q := 1422) dL_law_1421 rfl rfl ?_
  refine r_iload_n C 3 (q := 1423) dL_law_1422 rfl rfl ?_
  refine r_iconst C (v := 2) (q := 1424) dL_law_1423 (by decide) rfl ?_
  refine r_iadd C (q := 1425) dL_law_1424 rfl ?_
  obtain ⟨v_1425, e_1425, h⟩ := bs h
  refine r_sld C hX hbl hbA (q := 1426) dL_law_1425 e_1425 rfl ?_
  obtain ⟨v_1426, s_1426, e_1426, h⟩ := bs2 h
  refine r_callV C (ci := 6) (st := [.int v_1412]) (st2 := [.int v_1426, .int v_1412]) (q := 1429) (m_X6_found (xG X) (xl X) hx2 e_1426) ok_X6_found hx2 rfl ⟨_, rfl⟩ q_1416 rfl ⟨Nat.le_of_ble_eq_true rfl, Nat.le_of_ble_eq_true rfl⟩ rfl rfl (Nat.le_of_ble_eq_true rfl) dL_law_1426 rfl (fun hp_1426 => ?_)
  refine r_icmp_eq C (tgt := 1621) (q := 1432) dL_law_1429 (by decide) rfl (fun c_1429 => ?_) (fun c_1429 => ?_)
  · replace h := (if_pos c_1429).symm.trans h
    exact w_L_law_b1621 C hr hX hbl hbA _ hk_18 _ _ _ _ hx1 hx2 h
  · replace h := (if_neg c_1429).symm.trans h
    refine r_iconst C (v := 0) (q := 1433) dL_law_1432 (by decide) rfl ?_
    obtain ⟨rfl, rfl⟩ := Prod.mk.inj (Option.some.inj h)
    exact hr _ _ dL_law_1433 (Or.inl rfl)

set_option maxHeartbeats 4000000 in
set_option maxRecDepth 100000 in
theorem w_L_law_b1378 {X : CX} (C : Cok X RL cL_law 4 13 478) {σ' : St} {r : Int32} (hr : RtZ X cL_law r σ') {b L : Nat} {xs : Nat → Int32} (hX : va_X b L xs (xs_ X) (xs_ X).heap) (hbl : b < (xs_ X).heap.size) (hbA : ¬ dom (xG X) b) (k_18 : St → Nat → Nat → Int32 → Option (Int32 × St)) (hk_18 : ∀ (σ : St) (x1 : Nat) (x2 : Nat) (x3 : Int32), kd x1 = 6 → kd x2 = 7 → k_18 σ x1 x2 x3 = some (r, σ') → V X σ 18 [(0, .ref b), (1, .ref ((xG X).1 x1)), (2, .ref ((xG X).1 x2)), (3, .int x3)] []) (σ : St) (x1 : Nat) (x2 : Nat) (x3 : Int32) (hx1 : kd x1 = 6) (hx2 : kd x2 = 7) (h : f_L_law_b1378 L xs k_18 σ x1 x2 x3 = some (r, σ')) : V X σ 1378 [(0, .ref b), (1, .ref ((xG X).1 x1)), (2, .ref ((xG X).1 x2)), (3, .int x3)] [] := by
  unfold f_L_law_b1378 at h
  refine r_aload_n C 1 (q := 1379) dL_law_1378 rfl rfl ?_
  refine r_aload_n C 0 (q := 1380) dL_law_1379 rfl rfl ?_
  refine r_iload_n C 3 (q := 1381) dL_law_1380 rfl rfl ?_
  refine r_iconst C (v := 1) (q := 1382) dL_law_1381 (by decide) rfl ?_
  refine r_iadd C (q := 1383) dL_law_1382 rfl ?_
  obtain ⟨v_1383, e_1383, h⟩ := bs h
  refine r_sld C hX hbl hbA (q := 1384) dL_law_1383 e_1383 rfl ?_
  obtain ⟨v_1384, s_1384, e_1384, h⟩ := bs2 h
  refine r_callV C (ci := 5) (st := []) (st2 := [.int v_1384]) (q := 1387) (m_X5_ward (xG X) (xl X) hx1 e_1384) ok_X5_ward hx1 rfl ⟨_, rfl⟩ q_882 rfl ⟨Nat.le_of_ble_eq_true rfl, Nat.le_of_ble_eq_true rfl⟩ rfl rfl (Nat.le_of_ble_eq_true rfl) dL_law_1384 rfl (fun hp_1384 => ?_)
  refine r_aload_n C 2 (q := 1388) dL_law_1387 rfl rfl ?_
  refine r_aload_n C 0 (q := 1389) dL_law_1388 rfl rfl ?_
  refine r_iload_n C 3 (q := 1390) dL_law_1389 rfl rfl ?_
  refine r_iconst C (v := 1) (q := 1391) dL_law_1390 (by decide) rfl ?_
  refine r_iadd C (q := 1392) dL_law_1391 rfl ?_
  obtain ⟨v_1392, e_1392, h⟩ := bs h
  refine r_sld C hX hbl hbA (q := 1393) dL_law_1392 e_1392 rfl ?_
  obtain ⟨v_1393, s_1393, e_1393, h⟩ := bs2 h
  refine r_callV C (ci := 6) (st := [.int v_1384]) (st2 := [.int v_1393, .int v_1384]) (q := 1396) (m_X6_ward (xG X) (xl X) hx2 e_1393) ok_X6_ward hx2 rfl ⟨_, rfl⟩ q_1408 rfl ⟨Nat.le_of_ble_eq_true rfl, Nat.le_of_ble_eq_true rfl⟩ rfl rfl (Nat.le_of_ble_eq_true rfl) dL_law_1393 rfl (fun hp_1393 => ?_)
  refine r_icmp_eq C (tgt := 1621) (q := 1399) dL_law_1396 (by decide) rfl (fun c_1396 => ?_) (fun c_1396 => ?_)
  · replace h := (if_pos c_1396).symm.trans h
    exact w_L_law_b1621 C hr hX hbl hbA _ hk_18 _ _ _ _ hx1 hx2 h
  · replace h := (if_neg c_1396).symm.trans h
    refine r_iconst C (v := 0) (q := 1400) dL_law_1399 (by decide) rfl ?_
    obtain ⟨rfl, rfl⟩ := Prod.mk.inj (Option.some.inj h)
    exact hr _ _ dL_law_1400 (Or.inl rfl)

set_option maxHeartbeats 4000000 in
set_option maxRecDepth 100000 in
theorem w_L_law_b1365 {X : CX} (C : Cok X RL cL_law 4 13 478) {σ' : St} {r : Int32} (hr : RtZ X cL_law r σ') {b L : Nat} {xs : Nat → Int32} (hX : va_X b L xs (xs_ X) (xs_ X).heap) (hbl : b < (xs_ X).heap.size) (hbA : ¬ dom (xG X) b) (k_18 : St → Nat → Nat → Int32 → Option (Int32 × St)) (hk_18 : ∀ (σ : St) (x1 : Nat) (x2 : Nat) (x3 : Int32), kd x1 = 6 → kd x2 = 7 → k_18 σ x1 x2 x3 = some (r, σ') → V X σ 18 [(0, .ref b), (1, .ref ((xG X).1 x1)), (2, .ref ((xG X).1 x2)), (3, .int x3)] []) (σ : St) (x1 : Nat) (x2 : Nat) (x3 : Int32) (hx1 : kd x1 = 6) (hx2 : kd x2 = 7) (h : f_L_law_b1365 L xs k_18 σ x1 x2 x3 = some (r, σ')) : V X σ 1365 [(0, .ref b), (1, .ref ((xG X).1 x1)), (2, .ref ((xG X).1 x2)), (3, .int x3)] [] := by
  unfold f_L_law_b1365 at h
  refine r_aload_n C 1 (q := 1366) dL_law_1365 rfl rfl ?_
  obtain ⟨v_1366, s_1366, e_1366, h⟩ := bs2 h
  refine r_callV C (ci := 5) (st := []) (st2 := [.int v_1366]) (q := 1369) (m_X5_chain (xG X) (xl X) hx1 e_1366) ok_X5_chain hx1 rfl ⟨_, rfl⟩ q_870 rfl ⟨Nat.le_of_ble_eq_true rfl, Nat.le_of_ble_eq_true rfl⟩ rfl rfl (Nat.le_of_ble_eq_true rfl) dL_law_1366 rfl (fun hp_1366 => ?_)
  refine r_aload_n C 2 (q := 1370) dL_law_1369 rfl rfl ?_
  obtain ⟨v_1370, s_1370, e_1370, h⟩ := bs2 h
  refine r_callV C (ci := 6) (st := [.int v_1366]) (st2 := [.int v_1370, .int v_1366]) (q := 1373) (m_X6_chain (xG X) (xl X) hx2 e_1370) ok_X6_chain hx2 rfl ⟨_, rfl⟩ q_1404 rfl ⟨Nat.le_of_ble_eq_true rfl, Nat.le_of_ble_eq_true rfl⟩ rfl rfl (Nat.le_of_ble_eq_true rfl) dL_law_1370 rfl (fun hp_1370 => ?_)
  refine r_icmp_eq C (tgt := 1621) (q := 1376) dL_law_1373 (by decide) rfl (fun c_1373 => ?_) (fun c_1373 => ?_)
  · replace h := (if_pos c_1373).symm.trans h
    exact w_L_law_b1621 C hr hX hbl hbA _ hk_18 _ _ _ _ hx1 hx2 h
  · replace h := (if_neg c_1373).symm.trans h
    refine r_iconst C (v := 0) (q := 1377) dL_law_1376 (by decide) rfl ?_
    obtain ⟨rfl, rfl⟩ := Prod.mk.inj (Option.some.inj h)
    exact hr _ _ dL_law_1377 (Or.inl rfl)

set_option maxHeartbeats 4000000 in
set_option maxRecDepth 100000 in
theorem w_L_law_b1342 {X : CX} (C : Cok X RL cL_law 4 13 478) {σ' : St} {r : Int32} (hr : RtZ X cL_law r σ') {b L : Nat} {xs : Nat → Int32} (hX : va_X b L xs (xs_ X) (xs_ X).heap) (hbl : b < (xs_ X).heap.size) (hbA : ¬ dom (xG X) b) (k_18 : St → Nat → Nat → Int32 → Option (Int32 × St)) (hk_18 : ∀ (σ : St) (x1 : Nat) (x2 : Nat) (x3 : Int32), kd x1 = 6 → kd x2 = 7 → k_18 σ x1 x2 x3 = some (r, σ') → V X σ 18 [(0, .ref b), (1, .ref ((xG X).1 x1)), (2, .ref ((xG X).1 x2)), (3, .int x3)] []) (σ : St) (x1 : Nat) (x2 : Nat) (x3 : Int32) (hx1 : kd x1 = 6) (hx2 : kd x2 = 7) (h : f_L_law_b1342 L xs k_18 σ x1 x2 x3 = some (r, σ')) : V X σ 1342 [(0, .ref b), (1, .ref ((xG X).1 x1)), (2, .ref ((xG X).1 x2)), (3, .int x3)] [] := by
  unfold f_L_law_b1342 at h
  refine r_aload_n C 1 (q := 1343) dL_law_1342 rfl rfl ?_
  refine r_aload_n C 0 (q := 1344) dL_law_1343 rfl rfl ?_
  refine r_iload_n C 3 (q := 1345) dL_law_1344 rfl rfl ?_
  refine r_iconst C (v := 1) (q := 1346) dL_law_1345 (by decide) rfl ?_
  refine r_iadd C (q := 1347) dL_law_1346 rfl ?_
  obtain ⟨v_1347, e_1347, h⟩ := bs h
  refine r_sld C hX hbl hbA (q := 1348) dL_law_1347 e_1347 rfl ?_
  obtain ⟨v_1348, s_1348, e_1348, h⟩ := bs2 h
  refine r_callV C (ci := 5) (st := []) (st2 := [.int v_1348]) (q := 1351) (m_X5_over (xG X) (xl X) hx1 e_1348) ok_X5_over hx1 rfl ⟨_, rfl⟩ q_862 rfl ⟨Nat.le_of_ble_eq_true rfl, Nat.le_of_ble_eq_true rfl⟩ rfl rfl (Nat.le_of_ble_eq_true rfl) dL_law_1348 rfl (fun hp_1348 => ?_)
  refine r_aload_n C 2 (q := 1352) dL_law_1351 rfl rfl ?_
  refine r_aload_n C 0 (q := 1353) dL_law_1352 rfl rfl ?_
  refine r_iload_n C 3 (q := 1354) dL_law_1353 rfl rfl ?_
  refine r_iconst C (v := 1) (q := 1355) dL_law_1354 (by decide) rfl ?_
  refine r_iadd C (q := 1356) dL_law_1355 rfl ?_
  obtain ⟨v_1356, e_1356, h⟩ := bs h
  refine r_sld C hX hbl hbA (q := 1357) dL_law_1356 e_1356 rfl ?_
  obtain ⟨v_1357, s_1357, e_1357, h⟩ := bs2 h
  refine r_callV C (ci := 6) (st := [.int v_1348]) (st2 := [.int v_1357, .int v_1348]) (q := 1360) (m_X6_over (xG X) (xl X) hx2 e_1357) ok_X6_over hx2 rfl ⟨_, rfl⟩ q_1400 rfl ⟨Nat.le_of_ble_eq_true rfl, Nat.le_of_ble_eq_true rfl⟩ rfl rfl (Nat.le_of_ble_eq_true rfl) dL_law_1357 rfl (fun hp_1357 => ?_)
  refine r_icmp_eq C (tgt := 1621) (q := 1363) dL_law_1360 (by decide) rfl (fun c_1360 => ?_) (fun c_1360 => ?_)
  · replace h := (if_pos c_1360).symm.trans h
    exact w_L_law_b1621 C hr hX hbl hbA _ hk_18 _ _ _ _ hx1 hx2 h
  · replace h := (if_neg c_1360).symm.trans h
    refine r_iconst C (v := 0) (q := 1364) dL_law_1363 (by decide) rfl ?_
    obtain ⟨rfl, rfl⟩ := Prod.mk.inj (Option.some.inj h)
    exact hr _ _ dL_law_1364 (Or.inl rfl)

set_option maxHeartbeats 4000000 in
set_option maxRecDepth 100000 in
theorem w_L_law_b1329 {X : CX} (C : Cok X RL cL_law 4 13 478) {σ' : St} {r : Int32} (hr : RtZ X cL_law r σ') {b L : Nat} {xs : Nat → Int32} (hX : va_X b L xs (xs_ X) (xs_ X).heap) (hbl : b < (xs_ X).heap.size) (hbA : ¬ dom (xG X) b) (k_18 : St → Nat → Nat → Int32 → Option (Int32 × St)) (hk_18 : ∀ (σ : St) (x1 : Nat) (x2 : Nat) (x3 : Int32), kd x1 = 6 → kd x2 = 7 → k_18 σ x1 x2 x3 = some (r, σ') → V X σ 18 [(0, .ref b), (1, .ref ((xG X).1 x1)), (2, .ref ((xG X).1 x2)), (3, .int x3)] []) (σ : St) (x1 : Nat) (x2 : Nat) (x3 : Int32) (hx1 : kd x1 = 6) (hx2 : kd x2 = 7) (h : f_L_law_b1329 L xs k_18 σ x1 x2 x3 = some (r, σ')) : V X σ 1329 [(0, .ref b), (1, .ref ((xG X).1 x1)), (2, .ref ((xG X).1 x2)), (3, .int x3)] [] := by
  unfold f_L_law_b1329 at h
  refine r_aload_n C 1 (q := 1330) dL_law_1329 rfl rfl ?_
  obtain ⟨v_1330, e_1330, h⟩ := bs h
  refine r_callV C (ci := 5) (st := []) (st2 := [.int v_1330]) (q := 1333) (m_X5_alike (xG X) (xl X) hx1 e_1330) ok_X5_alike hx1 rfl ⟨_, rfl⟩ q_854 rfl ⟨Nat.le_of_ble_eq_true rfl, Nat.le_of_ble_eq_true rfl⟩ rfl rfl (Nat.le_of_ble_eq_true rfl) dL_law_1330 rfl (fun hp_1330 => ?_)
  refine r_aload_n C 2 (q := 1334) dL_law_1333 rfl rfl ?_
  obtain ⟨v_1334, e_1334, h⟩ := bs h
  refine r_callV C (ci := 6) (st := [.int v_1330]) (st2 := [.int v_1334, .int v_1330]) (q := 1337) (m_X6_alike (xG X) (xl X) hx2 e_1334) ok_X6_alike hx2 rfl ⟨_, rfl⟩ q_1396 rfl ⟨Nat.le_of_ble_eq_true rfl, Nat.le_of_ble_eq_true rfl⟩ rfl rfl (Nat.le_of_ble_eq_true rfl) dL_law_1334 rfl (fun hp_1334 => ?_)
  refine r_icmp_eq C (tgt := 1621) (q := 1340) dL_law_1337 (by decide) rfl (fun c_1337 => ?_) (fun c_1337 => ?_)
  · replace h := (if_pos c_1337).symm.trans h
    exact w_L_law_b1621 C hr hX hbl hbA _ hk_18 _ _ _ _ hx1 hx2 h
  · replace h := (if_neg c_1337).symm.trans h
    refine r_iconst C (v := 0) (q := 1341) dL_law_1340 (by decide) rfl ?_
    obtain ⟨rfl, rfl⟩ := Prod.mk.inj (Option.some.inj h)
    exact hr _ _ dL_law_1341 (Or.inl rfl)

set_option maxHeartbeats 4000000 in
set_option maxRecDepth 100000 in
theorem w_L_law_b1316 {X : CX} (C : Cok X RL cL_law 4 13 478) {σ' : St} {r : Int32} (hr : RtZ X cL_law r σ') {b L : Nat} {xs : Nat → Int32} (hX : va_X b L xs (xs_ X) (xs_ X).heap) (hbl : b < (xs_ X).heap.size) (hbA : ¬ dom (xG X) b) (k_18 : St → Nat → Nat → Int32 → Option (Int32 × St)) (hk_18 : ∀ (σ : St) (x1 : Nat) (x2 : Nat) (x3 : Int32), kd x1 = 6 → kd x2 = 7 → k_18 σ x1 x2 x3 = some (r, σ') → V X σ 18 [(0, .ref b), (1, .ref ((xG X).1 x1)), (2, .ref ((xG X).1 x2)), (3, .int x3)] []) (σ : St) (x1 : Nat) (x2 : Nat) (x3 : Int32) (hx1 : kd x1 = 6) (hx2 : kd x2 = 7) (h : f_L_law_b1316 L xs k_18 σ x1 x2 x3 = some (r, σ')) : V X σ 1316 [(0, .ref b), (1, .ref ((xG X).1 x1)), (2, .ref ((xG X).1 x2)), (3, .int x3)] [] := by
  unfold f_L_law_b1316 at h
  refine r_aload_n C 1 (q := 1317) dL_law_1316 rfl rfl ?_
  obtain ⟨v_1317, s_1317, e_1317, h⟩ := bs2 h
  refine r_callV C (ci := 5) (st := []) (st2 := [.int v_1317]) (q := 1320) (m_X5_unlike (xG X) (xl X) hx1 e_1317) ok_X5_unlike hx1 rfl ⟨_, rfl⟩ q_842 rfl ⟨Nat.le_of_ble_eq_true rfl, Nat.le_of_ble_eq_true rfl⟩ rfl rfl (Nat.le_of_ble_eq_true rfl) dL_law_1317 rfl (fun hp_1317 => ?_)
  refine r_aload_n C 2 (q := 1321) dL_law_1320 rfl rfl ?_
  obtain ⟨v_1321, e_1321, h⟩ := bs h
  refine r_callV C (ci := 6) (st := [.int v_1317]) (st2 := [.int v_1321, .int v_1317]) (q := 1324) (m_X6_unlike (xG X) (xl X) hx2 e_1321) ok_X6_unlike hx2 rfl ⟨_, rfl⟩ q_1392 rfl ⟨Nat.le_of_ble_eq_true rfl, Nat.le_of_ble_eq_true rfl⟩ rfl rfl (Nat.le_of_ble_eq_true rfl) dL_law_1321 rfl (fun hp_1321 => ?_)
  refine r_icmp_eq C (tgt := 1621) (q := 1327) dL_law_1324 (by decide) rfl (fun c_1324 => ?_) (fun c_1324 => ?_)
  · replace h := (if_pos c_1324).symm.trans h
    exact w_L_law_b1621 C hr hX hbl hbA _ hk_18 _ _ _ _ hx1 hx2 h
  · replace h := (if_neg c_1324).symm.trans h
    refine r_iconst C (v := 0) (q := 1328) dL_law_1327 (by decide) rfl ?_
    obtain ⟨rfl, rfl⟩ := Prod.mk.inj (Option.some.inj h)
    exact hr _ _ dL_law_1328 (Or.inl rfl)

set_option maxHeartbeats 4000000 in
set_option maxRecDepth 100000 in
theorem w_L_law_b1303 {X : CX} (C : Cok X RL cL_law 4 13 478) {σ' : St} {r : Int32} (hr : RtZ X cL_law r σ') {b L : Nat} {xs : Nat → Int32} (hX : va_X b L xs (xs_ X) (xs_ X).heap) (hbl : b < (xs_ X).heap.size) (hbA : ¬ dom (xG X) b) (k_18 : St → Nat → Nat → Int32 → Option (Int32 × St)) (hk_18 : ∀ (σ : St) (x1 : Nat) (x2 : Nat) (x3 : Int32), kd x1 = 6 → kd x2 = 7 → k_18 σ x1 x2 x3 = some (r, σ') → V X σ 18 [(0, .ref b), (1, .ref ((xG X).1 x1)), (2, .ref ((xG X).1 x2)), (3, .int x3)] []) (σ : St) (x1 : Nat) (x2 : Nat) (x3 : Int32) (hx1 : kd x1 = 6) (hx2 : kd x2 = 7) (h : f_L_law_b1303 L xs k_18 σ x1 x2 x3 = some (r, σ')) : V X σ 1303 [(0, .ref b), (1, .ref ((xG X).1 x1)), (2, .ref ((xG X).1 x2)), (3, .int x3)] [] := by
  unfold f_L_law_b1303 at h
  refine r_aload_n C 1 (q := 1304) dL_law_1303 rfl rfl ?_
  obtain ⟨v_1304, s_1304, e_1304, h⟩ := bs2 h
  refine r_callV C (ci := 5) (st := []) (st2 := [.int v_1304]) (q := 1307) (m_X5_pair (xG X) (xl X) hx1 e_1304) ok_X5_pair hx1 rfl ⟨_, rfl⟩ q_832 rfl ⟨Nat.le_of_ble_eq_true rfl, Nat.le_of_ble_eq_true rfl⟩ rfl rfl (Nat.le_of_ble_eq_true rfl) dL_law_1304 rfl (fun hp_1304 => ?_)
  refine r_aload_n C 2 (q := 1308) dL_law_1307 rfl rfl ?_
  obtain ⟨v_1308, s_1308, e_1308, h⟩ := bs2 h
  refine r_callV C (ci := 6) (st := [.int v_1304]) (st2 := [.int v_1308, .int v_1304]) (q := 1311) (m_X6_pair (xG X) (xl X) hx2 e_1308) ok_X6_pair hx2 rfl ⟨_, rfl⟩ q_1388 rfl ⟨Nat.le_of_ble_eq_true rfl, Nat.le_of_ble_eq_true rfl⟩ rfl rfl (Nat.le_of_ble_eq_true rfl) dL_law_1308 rfl (fun hp_1308 => ?_)
  refine r_icmp_eq C (tgt := 1621) (q := 1314) dL_law_1311 (by decide) rfl (fun c_1311 => ?_) (fun c_1311 => ?_)
  · replace h := (if_pos c_1311).symm.trans h
    exact w_L_law_b1621 C hr hX hbl hbA _ hk_18 _ _ _ _ hx1 hx2 h
  · replace h := (if_neg c_1311).symm.trans h
    refine r_iconst C (v := 0) (q := 1315) dL_law_1314 (by decide) rfl ?_
    obtain ⟨rfl, rfl⟩ := Prod.mk.inj (Option.some.inj h)
    exact hr _ _ dL_law_1315 (Or.inl rfl)

set_option maxHeartbeats 4000000 in
set_option maxRecDepth 100000 in
theorem w_L_law_b1270 {X : CX} (C : Cok X RL cL_law 4 13 478) {σ' : St} {r : Int32} (hr : RtZ X cL_law r σ') {b L : Nat} {xs : Nat → Int32} (hX : va_X b L xs (xs_ X) (xs_ X).heap) (hbl : b < (xs_ X).heap.size) (hbA : ¬ dom (xG X) b) (k_18 : St → Nat → Nat → Int32 → Option (Int32 × St)) (hk_18 : ∀ (σ : St) (x1 : Nat) (x2 : Nat) (x3 : Int32), kd x1 = 6 → kd x2 = 7 → k_18 σ x1 x2 x3 = some (r, σ') → V X σ 18 [(0, .ref b), (1, .ref ((xG X).1 x1)), (2, .ref ((xG X).1 x2)), (3, .int x3)] []) (σ : St) (x1 : Nat) (x2 : Nat) (x3 : Int32) (hx1 : kd x1 = 6) (hx2 : kd x2 = 7) (h : f_L_law_b1270 L xs k_18 σ x1 x2 x3 = some (r, σ')) : V X σ 1270 [(0, .ref b), (1, .ref ((xG X).1 x1)), (2, .ref ((xG X).1 x2)), (3, .int x3)] [] := by
  unfold f_L_law_b1270 at h
  refine r_aload_n C 1 (q := 1271) dL_law_1270 rfl rfl ?_
  refine r_aload_n C 0 (q := 1272) dL_law_1271 rfl rfl ?_
  refine r_iload_n C 3 (q := 1273) dL_law_1272 rfl rfl ?_
  refine r_iconst C (v := 1) (q := 1274) dL_law_1273 (by decide) rfl ?_
  refine r_iadd C (q := 1275) dL_law_1274 rfl ?_
  obtain ⟨v_1275, e_1275, h⟩ := bs h
  refine r_sld C hX hbl hbA (q := 1276) dL_law_1275 e_1275 rfl ?_
  refine r_aload_n C 0 (q := 1277) dL_law_1276 rfl rfl ?_
  refine r_iload_n C 3 (q := 1278) dL_law_1277 rfl rfl ?_
  refine r_iconst C (v := 2) (q := 1279) dL_law_1278 (by decide) rfl ?_
  refine r_iadd C (q := 1280) dL_law_1279 rfl ?_
  obtain ⟨v_1280, e_1280, h⟩ := bs h
  refine r_sld C hX hbl hbA (q := 1281) dL_law_1280 e_1280 rfl ?_
  obtain ⟨v_1281, s_1281, e_1281, h⟩ := bs2 h
  refine r_callV C (ci := 5) (st := []) (st2 := [.int v_1281]) (q := 1284) (m_X5_together (xG X) (xl X) hx1 e_1281) ok_X5_together hx1 rfl ⟨_, rfl⟩ q_824 rfl ⟨Nat.le_of_ble_eq_true rfl, Nat.le_of_ble_eq_true rfl⟩ rfl rfl (Nat.le_of_ble_eq_true rfl) dL_law_1281 rfl (fun hp_1281 => ?_)
  refine r_aload_n C 2 (q := 1285) dL_law_1284 rfl rfl ?_
  refine r_aload_n C 0 (q := 1286) dL_law_1285 rfl rfl ?_
  refine r_iload_n C 3 (q := 1287) dL_law_1286 rfl rfl ?_
  refine r_iconst C (v := 1) (q := 1288) dL_law_1287 (by decide) rfl ?_
  refine r_iadd C (q := 1289) dL_law_1288 rfl ?_
  obtain ⟨v_1289, e_1289, h⟩ := bs h
  refine r_sld C hX hbl hbA (q := 1290) dL_law_1289 e_1289 rfl ?_
  refine r_aload_n C 0 (q := 1291) dL_law_1290 rfl rfl ?_
  refine r_iload_n C 3 (q := 1292) dL_law_1291 rfl rfl ?_
  refine r_iconst C (v := 2) (q := 1293) dL_law_1292 (by decide) rfl ?_
  refine r_iadd C (q := 1294) dL_law_1293 rfl ?_
  obtain ⟨v_1294, e_1294, h⟩ := bs h
  refine r_sld C hX hbl hbA (q := 1295) dL_law_1294 e_1294 rfl ?_
  obtain ⟨v_1295, s_1295, e_1295, h⟩ := bs2 h
  refine r_callV C (ci := 6) (st := [.int v_1281]) (st2 := [.int v_1295, .int v_1281]) (q := 1298) (m_X6_together (xG X) (xl X) hx2 e_1295) ok_X6_together hx2 rfl ⟨_, rfl⟩ q_1380 rfl ⟨Nat.le_of_ble_eq_true rfl, Nat.le_of_ble_eq_true rfl⟩ rfl rfl (Nat.le_of_ble_eq_true rfl) dL_law_1295 rfl (fun hp_1295 => ?_)
  refine r_icmp_eq C (tgt := 1621) (q := 1301) dL_law_1298 (by decide) rfl (fun c_1298 => ?_) (fun c_1298 => ?_)
  · replace h := (if_pos c_1298).symm.trans h
    exact w_L_law_b1621 C hr hX hbl hbA _ hk_18 _ _ _ _ hx1 hx2 h
  · replace h := (if_neg c_1298).symm.trans h
    refine r_iconst C (v := 0) (q := 1302) dL_law_1301 (by decide) rfl ?_
    obtain ⟨rfl, rfl⟩ := Prod.mk.inj (Option.some.inj h)
    exact hr _ _ dL_law_1302 (Or.inl rfl)

set_option maxHeartbeats 4000000 in
set_option maxRecDepth 100000 in
theorem w_L_law_b1247 {X : CX} (C : Cok X RL cL_law 4 13 478) {σ' : St} {r : Int32} (hr : RtZ X cL_law r σ') {b L : Nat} {xs : Nat → Int32} (hX : va_X b L xs (xs_ X) (xs_ X).heap) (hbl : b < (xs_ X).heap.size) (hbA : ¬ dom (xG X) b) (k_18 : St → Nat → Nat → Int32 → Option (Int32 × St)) (hk_18 : ∀ (σ : St) (x1 : Nat) (x2 : Nat) (x3 : Int32), kd x1 = 6 → kd x2 = 7 → k_18 σ x1 x2 x3 = some (r, σ') → V X σ 18 [(0, .ref b), (1, .ref ((xG X).1 x1)), (2, .ref ((xG X).1 x2)), (3, .int x3)] []) (σ : St) (x1 : Nat) (x2 : Nat) (x3 : Int32) (hx1 : kd x1 = 6) (hx2 : kd x2 = 7) (h : f_L_law_b1247 L xs k_18 σ x1 x2 x3 = some (r, σ')) : V X σ 1247 [(0, .ref b), (1, .ref ((xG X).1 x1)), (2, .ref ((xG X).1 x2)), (3, .int x3)] [] := by
  unfold f_L_law_b1247 at h
  refine r_aload_n C 1 (q := 1248) dL_law_1247 rfl rfl ?_
  refine r_aload_n C 0 (q := 1249) dL_law_1248 rfl rfl ?_
  refine r_iload_n C 3 (q := 1250) dL_law_1249 rfl rfl ?_
  refine r_iconst C (v := 1) (q := 1251) dL_law_1250 (by decide) rfl ?_
  refine r_iadd C (q := 1252) dL_law_1251 rfl ?_
  obtain ⟨v_1252, e_1252, h⟩ := bs h
  refine r_sld C hX hbl hbA (q := 1253) dL_law_1252 e_1252 rfl ?_
  obtain ⟨v_1253, s_1253, e_1253, h⟩ := bs2 h
  refine r_callV C (ci := 5) (st := []) (st2 := [.int v_1253]) (q := 1256) (m_X5_idle (xG X) (xl X) hx1 e_1253) ok_X5_idle hx1 rfl ⟨_, rfl⟩ q_819 rfl ⟨Nat.le_of_ble_eq_true rfl, Nat.le_of_ble_eq_true rfl⟩ rfl rfl (Nat.le_of_ble_eq_true rfl) dL_law_1253 rfl (fun hp_1253 => ?_)
  refine r_aload_n C 2 (q := 1257) dL_law_1256 rfl rfl ?_
  refine r_aload_n C 0 (q := 1258) dL_law_1257 rfl rfl ?_
  refine r_iload_n C 3 (q := 1259) dL_law_1258 rfl rfl ?_
  refine r_iconst C (v := 1) (q := 1260) dL_law_1259 (by decide) rfl ?_
  refine r_iadd C (q := 1261) dL_law_1260 rfl ?_
  obtain ⟨v_1261, e_1261, h⟩ := bs h
  refine r_sld C hX hbl hbA (q := 1262) dL_law_1261 e_1261 rfl ?_
  obtain ⟨v_1262, s_1262, e_1262, h⟩ := bs2 h
  refine r_callV C (ci := 6) (st := [.int v_1253]) (st2 := [.int v_1262, .int v_1253]) (q := 1265) (m_X6_idle (xG X) (xl X) hx2 e_1262) ok_X6_idle hx2 rfl ⟨_, rfl⟩ q_1376 rfl ⟨Nat.le_of_ble_eq_true rfl, Nat.le_of_ble_eq_true rfl⟩ rfl rfl (Nat.le_of_ble_eq_true rfl) dL_law_1262 rfl (fun hp_1262 => ?_)
  refine r_icmp_eq C (tgt := 1621) (q := 1268) dL_law_1265 (by decide) rfl (fun c_1265 => ?_) (fun c_1265 => ?_)
  · replace h := (if_pos c_1265).symm.trans h
    exact w_L_law_b1621 C hr hX hbl hbA _ hk_18 _ _ _ _ hx1 hx2 h
  · replace h := (if_neg c_1265).symm.trans h
    refine r_iconst C (v := 0) (q := 1269) dL_law_1268 (by decide) rfl ?_
    obtain ⟨rfl, rfl⟩ := Prod.mk.inj (Option.some.inj h)
    exact hr _ _ dL_law_1269 (Or.inl rfl)

set_option maxHeartbeats 4000000 in
set_option maxRecDepth 100000 in
theorem w_L_law_b1224 {X : CX} (C : Cok X RL cL_law 4 13 478) {σ' : St} {r : Int32} (hr : RtZ X cL_law r σ') {b L : Nat} {xs : Nat → Int32} (hX : va_X b L xs (xs_ X) (xs_ X).heap) (hbl : b < (xs_ X).heap.size) (hbA : ¬ dom (xG X) b) (k_18 : St → Nat → Nat → Int32 → Option (Int32 × St)) (hk_18 : ∀ (σ : St) (x1 : Nat) (x2 : Nat) (x3 : Int32), kd x1 = 6 → kd x2 = 7 → k_18 σ x1 x2 x3 = some (r, σ') → V X σ 18 [(0, .ref b), (1, .ref ((xG X).1 x1)), (2, .ref ((xG X).1 x2)), (3, .int x3)] []) (σ : St) (x1 : Nat) (x2 : Nat) (x3 : Int32) (hx1 : kd x1 = 6) (hx2 : kd x2 = 7) (h : f_L_law_b1224 L xs k_18 σ x1 x2 x3 = some (r, σ')) : V X σ 1224 [(0, .ref b), (1, .ref ((xG X).1 x1)), (2, .ref ((xG X).1 x2)), (3, .int x3)] [] := by
  unfold f_L_law_b1224 at h
  refine r_aload_n C 1 (q := 1225) dL_law_1224 rfl rfl ?_
  refine r_aload_n C 0 (q := 1226) dL_law_1225 rfl rfl ?_
  refine r_iload_n C 3 (q := 1227) dL_law_1226 rfl rfl ?_
  refine r_iconst C (v := 1) (q := 1228) dL_law_1227 (by decide) rfl ?_
  refine r_iadd C (q := 1229) dL_law_1228 rfl ?_
  obtain ⟨v_1229, e_1229, h⟩ := bs h
  refine r_sld C hX hbl hbA (q := 1230) dL_law_1229 e_1229 rfl ?_
  obtain ⟨v_1230, s_1230, e_1230, h⟩ := bs2 h
  refine r_callV C (ci := 5) (st := []) (st2 := [.int v_1230]) (q := 1233) (m_X5_left (xG X) (xl X) hx1 e_1230) ok_X5_left hx1 rfl ⟨_, rfl⟩ q_814 rfl ⟨Nat.le_of_ble_eq_true rfl, Nat.le_of_ble_eq_true rfl⟩ rfl rfl (Nat.le_of_ble_eq_true rfl) dL_law_1230 rfl (fun hp_1230 => ?_)
  refine r_aload_n C 2 (q := 1234) dL_law_1233 rfl rfl ?_
  refine r_aload_n C 0 (q := 1235) dL_law_1234 rfl rfl ?_
  refine r_iload_n C 3 (q := 1236) dL_law_1235 rfl rfl ?_
  refine r_iconst C (v := 1) (q := 1237) dL_law_1236 (by decide) rfl ?_
  refine r_iadd C (q := 1238) dL_law_1237 rfl ?_
  obtain ⟨v_1238, e_1238, h⟩ := bs h
  refine r_sld C hX hbl hbA (q := 1239) dL_law_1238 e_1238 rfl ?_
  obtain ⟨v_1239, s_1239, e_1239, h⟩ := bs2 h
  refine r_callV C (ci := 6) (st := [.int v_1230]) (st2 := [.int v_1239, .int v_1230]) (q := 1242) (m_X6_left (xG X) (xl X) hx2 e_1239) ok_X6_left hx2 rfl ⟨_, rfl⟩ q_1372 rfl ⟨Nat.le_of_ble_eq_true rfl, Nat.le_of_ble_eq_true rfl⟩ rfl rfl (Nat.le_of_ble_eq_true rfl) dL_law_1239 rfl (fun hp_1239 => ?_)
  refine r_icmp_eq C (tgt := 1621) (q := 1245) dL_law_1242 (by decide) rfl (fun c_1242 => ?_) (fun c_1242 => ?_)
  · replace h := (if_pos c_1242).symm.trans h
    exact w_L_law_b1621 C hr hX hbl hbA _ hk_18 _ _ _ _ hx1 hx2 h
  · replace h := (if_neg c_1242).symm.trans h
    refine r_iconst C (v := 0) (q := 1246) dL_law_1245 (by decide) rfl ?_
    obtain ⟨rfl, rfl⟩ := Prod.mk.inj (Option.some.inj h)
    exact hr _ _ dL_law_1246 (Or.inl rfl)

set_option maxHeartbeats 4000000 in
set_option maxRecDepth 100000 in
theorem w_L_law_b1201 {X : CX} (C : Cok X RL cL_law 4 13 478) {σ' : St} {r : Int32} (hr : RtZ X cL_law r σ') {b L : Nat} {xs : Nat → Int32} (hX : va_X b L xs (xs_ X) (xs_ X).heap) (hbl : b < (xs_ X).heap.size) (hbA : ¬ dom (xG X) b) (k_18 : St → Nat → Nat → Int32 → Option (Int32 × St)) (hk_18 : ∀ (σ : St) (x1 : Nat) (x2 : Nat) (x3 : Int32), kd x1 = 6 → kd x2 = 7 → k_18 σ x1 x2 x3 = some (r, σ') → V X σ 18 [(0, .ref b), (1, .ref ((xG X).1 x1)), (2, .ref ((xG X).1 x2)), (3, .int x3)] []) (σ : St) (x1 : Nat) (x2 : Nat) (x3 : Int32) (hx1 : kd x1 = 6) (hx2 : kd x2 = 7) (h : f_L_law_b1201 L xs k_18 σ x1 x2 x3 = some (r, σ')) : V X σ 1201 [(0, .ref b), (1, .ref ((xG X).1 x1)), (2, .ref ((xG X).1 x2)), (3, .int x3)] [] := by
  unfold f_L_law_b1201 at h
  refine r_aload_n C 1 (q := 1202) dL_law_1201 rfl rfl ?_
  refine r_aload_n C 0 (q := 1203) dL_law_1202 rfl rfl ?_
  refine r_iload_n C 3 (q := 1204) dL_law_1203 rfl rfl ?_
  refine r_iconst C (v := 1) (q := 1205) dL_law_1204 (by decide) rfl ?_
  refine r_iadd C (q := 1206) dL_law_1205 rfl ?_
  obtain ⟨v_1206, e_1206, h⟩ := bs h
  refine r_sld C hX hbl hbA (q := 1207) dL_law_1206 e_1206 rfl ?_
  obtain ⟨v_1207, s_1207, e_1207, h⟩ := bs2 h
  refine r_callV C (ci := 5) (st := []) (st2 := [.int v_1207]) (q := 1210) (m_X5_mended (xG X) (xl X) hx1 e_1207) ok_X5_mended hx1 rfl ⟨_, rfl⟩ q_788 rfl ⟨Nat.le_of_ble_eq_true rfl, Nat.le_of_ble_eq_true rfl⟩ rfl rfl (Nat.le_of_ble_eq_true rfl) dL_law_1207 rfl (fun hp_1207 => ?_)
  refine r_aload_n C 2 (q := 1211) dL_law_1210 rfl rfl ?_
  refine r_aload_n C 0 (q := 1212) dL_law_1211 rfl rfl ?_
  refine r_iload_n C 3 (q := 1213) dL_law_1212 rfl rfl ?_
  refine r_iconst C (v := 1) (q := 1214) dL_law_1213 (by decide) rfl ?_
  refine r_iadd C (q := 1215) dL_law_1214 rfl ?_
  obtain ⟨v_1215, e_1215, h⟩ := bs h
  refine r_sld C hX hbl hbA (q := 1216) dL_law_1215 e_1215 rfl ?_
  obtain ⟨v_1216, s_1216, e_1216, h⟩ := bs2 h
  refine r_callV C (ci := 6) (st := [.int v_1207]) (st2 := [.int v_1216, .int v_1207]) (q := 1219) (m_X6_mended (xG X) (xl X) hx2 e_1216) ok_X6_mended hx2 rfl ⟨_, rfl⟩ q_1364 rfl ⟨Nat.le_of_ble_eq_true rfl, Nat.le_of_ble_eq_true rfl⟩ rfl rfl (Nat.le_of_ble_eq_true rfl) dL_law_1216 rfl (fun hp_1216 => ?_)
  refine r_icmp_eq C (tgt := 1621) (q := 1222) dL_law_1219 (by decide) rfl (fun c_1219 => ?_) (fun c_1219 => ?_)
  · replace h := (if_pos c_1219).symm.trans h
    exact w_L_law_b1621 C hr hX hbl hbA _ hk_18 _ _ _ _ hx1 hx2 h
  · replace h := (if_neg c_1219).symm.trans h
    refine r_iconst C (v := 0) (q := 1223) dL_law_1222 (by decide) rfl ?_
    obtain ⟨rfl, rfl⟩ := Prod.mk.inj (Option.some.inj h)
    exact hr _ _ dL_law_1223 (Or.inl rfl)

set_option maxHeartbeats 4000000 in
set_option maxRecDepth 100000 in
theorem w_L_law_b1188 {X : CX} (C : Cok X RL cL_law 4 13 478) {σ' : St} {r : Int32} (hr : RtZ X cL_law r σ') {b L : Nat} {xs : Nat → Int32} (hX : va_X b L xs (xs_ X) (xs_ X).heap) (hbl : b < (xs_ X).heap.size) (hbA : ¬ dom (xG X) b) (k_18 : St → Nat → Nat → Int32 → Option (Int32 × St)) (hk_18 : ∀ (σ : St) (x1 : Nat) (x2 : Nat) (x3 : Int32), kd x1 = 6 → kd x2 = 7 → k_18 σ x1 x2 x3 = some (r, σ') → V X σ 18 [(0, .ref b), (1, .ref ((xG X).1 x1)), (2, .ref ((xG X).1 x2)), (3, .int x3)] []) (σ : St) (x1 : Nat) (x2 : Nat) (x3 : Int32) (hx1 : kd x1 = 6) (hx2 : kd x2 = 7) (h : f_L_law_b1188 L xs k_18 σ x1 x2 x3 = some (r, σ')) : V X σ 1188 [(0, .ref b), (1, .ref ((xG X).1 x1)), (2, .ref ((xG X).1 x2)), (3, .int x3)] [] := by
  unfold f_L_law_b1188 at h
  refine r_aload_n C 1 (q := 1189) dL_law_1188 rfl rfl ?_
  obtain ⟨v_1189, s_1189, e_1189, h⟩ := bs2 h
  refine r_callV C (ci := 5) (st := []) (st2 := [.int v_1189]) (q := 1192) (m_X5_safest (xG X) (xl X) hx1 e_1189) ok_X5_safest hx1 rfl ⟨_, rfl⟩ q_784 rfl ⟨Nat.le_of_ble_eq_true rfl, Nat.le_of_ble_eq_true rfl⟩ rfl rfl (Nat.le_of_ble_eq_true rfl) dL_law_1189 rfl (fun hp_1189 => ?_)
  refine r_aload_n C 2 (q := 1193) dL_law_1192 rfl rfl ?_
  obtain ⟨v_1193, s_1193, e_1193, h⟩ := bs2 h
  refine r_callV C (ci := 6) (st := [.int v_1189]) (st2 := [.int v_1193, .int v_1189]) (q := 1196) (m_X6_safest (xG X) (xl X) hx2 e_1193) ok_X6_safest hx2 rfl ⟨_, rfl⟩ q_1360 rfl ⟨Nat.le_of_ble_eq_true rfl, Nat.le_of_ble_eq_true rfl⟩ rfl rfl (Nat.le_of_ble_eq_true rfl) dL_law_1193 rfl (fun hp_1193 => ?_)
  refine r_icmp_eq C (tgt := 1621) (q := 1199) dL_law_1196 (by decide) rfl (fun c_1196 => ?_) (fun c_1196 => ?_)
  · replace h := (if_pos c_1196).symm.trans h
    exact w_L_law_b1621 C hr hX hbl hbA _ hk_18 _ _ _ _ hx1 hx2 h
  · replace h := (if_neg c_1196).symm.trans h
    refine r_iconst C (v := 0) (q := 1200) dL_law_1199 (by decide) rfl ?_
    obtain ⟨rfl, rfl⟩ := Prod.mk.inj (Option.some.inj h)
    exact hr _ _ dL_law_1200 (Or.inl rfl)

set_option maxHeartbeats 4000000 in
set_option maxRecDepth 100000 in
theorem w_L_law_b1165 {X : CX} (C : Cok X RL cL_law 4 13 478) {σ' : St} {r : Int32} (hr : RtZ X cL_law r σ') {b L : Nat} {xs : Nat → Int32} (hX : va_X b L xs (xs_ X) (xs_ X).heap) (hbl : b < (xs_ X).heap.size) (hbA : ¬ dom (xG X) b) (k_18 : St → Nat → Nat → Int32 → Option (Int32 × St)) (hk_18 : ∀ (σ : St) (x1 : Nat) (x2 : Nat) (x3 : Int32), kd x1 = 6 → kd x2 = 7 → k_18 σ x1 x2 x3 = some (r, σ') → V X σ 18 [(0, .ref b), (1, .ref ((xG X).1 x1)), (2, .ref ((xG X).1 x2)), (3, .int x3)] []) (σ : St) (x1 : Nat) (x2 : Nat) (x3 : Int32) (hx1 : kd x1 = 6) (hx2 : kd x2 = 7) (h : f_L_law_b1165 L xs k_18 σ x1 x2 x3 = some (r, σ')) : V X σ 1165 [(0, .ref b), (1, .ref ((xG X).1 x1)), (2, .ref ((xG X).1 x2)), (3, .int x3)] [] := by
  unfold f_L_law_b1165 at h
  refine r_aload_n C 1 (q := 1166) dL_law_1165 rfl rfl ?_
  refine r_aload_n C 0 (q := 1167) dL_law_1166 rfl rfl ?_
  refine r_iload_n C 3 (q := 1168) dL_law_1167 rfl rfl ?_
  refine r_iconst C (v := 1) (q := 1169) dL_law_1168 (by decide) rfl ?_
  refine r_iadd C (q := 1170) dL_law_1169 rfl ?_
  obtain ⟨v_1170, e_1170, h⟩ := bs h
  refine r_sld C hX hbl hbA (q := 1171) dL_law_1170 e_1170 rfl ?_
  obtain ⟨v_1171, s_1171, e_1171, h⟩ := bs2 h
  refine r_callV C (ci := 5) (st := []) (st2 := [.int v_1171]) (q := 1174) (m_X5_safe (xG X) (xl X) hx1 e_1171) ok_X5_safe hx1 rfl ⟨_, rfl⟩ q_775 rfl ⟨Nat.le_of_ble_eq_true rfl, Nat.le_of_ble_eq_true rfl⟩ rfl rfl (Nat.le_of_ble_eq_true rfl) dL_law_1171 rfl (fun hp_1171 => ?_)
  refine r_aload_n C 2 (q := 1175) dL_law_1174 rfl rfl ?_
  refine r_aload_n C 0 (q := 1176) dL_law_1175 rfl rfl ?_
  refine r_iload_n C 3 (q := 1177) dL_law_1176 rfl rfl ?_
  refine r_iconst C (v := 1) (q := 1178) dL_law_1177 (by decide) rfl ?_
  refine r_iadd C (q := 1179) dL_law_1178 rfl ?_
  obtain ⟨v_1179, e_1179, h⟩ := bs h
  refine r_sld C hX hbl hbA (q := 1180) dL_law_1179 e_1179 rfl ?_
  obtain ⟨v_1180, s_1180, e_1180, h⟩ := bs2 h
  refine r_callV C (ci := 6) (st := [.int v_1171]) (st2 := [.int v_1180, .int v_1171]) (q := 1183) (m_X6_safe (xG X) (xl X) hx2 e_1180) ok_X6_safe hx2 rfl ⟨_, rfl⟩ q_1352 rfl ⟨Nat.le_of_ble_eq_true rfl, Nat.le_of_ble_eq_true rfl⟩ rfl rfl (Nat.le_of_ble_eq_true rfl) dL_law_1180 rfl (fun hp_1180 => ?_)
  refine r_icmp_eq C (tgt := 1621) (q := 1186) dL_law_1183 (by decide) rfl (fun c_1183 => ?_) (fun c_1183 => ?_)
  · replace h := (if_pos c_1183).symm.trans h
    exact w_L_law_b1621 C hr hX hbl hbA _ hk_18 _ _ _ _ hx1 hx2 h
  · replace h := (if_neg c_1183).symm.trans h
    refine r_iconst C (v := 0) (q := 1187) dL_law_1186 (by decide) rfl ?_
    obtain ⟨rfl, rfl⟩ := Prod.mk.inj (Option.some.inj h)
    exact hr _ _ dL_law_1187 (Or.inl rfl)

set_option maxHeartbeats 4000000 in
set_option maxRecDepth 100000 in
theorem w_L_law_b1132 {X : CX} (C : Cok X RL cL_law 4 13 478) {σ' : St} {r : Int32} (hr : RtZ X cL_law r σ') {b L : Nat} {xs : Nat → Int32} (hX : va_X b L xs (xs_ X) (xs_ X).heap) (hbl : b < (xs_ X).heap.size) (hbA : ¬ dom (xG X) b) (k_18 : St → Nat → Nat → Int32 → Option (Int32 × St)) (hk_18 : ∀ (σ : St) (x1 : Nat) (x2 : Nat) (x3 : Int32), kd x1 = 6 → kd x2 = 7 → k_18 σ x1 x2 x3 = some (r, σ') → V X σ 18 [(0, .ref b), (1, .ref ((xG X).1 x1)), (2, .ref ((xG X).1 x2)), (3, .int x3)] []) (σ : St) (x1 : Nat) (x2 : Nat) (x3 : Int32) (hx1 : kd x1 = 6) (hx2 : kd x2 = 7) (h : f_L_law_b1132 L xs k_18 σ x1 x2 x3 = some (r, σ')) : V X σ 1132 [(0, .ref b), (1, .ref ((xG X).1 x1)), (2, .ref ((xG X).1 x2)), (3, .int x3)] [] := by
  unfold f_L_law_b1132 at h
  refine r_aload_n C 1 (q := 1133) dL_law_1132 rfl rfl ?_
  refine r_aload_n C 0 (q := 1134) dL_law_1133 rfl rfl ?_
  refine r_iload_n C 3 (q := 1135) dL_law_1134 rfl rfl ?_
  refine r_iconst C (v := 1) (q := 1136) dL_law_1135 (by decide) rfl ?_
  refine r_iadd C (q := 1137) dL_law_1136 rfl ?_
  obtain ⟨v_1137, e_1137, h⟩ := bs h
  refine r_sld C hX hbl hbA (q := 1138) dL_law_1137 e_1137 rfl ?_
  refine r_aload_n C 0 (q := 1139) dL_law_1138 rfl rfl ?_
  refine r_iload_n C 3 (q := 1140) dL_law_1139 rfl rfl ?_
  refine r_iconst C (v := 2) (q := 1141) dL_law_1140 (by decide) rfl ?_
  refine r_iadd C (q := 1142) dL_law_1141 rfl ?_
  obtain ⟨v_1142, e_1142, h⟩ := bs h
  refine r_sld C hX hbl hbA (q := 1143) dL_law_1142 e_1142 rfl ?_
  obtain ⟨v_1143, s_1143, e_1143, h⟩ := bs2 h
  refine r_callV C (ci := 5) (st := []) (st2 := [.int v_1143]) (q := 1146) (m_X5_toOpen (xG X) (xl X) hx1 e_1143) ok_X5_toOpen hx1 rfl ⟨_, rfl⟩ q_756 rfl ⟨Nat.le_of_ble_eq_true rfl, Nat.le_of_ble_eq_true rfl⟩ rfl rfl (Nat.le_of_ble_eq_true rfl) dL_law_1143 rfl (fun hp_1143 => ?_)
  refine r_aload_n C 2 (q := 1147) dL_law_1146 rfl rfl ?_
  refine r_aload_n C 0 (q := 1148) dL_law_1147 rfl rfl ?_
  refine r_iload_n C 3 (q := 1149) dL_law_1148 rfl rfl ?_
  refine r_iconst C (v := 1) (q := 1150) dL_law_1149 (by decide) rfl ?_
  refine r_iadd C (q := 1151) dL_law_1150 rfl ?_
  obtain ⟨v_1151, e_1151, h⟩ := bs h
  refine r_sld C hX hbl hbA (q := 1152) dL_law_1151 e_1151 rfl ?_
  refine r_aload_n C 0 (q := 1153) dL_law_1152 rfl rfl ?_
  refine r_iload_n C 3 (q := 1154) dL_law_1153 rfl rfl ?_
  refine r_iconst C (v := 2) (q := 1155) dL_law_1154 (by decide) rfl ?_
  refine r_iadd C (q := 1156) dL_law_1155 rfl ?_
  obtain ⟨v_1156, e_1156, h⟩ := bs h
  refine r_sld C hX hbl hbA (q := 1157) dL_law_1156 e_1156 rfl ?_
  obtain ⟨v_1157, s_1157, e_1157, h⟩ := bs2 h
  refine r_callV C (ci := 6) (st := [.int v_1143]) (st2 := [.int v_1157, .int v_1143]) (q := 1160) (m_X6_toOpen (xG X) (xl X) hx2 e_1157) ok_X6_toOpen hx2 rfl ⟨_, rfl⟩ q_1340 rfl ⟨Nat.le_of_ble_eq_true rfl, Nat.le_of_ble_eq_true rfl⟩ rfl rfl (Nat.le_of_ble_eq_true rfl) dL_law_1157 rfl (fun hp_1157 => ?_)
  refine r_icmp_eq C (tgt := 1621) (q := 1163) dL_law_1160 (by decide) rfl (fun c_1160 => ?_) (fun c_1160 => ?_)
  · replace h := (if_pos c_1160).symm.trans h
    exact w_L_law_b1621 C hr hX hbl hbA _ hk_18 _ _ _ _ hx1 hx2 h
  · replace h := (if_neg c_1160).symm.trans h
    refine r_iconst C (v := 0) (q := 1164) dL_law_1163 (by decide) rfl ?_
    obtain ⟨rfl, rfl⟩ := Prod.mk.inj (Option.some.inj h)
    exact hr _ _ dL_law_1164 (Or.inl rfl)

set_option maxHeartbeats 4000000 in
set_option maxRecDepth 100000 in
theorem w_L_law_b1099 {X : CX} (C : Cok X RL cL_law 4 13 478) {σ' : St} {r : Int32} (hr : RtZ X cL_law r σ') {b L : Nat} {xs : Nat → Int32} (hX : va_X b L xs (xs_ X) (xs_ X).heap) (hbl : b < (xs_ X).heap.size) (hbA : ¬ dom (xG X) b) (k_18 : St → Nat → Nat → Int32 → Option (Int32 × St)) (hk_18 : ∀ (σ : St) (x1 : Nat) (x2 : Nat) (x3 : Int32), kd x1 = 6 → kd x2 = 7 → k_18 σ x1 x2 x3 = some (r, σ') → V X σ 18 [(0, .ref b), (1, .ref ((xG X).1 x1)), (2, .ref ((xG X).1 x2)), (3, .int x3)] []) (σ : St) (x1 : Nat) (x2 : Nat) (x3 : Int32) (hx1 : kd x1 = 6) (hx2 : kd x2 = 7) (h : f_L_law_b1099 L xs k_18 σ x1 x2 x3 = some (r, σ')) : V X σ 1099 [(0, .ref b), (1, .ref ((xG X).1 x1)), (2, .ref ((xG X).1 x2)), (3, .int x3)] [] := by
  unfold f_L_law_b1099 at h
  refine r_aload_n C 1 (q := 1100) dL_law_1099 rfl rfl ?_
  refine r_aload_n C 0 (q := 1101) dL_law_1100 rfl rfl ?_
  refine r_iload_n C 3 (q := 1102) dL_law_1101 rfl rfl ?_
  refine r_iconst C (v := 1) (q := 1103) dL_law_1102 (by decide) rfl ?_
  refine r_iadd C (q := 1104) dL_law_1103 rfl ?_
  obtain ⟨v_1104, e_1104, h⟩ := bs h
  refine r_sld C hX hbl hbA (q := 1105) dL_law_1104 e_1104 rfl ?_
  refine r_aload_n C 0 (q := 1106) dL_law_1105 rfl rfl ?_
  refine r_iload_n C 3 (q := 1107) dL_law_1106 rfl rfl ?_
  refine r_iconst C (v := 2) (q := 1108) dL_law_1107 (by decide) rfl ?_
  refine r_iadd C (q := 1109) dL_law_1108 rfl ?_
  obtain ⟨v_1109, e_1109, h⟩ := bs h
  refine r_sld C hX hbl hbA (q := 1110) dL_law_1109 e_1109 rfl ?_
  obtain ⟨v_1110, s_1110, e_1110, h⟩ := bs2 h
  refine r_callV C (ci := 5) (st := []) (st2 := [.int v_1110]) (q := 1113) (m_X5_asked (xG X) (xl X) hx1 e_1110) ok_X5_asked hx1 rfl ⟨_, rfl⟩ q_737 rfl ⟨Nat.le_of_ble_eq_true rfl, Nat.le_of_ble_eq_true rfl⟩ rfl rfl (Nat.le_of_ble_eq_true rfl) dL_law_1110 rfl (fun hp_1110 => ?_)
  refine r_aload_n C 2 (q := 1114) dL_law_1113 rfl rfl ?_
  refine r_aload_n C 0 (q := 1115) dL_law_1114 rfl rfl ?_
  refine r_iload_n C 3 (q := 1116) dL_law_1115 rfl rfl ?_
  refine r_iconst C (v := 1) (q := 1117) dL_law_1116 (by decide) rfl ?_
  refine r_iadd C (q := 1118) dL_law_1117 rfl ?_
  obtain ⟨v_1118, e_1118, h⟩ := bs h
  refine r_sld C hX hbl hbA (q := 1119) dL_law_1118 e_1118 rfl ?_
  refine r_aload_n C 0 (q := 1120) dL_law_1119 rfl rfl ?_
  refine r_iload_n C 3 (q := 1121) dL_law_1120 rfl rfl ?_
  refine r_iconst C (v := 2) (q := 1122) dL_law_1121 (by decide) rfl ?_
  refine r_iadd C (q := 1123) dL_law_1122 rfl ?_
  obtain ⟨v_1123, e_1123, h⟩ := bs h
  refine r_sld C hX hbl hbA (q := 1124) dL_law_1123 e_1123 rfl ?_
  obtain ⟨v_1124, s_1124, e_1124, h⟩ := bs2 h
  refine r_callV C (ci := 6) (st := [.int v_1110]) (st2 := [.int v_1124, .int v_1110]) (q := 1127) (m_X6_asked (xG X) (xl X) hx2 e_1124) ok_X6_asked hx2 rfl ⟨_, rfl⟩ q_1336 rfl ⟨Nat.le_of_ble_eq_true rfl, Nat.le_of_ble_eq_true rfl⟩ rfl rfl (Nat.le_of_ble_eq_true rfl) dL_law_1124 rfl (fun hp_1124 => ?_)
  refine r_icmp_eq C (tgt := 1621) (q := 1130) dL_law_1127 (by decide) rfl (fun c_1127 => ?_) (fun c_1127 => ?_)
  · replace h := (if_pos c_1127).symm.trans h
    exact w_L_law_b1621 C hr hX hbl hbA _ hk_18 _ _ _ _ hx1 hx2 h
  · replace h := (if_neg c_1127).symm.trans h
    refine r_iconst C (v := 0) (q := 1131) dL_law_1130 (by decide) rfl ?_
    obtain ⟨rfl, rfl⟩ := Prod.mk.inj (Option.some.inj h)
    exact hr _ _ dL_law_1131 (Or.inl rfl)

set_option maxHeartbeats 4000000 in
set_option maxRecDepth 100000 in
theorem w_L_law_b1066 {X : CX} (C : Cok X RL cL_law 4 13 478) {σ' : St} {r : Int32} (hr : RtZ X cL_law r σ') {b L : Nat} {xs : Nat → Int32} (hX : va_X b L xs (xs_ X) (xs_ X).heap) (hbl : b < (xs_ X).heap.size) (hbA : ¬ dom (xG X) b) (k_18 : St → Nat → Nat → Int32 → Option (Int32 × St)) (hk_18 : ∀ (σ : St) (x1 : Nat) (x2 : Nat) (x3 : Int32), kd x1 = 6 → kd x2 = 7 → k_18 σ x1 x2 x3 = some (r, σ') → V X σ 18 [(0, .ref b), (1, .ref ((xG X).1 x1)), (2, .ref ((xG X).1 x2)), (3, .int x3)] []) (σ : St) (x1 : Nat) (x2 : Nat) (x3 : Int32) (hx1 : kd x1 = 6) (hx2 : kd x2 = 7) (h : f_L_law_b1066 L xs k_18 σ x1 x2 x3 = some (r, σ')) : V X σ 1066 [(0, .ref b), (1, .ref ((xG X).1 x1)), (2, .ref ((xG X).1 x2)), (3, .int x3)] [] := by
  unfold f_L_law_b1066 at h
  refine r_aload_n C 1 (q := 1067) dL_law_1066 rfl rfl ?_
  refine r_aload_n C 0 (q := 1068) dL_law_1067 rfl rfl ?_
  refine r_iload_n C 3 (q := 1069) dL_law_1068 rfl rfl ?_
  refine r_iconst C (v := 1) (q := 1070) dL_law_1069 (by decide) rfl ?_
  refine r_iadd C (q := 1071) dL_law_1070 rfl ?_
  obtain ⟨v_1071, e_1071, h⟩ := bs h
  refine r_sld C hX hbl hbA (q := 1072) dL_law_1071 e_1071 rfl ?_
  refine r_aload_n C 0 (q := 1073) dL_law_1072 rfl rfl ?_
  refine r_iload_n C 3 (q := 1074) dL_law_1073 rfl rfl ?_
  refine r_iconst C (v := 2) (q := 1075) dL_law_1074 (by decide) rfl ?_
  refine r_iadd C (q := 1076) dL_law_1075 rfl ?_
  obtain ⟨v_1076, e_1076, h⟩ := bs h
  refine r_sld C hX hbl hbA (q := 1077) dL_law_1076 e_1076 rfl ?_
  obtain ⟨v_1077, s_1077, e_1077, h⟩ := bs2 h
  refine r_callV C (ci := 5) (st := []) (st2 := [.int v_1077]) (q := 1080) (m_X5_cuts (xG X) (xl X) hx1 e_1077) ok_X5_cuts hx1 rfl ⟨_, rfl⟩ q_704 rfl ⟨Nat.le_of_ble_eq_true rfl, Nat.le_of_ble_eq_true rfl⟩ rfl rfl (Nat.le_of_ble_eq_true rfl) dL_law_1077 rfl (fun hp_1077 => ?_)
  refine r_aload_n C 2 (q := 1081) dL_law_1080 rfl rfl ?_
  refine r_aload_n C 0 (q := 1082) dL_law_1081 rfl rfl ?_
  refine r_iload_n C 3 (q := 1083) dL_law_1082 rfl rfl ?_
  refine r_iconst C (v := 1) (q := 1084) dL_law_1083 (by decide) rfl ?_
  refine r_iadd C (q := 1085) dL_law_1084 rfl ?_
  obtain ⟨v_1085, e_1085, h⟩ := bs h
  refine r_sld C hX hbl hbA (q := 1086) dL_law_1085 e_1085 rfl ?_
  refine r_aload_n C 0 (q := 1087) dL_law_1086 rfl rfl ?_
  refine r_iload_n C 3 (q := 1088) dL_law_1087 rfl rfl ?_
  refine r_iconst C (v := 2) (q := 1089) dL_law_1088 (by decide) rfl ?_
  refine r_iadd C (q := 1090) dL_law_1089 rfl ?_
  obtain ⟨v_1090, e_1090, h⟩ := bs h
  refine r_sld C hX hbl hbA (q := 1091) dL_law_1090 e_1090 rfl ?_
  obtain ⟨v_1091, s_1091, e_1091, h⟩ := bs2 h
  refine r_callV C (ci := 6) (st := [.int v_1077]) (st2 := [.int v_1091, .int v_1077]) (q := 1094) (m_X6_cuts (xG X) (xl X) hx2 e_1091) ok_X6_cuts hx2 rfl ⟨_, rfl⟩ q_1308 rfl ⟨Nat.le_of_ble_eq_true rfl, Nat.le_of_ble_eq_true rfl⟩ rfl rfl (Nat.le_of_ble_eq_true rfl) dL_law_1091 rfl (fun hp_1091 => ?_)
  refine r_icmp_eq C (tgt := 1621) (q := 1097) dL_law_1094 (by decide) rfl (fun c_1094 => ?_) (fun c_1094 => ?_)
  · replace h := (if_pos c_1094).symm.trans h
    exact w_L_law_b1621 C hr hX hbl hbA _ hk_18 _ _ _ _ hx1 hx2 h
  · replace h := (if_neg c_1094).symm.trans h
    refine r_iconst C (v := 0) (q := 1098) dL_law_1097 (by decide) rfl ?_
    obtain ⟨rfl, rfl⟩ := Prod.mk.inj (Option.some.inj h)
    exact hr _ _ dL_law_1098 (Or.inl rfl)

set_option maxHeartbeats 4000000 in
set_option maxRecDepth 100000 in
theorem w_L_law_b1043 {X : CX} (C : Cok X RL cL_law 4 13 478) {σ' : St} {r : Int32} (hr : RtZ X cL_law r σ') {b L : Nat} {xs : Nat → Int32} (hX : va_X b L xs (xs_ X) (xs_ X).heap) (hbl : b < (xs_ X).heap.size) (hbA : ¬ dom (xG X) b) (k_18 : St → Nat → Nat → Int32 → Option (Int32 × St)) (hk_18 : ∀ (σ : St) (x1 : Nat) (x2 : Nat) (x3 : Int32), kd x1 = 6 → kd x2 = 7 → k_18 σ x1 x2 x3 = some (r, σ') → V X σ 18 [(0, .ref b), (1, .ref ((xG X).1 x1)), (2, .ref ((xG X).1 x2)), (3, .int x3)] []) (σ : St) (x1 : Nat) (x2 : Nat) (x3 : Int32) (hx1 : kd x1 = 6) (hx2 : kd x2 = 7) (h : f_L_law_b1043 L xs k_18 σ x1 x2 x3 = some (r, σ')) : V X σ 1043 [(0, .ref b), (1, .ref ((xG X).1 x1)), (2, .ref ((xG X).1 x2)), (3, .int x3)] [] := by
  unfold f_L_law_b1043 at h
  refine r_aload_n C 1 (q := 1044) dL_law_1043 rfl rfl ?_
  refine r_aload_n C 0 (q := 1045) dL_law_1044 rfl rfl ?_
  refine r_iload_n C 3 (q := 1046) dL_law_1045 rfl rfl ?_
  refine r_iconst C (v := 1) (q := 1047) dL_law_1046 (by decide) rfl ?_
  refine r_iadd C (q := 1048) dL_law_1047 rfl ?_
  obtain ⟨v_1048, e_1048, h⟩ := bs h
  refine r_sld C hX hbl hbA (q := 1049) dL_law_1048 e_1048 rfl ?_
  obtain ⟨v_1049, s_1049, e_1049, h⟩ := bs2 h
  refine r_callV C (ci := 5) (st := []) (st2 := [.int v_1049]) (q := 1052) (m_X5_list (xG X) (xl X) hx1 e_1049) ok_X5_list hx1 rfl ⟨_, rfl⟩ q_700 rfl ⟨Nat.le_of_ble_eq_true rfl, Nat.le_of_ble_eq_true rfl⟩ rfl rfl (Nat.le_of_ble_eq_true rfl) dL_law_1049 rfl (fun hp_1049 => ?_)
  refine r_aload_n C 2 (q := 1053) dL_law_1052 rfl rfl ?_
  refine r_aload_n C 0 (q := 1054) dL_law_1053 rfl rfl ?_
  refine r_iload_n C 3 (q := 1055) dL_law_1054 rfl rfl ?_
  refine r_iconst C (v := 1) (q := 1056) dL_law_1055 (by decide) rfl ?_
  refine r_iadd C (q := 1057) dL_law_1056 rfl ?_
  obtain ⟨v_1057, e_1057, h⟩ := bs h
  refine r_sld C hX hbl hbA (q := 1058) dL_law_1057 e_1057 rfl ?_
  obtain ⟨v_1058, s_1058, e_1058, h⟩ := bs2 h
  refine r_callV C (ci := 6) (st := [.int v_1049]) (st2 := [.int v_1058, .int v_1049]) (q := 1061) (m_X6_list (xG X) (xl X) hx2 e_1058) ok_X6_list hx2 rfl ⟨_, rfl⟩ q_1304 rfl ⟨Nat.le_of_ble_eq_true rfl, Nat.le_of_ble_eq_true rfl⟩ rfl rfl (Nat.le_of_ble_eq_true rfl) dL_law_1058 rfl (fun hp_1058 => ?_)
  refine r_icmp_eq C (tgt := 1621) (q := 1064) dL_law_1061 (by decide) rfl (fun c_1061 => ?_) (fun c_1061 => ?_)
  · replace h := (if_pos c_1061).symm.trans h
    exact w_L_law_b1621 C hr hX hbl hbA _ hk_18 _ _ _ _ hx1 hx2 h
  · replace h := (if_neg c_1061).symm.trans h
    refine r_iconst C (v := 0) (q := 1065) dL_law_1064 (by decide) rfl ?_
    obtain ⟨rfl, rfl⟩ := Prod.mk.inj (Option.some.inj h)
    exact hr _ _ dL_law_1065 (Or.inl rfl)

set_option maxHeartbeats 4000000 in
set_option maxRecDepth 100000 in
theorem w_L_law_b1020 {X : CX} (C : Cok X RL cL_law 4 13 478) {σ' : St} {r : Int32} (hr : RtZ X cL_law r σ') {b L : Nat} {xs : Nat → Int32} (hX : va_X b L xs (xs_ X) (xs_ X).heap) (hbl : b < (xs_ X).heap.size) (hbA : ¬ dom (xG X) b) (k_18 : St → Nat → Nat → Int32 → Option (Int32 × St)) (hk_18 : ∀ (σ : St) (x1 : Nat) (x2 : Nat) (x3 : Int32), kd x1 = 6 → kd x2 = 7 → k_18 σ x1 x2 x3 = some (r, σ') → V X σ 18 [(0, .ref b), (1, .ref ((xG X).1 x1)), (2, .ref ((xG X).1 x2)), (3, .int x3)] []) (σ : St) (x1 : Nat) (x2 : Nat) (x3 : Int32) (hx1 : kd x1 = 6) (hx2 : kd x2 = 7) (h : f_L_law_b1020 L xs k_18 σ x1 x2 x3 = some (r, σ')) : V X σ 1020 [(0, .ref b), (1, .ref ((xG X).1 x1)), (2, .ref ((xG X).1 x2)), (3, .int x3)] [] := by
  unfold f_L_law_b1020 at h
  refine r_aload_n C 1 (q := 1021) dL_law_1020 rfl rfl ?_
  refine r_aload_n C 0 (q := 1022) dL_law_1021 rfl rfl ?_
  refine r_iload_n C 3 (q := 1023) dL_law_1022 rfl rfl ?_
  refine r_iconst C (v := 1) (q := 1024) dL_law_1023 (by decide) rfl ?_
  refine r_iadd C (q := 1025) dL_law_1024 rfl ?_
  obtain ⟨v_1025, e_1025, h⟩ := bs h
  refine r_sld C hX hbl hbA (q := 1026) dL_law_1025 e_1025 rfl ?_
  obtain ⟨v_1026, s_1026, e_1026, h⟩ := bs2 h
  refine r_callV C (ci := 5) (st := []) (st2 := [.int v_1026]) (q := 1029) (m_X5_judge (xG X) (xl X) hx1 e_1026) ok_X5_judge hx1 rfl ⟨_, rfl⟩ q_687 rfl ⟨Nat.le_of_ble_eq_true rfl, Nat.le_of_ble_eq_true rfl⟩ rfl rfl (Nat.le_of_ble_eq_true rfl) dL_law_1026 rfl (fun hp_1026 => ?_)
  refine r_aload_n C 2 (q := 1030) dL_law_1029 rfl rfl ?_
  refine r_aload_n C 0 (q := 1031) dL_law_1030 rfl rfl ?_
  refine r_iload_n C 3 (q := 1032) dL_law_1031 rfl rfl ?_
  refine r_iconst C (v := 1) (q := 1033) dL_law_1032 (by decide) rfl ?_
  refine r_iadd C (q := 1034) dL_law_1033 rfl ?_
  obtain ⟨v_1034, e_1034, h⟩ := bs h
  refine r_sld C hX hbl hbA (q := 1035) dL_law_1034 e_1034 rfl ?_
  obtain ⟨v_1035, s_1035, e_1035, h⟩ := bs2 h
  refine r_callV C (ci := 6) (st := [.int v_1026]) (st2 := [.int v_1035, .int v_1026]) (q := 1038) (m_X6_judge (xG X) (xl X) hx2 e_1035) ok_X6_judge hx2 rfl ⟨_, rfl⟩ q_1292 rfl ⟨Nat.le_of_ble_eq_true rfl, Nat.le_of_ble_eq_true rfl⟩ rfl rfl (Nat.le_of_ble_eq_true rfl) dL_law_1035 rfl (fun hp_1035 => ?_)
  refine r_icmp_eq C (tgt := 1621) (q := 1041) dL_law_1038 (by decide) rfl (fun c_1038 => ?_) (fun c_1038 => ?_)
  · replace h := (if_pos c_1038).symm.trans h
    exact w_L_law_b1621 C hr hX hbl hbA _ hk_18 _ _ _ _ hx1 hx2 h
  · replace h := (if_neg c_1038).symm.trans h
    refine r_iconst C (v := 0) (q := 1042) dL_law_1041 (by decide) rfl ?_
    obtain ⟨rfl, rfl⟩ := Prod.mk.inj (Option.some.inj h)
    exact hr _ _ dL_law_1042 (Or.inl rfl)

set_option maxHeartbeats 4000000 in
set_option maxRecDepth 100000 in
theorem w_L_law_b1007 {X : CX} (C : Cok X RL cL_law 4 13 478) {σ' : St} {r : Int32} (hr : RtZ X cL_law r σ') {b L : Nat} {xs : Nat → Int32} (hX : va_X b L xs (xs_ X) (xs_ X).heap) (hbl : b < (xs_ X).heap.size) (hbA : ¬ dom (xG X) b) (k_18 : St → Nat → Nat → Int32 → Option (Int32 × St)) (hk_18 : ∀ (σ : St) (x1 : Nat) (x2 : Nat) (x3 : Int32), kd x1 = 6 → kd x2 = 7 → k_18 σ x1 x2 x3 = some (r, σ') → V X σ 18 [(0, .ref b), (1, .ref ((xG X).1 x1)), (2, .ref ((xG X).1 x2)), (3, .int x3)] []) (σ : St) (x1 : Nat) (x2 : Nat) (x3 : Int32) (hx1 : kd x1 = 6) (hx2 : kd x2 = 7) (h : f_L_law_b1007 L xs k_18 σ x1 x2 x3 = some (r, σ')) : V X σ 1007 [(0, .ref b), (1, .ref ((xG X).1 x1)), (2, .ref ((xG X).1 x2)), (3, .int x3)] [] := by
  unfold f_L_law_b1007 at h
  refine r_aload_n C 1 (q := 1008) dL_law_1007 rfl rfl ?_
  obtain ⟨v_1008, e_1008, h⟩ := bs h
  refine r_callV C (ci := 5) (st := []) (st2 := [.int v_1008]) (q := 1011) (m_X5_wrongs (xG X) (xl X) hx1 e_1008) ok_X5_wrongs hx1 rfl ⟨_, rfl⟩ q_683 rfl ⟨Nat.le_of_ble_eq_true rfl, Nat.le_of_ble_eq_true rfl⟩ rfl rfl (Nat.le_of_ble_eq_true rfl) dL_law_1008 rfl (fun hp_1008 => ?_)
  refine r_aload_n C 2 (q := 1012) dL_law_1011 rfl rfl ?_
  obtain ⟨v_1012, e_1012, h⟩ := bs h
  refine r_callV C (ci := 6) (st := [.int v_1008]) (st2 := [.int v_1012, .int v_1008]) (q := 1015) (m_X6_wrongs (xG X) (xl X) hx2 e_1012) ok_X6_wrongs hx2 rfl ⟨_, rfl⟩ q_1287 rfl ⟨Nat.le_of_ble_eq_true rfl, Nat.le_of_ble_eq_true rfl⟩ rfl rfl (Nat.le_of_ble_eq_true rfl) dL_law_1012 rfl (fun hp_1012 => ?_)
  refine r_icmp_eq C (tgt := 1621) (q := 1018) dL_law_1015 (by decide) rfl (fun c_1015 => ?_) (fun c_1015 => ?_)
  · replace h := (if_pos c_1015).symm.trans h
    exact w_L_law_b1621 C hr hX hbl hbA _ hk_18 _ _ _ _ hx1 hx2 h
  · replace h := (if_neg c_1015).symm.trans h
    refine r_iconst C (v := 0) (q := 1019) dL_law_1018 (by decide) rfl ?_
    obtain ⟨rfl, rfl⟩ := Prod.mk.inj (Option.some.inj h)
    exact hr _ _ dL_law_1019 (Or.inl rfl)

set_option maxHeartbeats 4000000 in
set_option maxRecDepth 100000 in
theorem w_L_law_b994 {X : CX} (C : Cok X RL cL_law 4 13 478) {σ' : St} {r : Int32} (hr : RtZ X cL_law r σ') {b L : Nat} {xs : Nat → Int32} (hX : va_X b L xs (xs_ X) (xs_ X).heap) (hbl : b < (xs_ X).heap.size) (hbA : ¬ dom (xG X) b) (k_18 : St → Nat → Nat → Int32 → Option (Int32 × St)) (hk_18 : ∀ (σ : St) (x1 : Nat) (x2 : Nat) (x3 : Int32), kd x1 = 6 → kd x2 = 7 → k_18 σ x1 x2 x3 = some (r, σ') → V X σ 18 [(0, .ref b), (1, .ref ((xG X).1 x1)), (2, .ref ((xG X).1 x2)), (3, .int x3)] []) (σ : St) (x1 : Nat) (x2 : Nat) (x3 : Int32) (hx1 : kd x1 = 6) (hx2 : kd x2 = 7) (h : f_L_law_b994 L xs k_18 σ x1 x2 x3 = some (r, σ')) : V X σ 994 [(0, .ref b), (1, .ref ((xG X).1 x1)), (2, .ref ((xG X).1 x2)), (3, .int x3)] [] := by
  unfold f_L_law_b994 at h
  refine r_aload_n C 1 (q := 995) dL_law_994 rfl rfl ?_
  obtain ⟨v_995, e_995, h⟩ := bs h
  refine r_callV C (ci := 5) (st := []) (st2 := [.int v_995]) (q := 998) (m_X5_wrong (xG X) (xl X) hx1 e_995) ok_X5_wrong hx1 rfl ⟨_, rfl⟩ q_679 rfl ⟨Nat.le_of_ble_eq_true rfl, Nat.le_of_ble_eq_true rfl⟩ rfl rfl (Nat.le_of_ble_eq_true rfl) dL_law_995 rfl (fun hp_995 => ?_)
  refine r_aload_n C 2 (q := 999) dL_law_998 rfl rfl ?_
  obtain ⟨v_999, e_999, h⟩ := bs h
  refine r_callV C (ci := 6) (st := [.int v_995]) (st2 := [.int v_999, .int v_995]) (q := 1002) (m_X6_wrong (xG X) (xl X) hx2 e_999) ok_X6_wrong hx2 rfl ⟨_, rfl⟩ q_1283 rfl ⟨Nat.le_of_ble_eq_true rfl, Nat.le_of_ble_eq_true rfl⟩ rfl rfl (Nat.le_of_ble_eq_true rfl) dL_law_999 rfl (fun hp_999 => ?_)
  refine r_icmp_eq C (tgt := 1621) (q := 1005) dL_law_1002 (by decide) rfl (fun c_1002 => ?_) (fun c_1002 => ?_)
  · replace h := (if_pos c_1002).symm.trans h
    exact w_L_law_b1621 C hr hX hbl hbA _ hk_18 _ _ _ _ hx1 hx2 h
  · replace h := (if_neg c_1002).symm.trans h
    refine r_iconst C (v := 0) (q := 1006) dL_law_1005 (by decide) rfl ?_
    obtain ⟨rfl, rfl⟩ := Prod.mk.inj (Option.some.inj h)
    exact hr _ _ dL_law_1006 (Or.inl rfl)

set_option maxHeartbeats 4000000 in
set_option maxRecDepth 100000 in
theorem w_L_law_b971 {X : CX} (C : Cok X RL cL_law 4 13 478) {σ' : St} {r : Int32} (hr : RtZ X cL_law r σ') {b L : Nat} {xs : Nat → Int32} (hX : va_X b L xs (xs_ X) (xs_ X).heap) (hbl : b < (xs_ X).heap.size) (hbA : ¬ dom (xG X) b) (k_18 : St → Nat → Nat → Int32 → Option (Int32 × St)) (hk_18 : ∀ (σ : St) (x1 : Nat) (x2 : Nat) (x3 : Int32), kd x1 = 6 → kd x2 = 7 → k_18 σ x1 x2 x3 = some (r, σ') → V X σ 18 [(0, .ref b), (1, .ref ((xG X).1 x1)), (2, .ref ((xG X).1 x2)), (3, .int x3)] []) (σ : St) (x1 : Nat) (x2 : Nat) (x3 : Int32) (hx1 : kd x1 = 6) (hx2 : kd x2 = 7) (h : f_L_law_b971 L xs k_18 σ x1 x2 x3 = some (r, σ')) : V X σ 971 [(0, .ref b), (1, .ref ((xG X).1 x1)), (2, .ref ((xG X).1 x2)), (3, .int x3)] [] := by
  unfold f_L_law_b971 at h
  refine r_aload_n C 1 (q := 972) dL_law_971 rfl rfl ?_
  refine r_aload_n C 0 (q := 973) dL_law_972 rfl rfl ?_
  refine r_iload_n C 3 (q := 974) dL_law_973 rfl rfl ?_
  refine r_iconst C (v := 1) (q := 975) dL_law_974 (by decide) rfl ?_
  refine r_iadd C (q := 976) dL_law_975 rfl ?_
  obtain ⟨v_976, e_976, h⟩ := bs h
  refine r_sld C hX hbl hbA (q := 977) dL_law_976 e_976 rfl ?_
  obtain ⟨v_977, s_977, e_977, h⟩ := bs2 h
  refine r_callV C (ci := 5) (st := []) (st2 := [.int v_977]) (q := 980) (m_X5_who (xG X) (xl X) hx1 e_977) ok_X5_who hx1 rfl ⟨_, rfl⟩ q_670 rfl ⟨Nat.le_of_ble_eq_true rfl, Nat.le_of_ble_eq_true rfl⟩ rfl rfl (Nat.le_of_ble_eq_true rfl) dL_law_977 rfl (fun hp_977 => ?_)
  refine r_aload_n C 2 (q := 981) dL_law_980 rfl rfl ?_
  refine r_aload_n C 0 (q := 982) dL_law_981 rfl rfl ?_
  refine r_iload_n C 3 (q := 983) dL_law_982 rfl rfl ?_
  refine r_iconst C (v := 1) (q := 984) dL_law_983 (by decide) rfl ?_
  refine r_iadd C (q := 985) dL_law_984 rfl ?_
  obtain ⟨v_985, e_985, h⟩ := bs h
  refine r_sld C hX hbl hbA (q := 986) dL_law_985 e_985 rfl ?_
  obtain ⟨v_986, s_986, e_986, h⟩ := bs2 h
  refine r_callV C (ci := 6) (st := [.int v_977]) (st2 := [.int v_986, .int v_977]) (q := 989) (m_X6_who (xG X) (xl X) hx2 e_986) ok_X6_who hx2 rfl ⟨_, rfl⟩ q_1275 rfl ⟨Nat.le_of_ble_eq_true rfl, Nat.le_of_ble_eq_true rfl⟩ rfl rfl (Nat.le_of_ble_eq_true rfl) dL_law_986 rfl (fun hp_986 => ?_)
  refine r_icmp_eq C (tgt := 1621) (q := 992) dL_law_989 (by decide) rfl (fun c_989 => ?_) (fun c_989 => ?_)
  · replace h := (if_pos c_989).symm.trans h
    exact w_L_law_b1621 C hr hX hbl hbA _ hk_18 _ _ _ _ hx1 hx2 h
  · replace h := (if_neg c_989).symm.trans h
    refine r_iconst C (v := 0) (q := 993) dL_law_992 (by decide) rfl ?_
    obtain ⟨rfl, rfl⟩ := Prod.mk.inj (Option.some.inj h)
    exact hr _ _ dL_law_993 (Or.inl rfl)

set_option maxHeartbeats 4000000 in
set_option maxRecDepth 100000 in
theorem w_L_law_b948 {X : CX} (C : Cok X RL cL_law 4 13 478) {σ' : St} {r : Int32} (hr : RtZ X cL_law r σ') {b L : Nat} {xs : Nat → Int32} (hX : va_X b L xs (xs_ X) (xs_ X).heap) (hbl : b < (xs_ X).heap.size) (hbA : ¬ dom (xG X) b) (k_18 : St → Nat → Nat → Int32 → Option (Int32 × St)) (hk_18 : ∀ (σ : St) (x1 : Nat) (x2 : Nat) (x3 : Int32), kd x1 = 6 → kd x2 = 7 → k_18 σ x1 x2 x3 = some (r, σ') → V X σ 18 [(0, .ref b), (1, .ref ((xG X).1 x1)), (2, .ref ((xG X).1 x2)), (3, .int x3)] []) (σ : St) (x1 : Nat) (x2 : Nat) (x3 : Int32) (hx1 : kd x1 = 6) (hx2 : kd x2 = 7) (h : f_L_law_b948 L xs k_18 σ x1 x2 x3 = some (r, σ')) : V X σ 948 [(0, .ref b), (1, .ref ((xG X).1 x1)), (2, .ref ((xG X).1 x2)), (3, .int x3)] [] := by
  unfold f_L_law_b948 at h
  refine r_aload_n C 1 (q := 949) dL_law_948 rfl rfl ?_
  refine r_aload_n C 0 (q := 950) dL_law_949 rfl rfl ?_
  refine r_iload_n C 3 (q := 951) dL_law_950 rfl rfl ?_
  refine r_iconst C (v := 1) (q := 952) dL_law_951 (by decide) rfl ?_
  refine r_iadd C (q := 953) dL_law_952 rfl ?_
  obtain ⟨v_953, e_953, h⟩ := bs h
  refine r_sld C hX hbl hbA (q := 954) dL_law_953 e_953 rfl ?_
  obtain ⟨v_954, s_954, e_954, h⟩ := bs2 h
  refine r_callV C (ci := 5) (st := []) (st2 := [.int v_954]) (q := 957) (m_X5_opened (xG X) (xl X) hx1 e_954) ok_X5_opened hx1 rfl ⟨_, rfl⟩ q_666 rfl ⟨Nat.le_of_ble_eq_true rfl, Nat.le_of_ble_eq_true rfl⟩ rfl rfl (Nat.le_of_ble_eq_true rfl) dL_law_954 rfl (fun hp_954 => ?_)
  refine r_aload_n C 2 (q := 958) dL_law_957 rfl rfl ?_
  refine r_aload_n C 0 (q := 959) dL_law_958 rfl rfl ?_
  refine r_iload_n C 3 (q := 960) dL_law_959 rfl rfl ?_
  refine r_iconst C (v := 1) (q := 961) dL_law_960 (by decide) rfl ?_
  refine r_iadd C (q := 962) dL_law_961 rfl ?_
  obtain ⟨v_962, e_962, h⟩ := bs h
  refine r_sld C hX hbl hbA (q := 963) dL_law_962 e_962 rfl ?_
  obtain ⟨v_963, s_963, e_963, h⟩ := bs2 h
  refine r_callV C (ci := 6) (st := [.int v_954]) (st2 := [.int v_963, .int v_954]) (q := 966) (m_X6_opened (xG X) (xl X) hx2 e_963) ok_X6_opened hx2 rfl ⟨_, rfl⟩ q_1271 rfl ⟨Nat.le_of_ble_eq_true rfl, Nat.le_of_ble_eq_true rfl⟩ rfl rfl (Nat.le_of_ble_eq_true rfl) dL_law_963 rfl (fun hp_963 => ?_)
  refine r_icmp_eq C (tgt := 1621) (q := 969) dL_law_966 (by decide) rfl (fun c_966 => ?_) (fun c_966 => ?_)
  · replace h := (if_pos c_966).symm.trans h
    exact w_L_law_b1621 C hr hX hbl hbA _ hk_18 _ _ _ _ hx1 hx2 h
  · replace h := (if_neg c_966).symm.trans h
    refine r_iconst C (v := 0) (q := 970) dL_law_969 (by decide) rfl ?_
    obtain ⟨rfl, rfl⟩ := Prod.mk.inj (Option.some.inj h)
    exact hr _ _ dL_law_970 (Or.inl rfl)

set_option maxHeartbeats 4000000 in
set_option maxRecDepth 100000 in
theorem w_L_law_b905 {X : CX} (C : Cok X RL cL_law 4 13 478) {σ' : St} {r : Int32} (hr : RtZ X cL_law r σ') {b L : Nat} {xs : Nat → Int32} (hX : va_X b L xs (xs_ X) (xs_ X).heap) (hbl : b < (xs_ X).heap.size) (hbA : ¬ dom (xG X) b) (k_18 : St → Nat → Nat → Int32 → Option (Int32 × St)) (hk_18 : ∀ (σ : St) (x1 : Nat) (x2 : Nat) (x3 : Int32), kd x1 = 6 → kd x2 = 7 → k_18 σ x1 x2 x3 = some (r, σ') → V X σ 18 [(0, .ref b), (1, .ref ((xG X).1 x1)), (2, .ref ((xG X).1 x2)), (3, .int x3)] []) (σ : St) (x1 : Nat) (x2 : Nat) (x3 : Int32) (hx1 : kd x1 = 6) (hx2 : kd x2 = 7) (h : f_L_law_b905 L xs k_18 σ x1 x2 x3 = some (r, σ')) : V X σ 905 [(0, .ref b), (1, .ref ((xG X).1 x1)), (2, .ref ((xG X).1 x2)), (3, .int x3)] [] := by
  unfold f_L_law_b905 at h
  refine r_aload_n C 1 (q := 906) dL_law_905 rfl rfl ?_
  refine r_aload_n C 0 (q := 907) dL_law_906 rfl rfl ?_
  refine r_iload_n C 3 (q := 908) dL_law_907 rfl rfl ?_
  refine r_iconst C (v := 1) (q := 909) dL_law_908 (by decide) rfl ?_
  refine r_iadd C (q := 910) dL_law_909 rfl ?_
  obtain ⟨v_910, e_910, h⟩ := bs h
  refine r_sld C hX hbl hbA (q := 911) dL_law_910 e_910 rfl ?_
  refine r_aload_n C 0 (q := 912) dL_law_911 rfl rfl ?_
  refine r_iload_n C 3 (q := 913) dL_law_912 rfl rfl ?_
  refine r_iconst C (v := 2) (q := 914) dL_law_913 (by decide) rfl ?_
  refine r_iadd C (q := 915) dL_law_914 rfl ?_
  obtain ⟨v_915, e_915, h⟩ := bs h
  refine r_sld C hX hbl hbA (q := 916) dL_law_915 e_915 rfl ?_
  refine r_aload_n C 0 (q := 917) dL_law_916 rfl rfl ?_
  refine r_iload_n C 3 (q := 918) dL_law_917 rfl rfl ?_
  refine r_iconst C (v := 3) (q := 919) dL_law_918 (by decide) rfl ?_
  refine r_iadd C (q := 920) dL_law_919 rfl ?_
  obtain ⟨v_920, e_920, h⟩ := bs h
  refine r_sld C hX hbl hbA (q := 921) dL_law_920 e_920 rfl ?_
  obtain ⟨v_921, s_921, e_921, h⟩ := bs2 h
  refine r_callV C (ci := 5) (st := []) (st2 := [.int v_921]) (q := 924) (m_X5_opens (xG X) (xl X) hx1 e_921) ok_X5_opens hx1 rfl ⟨_, rfl⟩ q_660 rfl ⟨Nat.le_of_ble_eq_true rfl, Nat.le_of_ble_eq_true rfl⟩ rfl rfl (Nat.le_of_ble_eq_true rfl) dL_law_921 rfl (fun hp_921 => ?_)
  refine r_aload_n C 2 (q := 925) dL_law_924 rfl rfl ?_
  refine r_aload_n C 0 (q := 926) dL_law_925 rfl rfl ?_
  refine r_iload_n C 3 (q := 927) dL_law_926 rfl rfl ?_
  refine r_iconst C (v := 1) (q := 928) dL_law_927 (by decide) rfl ?_
  refine r_iadd C (q := 929) dL_law_928 rfl ?_
  obtain ⟨v_929, e_929, h⟩ := bs h
  refine r_sld C hX hbl hbA (q := 930) dL_law_929 e_929 rfl ?_
  refine r_aload_n C 0 (q := 931) dL_law_930 rfl rfl ?_
  refine r_iload_n C 3 (q := 932) dL_law_931 rfl rfl ?_
  refine r_iconst C (v := 2) (q := 933) dL_law_932 (by decide) rfl ?_
  refine r_iadd C (q := 934) dL_law_933 rfl ?_
  obtain ⟨v_934, e_934, h⟩ := bs h
  refine r_sld C hX hbl hbA (q := 935) dL_law_934 e_934 rfl ?_
  refine r_aload_n C 0 (q := 936) dL_law_935 rfl rfl ?_
  refine r_iload_n C 3 (q := 937) dL_law_936 rfl rfl ?_
  refine r_iconst C (v := 3) (q := 938) dL_law_937 (by decide) rfl ?_
  refine r_iadd C (q := 939) dL_law_938 rfl ?_
  obtain ⟨v_939, e_939, h⟩ := bs h
  refine r_sld C hX hbl hbA (q := 940) dL_law_939 e_939 rfl ?_
  obtain ⟨v_940, s_940, e_940, h⟩ := bs2 h
  refine r_callV C (ci := 6) (st := [.int v_921]) (st2 := [.int v_940, .int v_921]) (q := 943) (m_X6_opens (xG X) (xl X) hx2 e_940) ok_X6_opens hx2 rfl ⟨_, rfl⟩ q_1267 rfl ⟨Nat.le_of_ble_eq_true rfl, Nat.le_of_ble_eq_true rfl⟩ rfl rfl (Nat.le_of_ble_eq_true rfl) dL_law_940 rfl (fun hp_940 => ?_)
  refine r_icmp_eq C (tgt := 1621) (q := 946) dL_law_943 (by decide) rfl (fun c_943 => ?_) (fun c_943 => ?_)
  · replace h := (if_pos c_943).symm.trans h
    exact w_L_law_b1621 C hr hX hbl hbA _ hk_18 _ _ _ _ hx1 hx2 h
  · replace h := (if_neg c_943).symm.trans h
    refine r_iconst C (v := 0) (q := 947) dL_law_946 (by decide) rfl ?_
    obtain ⟨rfl, rfl⟩ := Prod.mk.inj (Option.some.inj h)
    exact hr _ _ dL_law_947 (Or.inl rfl)

set_option maxHeartbeats 4000000 in
set_option maxRecDepth 100000 in
theorem w_L_law_b872 {X : CX} (C : Cok X RL cL_law 4 13 478) {σ' : St} {r : Int32} (hr : RtZ X cL_law r σ') {b L : Nat} {xs : Nat → Int32} (hX : va_X b L xs (xs_ X) (xs_ X).heap) (hbl : b < (xs_ X).heap.size) (hbA : ¬ dom (xG X) b) (k_18 : St → Nat → Nat → Int32 → Option (Int32 × St)) (hk_18 : ∀ (σ : St) (x1 : Nat) (x2 : Nat) (x3 : Int32), kd x1 = 6 → kd x2 = 7 → k_18 σ x1 x2 x3 = some (r, σ') → V X σ 18 [(0, .ref b), (1, .ref ((xG X).1 x1)), (2, .ref ((xG X).1 x2)), (3, .int x3)] []) (σ : St) (x1 : Nat) (x2 : Nat) (x3 : Int32) (hx1 : kd x1 = 6) (hx2 : kd x2 = 7) (h : f_L_law_b872 L xs k_18 σ x1 x2 x3 = some (r, σ')) : V X σ 872 [(0, .ref b), (1, .ref ((xG X).1 x1)), (2, .ref ((xG X).1 x2)), (3, .int x3)] [] := by
  unfold f_L_law_b872 at h
  refine r_aload_n C 1 (q := 873) dL_law_872 rfl rfl ?_
  refine r_aload_n C 0 (q := 874) dL_law_873 rfl rfl ?_
  refine r_iload_n C 3 (q := 875) dL_law_874 rfl rfl ?_
  refine r_iconst C (v := 1) (q := 876) dL_law_875 (by decide) rfl ?_
  refine r_iadd C (q := 877) dL_law_876 rfl ?_
  obtain ⟨v_877, e_877, h⟩ := bs h
  refine r_sld C hX hbl hbA (q := 878) dL_law_877 e_877 rfl ?_
  refine r_aload_n C 0 (q := 879) dL_law_878 rfl rfl ?_
  refine r_iload_n C 3 (q := 880) dL_law_879 rfl rfl ?_
  refine r_iconst C (v := 2) (q := 881) dL_law_880 (by decide) rfl ?_
  refine r_iadd C (q := 882) dL_law_881 rfl ?_
  obtain ⟨v_882, e_882, h⟩ := bs h
  refine r_sld C hX hbl hbA (q := 883) dL_law_882 e_882 rfl ?_
  obtain ⟨v_883, s_883, e_883, h⟩ := bs2 h
  refine r_callV C (ci := 5) (st := []) (st2 := [.int v_883]) (q := 886) (m_X5_lockOf (xG X) (xl X) hx1 e_883) ok_X5_lockOf hx1 rfl ⟨_, rfl⟩ q_644 rfl ⟨Nat.le_of_ble_eq_true rfl, Nat.le_of_ble_eq_true rfl⟩ rfl rfl (Nat.le_of_ble_eq_true rfl) dL_law_883 rfl (fun hp_883 => ?_)
  refine r_aload_n C 2 (q := 887) dL_law_886 rfl rfl ?_
  refine r_aload_n C 0 (q := 888) dL_law_887 rfl rfl ?_
  refine r_iload_n C 3 (q := 889) dL_law_888 rfl rfl ?_
  refine r_iconst C (v := 1) (q := 890) dL_law_889 (by decide) rfl ?_
  refine r_iadd C (q := 891) dL_law_890 rfl ?_
  obtain ⟨v_891, e_891, h⟩ := bs h
  refine r_sld C hX hbl hbA (q := 892) dL_law_891 e_891 rfl ?_
  refine r_aload_n C 0 (q := 893) dL_law_892 rfl rfl ?_
  refine r_iload_n C 3 (q := 894) dL_law_893 rfl rfl ?_
  refine r_iconst C (v := 2) (q := 895) dL_law_894 (by decide) rfl ?_
  refine r_iadd C (q := 896) dL_law_895 rfl ?_
  obtain ⟨v_896, e_896, h⟩ := bs h
  refine r_sld C hX hbl hbA (q := 897) dL_law_896 e_896 rfl ?_
  obtain ⟨v_897, s_897, e_897, h⟩ := bs2 h
  refine r_callV C (ci := 6) (st := [.int v_883]) (st2 := [.int v_897, .int v_883]) (q := 900) (m_X6_lockOf (xG X) (xl X) hx2 e_897) ok_X6_lockOf hx2 rfl ⟨_, rfl⟩ q_1263 rfl ⟨Nat.le_of_ble_eq_true rfl, Nat.le_of_ble_eq_true rfl⟩ rfl rfl (Nat.le_of_ble_eq_true rfl) dL_law_897 rfl (fun hp_897 => ?_)
  refine r_icmp_eq C (tgt := 1621) (q := 903) dL_law_900 (by decide) rfl (fun c_900 => ?_) (fun c_900 => ?_)
  · replace h := (if_pos c_900).symm.trans h
    exact w_L_law_b1621 C hr hX hbl hbA _ hk_18 _ _ _ _ hx1 hx2 h
  · replace h := (if_neg c_900).symm.trans h
    refine r_iconst C (v := 0) (q := 904) dL_law_903 (by decide) rfl ?_
    obtain ⟨rfl, rfl⟩ := Prod.mk.inj (Option.some.inj h)
    exact hr _ _ dL_law_904 (Or.inl rfl)

set_option maxHeartbeats 4000000 in
set_option maxRecDepth 100000 in
theorem w_L_law_b839 {X : CX} (C : Cok X RL cL_law 4 13 478) {σ' : St} {r : Int32} (hr : RtZ X cL_law r σ') {b L : Nat} {xs : Nat → Int32} (hX : va_X b L xs (xs_ X) (xs_ X).heap) (hbl : b < (xs_ X).heap.size) (hbA : ¬ dom (xG X) b) (k_18 : St → Nat → Nat → Int32 → Option (Int32 × St)) (hk_18 : ∀ (σ : St) (x1 : Nat) (x2 : Nat) (x3 : Int32), kd x1 = 6 → kd x2 = 7 → k_18 σ x1 x2 x3 = some (r, σ') → V X σ 18 [(0, .ref b), (1, .ref ((xG X).1 x1)), (2, .ref ((xG X).1 x2)), (3, .int x3)] []) (σ : St) (x1 : Nat) (x2 : Nat) (x3 : Int32) (hx1 : kd x1 = 6) (hx2 : kd x2 = 7) (h : f_L_law_b839 L xs k_18 σ x1 x2 x3 = some (r, σ')) : V X σ 839 [(0, .ref b), (1, .ref ((xG X).1 x1)), (2, .ref ((xG X).1 x2)), (3, .int x3)] [] := by
  unfold f_L_law_b839 at h
  refine r_aload_n C 1 (q := 840) dL_law_839 rfl rfl ?_
  refine r_aload_n C 0 (q := 841) dL_law_840 rfl rfl ?_
  refine r_iload_n C 3 (q := 842) dL_law_841 rfl rfl ?_
  refine r_iconst C (v := 1) (q := 843) dL_law_842 (by decide) rfl ?_
  refine r_iadd C (q := 844) dL_law_843 rfl ?_
  obtain ⟨v_844, e_844, h⟩ := bs h
  refine r_sld C hX hbl hbA (q := 845) dL_law_844 e_844 rfl ?_
  refine r_aload_n C 0 (q := 846) dL_law_845 rfl rfl ?_
  refine r_iload_n C 3 (q := 847) dL_law_846 rfl rfl ?_
  refine r_iconst C (v := 2) (q := 848) dL_law_847 (by decide) rfl ?_
  refine r_iadd C (q := 849) dL_law_848 rfl ?_
  obtain ⟨v_849, e_849, h⟩ := bs h
  refine r_sld C hX hbl hbA (q := 850) dL_law_849 e_849 rfl ?_
  obtain ⟨v_850, s_850, e_850, h⟩ := bs2 h
  refine r_callV C (ci := 5) (st := []) (st2 := [.int v_850]) (q := 853) (m_X5_keyOf (xG X) (xl X) hx1 e_850) ok_X5_keyOf hx1 rfl ⟨_, rfl⟩ q_635 rfl ⟨Nat.le_of_ble_eq_true rfl, Nat.le_of_ble_eq_true rfl⟩ rfl rfl (Nat.le_of_ble_eq_true rfl) dL_law_850 rfl (fun hp_850 => ?_)
  refine r_aload_n C 2 (q := 854) dL_law_853 rfl rfl ?_
  refine r_aload_n C 0 (q := 855) dL_law_854 rfl rfl ?_
  refine r_iload_n C 3 (q := 856) dL_law_855 rfl rfl ?_
  refine r_iconst C (v := 1) (q := 857) dL_law_856 (by decide) rfl ?_
  refine r_iadd C (q := 858) dL_law_857 rfl ?_
  obtain ⟨v_858, e_858, h⟩ := bs h
  refine r_sld C hX hbl hbA (q := 859) dL_law_858 e_858 rfl ?_
  refine r_aload_n C 0 (q := 860) dL_law_859 rfl rfl ?_
  refine r_iload_n C 3 (q := 861) dL_law_860 rfl rfl ?_
  refine r_iconst C (v := 2) (q := 862) dL_law_861 (by decide) rfl ?_
  refine r_iadd C (q := 863) dL_law_862 rfl ?_
  obtain ⟨v_863, e_863, h⟩ := bs h
  refine r_sld C hX hbl hbA (q := 864) dL_law_863 e_863 rfl ?_
  obtain ⟨v_864, s_864, e_864, h⟩ := bs2 h
  refine r_callV C (ci := 6) (st := [.int v_850]) (st2 := [.int v_864, .int v_850]) (q := 867) (m_X6_keyOf (xG X) (xl X) hx2 e_864) ok_X6_keyOf hx2 rfl ⟨_, rfl⟩ q_1259 rfl ⟨Nat.le_of_ble_eq_true rfl, Nat.le_of_ble_eq_true rfl⟩ rfl rfl (Nat.le_of_ble_eq_true rfl) dL_law_864 rfl (fun hp_864 => ?_)
  refine r_icmp_eq C (tgt := 1621) (q := 870) dL_law_867 (by decide) rfl (fun c_867 => ?_) (fun c_867 => ?_)
  · replace h := (if_pos c_867).symm.trans h
    exact w_L_law_b1621 C hr hX hbl hbA _ hk_18 _ _ _ _ hx1 hx2 h
  · replace h := (if_neg c_867).symm.trans h
    refine r_iconst C (v := 0) (q := 871) dL_law_870 (by decide) rfl ?_
    obtain ⟨rfl, rfl⟩ := Prod.mk.inj (Option.some.inj h)
    exact hr _ _ dL_law_871 (Or.inl rfl)

set_option maxHeartbeats 4000000 in
set_option maxRecDepth 100000 in
theorem w_L_law_b826 {X : CX} (C : Cok X RL cL_law 4 13 478) {σ' : St} {r : Int32} (hr : RtZ X cL_law r σ') {b L : Nat} {xs : Nat → Int32} (hX : va_X b L xs (xs_ X) (xs_ X).heap) (hbl : b < (xs_ X).heap.size) (hbA : ¬ dom (xG X) b) (k_18 : St → Nat → Nat → Int32 → Option (Int32 × St)) (hk_18 : ∀ (σ : St) (x1 : Nat) (x2 : Nat) (x3 : Int32), kd x1 = 6 → kd x2 = 7 → k_18 σ x1 x2 x3 = some (r, σ') → V X σ 18 [(0, .ref b), (1, .ref ((xG X).1 x1)), (2, .ref ((xG X).1 x2)), (3, .int x3)] []) (σ : St) (x1 : Nat) (x2 : Nat) (x3 : Int32) (hx1 : kd x1 = 6) (hx2 : kd x2 = 7) (h : f_L_law_b826 L xs k_18 σ x1 x2 x3 = some (r, σ')) : V X σ 826 [(0, .ref b), (1, .ref ((xG X).1 x1)), (2, .ref ((xG X).1 x2)), (3, .int x3)] [] := by
  unfold f_L_law_b826 at h
  refine r_aload_n C 1 (q := 827) dL_law_826 rfl rfl ?_
  obtain ⟨v_827, s_827, e_827, h⟩ := bs2 h
  refine r_callV C (ci := 5) (st := []) (st2 := [.int v_827]) (q := 830) (m_X5_house (xG X) (xl X) hx1 e_827) ok_X5_house hx1 rfl ⟨_, rfl⟩ q_495 rfl ⟨Nat.le_of_ble_eq_true rfl, Nat.le_of_ble_eq_true rfl⟩ rfl rfl (Nat.le_of_ble_eq_true rfl) dL_law_827 rfl (fun hp_827 => ?_)
  refine r_aload_n C 2 (q := 831) dL_law_830 rfl rfl ?_
  obtain ⟨v_831, s_831, e_831, h⟩ := bs2 h
  refine r_callV C (ci := 6) (st := [.int v_827]) (st2 := [.int v_831, .int v_827]) (q := 834) (m_X6_house (xG X) (xl X) hx2 e_831) ok_X6_house hx2 rfl ⟨_, rfl⟩ q_1214 rfl ⟨Nat.le_of_ble_eq_true rfl, Nat.le_of_ble_eq_true rfl⟩ rfl rfl (Nat.le_of_ble_eq_true rfl) dL_law_831 rfl (fun hp_831 => ?_)
  refine r_icmp_eq C (tgt := 1621) (q := 837) dL_law_834 (by decide) rfl (fun c_834 => ?_) (fun c_834 => ?_)
  · replace h := (if_pos c_834).symm.trans h
    exact w_L_law_b1621 C hr hX hbl hbA _ hk_18 _ _ _ _ hx1 hx2 h
  · replace h := (if_neg c_834).symm.trans h
    refine r_iconst C (v := 0) (q := 838) dL_law_837 (by decide) rfl ?_
    obtain ⟨rfl, rfl⟩ := Prod.mk.inj (Option.some.inj h)
    exact hr _ _ dL_law_838 (Or.inl rfl)

set_option maxHeartbeats 4000000 in
set_option maxRecDepth 100000 in
theorem w_L_law_b813 {X : CX} (C : Cok X RL cL_law 4 13 478) {σ' : St} {r : Int32} (hr : RtZ X cL_law r σ') {b L : Nat} {xs : Nat → Int32} (hX : va_X b L xs (xs_ X) (xs_ X).heap) (hbl : b < (xs_ X).heap.size) (hbA : ¬ dom (xG X) b) (k_18 : St → Nat → Nat → Int32 → Option (Int32 × St)) (hk_18 : ∀ (σ : St) (x1 : Nat) (x2 : Nat) (x3 : Int32), kd x1 = 6 → kd x2 = 7 → k_18 σ x1 x2 x3 = some (r, σ') → V X σ 18 [(0, .ref b), (1, .ref ((xG X).1 x1)), (2, .ref ((xG X).1 x2)), (3, .int x3)] []) (σ : St) (x1 : Nat) (x2 : Nat) (x3 : Int32) (hx1 : kd x1 = 6) (hx2 : kd x2 = 7) (h : f_L_law_b813 L xs k_18 σ x1 x2 x3 = some (r, σ')) : V X σ 813 [(0, .ref b), (1, .ref ((xG X).1 x1)), (2, .ref ((xG X).1 x2)), (3, .int x3)] [] := by
  unfold f_L_law_b813 at h
  refine r_aload_n C 1 (q := 814) dL_law_813 rfl rfl ?_
  obtain ⟨v_814, s_814, e_814, h⟩ := bs2 h
  refine r_callV C (ci := 5) (st := []) (st2 := [.int v_814]) (q := 817) (m_X5_wipe (xG X) (xl X) hx1 e_814) ok_X5_wipe hx1 rfl ⟨_, rfl⟩ q_491 rfl ⟨Nat.le_of_ble_eq_true rfl, Nat.le_of_ble_eq_true rfl⟩ rfl rfl (Nat.le_of_ble_eq_true rfl) dL_law_814 rfl (fun hp_814 => ?_)
  refine r_aload_n C 2 (q := 818) dL_law_817 rfl rfl ?_
  obtain ⟨v_818, s_818, e_818, h⟩ := bs2 h
  refine r_callV C (ci := 6) (st := [.int v_814]) (st2 := [.int v_818, .int v_814]) (q := 821) (m_X6_wipe (xG X) (xl X) hx2 e_818) ok_X6_wipe hx2 rfl ⟨_, rfl⟩ q_1210 rfl ⟨Nat.le_of_ble_eq_true rfl, Nat.le_of_ble_eq_true rfl⟩ rfl rfl (Nat.le_of_ble_eq_true rfl) dL_law_818 rfl (fun hp_818 => ?_)
  refine r_icmp_eq C (tgt := 1621) (q := 824) dL_law_821 (by decide) rfl (fun c_821 => ?_) (fun c_821 => ?_)
  · replace h := (if_pos c_821).symm.trans h
    exact w_L_law_b1621 C hr hX hbl hbA _ hk_18 _ _ _ _ hx1 hx2 h
  · replace h := (if_neg c_821).symm.trans h
    refine r_iconst C (v := 0) (q := 825) dL_law_824 (by decide) rfl ?_
    obtain ⟨rfl, rfl⟩ := Prod.mk.inj (Option.some.inj h)
    exact hr _ _ dL_law_825 (Or.inl rfl)

set_option maxHeartbeats 4000000 in
set_option maxRecDepth 100000 in
theorem w_L_law_b790 {X : CX} (C : Cok X RL cL_law 4 13 478) {σ' : St} {r : Int32} (hr : RtZ X cL_law r σ') {b L : Nat} {xs : Nat → Int32} (hX : va_X b L xs (xs_ X) (xs_ X).heap) (hbl : b < (xs_ X).heap.size) (hbA : ¬ dom (xG X) b) (k_18 : St → Nat → Nat → Int32 → Option (Int32 × St)) (hk_18 : ∀ (σ : St) (x1 : Nat) (x2 : Nat) (x3 : Int32), kd x1 = 6 → kd x2 = 7 → k_18 σ x1 x2 x3 = some (r, σ') → V X σ 18 [(0, .ref b), (1, .ref ((xG X).1 x1)), (2, .ref ((xG X).1 x2)), (3, .int x3)] []) (σ : St) (x1 : Nat) (x2 : Nat) (x3 : Int32) (hx1 : kd x1 = 6) (hx2 : kd x2 = 7) (h : f_L_law_b790 L xs k_18 σ x1 x2 x3 = some (r, σ')) : V X σ 790 [(0, .ref b), (1, .ref ((xG X).1 x1)), (2, .ref ((xG X).1 x2)), (3, .int x3)] [] := by
  unfold f_L_law_b790 at h
  refine r_aload_n C 1 (q := 791) dL_law_790 rfl rfl ?_
  refine r_aload_n C 0 (q := 792) dL_law_791 rfl rfl ?_
  refine r_iload_n C 3 (q := 793) dL_law_792 rfl rfl ?_
  refine r_iconst C (v := 1) (q := 794) dL_law_793 (by decide) rfl ?_
  refine r_iadd C (q := 795) dL_law_794 rfl ?_
  obtain ⟨v_795, e_795, h⟩ := bs h
  refine r_sld C hX hbl hbA (q := 796) dL_law_795 e_795 rfl ?_
  obtain ⟨v_796, s_796, e_796, h⟩ := bs2 h
  refine r_callV C (ci := 5) (st := []) (st2 := [.int v_796]) (q := 799) (m_X5_feed (xG X) (xl X) hx1 e_796) ok_X5_feed hx1 rfl ⟨_, rfl⟩ q_482 rfl ⟨Nat.le_of_ble_eq_true rfl, Nat.le_of_ble_eq_true rfl⟩ rfl rfl (Nat.le_of_ble_eq_true rfl) dL_law_796 rfl (fun hp_796 => ?_)
  refine r_aload_n C 2 (q := 800) dL_law_799 rfl rfl ?_
  refine r_aload_n C 0 (q := 801) dL_law_800 rfl rfl ?_
  refine r_iload_n C 3 (q := 802) dL_law_801 rfl rfl ?_
  refine r_iconst C (v := 1) (q := 803) dL_law_802 (by decide) rfl ?_
  refine r_iadd C (q := 804) dL_law_803 rfl ?_
  obtain ⟨v_804, e_804, h⟩ := bs h
  refine r_sld C hX hbl hbA (q := 805) dL_law_804 e_804 rfl ?_
  obtain ⟨v_805, s_805, e_805, h⟩ := bs2 h
  refine r_callV C (ci := 6) (st := [.int v_796]) (st2 := [.int v_805, .int v_796]) (q := 808) (m_X6_feed (xG X) (xl X) hx2 e_805) ok_X6_feed hx2 rfl ⟨_, rfl⟩ q_1206 rfl ⟨Nat.le_of_ble_eq_true rfl, Nat.le_of_ble_eq_true rfl⟩ rfl rfl (Nat.le_of_ble_eq_true rfl) dL_law_805 rfl (fun hp_805 => ?_)
  refine r_icmp_eq C (tgt := 1621) (q := 811) dL_law_808 (by decide) rfl (fun c_808 => ?_) (fun c_808 => ?_)
  · replace h := (if_pos c_808).symm.trans h
    exact w_L_law_b1621 C hr hX hbl hbA _ hk_18 _ _ _ _ hx1 hx2 h
  · replace h := (if_neg c_808).symm.trans h
    refine r_iconst C (v := 0) (q := 812) dL_law_811 (by decide) rfl ?_
    obtain ⟨rfl, rfl⟩ := Prod.mk.inj (Option.some.inj h)
    exact hr _ _ dL_law_812 (Or.inl rfl)

set_option maxHeartbeats 4000000 in
set_option maxRecDepth 100000 in
theorem w_L_law_b757 {X : CX} (C : Cok X RL cL_law 4 13 478) {σ' : St} {r : Int32} (hr : RtZ X cL_law r σ') {b L : Nat} {xs : Nat → Int32} (hX : va_X b L xs (xs_ X) (xs_ X).heap) (hbl : b < (xs_ X).heap.size) (hbA : ¬ dom (xG X) b) (k_18 : St → Nat → Nat → Int32 → Option (Int32 × St)) (hk_18 : ∀ (σ : St) (x1 : Nat) (x2 : Nat) (x3 : Int32), kd x1 = 6 → kd x2 = 7 → k_18 σ x1 x2 x3 = some (r, σ') → V X σ 18 [(0, .ref b), (1, .ref ((xG X).1 x1)), (2, .ref ((xG X).1 x2)), (3, .int x3)] []) (σ : St) (x1 : Nat) (x2 : Nat) (x3 : Int32) (hx1 : kd x1 = 6) (hx2 : kd x2 = 7) (h : f_L_law_b757 L xs k_18 σ x1 x2 x3 = some (r, σ')) : V X σ 757 [(0, .ref b), (1, .ref ((xG X).1 x1)), (2, .ref ((xG X).1 x2)), (3, .int x3)] [] := by
  unfold f_L_law_b757 at h
  refine r_aload_n C 1 (q := 758) dL_law_757 rfl rfl ?_
  refine r_aload_n C 0 (q := 759) dL_law_758 rfl rfl ?_
  refine r_iload_n C 3 (q := 760) dL_law_759 rfl rfl ?_
  refine r_iconst C (v := 1) (q := 761) dL_law_760 (by decide) rfl ?_
  refine r_iadd C (q := 762) dL_law_761 rfl ?_
  obtain ⟨v_762, e_762, h⟩ := bs h
  refine r_sld C hX hbl hbA (q := 763) dL_law_762 e_762 rfl ?_
  refine r_aload_n C 0 (q := 764) dL_law_763 rfl rfl ?_
  refine r_iload_n C 3 (q := 765) dL_law_764 rfl rfl ?_
  refine r_iconst C (v := 2) (q := 766) dL_law_765 (by decide) rfl ?_
  refine r_iadd C (q := 767) dL_law_766 rfl ?_
  obtain ⟨v_767, e_767, h⟩ := bs h
  refine r_sld C hX hbl hbA (q := 768) dL_law_767 e_767 rfl ?_
  obtain ⟨v_768, s_768, e_768, h⟩ := bs2 h
  refine r_callV C (ci := 5) (st := []) (st2 := [.int v_768]) (q := 771) (m_X5_file (xG X) (xl X) hx1 e_768) ok_X5_file hx1 rfl ⟨_, rfl⟩ q_474 rfl ⟨Nat.le_of_ble_eq_true rfl, Nat.le_of_ble_eq_true rfl⟩ rfl rfl (Nat.le_of_ble_eq_true rfl) dL_law_768 rfl (fun hp_768 => ?_)
  refine r_aload_n C 2 (q := 772) dL_law_771 rfl rfl ?_
  refine r_aload_n C 0 (q := 773) dL_law_772 rfl rfl ?_
  refine r_iload_n C 3 (q := 774) dL_law_773 rfl rfl ?_
  refine r_iconst C (v := 1) (q := 775) dL_law_774 (by decide) rfl ?_
  refine r_iadd C (q := 776) dL_law_775 rfl ?_
  obtain ⟨v_776, e_776, h⟩ := bs h
  refine r_sld C hX hbl hbA (q := 777) dL_law_776 e_776 rfl ?_
  refine r_aload_n C 0 (q := 778) dL_law_777 rfl rfl ?_
  refine r_iload_n C 3 (q := 779) dL_law_778 rfl rfl ?_
  refine r_iconst C (v := 2) (q := 780) dL_law_779 (by decide) rfl ?_
  refine r_iadd C (q := 781) dL_law_780 rfl ?_
  obtain ⟨v_781, e_781, h⟩ := bs h
  refine r_sld C hX hbl hbA (q := 782) dL_law_781 e_781 rfl ?_
  obtain ⟨v_782, s_782, e_782, h⟩ := bs2 h
  refine r_callV C (ci := 6) (st := [.int v_768]) (st2 := [.int v_782, .int v_768]) (q := 785) (m_X6_file (xG X) (xl X) hx2 e_782) ok_X6_file hx2 rfl ⟨_, rfl⟩ q_1202 rfl ⟨Nat.le_of_ble_eq_true rfl, Nat.le_of_ble_eq_true rfl⟩ rfl rfl (Nat.le_of_ble_eq_true rfl) dL_law_782 rfl (fun hp_782 => ?_)
  refine r_icmp_eq C (tgt := 1621) (q := 788) dL_law_785 (by decide) rfl (fun c_785 => ?_) (fun c_785 => ?_)
  · replace h := (if_pos c_785).symm.trans h
    exact w_L_law_b1621 C hr hX hbl hbA _ hk_18 _ _ _ _ hx1 hx2 h
  · replace h := (if_neg c_785).symm.trans h
    refine r_iconst C (v := 0) (q := 789) dL_law_788 (by decide) rfl ?_
    obtain ⟨rfl, rfl⟩ := Prod.mk.inj (Option.some.inj h)
    exact hr _ _ dL_law_789 (Or.inl rfl)

set_option maxHeartbeats 4000000 in
set_option maxRecDepth 100000 in
theorem w_L_law_b749 {X : CX} (C : Cok X RL cL_law 4 13 478) {σ' : St} {r : Int32} (hr : RtZ X cL_law r σ') {b L : Nat} {xs : Nat → Int32} (hX : va_X b L xs (xs_ X) (xs_ X).heap) (hbl : b < (xs_ X).heap.size) (hbA : ¬ dom (xG X) b) (k_18 : St → Nat → Nat → Int32 → Option (Int32 × St)) (hk_18 : ∀ (σ : St) (x1 : Nat) (x2 : Nat) (x3 : Int32), kd x1 = 6 → kd x2 = 7 → k_18 σ x1 x2 x3 = some (r, σ') → V X σ 18 [(0, .ref b), (1, .ref ((xG X).1 x1)), (2, .ref ((xG X).1 x2)), (3, .int x3)] []) (σ : St) (x1 : Nat) (x2 : Nat) (x3 : Int32) (t0 : Int32) (t1 : Nat) (t2 : Int32) (t3 : Int32) (t4 : Int32) (hx1 : kd x1 = 6) (hx2 : kd x2 = 7) (ht1 : kd t1 = 7) (h : f_L_law_b749 L xs k_18 σ x1 x2 x3 t0 t1 t2 t3 t4 = some (r, σ')) : V X σ 749 [(0, .ref b), (1, .ref ((xG X).1 x1)), (2, .ref ((xG X).1 x2)), (3, .int x3)] [.int t4, .int t3, .int t2, .ref ((xG X).1 t1), .int t0] := by
  unfold f_L_law_b749 at h
  obtain ⟨v_749, s_749, e_749, h⟩ := bs2 h
  refine r_callV C (ci := 6) (st := [.int t0]) (st2 := [.int v_749, .int t0]) (q := 752) (m_X6_may (xG X) (xl X) ht1 e_749) ok_X6_may ht1 rfl ⟨_, rfl⟩ q_1195 rfl ⟨Nat.le_of_ble_eq_true rfl, Nat.le_of_ble_eq_true rfl⟩ rfl rfl (Nat.le_of_ble_eq_true rfl) dL_law_749 rfl (fun hp_749 => ?_)
  refine r_icmp_eq C (tgt := 1621) (q := 755) dL_law_752 (by decide) rfl (fun c_752 => ?_) (fun c_752 => ?_)
  · replace h := (if_pos c_752).symm.trans h
    exact w_L_law_b1621 C hr hX hbl hbA _ hk_18 _ _ _ _ hx1 hx2 h
  · replace h := (if_neg c_752).symm.trans h
    refine r_iconst C (v := 0) (q := 756) dL_law_755 (by decide) rfl ?_
    obtain ⟨rfl, rfl⟩ := Prod.mk.inj (Option.some.inj h)
    exact hr _ _ dL_law_756 (Or.inl rfl)

set_option maxHeartbeats 4000000 in
set_option maxRecDepth 100000 in
theorem w_L_law_b722 {X : CX} (C : Cok X RL cL_law 4 13 478) {σ' : St} {r : Int32} (hr : RtZ X cL_law r σ') {b L : Nat} {xs : Nat → Int32} (hX : va_X b L xs (xs_ X) (xs_ X).heap) (hbl : b < (xs_ X).heap.size) (hbA : ¬ dom (xG X) b) (k_18 : St → Nat → Nat → Int32 → Option (Int32 × St)) (hk_18 : ∀ (σ : St) (x1 : Nat) (x2 : Nat) (x3 : Int32), kd x1 = 6 → kd x2 = 7 → k_18 σ x1 x2 x3 = some (r, σ') → V X σ 18 [(0, .ref b), (1, .ref ((xG X).1 x1)), (2, .ref ((xG X).1 x2)), (3, .int x3)] []) (σ : St) (x1 : Nat) (x2 : Nat) (x3 : Int32) (t0 : Nat) (t1 : Int32) (t2 : Int32) (t3 : Int32) (hx1 : kd x1 = 6) (hx2 : kd x2 = 7) (ht0 : kd t0 = 6) (h : f_L_law_b722 L xs k_18 σ x1 x2 x3 t0 t1 t2 t3 = some (r, σ')) : V X σ 722 [(0, .ref b), (1, .ref ((xG X).1 x1)), (2, .ref ((xG X).1 x2)), (3, .int x3)] [.int t3, .int t2, .int t1, .ref ((xG X).1 t0)] := by
  unfold f_L_law_b722 at h
  obtain ⟨v_722, s_722, e_722, h⟩ := bs2 h
  refine r_callV C (ci := 5) (st := []) (st2 := [.int v_722]) (q := 725) (m_X5_may (xG X) (xl X) ht0 e_722) ok_X5_may ht0 rfl ⟨_, rfl⟩ q_466 rfl ⟨Nat.le_of_ble_eq_true rfl, Nat.le_of_ble_eq_true rfl⟩ rfl rfl (Nat.le_of_ble_eq_true rfl) dL_law_722 rfl (fun hp_722 => ?_)
  refine r_aload_n C 2 (q := 726) dL_law_725 rfl rfl ?_
  refine r_aload_n C 0 (q := 727) dL_law_726 rfl rfl ?_
  refine r_iload_n C 3 (q := 728) dL_law_727 rfl rfl ?_
  refine r_iconst C (v := 1) (q := 729) dL_law_728 (by decide) rfl ?_
  refine r_iadd C (q := 730) dL_law_729 rfl ?_
  obtain ⟨v_730, e_730, h⟩ := bs h
  refine r_sld C hX hbl hbA (q := 731) dL_law_730 e_730 rfl ?_
  refine r_aload_n C 0 (q := 732) dL_law_731 rfl rfl ?_
  refine r_iload_n C 3 (q := 733) dL_law_732 rfl rfl ?_
  refine r_iconst C (v := 2) (q := 734) dL_law_733 (by decide) rfl ?_
  refine r_iadd C (q := 735) dL_law_734 rfl ?_
  obtain ⟨v_735, e_735, h⟩ := bs h
  refine r_sld C hX hbl hbA (q := 736) dL_law_735 e_735 rfl ?_
  refine r_aload_n C 0 (q := 737) dL_law_736 rfl rfl ?_
  refine r_iload_n C 3 (q := 738) dL_law_737 rfl rfl ?_
  refine r_iconst C (v := 3) (q := 739) dL_law_738 (by decide) rfl ?_
  refine r_iadd C (q := 740) dL_law_739 rfl ?_
  obtain ⟨v_740, e_740, h⟩ := bs h
  refine r_sld C hX hbl hbA (q := 741) dL_law_740 e_740 rfl ?_
  refine r_if_eq C (tgt := 748) (q := 744) dL_law_741 (by decide) rfl (fun c_741 => ?_) (fun c_741 => ?_)
  · replace h := (if_pos c_741).symm.trans h
    refine r_iconst C (v := 0) (q := 749) dL_law_748 (by decide) rfl ?_
    exact w_L_law_b749 C hr hX hbl hbA _ hk_18 _ _ _ _ _ _ _ _ _ hx1 hx2 hx2 h
  · replace h := (if_neg c_741).symm.trans h
    refine r_iconst C (v := 1) (q := 745) dL_law_744 (by decide) rfl ?_
    refine r_goto C (tgt := 749) dL_law_745 (by decide) ?_
    exact w_L_law_b749 C hr hX hbl hbA _ hk_18 _ _ _ _ _ _ _ _ _ hx1 hx2 hx2 h

set_option maxHeartbeats 4000000 in
set_option maxRecDepth 100000 in
theorem w_L_law_b698 {X : CX} (C : Cok X RL cL_law 4 13 478) {σ' : St} {r : Int32} (hr : RtZ X cL_law r σ') {b L : Nat} {xs : Nat → Int32} (hX : va_X b L xs (xs_ X) (xs_ X).heap) (hbl : b < (xs_ X).heap.size) (hbA : ¬ dom (xG X) b) (k_18 : St → Nat → Nat → Int32 → Option (Int32 × St)) (hk_18 : ∀ (σ : St) (x1 : Nat) (x2 : Nat) (x3 : Int32), kd x1 = 6 → kd x2 = 7 → k_18 σ x1 x2 x3 = some (r, σ') → V X σ 18 [(0, .ref b), (1, .ref ((xG X).1 x1)), (2, .ref ((xG X).1 x2)), (3, .int x3)] []) (σ : St) (x1 : Nat) (x2 : Nat) (x3 : Int32) (hx1 : kd x1 = 6) (hx2 : kd x2 = 7) (h : f_L_law_b698 L xs k_18 σ x1 x2 x3 = some (r, σ')) : V X σ 698 [(0, .ref b), (1, .ref ((xG X).1 x1)), (2, .ref ((xG X).1 x2)), (3, .int x3)] [] := by
  unfold f_L_law_b698 at h
  refine r_aload_n C 1 (q := 699) dL_law_698 rfl rfl ?_
  refine r_aload_n C 0 (q := 700) dL_law_699 rfl rfl ?_
  refine r_iload_n C 3 (q := 701) dL_law_700 rfl rfl ?_
  refine r_iconst C (v := 1) (q := 702) dL_law_701 (by decide) rfl ?_
  refine r_iadd C (q := 703) dL_law_702 rfl ?_
  obtain ⟨v_703, e_703, h⟩ := bs h
  refine r_sld C hX hbl hbA (q := 704) dL_law_703 e_703 rfl ?_
  refine r_aload_n C 0 (q := 705) dL_law_704 rfl rfl ?_
  refine r_iload_n C 3 (q := 706) dL_law_705 rfl rfl ?_
  refine r_iconst C (v := 2) (q := 707) dL_law_706 (by decide) rfl ?_
  refine r_iadd C (q := 708) dL_law_707 rfl ?_
  obtain ⟨v_708, e_708, h⟩ := bs h
  refine r_sld C hX hbl hbA (q := 709) dL_law_708 e_708 rfl ?_
  refine r_aload_n C 0 (q := 710) dL_law_709 rfl rfl ?_
  refine r_iload_n C 3 (q := 711) dL_law_710 rfl rfl ?_
  refine r_iconst C (v := 3) (q := 712) dL_law_711 (by decide) rfl ?_
  refine r_iadd C (q := 713) dL_law_712 rfl ?_
  obtain ⟨v_713, e_713, h⟩ := bs h
  refine r_sld C hX hbl hbA (q := 714) dL_law_713 e_713 rfl ?_
  refine r_if_eq C (tgt := 721) (q := 717) dL_law_714 (by decide) rfl (fun c_714 => ?_) (fun c_714 => ?_)
  · replace h := (if_pos c_714).symm.trans h
    refine r_iconst C (v := 0) (q := 722) dL_law_721 (by decide) rfl ?_
    exact w_L_law_b722 C hr hX hbl hbA _ hk_18 _ _ _ _ _ _ _ _ hx1 hx2 hx1 h
  · replace h := (if_neg c_714).symm.trans h
    refine r_iconst C (v := 1) (q := 718) dL_law_717 (by decide) rfl ?_
    refine r_goto C (tgt := 722) dL_law_718 (by decide) ?_
    exact w_L_law_b722 C hr hX hbl hbA _ hk_18 _ _ _ _ _ _ _ _ hx1 hx2 hx1 h

set_option maxHeartbeats 4000000 in
set_option maxRecDepth 100000 in
theorem w_L_law_b655 {X : CX} (C : Cok X RL cL_law 4 13 478) {σ' : St} {r : Int32} (hr : RtZ X cL_law r σ') {b L : Nat} {xs : Nat → Int32} (hX : va_X b L xs (xs_ X) (xs_ X).heap) (hbl : b < (xs_ X).heap.size) (hbA : ¬ dom (xG X) b) (k_18 : St → Nat → Nat → Int32 → Option (Int32 × St)) (hk_18 : ∀ (σ : St) (x1 : Nat) (x2 : Nat) (x3 : Int32), kd x1 = 6 → kd x2 = 7 → k_18 σ x1 x2 x3 = some (r, σ') → V X σ 18 [(0, .ref b), (1, .ref ((xG X).1 x1)), (2, .ref ((xG X).1 x2)), (3, .int x3)] []) (σ : St) (x1 : Nat) (x2 : Nat) (x3 : Int32) (hx1 : kd x1 = 6) (hx2 : kd x2 = 7) (h : f_L_law_b655 L xs k_18 σ x1 x2 x3 = some (r, σ')) : V X σ 655 [(0, .ref b), (1, .ref ((xG X).1 x1)), (2, .ref ((xG X).1 x2)), (3, .int x3)] [] := by
  unfold f_L_law_b655 at h
  refine r_aload_n C 1 (q := 656) dL_law_655 rfl rfl ?_
  refine r_aload_n C 0 (q := 657) dL_law_656 rfl rfl ?_
  refine r_iload_n C 3 (q := 658) dL_law_657 rfl rfl ?_
  refine r_iconst C (v := 1) (q := 659) dL_law_658 (by decide) rfl ?_
  refine r_iadd C (q := 660) dL_law_659 rfl ?_
  obtain ⟨v_660, e_660, h⟩ := bs h
  refine r_sld C hX hbl hbA (q := 661) dL_law_660 e_660 rfl ?_
  refine r_aload_n C 0 (q := 662) dL_law_661 rfl rfl ?_
  refine r_iload_n C 3 (q := 663) dL_law_662 rfl rfl ?_
  refine r_iconst C (v := 2) (q := 664) dL_law_663 (by decide) rfl ?_
  refine r_iadd C (q := 665) dL_law_664 rfl ?_
  obtain ⟨v_665, e_665, h⟩ := bs h
  refine r_sld C hX hbl hbA (q := 666) dL_law_665 e_665 rfl ?_
  refine r_aload_n C 0 (q := 667) dL_law_666 rfl rfl ?_
  refine r_iload_n C 3 (q := 668) dL_law_667 rfl rfl ?_
  refine r_iconst C (v := 3) (q := 669) dL_law_668 (by decide) rfl ?_
  refine r_iadd C (q := 670) dL_law_669 rfl ?_
  obtain ⟨v_670, e_670, h⟩ := bs h
  refine r_sld C hX hbl hbA (q := 671) dL_law_670 e_670 rfl ?_
  obtain ⟨v_671, s_671, e_671, h⟩ := bs2 h
  refine r_callV C (ci := 5) (st := []) (st2 := [.int v_671]) (q := 674) (m_X5_asks (xG X) (xl X) hx1 e_671) ok_X5_asks hx1 rfl ⟨_, rfl⟩ q_449 rfl ⟨Nat.le_of_ble_eq_true rfl, Nat.le_of_ble_eq_true rfl⟩ rfl rfl (Nat.le_of_ble_eq_true rfl) dL_law_671 rfl (fun hp_671 => ?_)
  refine r_aload_n C 2 (q := 675) dL_law_674 rfl rfl ?_
  refine r_aload_n C 0 (q := 676) dL_law_675 rfl rfl ?_
  refine r_iload_n C 3 (q := 677) dL_law_676 rfl rfl ?_
  refine r_iconst C (v := 1) (q := 678) dL_law_677 (by decide) rfl ?_
  refine r_iadd C (q := 679) dL_law_678 rfl ?_
  obtain ⟨v_679, e_679, h⟩ := bs h
  refine r_sld C hX hbl hbA (q := 680) dL_law_679 e_679 rfl ?_
  refine r_aload_n C 0 (q := 681) dL_law_680 rfl rfl ?_
  refine r_iload_n C 3 (q := 682) dL_law_681 rfl rfl ?_
  refine r_iconst C (v := 2) (q := 683) dL_law_682 (by decide) rfl ?_
  refine r_iadd C (q := 684) dL_law_683 rfl ?_
  obtain ⟨v_684, e_684, h⟩ := bs h
  refine r_sld C hX hbl hbA (q := 685) dL_law_684 e_684 rfl ?_
  refine r_aload_n C 0 (q := 686) dL_law_685 rfl rfl ?_
  refine r_iload_n C 3 (q := 687) dL_law_686 rfl rfl ?_
  refine r_iconst C (v := 3) (q := 688) dL_law_687 (by decide) rfl ?_
  refine r_iadd C (q := 689) dL_law_688 rfl ?_
  obtain ⟨v_689, e_689, h⟩ := bs h
  refine r_sld C hX hbl hbA (q := 690) dL_law_689 e_689 rfl ?_
  obtain ⟨v_690, s_690, e_690, h⟩ := bs2 h
  refine r_callV C (ci := 6) (st := [.int v_671]) (st2 := [.int v_690, .int v_671]) (q := 693) (m_X6_asks (xG X) (xl X) hx2 e_690) ok_X6_asks hx2 rfl ⟨_, rfl⟩ q_1183 rfl ⟨Nat.le_of_ble_eq_true rfl, Nat.le_of_ble_eq_true rfl⟩ rfl rfl (Nat.le_of_ble_eq_true rfl) dL_law_690 rfl (fun hp_690 => ?_)
  refine r_icmp_eq C (tgt := 1621) (q := 696) dL_law_693 (by decide) rfl (fun c_693 => ?_) (fun c_693 => ?_)
  · replace h := (if_pos c_693).symm.trans h
    exact w_L_law_b1621 C hr hX hbl hbA _ hk_18 _ _ _ _ hx1 hx2 h
  · replace h := (if_neg c_693).symm.trans h
    refine r_iconst C (v := 0) (q := 697) dL_law_696 (by decide) rfl ?_
    obtain ⟨rfl, rfl⟩ := Prod.mk.inj (Option.some.inj h)
    exact hr _ _ dL_law_697 (Or.inl rfl)

set_option maxHeartbeats 4000000 in
set_option maxRecDepth 100000 in
theorem w_L_law_b647 {X : CX} (C : Cok X RL cL_law 4 13 478) {σ' : St} {r : Int32} (hr : RtZ X cL_law r σ') {b L : Nat} {xs : Nat → Int32} (hX : va_X b L xs (xs_ X) (xs_ X).heap) (hbl : b < (xs_ X).heap.size) (hbA : ¬ dom (xG X) b) (k_18 : St → Nat → Nat → Int32 → Option (Int32 × St)) (hk_18 : ∀ (σ : St) (x1 : Nat) (x2 : Nat) (x3 : Int32), kd x1 = 6 → kd x2 = 7 → k_18 σ x1 x2 x3 = some (r, σ') → V X σ 18 [(0, .ref b), (1, .ref ((xG X).1 x1)), (2, .ref ((xG X).1 x2)), (3, .int x3)] []) (σ : St) (x1 : Nat) (x2 : Nat) (x3 : Int32) (t0 : Int32) (t1 : Nat) (t2 : Int32) (hx1 : kd x1 = 6) (hx2 : kd x2 = 7) (ht1 : kd t1 = 7) (h : f_L_law_b647 L xs k_18 σ x1 x2 x3 t0 t1 t2 = some (r, σ')) : V X σ 647 [(0, .ref b), (1, .ref ((xG X).1 x1)), (2, .ref ((xG X).1 x2)), (3, .int x3)] [.int t2, .ref ((xG X).1 t1), .int t0] := by
  unfold f_L_law_b647 at h
  obtain ⟨v_647, s_647, e_647, h⟩ := bs2 h
  refine r_callV C (ci := 6) (st := [.int t0]) (st2 := [.int v_647, .int t0]) (q := 650) (m_X6_lock (xG X) (xl X) ht1 e_647) ok_X6_lock ht1 rfl ⟨_, rfl⟩ q_1175 rfl ⟨Nat.le_of_ble_eq_true rfl, Nat.le_of_ble_eq_true rfl⟩ rfl rfl (Nat.le_of_ble_eq_true rfl) dL_law_647 rfl (fun hp_647 => ?_)
  refine r_icmp_eq C (tgt := 1621) (q := 653) dL_law_650 (by decide) rfl (fun c_650 => ?_) (fun c_650 => ?_)
  · replace h := (if_pos c_650).symm.trans h
    exact w_L_law_b1621 C hr hX hbl hbA _ hk_18 _ _ _ _ hx1 hx2 h
  · replace h := (if_neg c_650).symm.trans h
    refine r_iconst C (v := 0) (q := 654) dL_law_653 (by decide) rfl ?_
    obtain ⟨rfl, rfl⟩ := Prod.mk.inj (Option.some.inj h)
    exact hr _ _ dL_law_654 (Or.inl rfl)

set_option maxHeartbeats 4000000 in
set_option maxRecDepth 100000 in
theorem w_L_law_b630 {X : CX} (C : Cok X RL cL_law 4 13 478) {σ' : St} {r : Int32} (hr : RtZ X cL_law r σ') {b L : Nat} {xs : Nat → Int32} (hX : va_X b L xs (xs_ X) (xs_ X).heap) (hbl : b < (xs_ X).heap.size) (hbA : ¬ dom (xG X) b) (k_18 : St → Nat → Nat → Int32 → Option (Int32 × St)) (hk_18 : ∀ (σ : St) (x1 : Nat) (x2 : Nat) (x3 : Int32), kd x1 = 6 → kd x2 = 7 → k_18 σ x1 x2 x3 = some (r, σ') → V X σ 18 [(0, .ref b), (1, .ref ((xG X).1 x1)), (2, .ref ((xG X).1 x2)), (3, .int x3)] []) (σ : St) (x1 : Nat) (x2 : Nat) (x3 : Int32) (t0 : Nat) (t1 : Int32) (hx1 : kd x1 = 6) (hx2 : kd x2 = 7) (ht0 : kd t0 = 6) (h : f_L_law_b630 L xs k_18 σ x1 x2 x3 t0 t1 = some (r, σ')) : V X σ 630 [(0, .ref b), (1, .ref ((xG X).1 x1)), (2, .ref ((xG X).1 x2)), (3, .int x3)] [.int t1, .ref ((xG X).1 t0)] := by
  unfold f_L_law_b630 at h
  obtain ⟨v_630, s_630, e_630, h⟩ := bs2 h
  refine r_callV C (ci := 5) (st := []) (st2 := [.int v_630]) (q := 633) (m_X5_lock (xG X) (xl X) ht0 e_630) ok_X5_lock ht0 rfl ⟨_, rfl⟩ q_432 rfl ⟨Nat.le_of_ble_eq_true rfl, Nat.le_of_ble_eq_true rfl⟩ rfl rfl (Nat.le_of_ble_eq_true rfl) dL_law_630 rfl (fun hp_630 => ?_)
  refine r_aload_n C 2 (q := 634) dL_law_633 rfl rfl ?_
  refine r_aload_n C 0 (q := 635) dL_law_634 rfl rfl ?_
  refine r_iload_n C 3 (q := 636) dL_law_635 rfl rfl ?_
  refine r_iconst C (v := 1) (q := 637) dL_law_636 (by decide) rfl ?_
  refine r_iadd C (q := 638) dL_law_637 rfl ?_
  obtain ⟨v_638, e_638, h⟩ := bs h
  refine r_sld C hX hbl hbA (q := 639) dL_law_638 e_638 rfl ?_
  refine r_if_eq C (tgt := 646) (q := 642) dL_law_639 (by decide) rfl (fun c_639 => ?_) (fun c_639 => ?_)
  · replace h := (if_pos c_639).symm.trans h
    refine r_iconst C (v := 0) (q := 647) dL_law_646 (by decide) rfl ?_
    exact w_L_law_b647 C hr hX hbl hbA _ hk_18 _ _ _ _ _ _ _ hx1 hx2 hx2 h
  · replace h := (if_neg c_639).symm.trans h
    refine r_iconst C (v := 1) (q := 643) dL_law_642 (by decide) rfl ?_
    refine r_goto C (tgt := 647) dL_law_643 (by decide) ?_
    exact w_L_law_b647 C hr hX hbl hbA _ hk_18 _ _ _ _ _ _ _ hx1 hx2 hx2 h

set_option maxHeartbeats 4000000 in
set_option maxRecDepth 100000 in
theorem w_L_law_b616 {X : CX} (C : Cok X RL cL_law 4 13 478) {σ' : St} {r : Int32} (hr : RtZ X cL_law r σ') {b L : Nat} {xs : Nat → Int32} (hX : va_X b L xs (xs_ X) (xs_ X).heap) (hbl : b < (xs_ X).heap.size) (hbA : ¬ dom (xG X) b) (k_18 : St → Nat → Nat → Int32 → Option (Int32 × St)) (hk_18 : ∀ (σ : St) (x1 : Nat) (x2 : Nat) (x3 : Int32), kd x1 = 6 → kd x2 = 7 → k_18 σ x1 x2 x3 = some (r, σ') → V X σ 18 [(0, .ref b), (1, .ref ((xG X).1 x1)), (2, .ref ((xG X).1 x2)), (3, .int x3)] []) (σ : St) (x1 : Nat) (x2 : Nat) (x3 : Int32) (hx1 : kd x1 = 6) (hx2 : kd x2 = 7) (h : f_L_law_b616 L xs k_18 σ x1 x2 x3 = some (r, σ')) : V X σ 616 [(0, .ref b), (1, .ref ((xG X).1 x1)), (2, .ref ((xG X).1 x2)), (3, .int x3)] [] := by
  unfold f_L_law_b616 at h
  refine r_aload_n C 1 (q := 617) dL_law_616 rfl rfl ?_
  refine r_aload_n C 0 (q := 618) dL_law_617 rfl rfl ?_
  refine r_iload_n C 3 (q := 619) dL_law_618 rfl rfl ?_
  refine r_iconst C (v := 1) (q := 620) dL_law_619 (by decide) rfl ?_
  refine r_iadd C (q := 621) dL_law_620 rfl ?_
  obtain ⟨v_621, e_621, h⟩ := bs h
  refine r_sld C hX hbl hbA (q := 622) dL_law_621 e_621 rfl ?_
  refine r_if_eq C (tgt := 629) (q := 625) dL_law_622 (by decide) rfl (fun c_622 => ?_) (fun c_622 => ?_)
  · replace h := (if_pos c_622).symm.trans h
    refine r_iconst C (v := 0) (q := 630) dL_law_629 (by decide) rfl ?_
    exact w_L_law_b630 C hr hX hbl hbA _ hk_18 _ _ _ _ _ _ hx1 hx2 hx1 h
  · replace h := (if_neg c_622).symm.trans h
    refine r_iconst C (v := 1) (q := 626) dL_law_625 (by decide) rfl ?_
    refine r_goto C (tgt := 630) dL_law_626 (by decide) ?_
    exact w_L_law_b630 C hr hX hbl hbA _ hk_18 _ _ _ _ _ _ hx1 hx2 hx1 h

set_option maxHeartbeats 4000000 in
set_option maxRecDepth 100000 in
theorem w_L_law_b583 {X : CX} (C : Cok X RL cL_law 4 13 478) {σ' : St} {r : Int32} (hr : RtZ X cL_law r σ') {b L : Nat} {xs : Nat → Int32} (hX : va_X b L xs (xs_ X) (xs_ X).heap) (hbl : b < (xs_ X).heap.size) (hbA : ¬ dom (xG X) b) (k_18 : St → Nat → Nat → Int32 → Option (Int32 × St)) (hk_18 : ∀ (σ : St) (x1 : Nat) (x2 : Nat) (x3 : Int32), kd x1 = 6 → kd x2 = 7 → k_18 σ x1 x2 x3 = some (r, σ') → V X σ 18 [(0, .ref b), (1, .ref ((xG X).1 x1)), (2, .ref ((xG X).1 x2)), (3, .int x3)] []) (σ : St) (x1 : Nat) (x2 : Nat) (x3 : Int32) (hx1 : kd x1 = 6) (hx2 : kd x2 = 7) (h : f_L_law_b583 L xs k_18 σ x1 x2 x3 = some (r, σ')) : V X σ 583 [(0, .ref b), (1, .ref ((xG X).1 x1)), (2, .ref ((xG X).1 x2)), (3, .int x3)] [] := by
  unfold f_L_law_b583 at h
  refine r_aload_n C 1 (q := 584) dL_law_583 rfl rfl ?_
  refine r_aload_n C 0 (q := 585) dL_law_584 rfl rfl ?_
  refine r_iload_n C 3 (q := 586) dL_law_585 rfl rfl ?_
  refine r_iconst C (v := 1) (q := 587) dL_law_586 (by decide) rfl ?_
  refine r_iadd C (q := 588) dL_law_587 rfl ?_
  obtain ⟨v_588, e_588, h⟩ := bs h
  refine r_sld C hX hbl hbA (q := 589) dL_law_588 e_588 rfl ?_
  refine r_aload_n C 0 (q := 590) dL_law_589 rfl rfl ?_
  refine r_iload_n C 3 (q := 591) dL_law_590 rfl rfl ?_
  refine r_iconst C (v := 2) (q := 592) dL_law_591 (by decide) rfl ?_
  refine r_iadd C (q := 593) dL_law_592 rfl ?_
  obtain ⟨v_593, e_593, h⟩ := bs h
  refine r_sld C hX hbl hbA (q := 594) dL_law_593 e_593 rfl ?_
  obtain ⟨v_594, s_594, e_594, h⟩ := bs2 h
  refine r_callV C (ci := 5) (st := []) (st2 := [.int v_594]) (q := 597) (m_X5_key (xG X) (xl X) hx1 e_594) ok_X5_key hx1 rfl ⟨_, rfl⟩ q_417 rfl ⟨Nat.le_of_ble_eq_true rfl, Nat.le_of_ble_eq_true rfl⟩ rfl rfl (Nat.le_of_ble_eq_true rfl) dL_law_594 rfl (fun hp_594 => ?_)
  refine r_aload_n C 2 (q := 598) dL_law_597 rfl rfl ?_
  refine r_aload_n C 0 (q := 599) dL_law_598 rfl rfl ?_
  refine r_iload_n C 3 (q := 600) dL_law_599 rfl rfl ?_
  refine r_iconst C (v := 1) (q := 601) dL_law_600 (by decide) rfl ?_
  refine r_iadd C (q := 602) dL_law_601 rfl ?_
  obtain ⟨v_602, e_602, h⟩ := bs h
  refine r_sld C hX hbl hbA (q := 603) dL_law_602 e_602 rfl ?_
  refine r_aload_n C 0 (q := 604) dL_law_603 rfl rfl ?_
  refine r_iload_n C 3 (q := 605) dL_law_604 rfl rfl ?_
  refine r_iconst C (v := 2) (q := 606) dL_law_605 (by decide) rfl ?_
  refine r_iadd C (q := 607) dL_law_606 rfl ?_
  obtain ⟨v_607, e_607, h⟩ := bs h
  refine r_sld C hX hbl hbA (q := 608) dL_law_607 e_607 rfl ?_
  obtain ⟨v_608, s_608, e_608, h⟩ := bs2 h
  refine r_callV C (ci := 6) (st := [.int v_594]) (st2 := [.int v_608, .int v_594]) (q := 611) (m_X6_key (xG X) (xl X) hx2 e_608) ok_X6_key hx2 rfl ⟨_, rfl⟩ q_1167 rfl ⟨Nat.le_of_ble_eq_true rfl, Nat.le_of_ble_eq_true rfl⟩ rfl rfl (Nat.le_of_ble_eq_true rfl) dL_law_608 rfl (fun hp_608 => ?_)
  refine r_icmp_eq C (tgt := 1621) (q := 614) dL_law_611 (by decide) rfl (fun c_611 => ?_) (fun c_611 => ?_)
  · replace h := (if_pos c_611).symm.trans h
    exact w_L_law_b1621 C hr hX hbl hbA _ hk_18 _ _ _ _ hx1 hx2 h
  · replace h := (if_neg c_611).symm.trans h
    refine r_iconst C (v := 0) (q := 615) dL_law_614 (by decide) rfl ?_
    obtain ⟨rfl, rfl⟩ := Prod.mk.inj (Option.some.inj h)
    exact hr _ _ dL_law_615 (Or.inl rfl)

set_option maxHeartbeats 4000000 in
set_option maxRecDepth 100000 in
theorem w_L_law_b550 {X : CX} (C : Cok X RL cL_law 4 13 478) {σ' : St} {r : Int32} (hr : RtZ X cL_law r σ') {b L : Nat} {xs : Nat → Int32} (hX : va_X b L xs (xs_ X) (xs_ X).heap) (hbl : b < (xs_ X).heap.size) (hbA : ¬ dom (xG X) b) (k_18 : St → Nat → Nat → Int32 → Option (Int32 × St)) (hk_18 : ∀ (σ : St) (x1 : Nat) (x2 : Nat) (x3 : Int32), kd x1 = 6 → kd x2 = 7 → k_18 σ x1 x2 x3 = some (r, σ') → V X σ 18 [(0, .ref b), (1, .ref ((xG X).1 x1)), (2, .ref ((xG X).1 x2)), (3, .int x3)] []) (σ : St) (x1 : Nat) (x2 : Nat) (x3 : Int32) (hx1 : kd x1 = 6) (hx2 : kd x2 = 7) (h : f_L_law_b550 L xs k_18 σ x1 x2 x3 = some (r, σ')) : V X σ 550 [(0, .ref b), (1, .ref ((xG X).1 x1)), (2, .ref ((xG X).1 x2)), (3, .int x3)] [] := by
  unfold f_L_law_b550 at h
  refine r_aload_n C 1 (q := 551) dL_law_550 rfl rfl ?_
  refine r_aload_n C 0 (q := 552) dL_law_551 rfl rfl ?_
  refine r_iload_n C 3 (q := 553) dL_law_552 rfl rfl ?_
  refine r_iconst C (v := 1) (q := 554) dL_law_553 (by decide) rfl ?_
  refine r_iadd C (q := 555) dL_law_554 rfl ?_
  obtain ⟨v_555, e_555, h⟩ := bs h
  refine r_sld C hX hbl hbA (q := 556) dL_law_555 e_555 rfl ?_
  refine r_aload_n C 0 (q := 557) dL_law_556 rfl rfl ?_
  refine r_iload_n C 3 (q := 558) dL_law_557 rfl rfl ?_
  refine r_iconst C (v := 2) (q := 559) dL_law_558 (by decide) rfl ?_
  refine r_iadd C (q := 560) dL_law_559 rfl ?_
  obtain ⟨v_560, e_560, h⟩ := bs h
  refine r_sld C hX hbl hbA (q := 561) dL_law_560 e_560 rfl ?_
  obtain ⟨v_561, s_561, e_561, h⟩ := bs2 h
  refine r_callV C (ci := 5) (st := []) (st2 := [.int v_561]) (q := 564) (m_X5_ask (xG X) (xl X) hx1 e_561) ok_X5_ask hx1 rfl ⟨_, rfl⟩ q_397 rfl ⟨Nat.le_of_ble_eq_true rfl, Nat.le_of_ble_eq_true rfl⟩ rfl rfl (Nat.le_of_ble_eq_true rfl) dL_law_561 rfl (fun hp_561 => ?_)
  refine r_aload_n C 2 (q := 565) dL_law_564 rfl rfl ?_
  refine r_aload_n C 0 (q := 566) dL_law_565 rfl rfl ?_
  refine r_iload_n C 3 (q := 567) dL_law_566 rfl rfl ?_
  refine r_iconst C (v := 1) (q := 568) dL_law_567 (by decide) rfl ?_
  refine r_iadd C (q := 569) dL_law_568 rfl ?_
  obtain ⟨v_569, e_569, h⟩ := bs h
  refine r_sld C hX hbl hbA (q := 570) dL_law_569 e_569 rfl ?_
  refine r_aload_n C 0 (q := 571) dL_law_570 rfl rfl ?_
  refine r_iload_n C 3 (q := 572) dL_law_571 rfl rfl ?_
  refine r_iconst C (v := 2) (q := 573) dL_law_572 (by decide) rfl ?_
  refine r_iadd C (q := 574) dL_law_573 rfl ?_
  obtain ⟨v_574, e_574, h⟩ := bs h
  refine r_sld C hX hbl hbA (q := 575) dL_law_574 e_574 rfl ?_
  obtain ⟨v_575, s_575, e_575, h⟩ := bs2 h
  refine r_callV C (ci := 6) (st := [.int v_561]) (st2 := [.int v_575, .int v_561]) (q := 578) (m_X6_ask (xG X) (xl X) hx2 e_575) ok_X6_ask hx2 rfl ⟨_, rfl⟩ q_1163 rfl ⟨Nat.le_of_ble_eq_true rfl, Nat.le_of_ble_eq_true rfl⟩ rfl rfl (Nat.le_of_ble_eq_true rfl) dL_law_575 rfl (fun hp_575 => ?_)
  refine r_icmp_eq C (tgt := 1621) (q := 581) dL_law_578 (by decide) rfl (fun c_578 => ?_) (fun c_578 => ?_)
  · replace h := (if_pos c_578).symm.trans h
    exact w_L_law_b1621 C hr hX hbl hbA _ hk_18 _ _ _ _ hx1 hx2 h
  · replace h := (if_neg c_578).symm.trans h
    refine r_iconst C (v := 0) (q := 582) dL_law_581 (by decide) rfl ?_
    obtain ⟨rfl, rfl⟩ := Prod.mk.inj (Option.some.inj h)
    exact hr _ _ dL_law_582 (Or.inl rfl)

set_option maxHeartbeats 4000000 in
set_option maxRecDepth 100000 in
theorem w_L_law_b517 {X : CX} (C : Cok X RL cL_law 4 13 478) {σ' : St} {r : Int32} (hr : RtZ X cL_law r σ') {b L : Nat} {xs : Nat → Int32} (hX : va_X b L xs (xs_ X) (xs_ X).heap) (hbl : b < (xs_ X).heap.size) (hbA : ¬ dom (xG X) b) (k_18 : St → Nat → Nat → Int32 → Option (Int32 × St)) (hk_18 : ∀ (σ : St) (x1 : Nat) (x2 : Nat) (x3 : Int32), kd x1 = 6 → kd x2 = 7 → k_18 σ x1 x2 x3 = some (r, σ') → V X σ 18 [(0, .ref b), (1, .ref ((xG X).1 x1)), (2, .ref ((xG X).1 x2)), (3, .int x3)] []) (σ : St) (x1 : Nat) (x2 : Nat) (x3 : Int32) (hx1 : kd x1 = 6) (hx2 : kd x2 = 7) (h : f_L_law_b517 L xs k_18 σ x1 x2 x3 = some (r, σ')) : V X σ 517 [(0, .ref b), (1, .ref ((xG X).1 x1)), (2, .ref ((xG X).1 x2)), (3, .int x3)] [] := by
  unfold f_L_law_b517 at h
  refine r_aload_n C 1 (q := 518) dL_law_517 rfl rfl ?_
  refine r_aload_n C 0 (q := 519) dL_law_518 rfl rfl ?_
  refine r_iload_n C 3 (q := 520) dL_law_519 rfl rfl ?_
  refine r_iconst C (v := 1) (q := 521) dL_law_520 (by decide) rfl ?_
  refine r_iadd C (q := 522) dL_law_521 rfl ?_
  obtain ⟨v_522, e_522, h⟩ := bs h
  refine r_sld C hX hbl hbA (q := 523) dL_law_522 e_522 rfl ?_
  refine r_aload_n C 0 (q := 524) dL_law_523 rfl rfl ?_
  refine r_iload_n C 3 (q := 525) dL_law_524 rfl rfl ?_
  refine r_iconst C (v := 2) (q := 526) dL_law_525 (by decide) rfl ?_
  refine r_iadd C (q := 527) dL_law_526 rfl ?_
  obtain ⟨v_527, e_527, h⟩ := bs h
  refine r_sld C hX hbl hbA (q := 528) dL_law_527 e_527 rfl ?_
  obtain ⟨v_528, s_528, e_528, h⟩ := bs2 h
  refine r_callV C (ci := 5) (st := []) (st2 := [.int v_528]) (q := 531) (m_X5_says (xG X) (xl X) hx1 e_528) ok_X5_says hx1 rfl ⟨_, rfl⟩ q_325 rfl ⟨Nat.le_of_ble_eq_true rfl, Nat.le_of_ble_eq_true rfl⟩ rfl rfl (Nat.le_of_ble_eq_true rfl) dL_law_528 rfl (fun hp_528 => ?_)
  refine r_aload_n C 2 (q := 532) dL_law_531 rfl rfl ?_
  refine r_aload_n C 0 (q := 533) dL_law_532 rfl rfl ?_
  refine r_iload_n C 3 (q := 534) dL_law_533 rfl rfl ?_
  refine r_iconst C (v := 1) (q := 535) dL_law_534 (by decide) rfl ?_
  refine r_iadd C (q := 536) dL_law_535 rfl ?_
  obtain ⟨v_536, e_536, h⟩ := bs h
  refine r_sld C hX hbl hbA (q := 537) dL_law_536 e_536 rfl ?_
  refine r_aload_n C 0 (q := 538) dL_law_537 rfl rfl ?_
  refine r_iload_n C 3 (q := 539) dL_law_538 rfl rfl ?_
  refine r_iconst C (v := 2) (q := 540) dL_law_539 (by decide) rfl ?_
  refine r_iadd C (q := 541) dL_law_540 rfl ?_
  obtain ⟨v_541, e_541, h⟩ := bs h
  refine r_sld C hX hbl hbA (q := 542) dL_law_541 e_541 rfl ?_
  obtain ⟨v_542, s_542, e_542, h⟩ := bs2 h
  refine r_callV C (ci := 6) (st := [.int v_528]) (st2 := [.int v_542, .int v_528]) (q := 545) (m_X6_says (xG X) (xl X) hx2 e_542) ok_X6_says hx2 rfl ⟨_, rfl⟩ q_1120 rfl ⟨Nat.le_of_ble_eq_true rfl, Nat.le_of_ble_eq_true rfl⟩ rfl rfl (Nat.le_of_ble_eq_true rfl) dL_law_542 rfl (fun hp_542 => ?_)
  refine r_icmp_eq C (tgt := 1621) (q := 548) dL_law_545 (by decide) rfl (fun c_545 => ?_) (fun c_545 => ?_)
  · replace h := (if_pos c_545).symm.trans h
    exact w_L_law_b1621 C hr hX hbl hbA _ hk_18 _ _ _ _ hx1 hx2 h
  · replace h := (if_neg c_545).symm.trans h
    refine r_iconst C (v := 0) (q := 549) dL_law_548 (by decide) rfl ?_
    obtain ⟨rfl, rfl⟩ := Prod.mk.inj (Option.some.inj h)
    exact hr _ _ dL_law_549 (Or.inl rfl)

set_option maxHeartbeats 4000000 in
set_option maxRecDepth 100000 in
theorem w_L_law_b484 {X : CX} (C : Cok X RL cL_law 4 13 478) {σ' : St} {r : Int32} (hr : RtZ X cL_law r σ') {b L : Nat} {xs : Nat → Int32} (hX : va_X b L xs (xs_ X) (xs_ X).heap) (hbl : b < (xs_ X).heap.size) (hbA : ¬ dom (xG X) b) (k_18 : St → Nat → Nat → Int32 → Option (Int32 × St)) (hk_18 : ∀ (σ : St) (x1 : Nat) (x2 : Nat) (x3 : Int32), kd x1 = 6 → kd x2 = 7 → k_18 σ x1 x2 x3 = some (r, σ') → V X σ 18 [(0, .ref b), (1, .ref ((xG X).1 x1)), (2, .ref ((xG X).1 x2)), (3, .int x3)] []) (σ : St) (x1 : Nat) (x2 : Nat) (x3 : Int32) (hx1 : kd x1 = 6) (hx2 : kd x2 = 7) (h : f_L_law_b484 L xs k_18 σ x1 x2 x3 = some (r, σ')) : V X σ 484 [(0, .ref b), (1, .ref ((xG X).1 x1)), (2, .ref ((xG X).1 x2)), (3, .int x3)] [] := by
  unfold f_L_law_b484 at h
  refine r_aload_n C 1 (q := 485) dL_law_484 rfl rfl ?_
  refine r_aload_n C 0 (q := 486) dL_law_485 rfl rfl ?_
  refine r_iload_n C 3 (q := 487) dL_law_486 rfl rfl ?_
  refine r_iconst C (v := 1) (q := 488) dL_law_487 (by decide) rfl ?_
  refine r_iadd C (q := 489) dL_law_488 rfl ?_
  obtain ⟨v_489, e_489, h⟩ := bs h
  refine r_sld C hX hbl hbA (q := 490) dL_law_489 e_489 rfl ?_
  refine r_aload_n C 0 (q := 491) dL_law_490 rfl rfl ?_
  refine r_iload_n C 3 (q := 492) dL_law_491 rfl rfl ?_
  refine r_iconst C (v := 2) (q := 493) dL_law_492 (by decide) rfl ?_
  refine r_iadd C (q := 494) dL_law_493 rfl ?_
  obtain ⟨v_494, e_494, h⟩ := bs h
  refine r_sld C hX hbl hbA (q := 495) dL_law_494 e_494 rfl ?_
  obtain ⟨v_495, s_495, e_495, h⟩ := bs2 h
  refine r_callV C (ci := 5) (st := []) (st2 := [.int v_495]) (q := 498) (m_X5_show (xG X) (xl X) hx1 e_495) ok_X5_show hx1 rfl ⟨_, rfl⟩ q_317 rfl ⟨Nat.le_of_ble_eq_true rfl, Nat.le_of_ble_eq_true rfl⟩ rfl rfl (Nat.le_of_ble_eq_true rfl) dL_law_495 rfl (fun hp_495 => ?_)
  refine r_aload_n C 2 (q := 499) dL_law_498 rfl rfl ?_
  refine r_aload_n C 0 (q := 500) dL_law_499 rfl rfl ?_
  refine r_iload_n C 3 (q := 501) dL_law_500 rfl rfl ?_
  refine r_iconst C (v := 1) (q := 502) dL_law_501 (by decide) rfl ?_
  refine r_iadd C (q := 503) dL_law_502 rfl ?_
  obtain ⟨v_503, e_503, h⟩ := bs h
  refine r_sld C hX hbl hbA (q := 504) dL_law_503 e_503 rfl ?_
  refine r_aload_n C 0 (q := 505) dL_law_504 rfl rfl ?_
  refine r_iload_n C 3 (q := 506) dL_law_505 rfl rfl ?_
  refine r_iconst C (v := 2) (q := 507) dL_law_506 (by decide) rfl ?_
  refine r_iadd C (q := 508) dL_law_507 rfl ?_
  obtain ⟨v_508, e_508, h⟩ := bs h
  refine r_sld C hX hbl hbA (q := 509) dL_law_508 e_508 rfl ?_
  obtain ⟨v_509, s_509, e_509, h⟩ := bs2 h
  refine r_callV C (ci := 6) (st := [.int v_495]) (st2 := [.int v_509, .int v_495]) (q := 512) (m_X6_show (xG X) (xl X) hx2 e_509) ok_X6_show hx2 rfl ⟨_, rfl⟩ q_1112 rfl ⟨Nat.le_of_ble_eq_true rfl, Nat.le_of_ble_eq_true rfl⟩ rfl rfl (Nat.le_of_ble_eq_true rfl) dL_law_509 rfl (fun hp_509 => ?_)
  refine r_icmp_eq C (tgt := 1621) (q := 515) dL_law_512 (by decide) rfl (fun c_512 => ?_) (fun c_512 => ?_)
  · replace h := (if_pos c_512).symm.trans h
    exact w_L_law_b1621 C hr hX hbl hbA _ hk_18 _ _ _ _ hx1 hx2 h
  · replace h := (if_neg c_512).symm.trans h
    refine r_iconst C (v := 0) (q := 516) dL_law_515 (by decide) rfl ?_
    obtain ⟨rfl, rfl⟩ := Prod.mk.inj (Option.some.inj h)
    exact hr _ _ dL_law_516 (Or.inl rfl)

set_option maxHeartbeats 4000000 in
set_option maxRecDepth 100000 in
theorem w_L_law_b461 {X : CX} (C : Cok X RL cL_law 4 13 478) {σ' : St} {r : Int32} (hr : RtZ X cL_law r σ') {b L : Nat} {xs : Nat → Int32} (hX : va_X b L xs (xs_ X) (xs_ X).heap) (hbl : b < (xs_ X).heap.size) (hbA : ¬ dom (xG X) b) (k_18 : St → Nat → Nat → Int32 → Option (Int32 × St)) (hk_18 : ∀ (σ : St) (x1 : Nat) (x2 : Nat) (x3 : Int32), kd x1 = 6 → kd x2 = 7 → k_18 σ x1 x2 x3 = some (r, σ') → V X σ 18 [(0, .ref b), (1, .ref ((xG X).1 x1)), (2, .ref ((xG X).1 x2)), (3, .int x3)] []) (σ : St) (x1 : Nat) (x2 : Nat) (x3 : Int32) (hx1 : kd x1 = 6) (hx2 : kd x2 = 7) (h : f_L_law_b461 L xs k_18 σ x1 x2 x3 = some (r, σ')) : V X σ 461 [(0, .ref b), (1, .ref ((xG X).1 x1)), (2, .ref ((xG X).1 x2)), (3, .int x3)] [] := by
  unfold f_L_law_b461 at h
  refine r_aload_n C 1 (q := 462) dL_law_461 rfl rfl ?_
  refine r_aload_n C 0 (q := 463) dL_law_462 rfl rfl ?_
  refine r_iload_n C 3 (q := 464) dL_law_463 rfl rfl ?_
  refine r_iconst C (v := 1) (q := 465) dL_law_464 (by decide) rfl ?_
  refine r_iadd C (q := 466) dL_law_465 rfl ?_
  obtain ⟨v_466, e_466, h⟩ := bs h
  refine r_sld C hX hbl hbA (q := 467) dL_law_466 e_466 rfl ?_
  obtain ⟨v_467, e_467, h⟩ := bs h
  refine r_callV C (ci := 5) (st := []) (st2 := [.int v_467]) (q := 470) (m_X5_holds (xG X) (xl X) hx1 e_467) ok_X5_holds hx1 rfl ⟨_, rfl⟩ q_313 rfl ⟨Nat.le_of_ble_eq_true rfl, Nat.le_of_ble_eq_true rfl⟩ rfl rfl (Nat.le_of_ble_eq_true rfl) dL_law_467 rfl (fun hp_467 => ?_)
  refine r_aload_n C 2 (q := 471) dL_law_470 rfl rfl ?_
  refine r_aload_n C 0 (q := 472) dL_law_471 rfl rfl ?_
  refine r_iload_n C 3 (q := 473) dL_law_472 rfl rfl ?_
  refine r_iconst C (v := 1) (q := 474) dL_law_473 (by decide) rfl ?_
  refine r_iadd C (q := 475) dL_law_474 rfl ?_
  obtain ⟨v_475, e_475, h⟩ := bs h
  refine r_sld C hX hbl hbA (q := 476) dL_law_475 e_475 rfl ?_
  obtain ⟨v_476, e_476, h⟩ := bs h
  refine r_callV C (ci := 6) (st := [.int v_467]) (st2 := [.int v_476, .int v_467]) (q := 479) (m_X6_holds (xG X) (xl X) hx2 e_476) ok_X6_holds hx2 rfl ⟨_, rfl⟩ q_1108 rfl ⟨Nat.le_of_ble_eq_true rfl, Nat.le_of_ble_eq_true rfl⟩ rfl rfl (Nat.le_of_ble_eq_true rfl) dL_law_476 rfl (fun hp_476 => ?_)
  refine r_icmp_eq C (tgt := 1621) (q := 482) dL_law_479 (by decide) rfl (fun c_479 => ?_) (fun c_479 => ?_)
  · replace h := (if_pos c_479).symm.trans h
    exact w_L_law_b1621 C hr hX hbl hbA _ hk_18 _ _ _ _ hx1 hx2 h
  · replace h := (if_neg c_479).symm.trans h
    refine r_iconst C (v := 0) (q := 483) dL_law_482 (by decide) rfl ?_
    obtain ⟨rfl, rfl⟩ := Prod.mk.inj (Option.some.inj h)
    exact hr _ _ dL_law_483 (Or.inl rfl)

set_option maxHeartbeats 4000000 in
set_option maxRecDepth 100000 in
theorem w_L_law_b427 {X : CX} (C : Cok X RL cL_law 4 13 478) {σ' : St} {r : Int32} (hr : RtZ X cL_law r σ') {b L : Nat} {xs : Nat → Int32} (hX : va_X b L xs (xs_ X) (xs_ X).heap) (hbl : b < (xs_ X).heap.size) (hbA : ¬ dom (xG X) b) (k_18 : St → Nat → Nat → Int32 → Option (Int32 × St)) (hk_18 : ∀ (σ : St) (x1 : Nat) (x2 : Nat) (x3 : Int32), kd x1 = 6 → kd x2 = 7 → k_18 σ x1 x2 x3 = some (r, σ') → V X σ 18 [(0, .ref b), (1, .ref ((xG X).1 x1)), (2, .ref ((xG X).1 x2)), (3, .int x3)] []) (σ : St) (x1 : Nat) (x2 : Nat) (x3 : Int32) (hx1 : kd x1 = 6) (hx2 : kd x2 = 7) (h : f_L_law_b427 L xs k_18 σ x1 x2 x3 = some (r, σ')) : V X σ 427 [(0, .ref b), (1, .ref ((xG X).1 x1)), (2, .ref ((xG X).1 x2)), (3, .int x3)] [] := by
  unfold f_L_law_b427 at h
  refine r_aload_n C 1 (q := 428) dL_law_427 rfl rfl ?_
  refine r_aload_n C 0 (q := 429) dL_law_428 rfl rfl ?_
  refine r_iload_n C 3 (q := 430) dL_law_429 rfl rfl ?_
  refine r_iconst C (v := 1) (q := 431) dL_law_430 (by decide) rfl ?_
  refine r_iadd C (q := 432) dL_law_431 rfl ?_
  obtain ⟨v_432, e_432, h⟩ := bs h
  refine r_sld C hX hbl hbA (q := 433) dL_law_432 e_432 rfl ?_
  refine r_aload_n C 0 (q := 434) dL_law_433 rfl rfl ?_
  refine r_iload_n C 3 (q := 435) dL_law_434 rfl rfl ?_
  refine r_iconst C (v := 2) (q := 436) dL_law_435 (by decide) rfl ?_
  refine r_iadd C (q := 437) dL_law_436 rfl ?_
  obtain ⟨v_437, e_437, h⟩ := bs h
  refine r_sld C hX hbl hbA (q := 438) dL_law_437 e_437 rfl ?_
  obtain ⟨v_438, e_438, h⟩ := bs h
  refine r_callV C (ci := 5) (st := []) (st2 := [.long v_438]) (q := 441) (m_X5_element (xG X) (xl X) hx1 e_438) ok_X5_element hx1 rfl ⟨_, rfl⟩ q_305 rfl ⟨Nat.le_of_ble_eq_true rfl, Nat.le_of_ble_eq_true rfl⟩ rfl rfl (Nat.le_of_ble_eq_true rfl) dL_law_438 rfl (fun hp_438 => ?_)
  refine r_aload_n C 2 (q := 442) dL_law_441 rfl rfl ?_
  refine r_aload_n C 0 (q := 443) dL_law_442 rfl rfl ?_
  refine r_iload_n C 3 (q := 444) dL_law_443 rfl rfl ?_
  refine r_iconst C (v := 1) (q := 445) dL_law_444 (by decide) rfl ?_
  refine r_iadd C (q := 446) dL_law_445 rfl ?_
  obtain ⟨v_446, e_446, h⟩ := bs h
  refine r_sld C hX hbl hbA (q := 447) dL_law_446 e_446 rfl ?_
  refine r_aload_n C 0 (q := 448) dL_law_447 rfl rfl ?_
  refine r_iload_n C 3 (q := 449) dL_law_448 rfl rfl ?_
  refine r_iconst C (v := 2) (q := 450) dL_law_449 (by decide) rfl ?_
  refine r_iadd C (q := 451) dL_law_450 rfl ?_
  obtain ⟨v_451, e_451, h⟩ := bs h
  refine r_sld C hX hbl hbA (q := 452) dL_law_451 e_451 rfl ?_
  obtain ⟨v_452, e_452, h⟩ := bs h
  refine r_callV C (ci := 6) (st := [.long v_438]) (st2 := [.long v_452, .long v_438]) (q := 455) (m_X6_element (xG X) (xl X) hx2 e_452) ok_X6_element hx2 rfl ⟨_, rfl⟩ q_1104 rfl ⟨Nat.le_of_ble_eq_true rfl, Nat.le_of_ble_eq_true rfl⟩ rfl rfl (Nat.le_of_ble_eq_true rfl) dL_law_452 rfl (fun hp_452 => ?_)
  refine r_lcmp C (q := 456) dL_law_455 rfl ?_
  refine r_if_eq C (tgt := 1621) (q := 459) dL_law_456 (by decide) rfl (fun c_456 => ?_) (fun c_456 => ?_)
  · replace h := (if_pos c_456).symm.trans h
    exact w_L_law_b1621 C hr hX hbl hbA _ hk_18 _ _ _ _ hx1 hx2 h
  · replace h := (if_neg c_456).symm.trans h
    refine r_iconst C (v := 0) (q := 460) dL_law_459 (by decide) rfl ?_
    obtain ⟨rfl, rfl⟩ := Prod.mk.inj (Option.some.inj h)
    exact hr _ _ dL_law_460 (Or.inl rfl)

set_option maxHeartbeats 4000000 in
set_option maxRecDepth 100000 in
theorem w_L_law_b364 {X : CX} (C : Cok X RL cL_law 4 13 478) {σ' : St} {r : Int32} (hr : RtZ X cL_law r σ') {b L : Nat} {xs : Nat → Int32} (hX : va_X b L xs (xs_ X) (xs_ X).heap) (hbl : b < (xs_ X).heap.size) (hbA : ¬ dom (xG X) b) (k_18 : St → Nat → Nat → Int32 → Option (Int32 × St)) (hk_18 : ∀ (σ : St) (x1 : Nat) (x2 : Nat) (x3 : Int32), kd x1 = 6 → kd x2 = 7 → k_18 σ x1 x2 x3 = some (r, σ') → V X σ 18 [(0, .ref b), (1, .ref ((xG X).1 x1)), (2, .ref ((xG X).1 x2)), (3, .int x3)] []) (σ : St) (x1 : Nat) (x2 : Nat) (x3 : Int32) (hx1 : kd x1 = 6) (hx2 : kd x2 = 7) (h : f_L_law_b364 L xs k_18 σ x1 x2 x3 = some (r, σ')) : V X σ 364 [(0, .ref b), (1, .ref ((xG X).1 x1)), (2, .ref ((xG X).1 x2)), (3, .int x3)] [] := by
  unfold f_L_law_b364 at h
  refine r_aload_n C 1 (q := 365) dL_law_364 rfl rfl ?_
  refine r_aload_n C 0 (q := 366) dL_law_365 rfl rfl ?_
  refine r_iload_n C 3 (q := 367) dL_law_366 rfl rfl ?_
  refine r_iconst C (v := 1) (q := 368) dL_law_367 (by decide) rfl ?_
  refine r_iadd C (q := 369) dL_law_368 rfl ?_
  obtain ⟨v_369, e_369, h⟩ := bs h
  refine r_sld C hX hbl hbA (q := 370) dL_law_369 e_369 rfl ?_
  refine r_aload_n C 0 (q := 371) dL_law_370 rfl rfl ?_
  refine r_iload_n C 3 (q := 372) dL_law_371 rfl rfl ?_
  refine r_iconst C (v := 2) (q := 373) dL_law_372 (by decide) rfl ?_
  refine r_iadd C (q := 374) dL_law_373 rfl ?_
  obtain ⟨v_374, e_374, h⟩ := bs h
  refine r_sld C hX hbl hbA (q := 375) dL_law_374 e_374 rfl ?_
  refine r_aload_n C 0 (q := 376) dL_law_375 rfl rfl ?_
  refine r_iload_n C 3 (q := 377) dL_law_376 rfl rfl ?_
  refine r_iconst C (v := 3) (q := 378) dL_law_377 (by decide) rfl ?_
  refine r_iadd C (q := 379) dL_law_378 rfl ?_
  obtain ⟨v_379, e_379, h⟩ := bs h
  refine r_sld C hX hbl hbA (q := 380) dL_law_379 e_379 rfl ?_
  refine r_aload_n C 0 (q := 381) dL_law_380 rfl rfl ?_
  refine r_iload_n C 3 (q := 382) dL_law_381 rfl rfl ?_
  refine r_iconst C (v := 4) (q := 383) dL_law_382 (by decide) rfl ?_
  refine r_iadd C (q := 384) dL_law_383 rfl ?_
  obtain ⟨v_384, e_384, h⟩ := bs h
  refine r_sld C hX hbl hbA (q := 385) dL_law_384 e_384 rfl ?_
  refine r_aload_n C 0 (q := 386) dL_law_385 rfl rfl ?_
  refine r_iload_n C 3 (q := 387) dL_law_386 rfl rfl ?_
  refine r_iconst C (v := 5) (q := 388) dL_law_387 (by decide) rfl ?_
  refine r_iadd C (q := 389) dL_law_388 rfl ?_
  obtain ⟨v_389, e_389, h⟩ := bs h
  refine r_sld C hX hbl hbA (q := 390) dL_law_389 e_389 rfl ?_
  obtain ⟨v_390, s_390, e_390, h⟩ := bs2 h
  refine r_callV C (ci := 5) (st := []) (st2 := [.int v_390]) (q := 393) (m_X5_copy (xG X) (xl X) hx1 e_390) ok_X5_copy hx1 rfl ⟨_, rfl⟩ q_293 rfl ⟨Nat.le_of_ble_eq_true rfl, Nat.le_of_ble_eq_true rfl⟩ rfl rfl (Nat.le_of_ble_eq_true rfl) dL_law_390 rfl (fun hp_390 => ?_)
  refine r_aload_n C 2 (q := 394) dL_law_393 rfl rfl ?_
  refine r_aload_n C 0 (q := 395) dL_law_394 rfl rfl ?_
  refine r_iload_n C 3 (q := 396) dL_law_395 rfl rfl ?_
  refine r_iconst C (v := 1) (q := 397) dL_law_396 (by decide) rfl ?_
  refine r_iadd C (q := 398) dL_law_397 rfl ?_
  obtain ⟨v_398, e_398, h⟩ := bs h
  refine r_sld C hX hbl hbA (q := 399) dL_law_398 e_398 rfl ?_
  refine r_aload_n C 0 (q := 400) dL_law_399 rfl rfl ?_
  refine r_iload_n C 3 (q := 401) dL_law_400 rfl rfl ?_
  refine r_iconst C (v := 2) (q := 402) dL_law_401 (by decide) rfl ?_
  refine r_iadd C (q := 403) dL_law_402 rfl ?_
  obtain ⟨v_403, e_403, h⟩ := bs h
  refine r_sld C hX hbl hbA (q := 404) dL_law_403 e_403 rfl ?_
  refine r_aload_n C 0 (q := 405) dL_law_404 rfl rfl ?_
  refine r_iload_n C 3 (q := 406) dL_law_405 rfl rfl ?_
  refine r_iconst C (v := 3) (q := 407) dL_law_406 (by decide) rfl ?_
  refine r_iadd C (q := 408) dL_law_407 rfl ?_
  obtain ⟨v_408, e_408, h⟩ := bs h
  refine r_sld C hX hbl hbA (q := 409) dL_law_408 e_408 rfl ?_
  refine r_aload_n C 0 (q := 410) dL_law_409 rfl rfl ?_
  refine r_iload_n C 3 (q := 411) dL_law_410 rfl rfl ?_
  refine r_iconst C (v := 4) (q := 412) dL_law_411 (by decide) rfl ?_
  refine r_iadd C (q := 413) dL_law_412 rfl ?_
  obtain ⟨v_413, e_413, h⟩ := bs h
  refine r_sld C hX hbl hbA (q := 414) dL_law_413 e_413 rfl ?_
  refine r_aload_n C 0 (q := 415) dL_law_414 rfl rfl ?_
  refine r_iload_n C 3 (q := 416) dL_law_415 rfl rfl ?_
  refine r_iconst C (v := 5) (q := 417) dL_law_416 (by decide) rfl ?_
  refine r_iadd C (q := 418) dL_law_417 rfl ?_
  obtain ⟨v_418, e_418, h⟩ := bs h
  refine r_sld C hX hbl hbA (q := 419) dL_law_418 e_418 rfl ?_
  obtain ⟨v_419, s_419, e_419, h⟩ := bs2 h
  refine r_callV C (ci := 6) (st := [.int v_390]) (st2 := [.int v_419, .int v_390]) (q := 422) (m_X6_copy (xG X) (xl X) hx2 e_419) ok_X6_copy hx2 rfl ⟨_, rfl⟩ q_1096 rfl ⟨Nat.le_of_ble_eq_true rfl, Nat.le_of_ble_eq_true rfl⟩ rfl rfl (Nat.le_of_ble_eq_true rfl) dL_law_419 rfl (fun hp_419 => ?_)
  refine r_icmp_eq C (tgt := 1621) (q := 425) dL_law_422 (by decide) rfl (fun c_422 => ?_) (fun c_422 => ?_)
  · replace h := (if_pos c_422).symm.trans h
    exact w_L_law_b1621 C hr hX hbl hbA _ hk_18 _ _ _ _ hx1 hx2 h
  · replace h := (if_neg c_422).symm.trans h
    refine r_iconst C (v := 0) (q := 426) dL_law_425 (by decide) rfl ?_
    obtain ⟨rfl, rfl⟩ := Prod.mk.inj (Option.some.inj h)
    exact hr _ _ dL_law_426 (Or.inl rfl)

set_option maxHeartbeats 4000000 in
set_option maxRecDepth 100000 in
theorem w_L_law_b291 {X : CX} (C : Cok X RL cL_law 4 13 478) {σ' : St} {r : Int32} (hr : RtZ X cL_law r σ') {b L : Nat} {xs : Nat → Int32} (hX : va_X b L xs (xs_ X) (xs_ X).heap) (hbl : b < (xs_ X).heap.size) (hbA : ¬ dom (xG X) b) (k_18 : St → Nat → Nat → Int32 → Option (Int32 × St)) (hk_18 : ∀ (σ : St) (x1 : Nat) (x2 : Nat) (x3 : Int32), kd x1 = 6 → kd x2 = 7 → k_18 σ x1 x2 x3 = some (r, σ') → V X σ 18 [(0, .ref b), (1, .ref ((xG X).1 x1)), (2, .ref ((xG X).1 x2)), (3, .int x3)] []) (σ : St) (x1 : Nat) (x2 : Nat) (x3 : Int32) (hx1 : kd x1 = 6) (hx2 : kd x2 = 7) (h : f_L_law_b291 L xs k_18 σ x1 x2 x3 = some (r, σ')) : V X σ 291 [(0, .ref b), (1, .ref ((xG X).1 x1)), (2, .ref ((xG X).1 x2)), (3, .int x3)] [] := by
  unfold f_L_law_b291 at h
  refine r_aload_n C 1 (q := 292) dL_law_291 rfl rfl ?_
  refine r_aload_n C 0 (q := 293) dL_law_292 rfl rfl ?_
  refine r_iload_n C 3 (q := 294) dL_law_293 rfl rfl ?_
  refine r_iconst C (v := 1) (q := 295) dL_law_294 (by decide) rfl ?_
  refine r_iadd C (q := 296) dL_law_295 rfl ?_
  obtain ⟨v_296, e_296, h⟩ := bs h
  refine r_sld C hX hbl hbA (q := 297) dL_law_296 e_296 rfl ?_
  refine r_aload_n C 0 (q := 298) dL_law_297 rfl rfl ?_
  refine r_iload_n C 3 (q := 299) dL_law_298 rfl rfl ?_
  refine r_iconst C (v := 2) (q := 300) dL_law_299 (by decide) rfl ?_
  refine r_iadd C (q := 301) dL_law_300 rfl ?_
  obtain ⟨v_301, e_301, h⟩ := bs h
  refine r_sld C hX hbl hbA (q := 302) dL_law_301 e_301 rfl ?_
  refine r_aload_n C 0 (q := 303) dL_law_302 rfl rfl ?_
  refine r_iload_n C 3 (q := 304) dL_law_303 rfl rfl ?_
  refine r_iconst C (v := 3) (q := 305) dL_law_304 (by decide) rfl ?_
  refine r_iadd C (q := 306) dL_law_305 rfl ?_
  obtain ⟨v_306, e_306, h⟩ := bs h
  refine r_sld C hX hbl hbA (q := 307) dL_law_306 e_306 rfl ?_
  refine r_i2l C (q := 308) dL_law_307 rfl ?_
  refine r_bipush C (v := 32) (q := 310) dL_law_308 (by decide) rfl ?_
  refine r_lshl C (q := 311) dL_law_310 rfl ?_
  refine r_aload_n C 0 (q := 312) dL_law_311 rfl rfl ?_
  refine r_iload_n C 3 (q := 313) dL_law_312 rfl rfl ?_
  refine r_iconst C (v := 4) (q := 314) dL_law_313 (by decide) rfl ?_
  refine r_iadd C (q := 315) dL_law_314 rfl ?_
  obtain ⟨v_315, e_315, h⟩ := bs h
  refine r_sld C hX hbl hbA (q := 316) dL_law_315 e_315 rfl ?_
  refine r_i2l C (q := 317) dL_law_316 rfl ?_
  refine r_ldc2 C (v := 4294967295) (q := 320) dL_law_317 q_1457 rfl ?_
  refine r_land C (q := 321) dL_law_320 rfl ?_
  refine r_lor C (q := 322) dL_law_321 rfl ?_
  obtain ⟨v_322, s_322, e_322, h⟩ := bs2 h
  refine r_callV C (ci := 5) (st := []) (st2 := [.int v_322]) (q := 325) (m_X5_set (xG X) (xl X) hx1 e_322) ok_X5_set hx1 rfl ⟨_, rfl⟩ q_263 rfl ⟨Nat.le_of_ble_eq_true rfl, Nat.le_of_ble_eq_true rfl⟩ rfl rfl (Nat.le_of_ble_eq_true rfl) dL_law_322 rfl (fun hp_322 => ?_)
  refine r_aload_n C 2 (q := 326) dL_law_325 rfl rfl ?_
  refine r_aload_n C 0 (q := 327) dL_law_326 rfl rfl ?_
  refine r_iload_n C 3 (q := 328) dL_law_327 rfl rfl ?_
  refine r_iconst C (v := 1) (q := 329) dL_law_328 (by decide) rfl ?_
  refine r_iadd C (q := 330) dL_law_329 rfl ?_
  obtain ⟨v_330, e_330, h⟩ := bs h
  refine r_sld C hX hbl hbA (q := 331) dL_law_330 e_330 rfl ?_
  refine r_aload_n C 0 (q := 332) dL_law_331 rfl rfl ?_
  refine r_iload_n C 3 (q := 333) dL_law_332 rfl rfl ?_
  refine r_iconst C (v := 2) (q := 334) dL_law_333 (by decide) rfl ?_
  refine r_iadd C (q := 335) dL_law_334 rfl ?_
  obtain ⟨v_335, e_335, h⟩ := bs h
  refine r_sld C hX hbl hbA (q := 336) dL_law_335 e_335 rfl ?_
  refine r_aload_n C 0 (q := 337) dL_law_336 rfl rfl ?_
  refine r_iload_n C 3 (q := 338) dL_law_337 rfl rfl ?_
  refine r_iconst C (v := 3) (q := 339) dL_law_338 (by decide) rfl ?_
  refine r_iadd C (q := 340) dL_law_339 rfl ?_
  obtain ⟨v_340, e_340, h⟩ := bs h
  refine r_sld C hX hbl hbA (q := 341) dL_law_340 e_340 rfl ?_
  refine r_i2l C (q := 342) dL_law_341 rfl ?_
  refine r_bipush C (v := 32) (q := 344) dL_law_342 (by decide) rfl ?_
  refine r_lshl C (q := 345) dL_law_344 rfl ?_
  refine r_aload_n C 0 (q := 346) dL_law_345 rfl rfl ?_
  refine r_iload_n C 3 (q := 347) dL_law_346 rfl rfl ?_
  refine r_iconst C (v := 4) (q := 348) dL_law_347 (by decide) rfl ?_
  refine r_iadd C (q := 349) dL_law_348 rfl ?_
  obtain ⟨v_349, e_349, h⟩ := bs h
  refine r_sld C hX hbl hbA (q := 350) dL_law_349 e_349 rfl ?_
  refine r_i2l C (q := 351) dL_law_350 rfl ?_
  refine r_ldc2 C (v := 4294967295) (q := 354) dL_law_351 q_1457 rfl ?_
  refine r_land C (q := 355) dL_law_354 rfl ?_
  refine r_lor C (q := 356) dL_law_355 rfl ?_
  obtain ⟨v_356, s_356, e_356, h⟩ := bs2 h
  refine r_callV C (ci := 6) (st := [.int v_322]) (st2 := [.int v_356, .int v_322]) (q := 359) (m_X6_set (xG X) (xl X) hx2 e_356) ok_X6_set hx2 rfl ⟨_, rfl⟩ q_1088 rfl ⟨Nat.le_of_ble_eq_true rfl, Nat.le_of_ble_eq_true rfl⟩ rfl rfl (Nat.le_of_ble_eq_true rfl) dL_law_356 rfl (fun hp_356 => ?_)
  refine r_icmp_eq C (tgt := 1621) (q := 362) dL_law_359 (by decide) rfl (fun c_359 => ?_) (fun c_359 => ?_)
  · replace h := (if_pos c_359).symm.trans h
    exact w_L_law_b1621 C hr hX hbl hbA _ hk_18 _ _ _ _ hx1 hx2 h
  · replace h := (if_neg c_359).symm.trans h
    refine r_iconst C (v := 0) (q := 363) dL_law_362 (by decide) rfl ?_
    obtain ⟨rfl, rfl⟩ := Prod.mk.inj (Option.some.inj h)
    exact hr _ _ dL_law_363 (Or.inl rfl)

set_option maxHeartbeats 4000000 in
set_option maxRecDepth 100000 in
theorem w_L_law_b248 {X : CX} (C : Cok X RL cL_law 4 13 478) {σ' : St} {r : Int32} (hr : RtZ X cL_law r σ') {b L : Nat} {xs : Nat → Int32} (hX : va_X b L xs (xs_ X) (xs_ X).heap) (hbl : b < (xs_ X).heap.size) (hbA : ¬ dom (xG X) b) (k_18 : St → Nat → Nat → Int32 → Option (Int32 × St)) (hk_18 : ∀ (σ : St) (x1 : Nat) (x2 : Nat) (x3 : Int32), kd x1 = 6 → kd x2 = 7 → k_18 σ x1 x2 x3 = some (r, σ') → V X σ 18 [(0, .ref b), (1, .ref ((xG X).1 x1)), (2, .ref ((xG X).1 x2)), (3, .int x3)] []) (σ : St) (x1 : Nat) (x2 : Nat) (x3 : Int32) (hx1 : kd x1 = 6) (hx2 : kd x2 = 7) (h : f_L_law_b248 L xs k_18 σ x1 x2 x3 = some (r, σ')) : V X σ 248 [(0, .ref b), (1, .ref ((xG X).1 x1)), (2, .ref ((xG X).1 x2)), (3, .int x3)] [] := by
  unfold f_L_law_b248 at h
  refine r_aload_n C 1 (q := 249) dL_law_248 rfl rfl ?_
  refine r_aload_n C 0 (q := 250) dL_law_249 rfl rfl ?_
  refine r_iload_n C 3 (q := 251) dL_law_250 rfl rfl ?_
  refine r_iconst C (v := 1) (q := 252) dL_law_251 (by decide) rfl ?_
  refine r_iadd C (q := 253) dL_law_252 rfl ?_
  obtain ⟨v_253, e_253, h⟩ := bs h
  refine r_sld C hX hbl hbA (q := 254) dL_law_253 e_253 rfl ?_
  refine r_aload_n C 0 (q := 255) dL_law_254 rfl rfl ?_
  refine r_iload_n C 3 (q := 256) dL_law_255 rfl rfl ?_
  refine r_iconst C (v := 2) (q := 257) dL_law_256 (by decide) rfl ?_
  refine r_iadd C (q := 258) dL_law_257 rfl ?_
  obtain ⟨v_258, e_258, h⟩ := bs h
  refine r_sld C hX hbl hbA (q := 259) dL_law_258 e_258 rfl ?_
  refine r_aload_n C 0 (q := 260) dL_law_259 rfl rfl ?_
  refine r_iload_n C 3 (q := 261) dL_law_260 rfl rfl ?_
  refine r_iconst C (v := 3) (q := 262) dL_law_261 (by decide) rfl ?_
  refine r_iadd C (q := 263) dL_law_262 rfl ?_
  obtain ⟨v_263, e_263, h⟩ := bs h
  refine r_sld C hX hbl hbA (q := 264) dL_law_263 e_263 rfl ?_
  obtain ⟨v_264, s_264, e_264, h⟩ := bs2 h
  refine r_callV C (ci := 5) (st := []) (st2 := [.int v_264]) (q := 267) (m_X5_row (xG X) (xl X) hx1 e_264) ok_X5_row hx1 rfl ⟨_, rfl⟩ q_231 rfl ⟨Nat.le_of_ble_eq_true rfl, Nat.le_of_ble_eq_true rfl⟩ rfl rfl (Nat.le_of_ble_eq_true rfl) dL_law_264 rfl (fun hp_264 => ?_)
  refine r_aload_n C 2 (q := 268) dL_law_267 rfl rfl ?_
  refine r_aload_n C 0 (q := 269) dL_law_268 rfl rfl ?_
  refine r_iload_n C 3 (q := 270) dL_law_269 rfl rfl ?_
  refine r_iconst C (v := 1) (q := 271) dL_law_270 (by decide) rfl ?_
  refine r_iadd C (q := 272) dL_law_271 rfl ?_
  obtain ⟨v_272, e_272, h⟩ := bs h
  refine r_sld C hX hbl hbA (q := 273) dL_law_272 e_272 rfl ?_
  refine r_aload_n C 0 (q := 274) dL_law_273 rfl rfl ?_
  refine r_iload_n C 3 (q := 275) dL_law_274 rfl rfl ?_
  refine r_iconst C (v := 2) (q := 276) dL_law_275 (by decide) rfl ?_
  refine r_iadd C (q := 277) dL_law_276 rfl ?_
  obtain ⟨v_277, e_277, h⟩ := bs h
  refine r_sld C hX hbl hbA (q := 278) dL_law_277 e_277 rfl ?_
  refine r_aload_n C 0 (q := 279) dL_law_278 rfl rfl ?_
  refine r_iload_n C 3 (q := 280) dL_law_279 rfl rfl ?_
  refine r_iconst C (v := 3) (q := 281) dL_law_280 (by decide) rfl ?_
  refine r_iadd C (q := 282) dL_law_281 rfl ?_
  obtain ⟨v_282, e_282, h⟩ := bs h
  refine r_sld C hX hbl hbA (q := 283) dL_law_282 e_282 rfl ?_
  obtain ⟨v_283, s_283, e_283, h⟩ := bs2 h
  refine r_callV C (ci := 6) (st := [.int v_264]) (st2 := [.int v_283, .int v_264]) (q := 286) (m_X6_row (xG X) (xl X) hx2 e_283) ok_X6_row hx2 rfl ⟨_, rfl⟩ q_1077 rfl ⟨Nat.le_of_ble_eq_true rfl, Nat.le_of_ble_eq_true rfl⟩ rfl rfl (Nat.le_of_ble_eq_true rfl) dL_law_283 rfl (fun hp_283 => ?_)
  refine r_icmp_eq C (tgt := 1621) (q := 289) dL_law_286 (by decide) rfl (fun c_286 => ?_) (fun c_286 => ?_)
  · replace h := (if_pos c_286).symm.trans h
    exact w_L_law_b1621 C hr hX hbl hbA _ hk_18 _ _ _ _ hx1 hx2 h
  · replace h := (if_neg c_286).symm.trans h
    refine r_iconst C (v := 0) (q := 290) dL_law_289 (by decide) rfl ?_
    obtain ⟨rfl, rfl⟩ := Prod.mk.inj (Option.some.inj h)
    exact hr _ _ dL_law_290 (Or.inl rfl)

set_option maxHeartbeats 4000000 in
set_option maxRecDepth 100000 in
theorem w_L_law_b18 {X : CX} (C : Cok X RL cL_law 4 13 478) {σ' : St} {r : Int32} (hr : RtZ X cL_law r σ') {b L : Nat} {xs : Nat → Int32} (hX : va_X b L xs (xs_ X) (xs_ X).heap) (hbl : b < (xs_ X).heap.size) (hbA : ¬ dom (xG X) b) (k_18 : St → Nat → Nat → Int32 → Option (Int32 × St)) (hk_18 : ∀ (σ : St) (x1 : Nat) (x2 : Nat) (x3 : Int32), kd x1 = 6 → kd x2 = 7 → k_18 σ x1 x2 x3 = some (r, σ') → V X σ 18 [(0, .ref b), (1, .ref ((xG X).1 x1)), (2, .ref ((xG X).1 x2)), (3, .int x3)] []) (σ : St) (x1 : Nat) (x2 : Nat) (x3 : Int32) (hx1 : kd x1 = 6) (hx2 : kd x2 = 7) (h : f_L_law_b18 L xs k_18 σ x1 x2 x3 = some (r, σ')) : V X σ 18 [(0, .ref b), (1, .ref ((xG X).1 x1)), (2, .ref ((xG X).1 x2)), (3, .int x3)] [] := by
  unfold f_L_law_b18 at h
  refine r_iload_n C 3 (q := 19) dL_law_18 rfl rfl ?_
  refine r_aload_n C 0 (q := 20) dL_law_19 rfl rfl ?_
  refine r_xlen C hX hbl hbA (q := 21) dL_law_20 rfl ?_
  refine r_bipush C (v := 6) (q := 23) dL_law_21 (by decide) rfl ?_
  refine r_isub C (q := 24) dL_law_23 rfl ?_
  refine r_icmp_gt C (tgt := 1627) (q := 27) dL_law_24 (by decide) rfl (fun c_24 => ?_) (fun c_24 => ?_)
  · replace h := (if_pos c_24).symm.trans h
    refine r_iconst C (v := 1) (q := 1628) dL_law_1627 (by decide) rfl ?_
    obtain ⟨rfl, rfl⟩ := Prod.mk.inj (Option.some.inj h)
    exact hr _ _ dL_law_1628 (Or.inr rfl)
  · replace h := (if_neg c_24).symm.trans h
    refine r_aload_n C 0 (q := 28) dL_law_27 rfl rfl ?_
    refine r_iload_n C 3 (q := 29) dL_law_28 rfl rfl ?_
    obtain ⟨v_29, e_29, h⟩ := bs h
    refine r_sld C hX hbl hbA (q := 30) dL_law_29 e_29 rfl ?_
    refine r_bipush C (v := 63) (q := 32) dL_law_30 (by decide) rfl ?_
    refine r_iand C (q := 33) dL_law_32 rfl ?_
    by_cases c_33_0 : (v_29 &&& 63) = 0
    · replace h := (if_pos c_33_0).symm.trans h
      refine r_tabIn C (tgt := 248) (off := 215) dL_law_33 (by rw [c_33_0]; decide) (by rw [c_33_0]; decide) (by rw [c_33_0]; rfl) (by decide) ?_
      exact w_L_law_b248 C hr hX hbl hbA _ hk_18 _ _ _ _ hx1 hx2 h
    · replace h := (if_neg c_33_0).symm.trans h
      by_cases c_33_1 : (v_29 &&& 63) = 1
      · replace h := (if_pos c_33_1).symm.trans h
        refine r_tabIn C (tgt := 291) (off := 258) dL_law_33 (by rw [c_33_1]; decide) (by rw [c_33_1]; decide) (by rw [c_33_1]; rfl) (by decide) ?_
        exact w_L_law_b291 C hr hX hbl hbA _ hk_18 _ _ _ _ hx1 hx2 h
      · replace h := (if_neg c_33_1).symm.trans h
        by_cases c_33_2 : (v_29 &&& 63) = 2
        · replace h := (if_pos c_33_2).symm.trans h
          refine r_tabIn C (tgt := 364) (off := 331) dL_law_33 (by rw [c_33_2]; decide) (by rw [c_33_2]; decide) (by rw [c_33_2]; rfl) (by decide) ?_
          exact w_L_law_b364 C hr hX hbl hbA _ hk_18 _ _ _ _ hx1 hx2 h
        · replace h := (if_neg c_33_2).symm.trans h
          by_cases c_33_3 : (v_29 &&& 63) = 3
          · replace h := (if_pos c_33_3).symm.trans h
            refine r_tabIn C (tgt := 427) (off := 394) dL_law_33 (by rw [c_33_3]; decide) (by rw [c_33_3]; decide) (by rw [c_33_3]; rfl) (by decide) ?_
            exact w_L_law_b427 C hr hX hbl hbA _ hk_18 _ _ _ _ hx1 hx2 h
          · replace h := (if_neg c_33_3).symm.trans h
            by_cases c_33_4 : (v_29 &&& 63) = 4
            · replace h := (if_pos c_33_4).symm.trans h
              refine r_tabIn C (tgt := 461) (off := 428) dL_law_33 (by rw [c_33_4]; decide) (by rw [c_33_4]; decide) (by rw [c_33_4]; rfl) (by decide) ?_
              exact w_L_law_b461 C hr hX hbl hbA _ hk_18 _ _ _ _ hx1 hx2 h
            · replace h := (if_neg c_33_4).symm.trans h
              by_cases c_33_5 : (v_29 &&& 63) = 5
              · replace h := (if_pos c_33_5).symm.trans h
                refine r_tabIn C (tgt := 484) (off := 451) dL_law_33 (by rw [c_33_5]; decide) (by rw [c_33_5]; decide) (by rw [c_33_5]; rfl) (by decide) ?_
                exact w_L_law_b484 C hr hX hbl hbA _ hk_18 _ _ _ _ hx1 hx2 h
              · replace h := (if_neg c_33_5).symm.trans h
                by_cases c_33_6 : (v_29 &&& 63) = 6
                · replace h := (if_pos c_33_6).symm.trans h
                  refine r_tabIn C (tgt := 517) (off := 484) dL_law_33 (by rw [c_33_6]; decide) (by rw [c_33_6]; decide) (by rw [c_33_6]; rfl) (by decide) ?_
                  exact w_L_law_b517 C hr hX hbl hbA _ hk_18 _ _ _ _ hx1 hx2 h
                · replace h := (if_neg c_33_6).symm.trans h
                  by_cases c_33_7 : (v_29 &&& 63) = 7
                  · replace h := (if_pos c_33_7).symm.trans h
                    refine r_tabIn C (tgt := 550) (off := 517) dL_law_33 (by rw [c_33_7]; decide) (by rw [c_33_7]; decide) (by rw [c_33_7]; rfl) (by decide) ?_
                    exact w_L_law_b550 C hr hX hbl hbA _ hk_18 _ _ _ _ hx1 hx2 h
                  · replace h := (if_neg c_33_7).symm.trans h
                    by_cases c_33_8 : (v_29 &&& 63) = 8
                    · replace h := (if_pos c_33_8).symm.trans h
                      refine r_tabIn C (tgt := 583) (off := 550) dL_law_33 (by rw [c_33_8]; decide) (by rw [c_33_8]; decide) (by rw [c_33_8]; rfl) (by decide) ?_
                      exact w_L_law_b583 C hr hX hbl hbA _ hk_18 _ _ _ _ hx1 hx2 h
                    · replace h := (if_neg c_33_8).symm.trans h
                      by_cases c_33_9 : (v_29 &&& 63) = 9
                      · replace h := (if_pos c_33_9).symm.trans h
                        refine r_tabIn C (tgt := 616) (off := 583) dL_law_33 (by rw [c_33_9]; decide) (by rw [c_33_9]; decide) (by rw [c_33_9]; rfl) (by decide) ?_
                        exact w_L_law_b616 C hr hX hbl hbA _ hk_18 _ _ _ _ hx1 hx2 h
                      · replace h := (if_neg c_33_9).symm.trans h
                        by_cases c_33_10 : (v_29 &&& 63) = 10
                        · replace h := (if_pos c_33_10).symm.trans h
                          refine r_tabIn C (tgt := 655) (off := 622) dL_law_33 (by rw [c_33_10]; decide) (by rw [c_33_10]; decide) (by rw [c_33_10]; rfl) (by decide) ?_
                          exact w_L_law_b655 C hr hX hbl hbA _ hk_18 _ _ _ _ hx1 hx2 h
                        · replace h := (if_neg c_33_10).symm.trans h
                          by_cases c_33_11 : (v_29 &&& 63) = 11
                          · replace h := (if_pos c_33_11).symm.trans h
                            refine r_tabIn C (tgt := 698) (off := 665) dL_law_33 (by rw [c_33_11]; decide) (by rw [c_33_11]; decide) (by rw [c_33_11]; rfl) (by decide) ?_
                            exact w_L_law_b698 C hr hX hbl hbA _ hk_18 _ _ _ _ hx1 hx2 h
                          · replace h := (if_neg c_33_11).symm.trans h
                            by_cases c_33_12 : (v_29 &&& 63) = 12
                            · replace h := (if_pos c_33_12).symm.trans h
                              refine r_tabIn C (tgt := 757) (off := 724) dL_law_33 (by rw [c_33_12]; decide) (by rw [c_33_12]; decide) (by rw [c_33_12]; rfl) (by decide) ?_
                              exact w_L_law_b757 C hr hX hbl hbA _ hk_18 _ _ _ _ hx1 hx2 h
                            · replace h := (if_neg c_33_12).symm.trans h
                              by_cases c_33_13 : (v_29 &&& 63) = 13
                              · replace h := (if_pos c_33_13).symm.trans h
                                refine r_tabIn C (tgt := 790) (off := 757) dL_law_33 (by rw [c_33_13]; decide) (by rw [c_33_13]; decide) (by rw [c_33_13]; rfl) (by decide) ?_
                                exact w_L_law_b790 C hr hX hbl hbA _ hk_18 _ _ _ _ hx1 hx2 h
                              · replace h := (if_neg c_33_13).symm.trans h
                                by_cases c_33_14 : (v_29 &&& 63) = 14
                                · replace h := (if_pos c_33_14).symm.trans h
                                  refine r_tabIn C (tgt := 813) (off := 780) dL_law_33 (by rw [c_33_14]; decide) (by rw [c_33_14]; decide) (by rw [c_33_14]; rfl) (by decide) ?_
                                  exact w_L_law_b813 C hr hX hbl hbA _ hk_18 _ _ _ _ hx1 hx2 h
                                · replace h := (if_neg c_33_14).symm.trans h
                                  by_cases c_33_15 : (v_29 &&& 63) = 15
                                  · replace h := (if_pos c_33_15).symm.trans h
                                    refine r_tabIn C (tgt := 826) (off := 793) dL_law_33 (by rw [c_33_15]; decide) (by rw [c_33_15]; decide) (by rw [c_33_15]; rfl) (by decide) ?_
                                    exact w_L_law_b826 C hr hX hbl hbA _ hk_18 _ _ _ _ hx1 hx2 h
                                  · replace h := (if_neg c_33_15).symm.trans h
                                    by_cases c_33_16 : (v_29 &&& 63) = 16
                                    · replace h := (if_pos c_33_16).symm.trans h
                                      refine r_tabIn C (tgt := 839) (off := 806) dL_law_33 (by rw [c_33_16]; decide) (by rw [c_33_16]; decide) (by rw [c_33_16]; rfl) (by decide) ?_
                                      exact w_L_law_b839 C hr hX hbl hbA _ hk_18 _ _ _ _ hx1 hx2 h
                                    · replace h := (if_neg c_33_16).symm.trans h
                                      by_cases c_33_17 : (v_29 &&& 63) = 17
                                      · replace h := (if_pos c_33_17).symm.trans h
                                        refine r_tabIn C (tgt := 872) (off := 839) dL_law_33 (by rw [c_33_17]; decide) (by rw [c_33_17]; decide) (by rw [c_33_17]; rfl) (by decide) ?_
                                        exact w_L_law_b872 C hr hX hbl hbA _ hk_18 _ _ _ _ hx1 hx2 h
                                      · replace h := (if_neg c_33_17).symm.trans h
                                        by_cases c_33_18 : (v_29 &&& 63) = 18
                                        · replace h := (if_pos c_33_18).symm.trans h
                                          refine r_tabIn C (tgt := 905) (off := 872) dL_law_33 (by rw [c_33_18]; decide) (by rw [c_33_18]; decide) (by rw [c_33_18]; rfl) (by decide) ?_
                                          exact w_L_law_b905 C hr hX hbl hbA _ hk_18 _ _ _ _ hx1 hx2 h
                                        · replace h := (if_neg c_33_18).symm.trans h
                                          by_cases c_33_19 : (v_29 &&& 63) = 19
                                          · replace h := (if_pos c_33_19).symm.trans h
                                            refine r_tabIn C (tgt := 948) (off := 915) dL_law_33 (by rw [c_33_19]; decide) (by rw [c_33_19]; decide) (by rw [c_33_19]; rfl) (by decide) ?_
                                            exact w_L_law_b948 C hr hX hbl hbA _ hk_18 _ _ _ _ hx1 hx2 h
                                          · replace h := (if_neg c_33_19).symm.trans h
                                            by_cases c_33_20 : (v_29 &&& 63) = 20
                                            · replace h := (if_pos c_33_20).symm.trans h
                                              refine r_tabIn C (tgt := 971) (off := 938) dL_law_33 (by rw [c_33_20]; decide) (by rw [c_33_20]; decide) (by rw [c_33_20]; rfl) (by decide) ?_
                                              exact w_L_law_b971 C hr hX hbl hbA _ hk_18 _ _ _ _ hx1 hx2 h
                                            · replace h := (if_neg c_33_20).symm.trans h
                                              by_cases c_33_21 : (v_29 &&& 63) = 21
                                              · replace h := (if_pos c_33_21).symm.trans h
                                                refine r_tabIn C (tgt := 994) (off := 961) dL_law_33 (by rw [c_33_21]; decide) (by rw [c_33_21]; decide) (by rw [c_33_21]; rfl) (by decide) ?_
                                                exact w_L_law_b994 C hr hX hbl hbA _ hk_18 _ _ _ _ hx1 hx2 h
                                              · replace h := (if_neg c_33_21).symm.trans h
                                                by_cases c_33_22 : (v_29 &&& 63) = 22
                                                · replace h := (if_pos c_33_22).symm.trans h
                                                  refine r_tabIn C (tgt := 1007) (off := 974) dL_law_33 (by rw [c_33_22]; decide) (by rw [c_33_22]; decide) (by rw [c_33_22]; rfl) (by decide) ?_
                                                  exact w_L_law_b1007 C hr hX hbl hbA _ hk_18 _ _ _ _ hx1 hx2 h
                                                · replace h := (if_neg c_33_22).symm.trans h
                                                  by_cases c_33_23 : (v_29 &&& 63) = 23
                                                  · replace h := (if_pos c_33_23).symm.trans h
                                                    refine r_tabIn C (tgt := 1020) (off := 987) dL_law_33 (by rw [c_33_23]; decide) (by rw [c_33_23]; decide) (by rw [c_33_23]; rfl) (by decide) ?_
                                                    exact w_L_law_b1020 C hr hX hbl hbA _ hk_18 _ _ _ _ hx1 hx2 h
                                                  · replace h := (if_neg c_33_23).symm.trans h
                                                    by_cases c_33_24 : (v_29 &&& 63) = 24
                                                    · replace h := (if_pos c_33_24).symm.trans h
                                                      refine r_tabIn C (tgt := 1043) (off := 1010) dL_law_33 (by rw [c_33_24]; decide) (by rw [c_33_24]; decide) (by rw [c_33_24]; rfl) (by decide) ?_
                                                      exact w_L_law_b1043 C hr hX hbl hbA _ hk_18 _ _ _ _ hx1 hx2 h
                                                    · replace h := (if_neg c_33_24).symm.trans h
                                                      by_cases c_33_25 : (v_29 &&& 63) = 25
                                                      · replace h := (if_pos c_33_25).symm.trans h
                                                        refine r_tabIn C (tgt := 1066) (off := 1033) dL_law_33 (by rw [c_33_25]; decide) (by rw [c_33_25]; decide) (by rw [c_33_25]; rfl) (by decide) ?_
                                                        exact w_L_law_b1066 C hr hX hbl hbA _ hk_18 _ _ _ _ hx1 hx2 h
                                                      · replace h := (if_neg c_33_25).symm.trans h
                                                        by_cases c_33_26 : (v_29 &&& 63) = 26
                                                        · replace h := (if_pos c_33_26).symm.trans h
                                                          refine r_tabIn C (tgt := 1099) (off := 1066) dL_law_33 (by rw [c_33_26]; decide) (by rw [c_33_26]; decide) (by rw [c_33_26]; rfl) (by decide) ?_
                                                          exact w_L_law_b1099 C hr hX hbl hbA _ hk_18 _ _ _ _ hx1 hx2 h
                                                        · replace h := (if_neg c_33_26).symm.trans h
                                                          by_cases c_33_27 : (v_29 &&& 63) = 27
                                                          · replace h := (if_pos c_33_27).symm.trans h
                                                            refine r_tabIn C (tgt := 1132) (off := 1099) dL_law_33 (by rw [c_33_27]; decide) (by rw [c_33_27]; decide) (by rw [c_33_27]; rfl) (by decide) ?_
                                                            exact w_L_law_b1132 C hr hX hbl hbA _ hk_18 _ _ _ _ hx1 hx2 h
                                                          · replace h := (if_neg c_33_27).symm.trans h
                                                            by_cases c_33_28 : (v_29 &&& 63) = 28
                                                            · replace h := (if_pos c_33_28).symm.trans h
                                                              refine r_tabIn C (tgt := 1165) (off := 1132) dL_law_33 (by rw [c_33_28]; decide) (by rw [c_33_28]; decide) (by rw [c_33_28]; rfl) (by decide) ?_
                                                              exact w_L_law_b1165 C hr hX hbl hbA _ hk_18 _ _ _ _ hx1 hx2 h
                                                            · replace h := (if_neg c_33_28).symm.trans h
                                                              by_cases c_33_29 : (v_29 &&& 63) = 29
                                                              · replace h := (if_pos c_33_29).symm.trans h
                                                                refine r_tabIn C (tgt := 1188) (off := 1155) dL_law_33 (by rw [c_33_29]; decide) (by rw [c_33_29]; decide) (by rw [c_33_29]; rfl) (by decide) ?_
                                                                exact w_L_law_b1188 C hr hX hbl hbA _ hk_18 _ _ _ _ hx1 hx2 h
                                                              · replace h := (if_neg c_33_29).symm.trans h
                                                                by_cases c_33_30 : (v_29 &&& 63) = 30
                                                                · replace h := (if_pos c_33_30).symm.trans h
                                                                  refine r_tabIn C (tgt := 1201) (off := 1168) dL_law_33 (by rw [c_33_30]; decide) (by rw [c_33_30]; decide) (by rw [c_33_30]; rfl) (by decide) ?_
                                                                  exact w_L_law_b1201 C hr hX hbl hbA _ hk_18 _ _ _ _ hx1 hx2 h
                                                                · replace h := (if_neg c_33_30).symm.trans h
                                                                  by_cases c_33_31 : (v_29 &&& 63) = 31
                                                                  · replace h := (if_pos c_33_31).symm.trans h
                                                                    refine r_tabIn C (tgt := 1224) (off := 1191) dL_law_33 (by rw [c_33_31]; decide) (by rw [c_33_31]; decide) (by rw [c_33_31]; rfl) (by decide) ?_
                                                                    exact w_L_law_b1224 C hr hX hbl hbA _ hk_18 _ _ _ _ hx1 hx2 h
                                                                  · replace h := (if_neg c_33_31).symm.trans h
                                                                    by_cases c_33_32 : (v_29 &&& 63) = 32
                                                                    · replace h := (if_pos c_33_32).symm.trans h
                                                                      refine r_tabIn C (tgt := 1247) (off := 1214) dL_law_33 (by rw [c_33_32]; decide) (by rw [c_33_32]; decide) (by rw [c_33_32]; rfl) (by decide) ?_
                                                                      exact w_L_law_b1247 C hr hX hbl hbA _ hk_18 _ _ _ _ hx1 hx2 h
                                                                    · replace h := (if_neg c_33_32).symm.trans h
                                                                      by_cases c_33_33 : (v_29 &&& 63) = 33
                                                                      · replace h := (if_pos c_33_33).symm.trans h
                                                                        refine r_tabIn C (tgt := 1270) (off := 1237) dL_law_33 (by rw [c_33_33]; decide) (by rw [c_33_33]; decide) (by rw [c_33_33]; rfl) (by decide) ?_
                                                                        exact w_L_law_b1270 C hr hX hbl hbA _ hk_18 _ _ _ _ hx1 hx2 h
                                                                      · replace h := (if_neg c_33_33).symm.trans h
                                                                        by_cases c_33_34 : (v_29 &&& 63) = 34
                                                                        · replace h := (if_pos c_33_34).symm.trans h
                                                                          refine r_tabIn C (tgt := 1303) (off := 1270) dL_law_33 (by rw [c_33_34]; decide) (by rw [c_33_34]; decide) (by rw [c_33_34]; rfl) (by decide) ?_
                                                                          exact w_L_law_b1303 C hr hX hbl hbA _ hk_18 _ _ _ _ hx1 hx2 h
                                                                        · replace h := (if_neg c_33_34).symm.trans h
                                                                          by_cases c_33_35 : (v_29 &&& 63) = 35
                                                                          · replace h := (if_pos c_33_35).symm.trans h
                                                                            refine r_tabIn C (tgt := 1316) (off := 1283) dL_law_33 (by rw [c_33_35]; decide) (by rw [c_33_35]; decide) (by rw [c_33_35]; rfl) (by decide) ?_
                                                                            exact w_L_law_b1316 C hr hX hbl hbA _ hk_18 _ _ _ _ hx1 hx2 h
                                                                          · replace h := (if_neg c_33_35).symm.trans h
                                                                            by_cases c_33_36 : (v_29 &&& 63) = 36
                                                                            · replace h := (if_pos c_33_36).symm.trans h
                                                                              refine r_tabIn C (tgt := 1329) (off := 1296) dL_law_33 (by rw [c_33_36]; decide) (by rw [c_33_36]; decide) (by rw [c_33_36]; rfl) (by decide) ?_
                                                                              exact w_L_law_b1329 C hr hX hbl hbA _ hk_18 _ _ _ _ hx1 hx2 h
                                                                            · replace h := (if_neg c_33_36).symm.trans h
                                                                              by_cases c_33_37 : (v_29 &&& 63) = 37
                                                                              · replace h := (if_pos c_33_37).symm.trans h
                                                                                refine r_tabIn C (tgt := 1342) (off := 1309) dL_law_33 (by rw [c_33_37]; decide) (by rw [c_33_37]; decide) (by rw [c_33_37]; rfl) (by decide) ?_
                                                                                exact w_L_law_b1342 C hr hX hbl hbA _ hk_18 _ _ _ _ hx1 hx2 h
                                                                              · replace h := (if_neg c_33_37).symm.trans h
                                                                                by_cases c_33_38 : (v_29 &&& 63) = 38
                                                                                · replace h := (if_pos c_33_38).symm.trans h
                                                                                  refine r_tabIn C (tgt := 1365) (off := 1332) dL_law_33 (by rw [c_33_38]; decide) (by rw [c_33_38]; decide) (by rw [c_33_38]; rfl) (by decide) ?_
                                                                                  exact w_L_law_b1365 C hr hX hbl hbA _ hk_18 _ _ _ _ hx1 hx2 h
                                                                                · replace h := (if_neg c_33_38).symm.trans h
                                                                                  by_cases c_33_39 : (v_29 &&& 63) = 39
                                                                                  · replace h := (if_pos c_33_39).symm.trans h
                                                                                    refine r_tabIn C (tgt := 1378) (off := 1345) dL_law_33 (by rw [c_33_39]; decide) (by rw [c_33_39]; decide) (by rw [c_33_39]; rfl) (by decide) ?_
                                                                                    exact w_L_law_b1378 C hr hX hbl hbA _ hk_18 _ _ _ _ hx1 hx2 h
                                                                                  · replace h := (if_neg c_33_39).symm.trans h
                                                                                    by_cases c_33_40 : (v_29 &&& 63) = 40
                                                                                    · replace h := (if_pos c_33_40).symm.trans h
                                                                                      refine r_tabIn C (tgt := 1401) (off := 1368) dL_law_33 (by rw [c_33_40]; decide) (by rw [c_33_40]; decide) (by rw [c_33_40]; rfl) (by decide) ?_
                                                                                      exact w_L_law_b1401 C hr hX hbl hbA _ hk_18 _ _ _ _ hx1 hx2 h
                                                                                    · replace h := (if_neg c_33_40).symm.trans h
                                                                                      by_cases c_33_41 : (v_29 &&& 63) = 41
                                                                                      · replace h := (if_pos c_33_41).symm.trans h
                                                                                        refine r_tabIn C (tgt := 1434) (off := 1401) dL_law_33 (by rw [c_33_41]; decide) (by rw [c_33_41]; decide) (by rw [c_33_41]; rfl) (by decide) ?_
                                                                                        exact w_L_law_b1434 C hr hX hbl hbA _ hk_18 _ _ _ _ hx1 hx2 h
                                                                                      · replace h := (if_neg c_33_41).symm.trans h
                                                                                        by_cases c_33_42 : (v_29 &&& 63) = 42
                                                                                        · replace h := (if_pos c_33_42).symm.trans h
                                                                                          refine r_tabIn C (tgt := 1457) (off := 1424) dL_law_33 (by rw [c_33_42]; decide) (by rw [c_33_42]; decide) (by rw [c_33_42]; rfl) (by decide) ?_
                                                                                          exact w_L_law_b1457 C hr hX hbl hbA _ hk_18 _ _ _ _ hx1 hx2 h
                                                                                        · replace h := (if_neg c_33_42).symm.trans h
                                                                                          by_cases c_33_43 : (v_29 &&& 63) = 43
                                                                                          · replace h := (if_pos c_33_43).symm.trans h
                                                                                            refine r_tabIn C (tgt := 1490) (off := 1457) dL_law_33 (by rw [c_33_43]; decide) (by rw [c_33_43]; decide) (by rw [c_33_43]; rfl) (by decide) ?_
                                                                                            exact w_L_law_b1490 C hr hX hbl hbA _ hk_18 _ _ _ _ hx1 hx2 h
                                                                                          · replace h := (if_neg c_33_43).symm.trans h
                                                                                            by_cases c_33_44 : (v_29 &&& 63) = 44
                                                                                            · replace h := (if_pos c_33_44).symm.trans h
                                                                                              refine r_tabIn C (tgt := 1513) (off := 1480) dL_law_33 (by rw [c_33_44]; decide) (by rw [c_33_44]; decide) (by rw [c_33_44]; rfl) (by decide) ?_
                                                                                              exact w_L_law_b1513 C hr hX hbl hbA _ hk_18 _ _ _ _ hx1 hx2 h
                                                                                            · replace h := (if_neg c_33_44).symm.trans h
                                                                                              by_cases c_33_45 : (v_29 &&& 63) = 45
                                                                                              · replace h := (if_pos c_33_45).symm.trans h
                                                                                                refine r_tabIn C (tgt := 1536) (off := 1503) dL_law_33 (by rw [c_33_45]; decide) (by rw [c_33_45]; decide) (by rw [c_33_45]; rfl) (by decide) ?_
                                                                                                exact w_L_law_b1536 C hr hX hbl hbA _ hk_18 _ _ _ _ hx1 hx2 h
                                                                                              · replace h := (if_neg c_33_45).symm.trans h
                                                                                                by_cases c_33_46 : (v_29 &&& 63) = 46
                                                                                                · replace h := (if_pos c_33_46).symm.trans h
                                                                                                  refine r_tabIn C (tgt := 1549) (off := 1516) dL_law_33 (by rw [c_33_46]; decide) (by rw [c_33_46]; decide) (by rw [c_33_46]; rfl) (by decide) ?_
                                                                                                  exact w_L_law_b1549 C hr hX hbl hbA _ hk_18 _ _ _ _ hx1 hx2 h
                                                                                                · replace h := (if_neg c_33_46).symm.trans h
                                                                                                  by_cases c_33_47 : (v_29 &&& 63) = 47
                                                                                                  · replace h := (if_pos c_33_47).symm.trans h
                                                                                                    refine r_tabIn C (tgt := 1572) (off := 1539) dL_law_33 (by rw [c_33_47]; decide) (by rw [c_33_47]; decide) (by rw [c_33_47]; rfl) (by decide) ?_
                                                                                                    exact w_L_law_b1572 C hr hX hbl hbA _ hk_18 _ _ _ _ hx1 hx2 h
                                                                                                  · replace h := (if_neg c_33_47).symm.trans h
                                                                                                    by_cases c_33_48 : (v_29 &&& 63) = 48
                                                                                                    · replace h := (if_pos c_33_48).symm.trans h
                                                                                                      refine r_tabIn C (tgt := 1585) (off := 1552) dL_law_33 (by rw [c_33_48]; decide) (by rw [c_33_48]; decide) (by rw [c_33_48]; rfl) (by decide) ?_
                                                                                                      exact w_L_law_b1585 C hr hX hbl hbA _ hk_18 _ _ _ _ hx1 hx2 h
                                                                                                    · replace h := (if_neg c_33_48).symm.trans h
                                                                                                      by_cases c_33_49 : (v_29 &&& 63) = 49
                                                                                                      · replace h := (if_pos c_33_49).symm.trans h
                                                                                                        refine r_tabIn C (tgt := 1598) (off := 1565) dL_law_33 (by rw [c_33_49]; decide) (by rw [c_33_49]; decide) (by rw [c_33_49]; rfl) (by decide) ?_
                                                                                                        exact w_L_law_b1598 C hr hX hbl hbA _ hk_18 _ _ _ _ hx1 hx2 h
                                                                                                      · replace h := (if_neg c_33_49).symm.trans h
                                                                                                        refine r_tabOut C (tgt := 1621) dL_law_33 (tab_out (lt_s (lt_s (lt_s (lt_s (lt_s (lt_s (lt_s (lt_s (lt_s (lt_s (lt_s (lt_s (lt_s (lt_s (lt_s (lt_s (lt_s (lt_s (lt_s (lt_s (lt_s (lt_s (lt_s (lt_s (lt_s (lt_s (lt_s (lt_s (lt_s (lt_s (lt_s (lt_s (lt_s (lt_s (lt_s (lt_s (lt_s (lt_s (lt_s (lt_s (lt_s (lt_s (lt_s (lt_s (lt_s (lt_s (lt_s (lt_s (lt_s (lt_s lt_0 c_33_0) c_33_1) c_33_2) c_33_3) c_33_4) c_33_5) c_33_6) c_33_7) c_33_8) c_33_9) c_33_10) c_33_11) c_33_12) c_33_13) c_33_14) c_33_15) c_33_16) c_33_17) c_33_18) c_33_19) c_33_20) c_33_21) c_33_22) c_33_23) c_33_24) c_33_25) c_33_26) c_33_27) c_33_28) c_33_29) c_33_30) c_33_31) c_33_32) c_33_33) c_33_34) c_33_35) c_33_36) c_33_37) c_33_38) c_33_39) c_33_40) c_33_41) c_33_42) c_33_43) c_33_44) c_33_45) c_33_46) c_33_47) c_33_48) c_33_49) (by decide)) (by decide) ?_
                                                                                                        exact w_L_law_b1621 C hr hX hbl hbA _ hk_18 _ _ _ _ hx1 hx2 h

theorem w_L_law_l18 {X : CX} (C : Cok X RL cL_law 4 13 478) {σ' : St} {r : Int32} (hr : RtZ X cL_law r σ') {b L : Nat} {xs : Nat → Int32} (hX : va_X b L xs (xs_ X) (xs_ X).heap) (hbl : b < (xs_ X).heap.size) (hbA : ¬ dom (xG X) b) (n : Nat) : ∀ (σ : St) (x1 : Nat) (x2 : Nat) (x3 : Int32), kd x1 = 6 → kd x2 = 7 → f_L_law_l18 L xs n σ x1 x2 x3 = some (r, σ') → V X σ 18 [(0, .ref b), (1, .ref ((xG X).1 x1)), (2, .ref ((xG X).1 x2)), (3, .int x3)] [] := by
  induction n with
  | zero =>
    intro σ x1 x2 x3 hx1 hx2 h
    exact nomatch (show (none : Option (Int32 × St)) = some (r, σ') from h)
  | succ n ih =>
    intro σ x1 x2 x3 hx1 hx2 h
    exact w_L_law_b18 C hr hX hbl hbA _ ih σ x1 x2 x3 hx1 hx2 h
