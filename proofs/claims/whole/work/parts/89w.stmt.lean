theorem mk_set {f : Nat → Bool} {n l : Nat} (hl : l < n) (hn : n ≤ 32) : mk f n ||| bitI l = mk (fun j => if j = l then true else f j) n := b_ext fun i hi => by
  rw [b_or, bt_bitI (by omega) hi, bt_mk _ hn hi, bt_mk _ hn hi]
  by_cases q : i = l
  · subst q; simp [hl]
  · simp [q]
theorem c_sWa {σ : St} {h : Nat} {S : HS} (H : HC σ h S) {l : Nat} (hl : l < nl S) (hn : nl S ≤ 8) : HC (setI σ h 7 (mk (wa S) (nl S) ||| bitI l)) h (sWa S l true) := by
  refine ⟨⟨?_, ?_, ?_, ?_, ?_, ?_, ?_, ?_⟩, fun k' hk' => ⟨?_, ?_, ?_, fun p' hp' => ?_⟩, fun l' hl' p' hp' => ?_, fun p' hp' d' hd' => ?_, ?_, ?_⟩
  · rw [setI_n (by (try unfold kI); omega)]; exact H.1.1
  · rw [setI_n (by (try unfold kI); omega)]; exact H.1.2.1
  · rw [setI_n (by (try unfold kI); omega)]; exact H.1.2.2.1
  · rw [setI_n (by (try unfold kI); omega)]; exact H.1.2.2.2.1
  · rw [setI_n (by (try unfold kI); omega)]; exact H.1.2.2.2.2.1
  · rw [setI_n (by (try unfold kI); omega)]; exact H.1.2.2.2.2.2.1
  · rw [setI_n (by (try unfold kI); omega)]; exact H.1.2.2.2.2.2.2.1
  · rw [setI_s, mk_set hl (by omega)]; rfl
  · rw [setI_n (by (try unfold kI); omega)]; exact (H.2.1 k' hk').1
  · rw [setI_n (by (try unfold kI); omega)]; exact (H.2.1 k' hk').2.1
  · rw [setI_n (by (try unfold kI); omega)]; exact (H.2.1 k' hk').2.2.1
  · rw [setI_n (by (try unfold kI); omega)]; exact (H.2.1 k' hk').2.2.2 p' hp'
  · rw [setI_n (by (try unfold kI); omega)]; exact H.2.2.1 l' hl' p' hp'
  · rw [setI_n (by (try unfold kI); omega)]; exact H.2.2.2.1 p' hp' d' hd'
  · rw [setI_n (by (try unfold kI); omega)]; exact H.2.2.2.2.1
  · rw [setI_n (by (try unfold kI); omega)]; exact H.2.2.2.2.2
theorem al1 (σ : St) (x : Nat) (y : Int32) : ∃ v, f_X1_allow σ x y 1 = some (v, setI σ x 2 (σ.1 x 2 ||| (1 <<< (y &&& 31)))) := by
  unfold f_X1_allow f_X1_allow_b32
  rw [bind_s, bind_s, if_neg (by decide), ptI_s, bind_s]
  split
  · exact ⟨0, rfl⟩
  · exact ⟨1, rfl⟩
section STMT2
variable {T : Nat → Nat} {n e d : Nat} {U : HS}
theorem RS.lo {d' : Nat} {pm : St → Prop} {fc fm : St → Option (Int32 × St)} (h : RS T n e d U pm fc fm) (hd : d' ≤ d) : RS T n e d' U pm fc fm := by
  rcases h with ⟨e', U', a, b, c, c', g⟩ | h
  · exact Or.inl ⟨e', U', a, b, by omega, c', g⟩
  · exact Or.inr h
theorem rs_ward (hT : Tb T n) {l : Nat} (he : e ≤ n) (hd : d ≤ e) (I : Inv U) (hl : l < nl U) : RS T n e d U (fun σ => MT σ T n e) (fun σ => f_X3_readLock_b41 σ 3 75 (nI l)) (fun σ => f_X6_statement_b338 σ 93 (nI l)) := by
  have n8 := I.1.2.2.2.2.2.2.2
  have hq := tq_le (T := T) he
  have hge := tq_ge (T := T) he
  cases w : wd T n e 7
  · refine RS.c (pm' := fun σ => MT σ T n e) (RS.end' I hd he) (fun σ x1 x2 x3 => ?_) (fun σ x1 x2 x3 => ⟨x3, ?_⟩)
    · unfold f_X3_readLock_b41 f_X3_readWord
      rw [c_word hT he x1 x3 (by decide), w, if_neg Bool.false_ne_true, bind_s, if_pos rfl, b2_s, if_pos rfl]
    · unfold f_X6_statement_b338
      rw [m_word hT he x1 x3 (by decide), w, if_neg Bool.false_ne_true, bind_s, if_pos rfl]
  · refine RS.c (pm' := fun σ => MT σ T n e) (RS.cad hT he (RS.upd (U' := sWa U l true) (pm' := fun σ => σ.1 93 18 = nI (tq T n e)) (Nat.le_refl _) (RS.fin hT (inv_wa I hl true) (show d ≤ tq T n e by omega) hq.2.1) (fc := fun s => (ptI s 75 7 ((s.1 75 7) ||| (1 <<< (nI l &&& 31)))).bind fun s_59 => some (1, s_59)) (fm := fun s => (stI s 101 (nI l) 1).bind fun s_355 => ((f_X6_next s_355 93).bind fun s_357 => (some (1, s_357)))) (fun σ x1 x2 x3 => ⟨_, ?_, c_sWa x2 hl n8, Fr.i (by unfold H75; omega)⟩) (fun σ x1 x2 x3 => ⟨setI σ 101 l 1, ?_, x2.wa' (l := l) true, by show (setI σ 101 l 1).1 93 18 = _; rw [setI_a (by decide)]; exact x3, Fr.i (by unfold XG; omega)⟩))) (fun σ x1 x2 x3 => ?_) (fun σ x1 x2 x3 => ⟨x3, ?_⟩)
    · show (ptI σ 75 7 ((σ.1 75 7) ||| bitI l)).bind _ = _
      rw [x2.1.2.2.2.2.2.2.2, ptI_s, bind_s]
    · show (stI σ 101 (nI l) 1).bind _ = _
      rw [stI_n (by rw [ln101]; omega), bind_s]
    · unfold f_X3_readLock_b41 f_X3_readWord
      rw [c_word hT he x1 x3 (by decide), w, if_pos rfl, bind_s, if_neg (by decide), bn_b2]
      refine congrArg (Option.bind _) (funext fun s => ?_)
      rw [b2_s, if_neg (by decide)]
    · unfold f_X6_statement_b338
      rw [m_word hT he x1 x3 (by decide), w, if_pos rfl, bind_s, if_neg (by decide)]
theorem rs_asks (hT : Tb T n) {l : Nat} {P D : Nat} (hP : P ≤ 5) (hD : D ≤ 4) : ∀ f m, m ≤ P → P - m < f → ∀ e U, e ≤ n → d ≤ e → Inv U → l < nl U → pl U = P → dp U = D → RS T n e d U (fun σ => σ.1 93 18 = nI e) (fun σ => b2 (f_X3_readAsks_l2 f σ 3 75 (nI l) (nI m)) fun v s => if v = 0 then some (0, s) else f_X3_readLock_b41 s 3 75 (nI l)) (fun σ => f_X6_statement_l292 f σ 93 (nI l) (nI m)) := by
  refine lp_up (P := fun f m => ∀ e U, e ≤ n → d ≤ e → Inv U → l < nl U → pl U = P → dp U = D → RS T n e d U (fun σ => σ.1 93 18 = nI e) (fun σ => b2 (f_X3_readAsks_l2 f σ 3 75 (nI l) (nI m)) fun v s => if v = 0 then some (0, s) else f_X3_readLock_b41 s 3 75 (nI l)) (fun σ => f_X6_statement_l292 f σ 93 (nI l) (nI m))) P (fun f e U he hd I hl eP eD => ?_) (fun f m hm ih e U he hd I hl eP eD => ?_)
  · refine RS.c (pm' := fun σ => σ.1 93 18 = nI e) (RS.syn hT he (rs_ward hT he hd I hl)) (fun σ x1 x2 x3 => ?_) (fun σ x1 x2 x3 => ⟨x3, ?_⟩)
    · have : f_X3_readAsks_l2 (f + 1) σ 3 75 (nI l) (nI P) = some (1, σ) := by
        show f_X3_readAsks_b2 (f_X3_readAsks_l2 f) σ 3 75 (nI l) (nI P) = _
        unfold f_X3_readAsks_b2
        rw [x2.1.1, eP, if_pos (nI_le (Nat.le_refl _) (by omega))]
      rw [this, b2_s, if_neg (by decide)]
    · show f_X6_statement_b292 (f_X6_statement_l292 f) σ 93 (nI l) (nI P) = _
      unfold f_X6_statement_b292
      rw [x2.1.1, eP, if_pos (nI_le (Nat.le_refl _) (by omega))]
  · have n8 := I.1.2.2.2.2.2.2.2
    have hq := tq_le (T := T) he
    have hge := tq_ge (T := T) he
    have eb : nI D = nI (D + 1) - 1 := by rw [npred (by omega), Nat.add_sub_cancel]
    refine RS.c (pm' := fun σ => σ.1 93 18 = nI e) (RS.num hT he 0 (D + 1) (by decide) (by omega) (kc := fun v s => (f_X0_putAsks s 75 (nI l) (nI m) v).bind fun s_34 => b2 (f_X3_readAsks_l2 f s_34 3 75 (nI l) (nI (m + 1))) fun v s => if v = 0 then some (0, s) else f_X3_readLock_b41 s 3 75 (nI l)) (km := fun v s => (stI s 102 ((5 * nI l) + nI m) v).bind fun s_327 => ((some (nI m + 1) : Option Int32).bind fun y_328 => (f_X6_statement_l292 f s_327 93 (nI l) y_328))) (fun v v1 v6 => RS.upd (U' := sAs U l m v) (pm' := fun σ => σ.1 93 18 = nI (tq T n e)) (Nat.le_refl _) (ih (tq T n e) (sAs U l m v) hq.2.1 (by omega) (inv_sAs I hl (by omega) (by omega)) hl eP eD) (fun σ x1 x2 x3 => ⟨PAm σ 75 l m v 5, ?_, c_sAs x2 hl n8 (by omega), ⟨fun a j z => by unfold H75 at z; exact PAm_n (by omega) (by omega), rfl⟩⟩) (fun σ x1 x2 x3 => ⟨setI σ 102 (5 * l + m) (nI v), ?_, m_sAs x2 (by omega), by show (setI σ 102 (5 * l + m) (nI v)).1 93 18 = _; rw [setI_a (by decide)]; exact x3, Fr.i (by unfold XG; omega)⟩))) (fun σ x1 x2 x3 => ?_) (fun σ x1 x2 x3 => ⟨x3, ?_⟩)
    · show (f_X0_putAsks σ 75 (nI l) (nI m) (nI v)).bind _ = _
      rw [c_putAsks isH75 (by omega) (by omega) (by omega), bind_s]
    · show (stI σ 102 ((5 * nI l) + nI m) (nI v)).bind _ = _
      rw [l_5, pk_mul, nI_add, stI_n (by rw [ln102]; omega), bind_s, nI_1, bind_s]
    · show b2 (f_X3_readAsks_b2 (f_X3_readAsks_l2 f) σ 3 75 (nI l) (nI m)) _ = _
      unfold f_X3_readAsks_b2
      rw [x2.1.1, eP, if_neg (nI_ge hm (by omega)), x2.1.2.1, eD, eb, b2_b2]
      refine b2_c fun v s => ?_
      by_cases q : v = -1
      · rw [if_pos q, if_pos q, b2_s, if_pos rfl]
      · rw [if_neg q, if_neg q, bn_b2, nI_1]
        rfl
    · show f_X6_statement_b292 (f_X6_statement_l292 f) σ 93 (nI l) (nI m) = _
      unfold f_X6_statement_b292
      rw [x2.1.1, eP, if_neg (nI_ge hm (by omega)), x2.1.2.1, eD, eb]
      rfl
/-- a lock: behind the word -/
theorem rs_lock (hT : Tb T n) (he : e ≤ n) (hd : d ≤ tq T n e) (I : Inv U) (hl : nl U < 8) : RS T n e d U (fun σ => MT σ T n e) (fun σ => f_X3_readLock σ 3 75) (fun σ => b2 (f_X6_newLock σ 93 0) fun v_273 s_273 => ((f_X6_next s_273 93).bind fun s_278 => ((f_X6_isWord s_278 93 6).bind fun v_284 => (if v_284 = 0 then (f_X6_statement_b338 s_278 93 v_273) else (f_X6_statement_l292 FU s_278 93 v_273 0))))) := by
  have p5 := I.1.2.1
  have d4 := I.1.2.2.2.1
  have hq := tq_le (T := T) he
  have hq2 := tq_le (T := T) hq.2.1
  have hge := tq_ge (T := T) hq.2.1
  have I' := inv_sLk I hl false
  have hl' : nl U < nl (sLk U false) := Nat.lt_succ_self (nl U)
  have tail : RS T n (tq T n e) d (sLk U false) (fun σ => MT σ T n (tq T n e)) (fun s => b2 (f_X3_readWord s 3 6) fun v_24 s_24 => (if v_24 = 0 then (f_X3_readLock_b41 s_24 3 75 (nI (nl U))) else (b2 (f_X3_readAsks s_24 3 75 (nI (nl U))) fun v_33 s_33 => (if v_33 = 0 then (some (0, s_33)) else (f_X3_readLock_b41 s_33 3 75 (nI (nl U))))))) (fun s => (f_X6_isWord s 93 6).bind fun v_284 => (if v_284 = 0 then (f_X6_statement_b338 s 93 (nI (nl U))) else (f_X6_statement_l292 FU s 93 (nI (nl U)) 0))) := by
    cases w : wd T n (tq T n e) 6
    · refine RS.c (pm' := fun σ => MT σ T n (tq T n e)) (rs_ward hT hq.2.1 hd I' hl') (fun σ x1 x2 x3 => ?_) (fun σ x1 x2 x3 => ⟨x3, ?_⟩)
      · unfold f_X3_readWord
        rw [c_word hT hq.2.1 x1 x3 (by decide), w, if_neg Bool.false_ne_true, bind_s, if_pos rfl, b2_s, if_pos rfl]
      · rw [m_word hT hq.2.1 x1 x3 (by decide), w, if_neg Bool.false_ne_true, bind_s, if_pos rfl]
    · refine RS.c (pm' := fun σ => MT σ T n (tq T n e)) (RS.cad hT hq.2.1 (rs_asks hT p5 d4 FU 0 (Nat.zero_le _) (by show pl U - 0 < 4000; omega) (tq T n (tq T n e)) (sLk U false) hq2.2.1 (show d ≤ tq T n (tq T n e) by omega) I' hl' rfl rfl)) (fun σ x1 x2 x3 => ?_) (fun σ x1 x2 x3 => ⟨x3, ?_⟩)
      · unfold f_X3_readWord
        rw [c_word hT hq.2.1 x1 x3 (by decide), w, if_pos rfl, bind_s, if_neg (by decide), bn_b2]
        refine congrArg (Option.bind _) (funext fun s => ?_)
        rw [b2_s, if_neg (by decide)]
        rfl
      · rw [m_word hT hq.2.1 x1 x3 (by decide), w, if_pos rfl, bind_s, if_neg (by decide)]
        rfl
  refine RS.c (pm' := fun σ => MT σ T n e) (RS.cad hT he (RS.upd (U' := sLk U false) (pm' := fun σ => σ.1 93 18 = nI (tq T n e)) (Nat.le_refl _) (RS.syn hT hq.2.1 tail) (fc := fun s => b2 (f_X0_addLock s 75 0) fun v_17 s_17 => (b2 (f_X3_readWord s_17 3 6) fun v_24 s_24 => (if v_24 = 0 then (f_X3_readLock_b41 s_24 3 75 v_17) else (b2 (f_X3_readAsks s_24 3 75 v_17) fun v_33 s_33 => (if v_33 = 0 then (some (0, s_33)) else (f_X3_readLock_b41 s_33 3 75 v_17)))))) (fm := fun σ => b2 (f_X6_newLock σ 93 0) fun v_273 s_273 => ((f_X6_next s_273 93).bind fun s_278 => ((f_X6_isWord s_278 93 6).bind fun v_284 => (if v_284 = 0 then (f_X6_statement_b338 s_278 93 v_273) else (f_X6_statement_l292 FU s_278 93 v_273 0))))) (fun σ x1 x2 x3 => ?_) (fun σ x1 x2 x3 => ?_))) (fun σ x1 x2 x3 => ?_) (fun σ x1 x2 x3 => ⟨x3, rfl⟩)
  · obtain ⟨σ', u1, u2, u3⟩ := c_addLock x2 isH75 hl false
    exact ⟨σ', b2_e u1 rfl, u2, u3.w fun b j z => by unfold H75; omega⟩
  · obtain ⟨σ', u1, u2, u3⟩ := m_newLock x2 hl false
    exact ⟨σ', b2_e u1 rfl, u2, by rw [u3.1 _ _ (by omega)]; exact x3, u3.w fun b j z => by unfold XG; omega⟩
  · unfold f_X3_readLock
    rw [x2.1.2.2.2.2.2.2.1, if_pos (show nI (nl U) < 8 from (nI_ltI (a := nl U) (b := 8) (by omega) (by decide)).mpr hl)]
/-- may: behind the word -/
theorem rs_may (hT : Tb T n) (he : e ≤ n) (hd : d ≤ e) (I : Inv U) : RS T n e d U (fun σ => σ.1 93 18 = nI e) (fun σ => f_X3_readMay σ 3 75) (fun σ => b2 (f_X6_number σ 93 0 ((σ.1 93 6) - 1)) fun v_379 s_379 => (if v_379 = 0 then (some (0, s_379)) else ((some (s_379.1 93 21) : Option Int32).bind fun y_391 => (b2 (f_X6_number s_379 93 0 ((s_379.1 93 11) - 1)) fun v_400 s_400 => (if v_400 = 0 then (some (0, s_400)) else ((ldI s_400 99 y_391).bind fun v_414 => ((stI s_400 99 y_391 (v_414 ||| (1 <<< ((s_400.1 93 21) &&& 31)))).bind fun s_422 => ((f_X6_next s_422 93).bind fun s_424 => (some (1, s_424)))))))))) := by
  have n6 := I.1.2.2.2.2.2.2.1
  have n8 := I.1.2.2.2.2.2.2.2
  have hq := tq_le (T := T) he
  have hge := tq_ge (T := T) he
  have hq2 := tq_le (T := T) hq.2.1
  have hge2 := tq_ge (T := T) hq.2.1
  refine RS.c (pm' := fun σ => σ.1 93 18 = nI e) (RS.num hT he 0 (nk U) (by decide) (by omega) (kc := fun v_8 s_8 => b2 (f_X3_readNumber s_8 3 0 ((s_8.1 75 6) - 1)) fun v_27 s_27 => (if v_27 = (-1) then (some (0, s_27)) else ((f_X0_keyAt s_27 75 v_8).bind fun v_40 => (b2 (f_X1_allow s_27 v_40 v_27 1) fun v_45 s_45 => (some (1, s_45)))))) (km := fun y_391 s_379 => b2 (f_X6_number s_379 93 0 ((s_379.1 93 11) - 1)) fun v_400 s_400 => (if v_400 = 0 then (some (0, s_400)) else ((ldI s_400 99 y_391).bind fun v_414 => ((stI s_400 99 y_391 (v_414 ||| (1 <<< ((s_400.1 93 21) &&& 31)))).bind fun s_422 => ((f_X6_next s_422 93).bind fun s_424 => (some (1, s_424))))))) (fun k k0 hk => RS.c (pm' := fun σ => σ.1 93 18 = nI (tq T n e)) (RS.num hT hq.2.1 0 (nl U) (by decide) (by omega) (kc := fun v_27 s_27 => (f_X0_keyAt s_27 75 (nI k)).bind fun v_40 => (b2 (f_X1_allow s_27 v_40 v_27 1) fun v_45 s_45 => (some (1, s_45)))) (km := fun x s_400 => (ldI s_400 99 (nI k)).bind fun v_414 => ((stI s_400 99 (nI k) (v_414 ||| (1 <<< (x &&& 31)))).bind fun s_422 => ((f_X6_next s_422 93).bind fun s_424 => (some (1, s_424))))) (fun l l0 hl => RS.upd (U' := sMy U k (my U k ||| bitI l)) (pm' := fun σ => σ.1 93 18 = nI (tq T n (tq T n e))) (Nat.le_refl _) (RS.fin hT ⟨I.1, I.2.1, fun j hj => ?_, I.2.2.2⟩ (show d ≤ tq T n (tq T n e) by omega) hq2.2.1) (fun σ x1 x2 x3 => ⟨setI σ (kI 75 k) 2 (my U k ||| bitI l), ?_, c_sMy x2 k _, Fr.i (by unfold H75 kI; omega)⟩) (fun σ x1 x2 x3 => ⟨setI σ 99 k (my U k ||| bitI l), ?_, m_sMy x2 k _, by show (setI σ 99 k (my U k ||| bitI l)).1 93 18 = _; rw [setI_a (by decide)]; exact x3, Fr.i (by unfold XG; omega)⟩))) (fun σ x1 x2 x3 => ?_) (fun σ x1 x2 x3 => ⟨x3, ?_⟩))) (fun σ x1 x2 x3 => ?_) (fun σ x1 x2 x3 => ⟨x3, ?_⟩)
  · have hj' : nk U ≤ j := hj
    refine ⟨(I.2.2.1 j hj).1, (I.2.2.1 j hj).2.1, ?_, (I.2.2.1 j hj).2.2.2⟩
    show (if j = k then my U k ||| bitI l else my U j) = 0
    rw [if_neg (by omega)]
    exact (I.2.2.1 j hj).2.2.1
  · show (f_X0_keyAt σ 75 (nI k)).bind _ = _
    obtain ⟨v, hv⟩ := al1 σ (kI 75 k) (nI l)
    rw [c_keyAt isH75 (by omega), bind_s, hv, b2_s, (x2.2.1 k (by omega)).2.2.1]
    rfl
  · show (ldI σ 99 (nI k)).bind _ = _
    rw [x2.m (by omega), bind_s]
    exact bind_e (stI_n (by rw [ln99]; omega)) rfl
  · show b2 (f_X3_readNumber σ 3 0 ((σ.1 75 6) - 1)) _ = _
    rw [x2.1.2.2.2.2.2.2.1]
    rfl
  · show b2 (f_X6_number σ 93 0 ((σ.1 93 11) - 1)) _ = _
    rw [x2.1.2.2.2.2.1]
    rfl
  · unfold f_X3_readMay
    rw [x2.1.2.2.2.2.2.1]
    rfl
  · show b2 (f_X6_number σ 93 0 ((σ.1 93 6) - 1)) _ = _
    rw [x2.1.2.2.2.1]
    refine b2_c fun v s => ?_
    by_cases q : v = 0
    · rw [if_pos q, if_pos q]
    · rw [if_neg q, if_neg q, bind_s]
theorem wd_d : ∀ i, i < 9 → ∀ j, j < 9 → i ≠ j → ¬ (sLen i = sLen j ∧ sCh i 0 &&& 255 = sCh j 0 &&& 255) := by decide +kernel
theorem wd_u {i j : Nat} (hi : i < 9) (hj : j < 9) (h : wd T n e i = true) (hne : i ≠ j) : wd T n e j = false := by
  apply Bool.eq_false_iff.mpr
  intro h'
  unfold wd at h h'
  rw [Bool.and_eq_true] at h h'
  have a := of_decide_eq_true h.1
  have a' := of_decide_eq_true h'.1
  have b := of_decide_eq_true (al_iff.mp h.2 0 (by have := (sLen_le i hi).1; omega))
  have b' := of_decide_eq_true (al_iff.mp h'.2 0 (by have := (sLen_le j hj).1; omega))
  exact wd_d i hi j hj hne ⟨by omega, b.symm.trans b'⟩
theorem c_st {σ : St} (hT : Tb T n) (he : e ≤ n) (x1 : Tc σ T n) (x3 : CT σ T n e) : f_X3_readStatement σ 3 75 = if wd T n e 0 then (b2 (f_X3_readPlaces σ 3 75) fun v s => some (v, s)) else if wd T n e 1 then (b2 (f_X3_readDeep σ 3 75) fun v s => some (v, s)) else if wd T n e 2 then ((f_X3_toNextToken σ 3).bind fun s => b2 (f_X3_readStrength s 3 75) fun v s => some (v, s)) else if wd T n e 3 then (b2 (f_X3_readKey σ 3 75) fun v s => some (v, s)) else if wd T n e 5 then (b2 (f_X3_readLock σ 3 75) fun v s => some (v, s)) else if wd T n e 8 then ((f_X3_toNextToken σ 3).bind fun s => b2 (f_X3_readMay s 3 75) fun v s => if v = 0 then some (0, s) else some (1, s)) else some (0, σ) := by
  have W : ∀ i, i < 9 → f_X3_isWord σ 3 i = some (if wd T n e i then 1 else 0) := fun i hi => c_word hT he x1 x3 hi
  unfold f_X3_readStatement f_X3_readWord
  rw [W 0 (by decide), W 1 (by decide), W 2 (by decide)]
  cases w0 : wd T n e 0
  · rw [if_neg Bool.false_ne_true, bind_s, if_pos rfl, if_neg Bool.false_ne_true]
    cases w1 : wd T n e 1
    · rw [if_neg Bool.false_ne_true, bind_s, if_pos rfl, if_neg Bool.false_ne_true]
      cases w2 : wd T n e 2
      · rw [if_neg Bool.false_ne_true, bind_s, if_pos rfl, b2_s, if_pos rfl, if_neg Bool.false_ne_true, W 3 (by decide)]
        cases w3 : wd T n e 3
        · rw [if_neg Bool.false_ne_true, bind_s, if_pos rfl, if_neg Bool.false_ne_true, W 5 (by decide)]
          cases w5 : wd T n e 5
          · rw [if_neg Bool.false_ne_true, bind_s, if_pos rfl, if_neg Bool.false_ne_true]
            rw [W 8 (by decide)]
            cases w8 : wd T n e 8
            · rw [if_neg Bool.false_ne_true, bind_s, if_pos rfl, b2_s, if_pos rfl, if_neg Bool.false_ne_true]
            · rw [if_pos rfl, bind_s, if_neg (by decide), bn_b2, if_pos rfl]
              refine congrArg (Option.bind _) (funext fun s => ?_)
              rw [b2_s, if_neg (by decide)]
          · rw [if_pos rfl, bind_s, if_neg (by decide), if_pos rfl]
        · rw [if_pos rfl, bind_s, if_neg (by decide), if_pos rfl]
      · rw [if_pos rfl, bind_s, if_neg (by decide), bn_b2, if_pos rfl]
        refine congrArg (Option.bind _) (funext fun s => ?_)
        rw [b2_s, if_neg (by decide)]
    · rw [if_pos rfl, bind_s, if_neg (by decide), if_pos rfl]
  · rw [if_pos rfl, bind_s, if_neg (by decide), if_pos rfl]
end STMT2
