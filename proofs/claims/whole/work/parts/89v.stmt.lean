theorem b2_b2 {α β γ : Type} (o : Option (α × St)) (f : α → St → Option (β × St)) (g : β → St → Option γ) : b2 (b2 o f) g = b2 o (fun v s => b2 (f v s) g) := by
  cases o <;> rfl
theorem b2_c {α β : Type} {o : Option (α × St)} {f g : α → St → Option β} (h : ∀ v s, f v s = g v s) : b2 o f = b2 o g := by
  rw [show f = g from funext fun v => funext fun s => h v s]
theorem bn_b2 {α β : Type} (o : Option St) (f : St → Option (α × St)) (g : α → St → Option β) : b2 (o.bind f) g = o.bind fun s => b2 (f s) g := by
  cases o <;> rfl
theorem isH75 : isH 75 := Or.inr (Or.inr rfl)
theorem tq_ge {T : Nat → Nat} {n e : Nat} (h : e ≤ n) : e ≤ tq T n e := Nat.le_trans (tp_le (T := T) h).1 (tq_le (T := T) h).1
section STMT
variable {T : Nat → Nat} {n e d : Nat} {U : HS}
theorem c_emp {σ : St} (H : HC σ 75 U) (I : Inv U) : f_X0_isEmpty σ 75 = some (if nk U = 0 ∧ nl U = 0 then 1 else 0) := by
  have n6 := I.1.2.2.2.2.2.2.1
  have n8 := I.1.2.2.2.2.2.2.2
  unfold f_X0_isEmpty
  simp (disch := omega) only [nle, nlt, neq, neqm, nmeq, nlem, nI_add, pk_mul, nI_1, ne0, nl0, nk0, nt0, nu0, ne1, nl1, nk1, nt1, nu1, ne2, nl2, nk2, nt2, nu2, na2, nb2, ns2, ne3, nl3, nk3, nt3, nu3, na3, nb3, ns3, ne4, nl4, nk4, nt4, nu4, na4, nb4, ns4, ne5, nl5, nk5, nt5, nu5, na5, nb5, nm5, nn5, ns5, ne6, nl6, nk6, nt6, nu6, na6, nb6, ns6, ne7, nl7, nk7, nt7, nu7, na7, nb7, ns7, ne8, nl8, nk8, nt8, nu8, na8, nb8, ns8, ne9, nl9, nk9, nt9, nu9, na9, nb9, ns9, ne10, nl10, nk10, nt10, nu10, na10, nb10, nm10, nn10, ns10, ne16, nl16, nk16, nt16, nu16, na16, nb16, ns16, ne18, nl18, nk18, nt18, nu18, na18, nb18, ns18, ne20, nl20, nk20, nt20, nu20, na20, nb20, ns20, ne30, nl30, nk30, nt30, nu30, na30, nb30, ns30, ne32, nl32, nk32, nt32, nu32, na32, nb32, ns32, ne40, nl40, nk40, nt40, nu40, na40, nb40, nm40, nn40, ns40, ne48, nl48, nk48, nt48, nu48, na48, nb48, ns48, ne56, nl56, nk56, nt56, nu56, na56, nb56, ns56, ne57, nl57, nk57, nt57, nu57, na57, nb57, ns57, ne59, nl59, nk59, nt59, nu59, na59, nb59, ns59, ne96, nl96, nk96, nt96, nu96, na96, nb96, ns96, ne97, nl97, nk97, nt97, nu97, na97, nb97, ns97, ne98, nl98, nk98, nt98, nu98, na98, nb98, ns98, ne99, nl99, nk99, nt99, nu99, na99, nb99, ns99, ne100, nl100, nk100, nt100, nu100, na100, nb100, ns100, ne101, nl101, nk101, nt101, nu101, na101, nb101, ns101, ne102, nl102, nk102, nt102, nu102, na102, nb102, ns102, ne122, nl122, nk122, nt122, nu122, na122, nb122, ns122, ne250, nl250, nk250, nt250, nu250, na250, nb250, ns250, ne255, nl255, nk255, nt255, nu255, na255, nb255, ns255, ne1000, nl1000, nk1000, nt1000, nu1000, na1000, nb1000, ns1000, npred, opt_b, ite_true, ite_false, n10, n01, eq_self, H.1.2.2.2.2.2.1, H.1.2.2.2.2.2.2.1]
  by_cases a : nk U = 0
  · by_cases b : nl U = 0
    · simp [a, b]
    · simp [a, b]
  · simp [a]
/-- places: behind the word -/
theorem rs_places (hT : Tb T n) (he : e ≤ n) (hd : d ≤ tq T n e) (I : Inv U) (z : nk U = 0 ∧ nl U = 0) : RS T n e d U (fun σ => MT σ T n e) (fun σ => f_X3_readPlaces σ 3 75) (fun σ => b2 (f_X6_number σ 93 1 5) fun v s => if v = 0 then some (0, s) else (ptI s 93 3 (s.1 93 21)).bind fun s1 => (f_X6_next s1 93).bind fun s2 => some (1, s2)) := by
  have hq := tq_le (T := T) he
  have hq2 := tq_le (T := T) hq.2.1
  have hge := tq_ge (T := T) hq.2.1
  refine RS.c (pm' := fun σ => MT σ T n e) (RS.cad hT he (RS.num hT hq.2.1 1 6 (by decide) (by decide) (kc := fun v s => f_X3_readPlaces_b34 s v 75 v) (km := fun v s => (ptI s 93 3 v).bind fun s1 => (f_X6_next s1 93).bind fun s2 => some (1, s2)) (fun v v1 v6 => RS.upd (U' := sPl U v) (pm' := fun σ => σ.1 93 18 = nI (tq T n (tq T n e))) (Nat.le_refl _) (RS.fin hT (inv_pl I z.1 z.2 v1 (by omega)) (by omega) hq2.2.1) (fun σ x1 x2 x3 => ⟨setI σ 75 0 (nI v), ?_, c_sPl x2 v, Fr.i (by unfold H75; omega)⟩) (fun σ x1 x2 x3 => ⟨setI σ 93 3 (nI v), ?_, m_sPl x2 v, by show (setI σ 93 3 (nI v)).1 93 18 = _; rw [setI_k (by decide)]; exact x3, Fr.i (by unfold XG; omega)⟩)))) (fun σ x1 x2 x3 => ?_) (fun σ x1 x2 x3 => ⟨x3, rfl⟩)
  · show f_X3_readPlaces_b34 σ (nI v) 75 (nI v) = some (1, setI σ 75 0 (nI v))
    unfold f_X3_readPlaces_b34
    rw [ptI_s, bind_s, if_neg (nm1_ne v (by omega))]
  · show (ptI σ 93 3 (nI v)).bind _ = _
    rw [ptI_s, bind_s]
  · unfold f_X3_readPlaces
    rw [c_emp x2 I, if_pos z, bind_s, if_neg (by decide)]
    refine congrArg (Option.bind _) (funext fun s => b2_c fun v s' => ?_)
    by_cases q : v = -1
    · rw [if_pos q, if_pos q]
      unfold f_X3_readPlaces_b34
      rw [ptI_s, bind_s, if_pos q, setI_id rfl]
    · rw [if_neg q, if_neg q]
theorem rs_deep (hT : Tb T n) (he : e ≤ n) (hd : d ≤ tq T n e) (I : Inv U) (z : nk U = 0 ∧ nl U = 0) : RS T n e d U (fun σ => MT σ T n e) (fun σ => f_X3_readDeep σ 3 75) (fun σ => b2 (f_X6_number σ 93 1 4) fun v s => if v = 0 then some (0, s) else (ptI s 93 4 (s.1 93 21)).bind fun s1 => (f_X6_next s1 93).bind fun s2 => some (1, s2)) := by
  have hq := tq_le (T := T) he
  have hq2 := tq_le (T := T) hq.2.1
  have hge := tq_ge (T := T) hq.2.1
  refine RS.c (pm' := fun σ => MT σ T n e) (RS.cad hT he (RS.num hT hq.2.1 1 5 (by decide) (by decide) (kc := fun v s => f_X3_readDeep_b34 s v 75 v) (km := fun v s => (ptI s 93 4 v).bind fun s1 => (f_X6_next s1 93).bind fun s2 => some (1, s2)) (fun v v1 v6 => RS.upd (U' := sDp U v) (pm' := fun σ => σ.1 93 18 = nI (tq T n (tq T n e))) (Nat.le_refl _) (RS.fin hT (inv_dp I z.1 z.2 v1 (by omega)) (by omega) hq2.2.1) (fun σ x1 x2 x3 => ⟨setI σ 75 1 (nI v), ?_, c_sDp x2 v, Fr.i (by unfold H75; omega)⟩) (fun σ x1 x2 x3 => ⟨setI σ 93 4 (nI v), ?_, m_sDp x2 v, by show (setI σ 93 4 (nI v)).1 93 18 = _; rw [setI_k (by decide)]; exact x3, Fr.i (by unfold XG; omega)⟩)))) (fun σ x1 x2 x3 => ?_) (fun σ x1 x2 x3 => ⟨x3, rfl⟩)
  · show f_X3_readDeep_b34 σ (nI v) 75 (nI v) = some (1, setI σ 75 1 (nI v))
    unfold f_X3_readDeep_b34
    rw [ptI_s, bind_s, if_neg (nm1_ne v (by omega))]
  · show (ptI σ 93 4 (nI v)).bind _ = _
    rw [ptI_s, bind_s]
  · unfold f_X3_readDeep
    rw [c_emp x2 I, if_pos z, bind_s, if_neg (by decide)]
    refine congrArg (Option.bind _) (funext fun s => b2_c fun v s' => ?_)
    by_cases q : v = -1
    · rw [if_pos q, if_pos q]
      unfold f_X3_readDeep_b34
      rw [ptI_s, bind_s, if_pos q, setI_id rfl]
    · rw [if_neg q, if_neg q]
/-- strength: behind the word -/
theorem rs_strength (hT : Tb T n) (he : e ≤ n) (hd : d ≤ e) (I : Inv U) : RS T n e d U (fun σ => σ.1 93 18 = nI e) (fun σ => f_X3_readStrength σ 3 75) (fun σ => b2 (f_X6_number σ 93 1 20) fun v s => if v = 0 then some (0, s) else (ptI s 93 5 (s.1 93 21)).bind fun s1 => (f_X6_next s1 93).bind fun s2 => some (1, s2)) := by
  have hq := tq_le (T := T) he
  have hge := tq_ge (T := T) he
  refine RS.c (pm' := fun σ => σ.1 93 18 = nI e) (RS.num hT he 1 21 (by decide) (by decide) (kc := fun v s => f_X3_readStrength_b22 s v 75 v) (km := fun v s => (ptI s 93 5 v).bind fun s1 => (f_X6_next s1 93).bind fun s2 => some (1, s2)) (fun v v1 v6 => RS.upd (U' := sTg U v) (pm' := fun σ => σ.1 93 18 = nI (tq T n e)) (Nat.le_refl _) (RS.fin hT (inv_tg I v1 (by omega)) (by omega) hq.2.1) (fun σ x1 x2 x3 => ⟨setI σ 75 2 (nI v), ?_, c_sTg x2 v, Fr.i (by unfold H75; omega)⟩) (fun σ x1 x2 x3 => ⟨setI σ 93 5 (nI v), ?_, m_sTg x2 v, by show (setI σ 93 5 (nI v)).1 93 18 = _; rw [setI_k (by decide)]; exact x3, Fr.i (by unfold XG; omega)⟩))) (fun σ x1 x2 x3 => ?_) (fun σ x1 x2 x3 => ⟨x3, rfl⟩)
  · show f_X3_readStrength_b22 σ (nI v) 75 (nI v) = some (1, setI σ 75 2 (nI v))
    unfold f_X3_readStrength_b22
    rw [ptI_s, bind_s, if_neg (nm1_ne v (by omega))]
  · show (ptI σ 93 5 (nI v)).bind _ = _
    rw [ptI_s, bind_s]
  · unfold f_X3_readStrength
    refine b2_c fun v s' => ?_
    by_cases q : v = -1
    · rw [if_pos q, if_pos q]
      unfold f_X3_readStrength_b22
      rw [ptI_s, bind_s, if_pos q, setI_id rfl]
    · rw [if_neg q, if_neg q]
/-- cuts, from a place on -/
theorem rs_cuts (hT : Tb T n) {k : Nat} {P D : Nat} (hP : P ≤ 5) (hD : D ≤ 4) : ∀ f m, m ≤ P → P - m < f → ∀ e U, e ≤ n → d ≤ e → Inv U → k < nk U → pl U = P → dp U = D → RS T n e d U (fun σ => σ.1 93 18 = nI e) (fun σ => f_X3_readCuts_l2 f σ 3 75 (nI k) (nI m)) (fun σ => f_X6_statement_l203 f σ 93 (nI k) (nI m)) := by
  refine lp_up (P := fun f m => ∀ e U, e ≤ n → d ≤ e → Inv U → k < nk U → pl U = P → dp U = D → RS T n e d U (fun σ => σ.1 93 18 = nI e) (fun σ => f_X3_readCuts_l2 f σ 3 75 (nI k) (nI m)) (fun σ => f_X6_statement_l203 f σ 93 (nI k) (nI m))) P (fun f e U he hd I hk eP eD => ?_) (fun f m hm ih e U he hd I hk eP eD => ?_)
  · refine RS.c (pm' := fun σ => σ.1 93 18 = nI e) (RS.fin hT I hd he) (fun σ x1 x2 x3 => ?_) (fun σ x1 x2 x3 => ⟨x3, ?_⟩)
    · show f_X3_readCuts_b2 (f_X3_readCuts_l2 f) σ 3 75 (nI k) (nI P) = _
      unfold f_X3_readCuts_b2
      rw [x2.1.1, eP, if_pos (nI_le (Nat.le_refl _) (by omega))]
    · show f_X6_statement_b203 (f_X6_statement_l203 f) σ 93 (nI k) (nI P) = _
      unfold f_X6_statement_b203
      rw [x2.1.1, eP, if_pos (nI_le (Nat.le_refl _) (by omega))]
  · have n6 := I.1.2.2.2.2.2.2.1
    have hq := tq_le (T := T) he
    have hge := tq_ge (T := T) he
    have eb : nI D = nI (D + 1) - 1 := by rw [npred (by omega), Nat.add_sub_cancel]
    refine RS.c (pm' := fun σ => σ.1 93 18 = nI e) (RS.num hT he 0 (D + 1) (by decide) (by omega) (kc := fun v s => (f_X0_keyAt s 75 (nI k)).bind fun v_31 => ((f_X5_put s (v_31 + 1) (nI m) v).bind fun s_40 => ((some (nI m + 1) : Option Int32).bind fun y_43 => (f_X3_readCuts_l2 f s_40 3 75 (nI k) y_43)))) (km := fun v s => (stI s 100 ((5 * nI k) + nI m) v).bind fun s_240 => ((some (nI m + 1) : Option Int32).bind fun y_241 => (f_X6_statement_l203 f s_240 93 (nI k) y_241))) (fun v v1 v6 => RS.upd (U' := sCu U k m v) (pm' := fun σ => σ.1 93 18 = nI (tq T n e)) (Nat.le_refl _) (ih (tq T n e) (sCu U k m v) hq.2.1 (by omega) (inv_sCu I hk (by omega) (by omega)) hk eP eD) (fun σ x1 x2 x3 => ⟨setI σ (kI 75 k + 1) m (nI v), ?_, c_sCu x2 k m v, Fr.i (by unfold H75 kI; omega)⟩) (fun σ x1 x2 x3 => ⟨setI σ 100 (5 * k + m) (nI v), ?_, m_sCu x2 k m v (by omega), by show (setI σ 100 (5 * k + m) (nI v)).1 93 18 = _; rw [setI_a (by decide)]; exact x3, Fr.i (by unfold XG; omega)⟩))) (fun σ x1 x2 x3 => ?_) (fun σ x1 x2 x3 => ⟨x3, ?_⟩)
    · show (f_X0_keyAt σ 75 (nI k)).bind _ = _
      rw [c_keyAt isH75 (by omega), bind_s, c_put (by rw [(ln_h isH75).2.2.2.1 k (by omega)]; omega), bind_s, nI_1, bind_s]
    · show (stI σ 100 ((5 * nI k) + nI m) (nI v)).bind _ = _
      rw [l_5, pk_mul, nI_add, stI_n (by rw [ln100]; omega), bind_s, nI_1, bind_s]
    · show f_X3_readCuts_b2 (f_X3_readCuts_l2 f) σ 3 75 (nI k) (nI m) = _
      unfold f_X3_readCuts_b2
      rw [x2.1.1, eP, if_neg (nI_ge hm (by omega)), x2.1.2.1, eD, eb]
      rfl
    · show f_X6_statement_b203 (f_X6_statement_l203 f) σ 93 (nI k) (nI m) = _
      unfold f_X6_statement_b203
      rw [x2.1.1, eP, if_neg (nI_ge hm (by omega)), x2.1.2.1, eD, eb]
      rfl
/-- a key: behind the word -/
theorem rs_key (hT : Tb T n) (he : e ≤ n) (hd : d ≤ tq T n e) (I : Inv U) (hk : nk U < 6) : RS T n e d U (fun σ => MT σ T n e) (fun σ => f_X3_readKey σ 3 75) (fun σ => b2 (f_X6_number σ 93 0 5) fun v_150 s_150 => (if v_150 = 0 then (some (0, s_150)) else ((some (s_150.1 93 21) : Option Int32).bind fun y_162 => (b2 (f_X6_number s_150 93 0 9) fun v_167 s_167 => (if v_167 = 0 then (some (0, s_167)) else (b2 (f_X6_newKey s_167 93 y_162 (s_167.1 93 21)) fun v_181 s_181 => ((f_X6_next s_181 93).bind fun s_186 => ((f_X6_isWord s_186 93 4).bind fun v_192 => (if v_192 = 0 then (some (1, s_186)) else (f_X6_statement_l203 FU s_186 93 v_181 0)))))))))) := by
  have p5 := I.1.2.1
  have d4 := I.1.2.2.2.1
  have hq := tq_le (T := T) he
  have hq2 := tq_le (T := T) hq.2.1
  have hge := tq_ge (T := T) hq.2.1
  have hq3 := tq_le (T := T) hq2.2.1
  have hge3 := tq_ge (T := T) hq2.2.1
  have hge4 := tq_ge (T := T) hq3.2.1
  have hq4 := tq_le (T := T) hq3.2.1
  -- the cuts, or none
  have tail : ∀ k a, k ≤ 5 → a ≤ 9 → RS T n (tq T n (tq T n (tq T n e))) d (sKey U k a) (fun σ => MT σ T n (tq T n (tq T n (tq T n e)))) (fun s => b2 (f_X3_readWord s 3 4) fun v_55 s_55 => (if v_55 = 0 then (f_X3_readKey_b71 s_55 ) else (b2 (f_X3_readCuts s_55 3 75 (nI (nk U))) fun v_65 s_65 => (if v_65 = 0 then (some (0, s_65)) else (f_X3_readKey_b71 s_65 ))))) (fun s => (f_X6_isWord s 93 4).bind fun v_192 => (if v_192 = 0 then (some (1, s)) else (f_X6_statement_l203 FU s 93 (nI (nk U)) 0))) := by
    intro k a hk5 ha9
    have I' := inv_key I hk hk5 ha9
    cases w : wd T n (tq T n (tq T n (tq T n e))) 4
    · refine RS.c (pm' := fun σ => MT σ T n (tq T n (tq T n (tq T n e)))) (RS.end' I' (by omega) hq3.2.1) (fun σ x1 x2 x3 => ?_) (fun σ x1 x2 x3 => ⟨x3, ?_⟩)
      · unfold f_X3_readWord
        rw [c_word hT hq3.2.1 x1 x3 (by decide), w, if_neg Bool.false_ne_true, bind_s, if_pos rfl, b2_s, if_pos rfl]
        rfl
      · rw [m_word hT hq3.2.1 x1 x3 (by decide), w, if_neg Bool.false_ne_true, bind_s, if_pos rfl]
    · refine RS.c (pm' := fun σ => MT σ T n (tq T n (tq T n (tq T n e)))) (RS.cad hT hq3.2.1 (RS.b (rs_cuts hT p5 d4 FU 0 (Nat.zero_le _) (by show pl U - 0 < 4000; omega) (tq T n (tq T n (tq T n (tq T n e)))) (sKey U k a) hq4.2.1 (by omega) I' (show nk U < nk U + 1 by omega) rfl rfl))) (fun σ x1 x2 x3 => ?_) (fun σ x1 x2 x3 => ⟨x3, ?_⟩)
      · unfold f_X3_readWord
        rw [c_word hT hq3.2.1 x1 x3 (by decide), w, if_pos rfl, bind_s, if_neg (by decide), bn_b2]
        refine congrArg (Option.bind _) (funext fun s => ?_)
        rw [b2_s, if_neg (by decide)]
        rfl
      · rw [m_word hT hq3.2.1 x1 x3 (by decide), w, if_pos rfl, bind_s, if_neg (by decide)]
        rfl
  refine RS.c (pm' := fun σ => MT σ T n e) (RS.cad hT he (RS.num hT hq.2.1 0 6 (by decide) (by decide) (kc := fun v_18 s_18 => b2 (f_X3_readNumber s_18 3 0 9) fun v_33 s_33 => (if v_33 = (-1) then (some (0, s_33)) else (b2 (f_X0_addKey s_33 75 v_18 v_33) fun v_47 s_47 => (b2 (f_X3_readWord s_47 3 4) fun v_55 s_55 => (if v_55 = 0 then (f_X3_readKey_b71 s_55 ) else (b2 (f_X3_readCuts s_55 3 75 v_47) fun v_65 s_65 => (if v_65 = 0 then (some (0, s_65)) else (f_X3_readKey_b71 s_65 )))))))) (km := fun y_162 s_150 => b2 (f_X6_number s_150 93 0 9) fun v_167 s_167 => (if v_167 = 0 then (some (0, s_167)) else (b2 (f_X6_newKey s_167 93 y_162 (s_167.1 93 21)) fun v_181 s_181 => ((f_X6_next s_181 93).bind fun s_186 => ((f_X6_isWord s_186 93 4).bind fun v_192 => (if v_192 = 0 then (some (1, s_186)) else (f_X6_statement_l203 FU s_186 93 v_181 0))))))) (fun k k0 k6 => RS.num hT hq2.2.1 0 10 (by decide) (by decide) (kc := fun v_33 s_33 => b2 (f_X0_addKey s_33 75 (nI k) v_33) fun v_47 s_47 => (b2 (f_X3_readWord s_47 3 4) fun v_55 s_55 => (if v_55 = 0 then (f_X3_readKey_b71 s_55 ) else (b2 (f_X3_readCuts s_55 3 75 v_47) fun v_65 s_65 => (if v_65 = 0 then (some (0, s_65)) else (f_X3_readKey_b71 s_65 )))))) (km := fun x s_167 => b2 (f_X6_newKey s_167 93 (nI k) x) fun v_181 s_181 => ((f_X6_next s_181 93).bind fun s_186 => ((f_X6_isWord s_186 93 4).bind fun v_192 => (if v_192 = 0 then (some (1, s_186)) else (f_X6_statement_l203 FU s_186 93 v_181 0))))) (fun a a0 a10 => RS.upd (U' := sKey U k a) (pm' := fun σ => σ.1 93 18 = nI (tq T n (tq T n (tq T n e)))) (Nat.le_succ _) (RS.syn hT hq3.2.1 (tail k a (by omega) (by omega))) (fun σ x1 x2 x3 => ?_) (fun σ x1 x2 x3 => ?_))))) (fun σ x1 x2 x3 => ?_) (fun σ x1 x2 x3 => ⟨x3, ?_⟩)
  · obtain ⟨σ', u1, u2, u3⟩ := c_addKey x2 isH75 hk k a
    exact ⟨σ', b2_e u1 rfl, u2, u3.w fun b j z => by unfold H75; omega⟩
  · obtain ⟨σ', u1, u2, u3⟩ := m_newKey x2 hk k a
    exact ⟨σ', b2_e u1 rfl, u2, by rw [u3.1 _ _ (by omega)]; exact x3, u3.w fun b j z => by unfold XG; omega⟩
  · unfold f_X3_readKey
    rw [x2.1.2.2.2.2.2.1, if_pos (show nI (nk U) < 6 from (nI_ltI (a := nk U) (b := 6) (by omega) (by decide)).mpr hk)]
    rfl
  · refine b2_c fun v s => ?_
    by_cases q : v = 0
    · rw [if_pos q, if_pos q]
    · rw [if_neg q, if_neg q, bind_s]
end STMT
