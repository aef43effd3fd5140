/-! the model's house -/
def HM (σ : St) (S : HS) : Prop :=
  (σ.1 93 3 = nI (pl S) ∧ σ.1 93 4 = nI (dp S) ∧ σ.1 93 5 = nI (tg S) ∧ σ.1 93 6 = nI (nk S) ∧ σ.1 93 11 = nI (nl S) ∧ σ.1 93 14 = co S ∧ σ.1 93 15 = se S) ∧
  (∀ k, k < 6 → σ.1 97 k = nI (ki S k) ∧ σ.1 98 k = nI (ow S k) ∧ σ.1 99 k = my S k) ∧
  (∀ k, k < 6 → ∀ p, p < 5 → σ.1 100 (5 * k + p) = nI (cu S k p)) ∧
  (∀ l, l < 8 → σ.1 101 l = if wa S l then 1 else 0) ∧
  (∀ l, l < 8 → ∀ p, p < 5 → σ.1 102 (5 * l + p) = nI (as S l p))
theorem ln97 : ln 97 = 6 := by decide +kernel
theorem ln98 : ln 98 = 6 := by decide +kernel
theorem ln99 : ln 99 = 6 := by decide +kernel
theorem ln100 : ln 100 = 30 := by decide +kernel
theorem ln101 : ln 101 = 8 := by decide +kernel
theorem ln102 : ln 102 = 40 := by decide +kernel
theorem ln94 : ln 94 = 8 := by decide +kernel
theorem ln95 : ln 95 = 8 := by decide +kernel
theorem ln96 : ln 96 = 320 := by decide +kernel
theorem ln103 : ln 103 = 250 := by decide +kernel
theorem ln104 : ln 104 = 7 := by decide +kernel
theorem ln105 : ln 105 = 107 := by decide +kernel
theorem ln106 : ln 106 = 107 := by decide +kernel
theorem ln107 : ln 107 = 5 := by decide +kernel
theorem ln108 : ln 108 = 5 := by decide +kernel
theorem ln109 : ln 109 = 30 := by decide +kernel
theorem rm_n {a d : Nat} (ha : a < 2 ^ 31) (h0 : 0 < d) (hd : d < 2 ^ 31) : rmI (nI a) (nI d) = some (nI (a % d)) := by
  unfold rmI
  rw [if_neg (nI_ne0 h0 hd), pk_rem ha h0 hd]
theorem dv_n {a d : Nat} (ha : a < 2 ^ 31) (h0 : 0 < d) (hd : d < 2 ^ 31) : dvI (nI a) (nI d) = some (nI (a / d)) := by
  unfold dvI
  rw [if_neg (nI_ne0 h0 hd), pk_div ha h0 hd]
section MODEL
variable {σ : St} {S : HS}
theorem HM.k (H : HM σ S) {k : Nat} (hk : k < 6) : ldI σ 97 (nI k) = some (nI (ki S k)) := by rw [ldI_n (by rw [ln97]; exact hk), (H.2.1 k hk).1]
theorem HM.o (H : HM σ S) {k : Nat} (hk : k < 6) : ldI σ 98 (nI k) = some (nI (ow S k)) := by rw [ldI_n (by rw [ln98]; exact hk), (H.2.1 k hk).2.1]
theorem HM.m (H : HM σ S) {k : Nat} (hk : k < 6) : ldI σ 99 (nI k) = some (my S k) := by rw [ldI_n (by rw [ln99]; exact hk), (H.2.1 k hk).2.2]
theorem HM.c (H : HM σ S) {k p : Nat} (hk : k < 6) (hp : p < 5) : ldI σ 100 (nI (5 * k + p)) = some (nI (cu S k p)) := by rw [ldI_n (by rw [ln100]; omega), H.2.2.1 k hk p hp]
theorem HM.w (H : HM σ S) {l : Nat} (hl : l < 8) : ldI σ 101 (nI l) = some (if wa S l then 1 else 0) := by rw [ldI_n (by rw [ln101]; exact hl), H.2.2.2.1 l hl]
theorem HM.a (H : HM σ S) {l p : Nat} (hl : l < 8) (hp : p < 5) : ldI σ 102 (nI (5 * l + p)) = some (nI (as S l p)) := by rw [ldI_n (by rw [ln102]; omega), H.2.2.2.2 l hl p hp]
theorem m_gone (H : HM σ S) (I : Inv S) {k : Nat} (hk : k < 6) : f_X6_gone σ 93 (nI k) = some (nI (sm (cu S k) (pl S))) := by
  have p5 := I.1.2.1
  have h3 := H.1.1
  show f_X6_gone_l4 σ FU 93 (nI k) (nI (sm (cu S k) 0)) (nI 0) = _
  refine lp_0 (P := fun n m => f_X6_gone_l4 σ n 93 (nI k) (nI (sm (cu S k) m)) (nI m) = some (nI (sm (cu S k) (pl S)))) (pl S) (by omega) (fun n => ?_) (fun n m hm ih => ?_)
  · show f_X6_gone_b4 _ (f_X6_gone_l4 _ n) _ _ _ _ = _; unfold f_X6_gone_b4
    simp (disch := omega) only [nle, nlt, neq, neqm, nmeq, nlem, nI_add, pk_mul, nI_1, ne0, nl0, nk0, nt0, nu0, ne1, nl1, nk1, nt1, nu1, ne2, nl2, nk2, nt2, nu2, na2, nb2, ns2, ne3, nl3, nk3, nt3, nu3, na3, nb3, ns3, ne4, nl4, nk4, nt4, nu4, na4, nb4, ns4, ne5, nl5, nk5, nt5, nu5, na5, nb5, nm5, nn5, ns5, ne6, nl6, nk6, nt6, nu6, na6, nb6, ns6, ne7, nl7, nk7, nt7, nu7, na7, nb7, ns7, ne8, nl8, nk8, nt8, nu8, na8, nb8, ns8, ne9, nl9, nk9, nt9, nu9, na9, nb9, ns9, ne10, nl10, nk10, nt10, nu10, na10, nb10, nm10, nn10, ns10, ne16, nl16, nk16, nt16, nu16, na16, nb16, ns16, ne18, nl18, nk18, nt18, nu18, na18, nb18, ns18, ne20, nl20, nk20, nt20, nu20, na20, nb20, ns20, ne30, nl30, nk30, nt30, nu30, na30, nb30, ns30, ne32, nl32, nk32, nt32, nu32, na32, nb32, ns32, ne40, nl40, nk40, nt40, nu40, na40, nb40, nm40, nn40, ns40, ne48, nl48, nk48, nt48, nu48, na48, nb48, ns48, ne56, nl56, nk56, nt56, nu56, na56, nb56, ns56, ne57, nl57, nk57, nt57, nu57, na57, nb57, ns57, ne59, nl59, nk59, nt59, nu59, na59, nb59, ns59, ne96, nl96, nk96, nt96, nu96, na96, nb96, ns96, ne97, nl97, nk97, nt97, nu97, na97, nb97, ns97, ne98, nl98, nk98, nt98, nu98, na98, nb98, ns98, ne99, nl99, nk99, nt99, nu99, na99, nb99, ns99, ne100, nl100, nk100, nt100, nu100, na100, nb100, ns100, ne101, nl101, nk101, nt101, nu101, na101, nb101, ns101, ne102, nl102, nk102, nt102, nu102, na102, nb102, ns102, ne122, nl122, nk122, nt122, nu122, na122, nb122, ns122, ne250, nl250, nk250, nt250, nu250, na250, nb250, ns250, ne255, nl255, nk255, nt255, nu255, na255, nb255, ns255, ne1000, nl1000, nk1000, nt1000, nu1000, na1000, nb1000, ns1000, npred, opt_b, ite_true, ite_false, n10, n01, eq_self, h3, Nat.le_refl]
  · show f_X6_gone_b4 _ (f_X6_gone_l4 _ n) _ _ _ _ = _; unfold f_X6_gone_b4
    simp (disch := omega) only [nle, nlt, neq, neqm, nmeq, nlem, nI_add, pk_mul, nI_1, ne0, nl0, nk0, nt0, nu0, ne1, nl1, nk1, nt1, nu1, ne2, nl2, nk2, nt2, nu2, na2, nb2, ns2, ne3, nl3, nk3, nt3, nu3, na3, nb3, ns3, ne4, nl4, nk4, nt4, nu4, na4, nb4, ns4, ne5, nl5, nk5, nt5, nu5, na5, nb5, nm5, nn5, ns5, ne6, nl6, nk6, nt6, nu6, na6, nb6, ns6, ne7, nl7, nk7, nt7, nu7, na7, nb7, ns7, ne8, nl8, nk8, nt8, nu8, na8, nb8, ns8, ne9, nl9, nk9, nt9, nu9, na9, nb9, ns9, ne10, nl10, nk10, nt10, nu10, na10, nb10, nm10, nn10, ns10, ne16, nl16, nk16, nt16, nu16, na16, nb16, ns16, ne18, nl18, nk18, nt18, nu18, na18, nb18, ns18, ne20, nl20, nk20, nt20, nu20, na20, nb20, ns20, ne30, nl30, nk30, nt30, nu30, na30, nb30, ns30, ne32, nl32, nk32, nt32, nu32, na32, nb32, ns32, ne40, nl40, nk40, nt40, nu40, na40, nb40, nm40, nn40, ns40, ne48, nl48, nk48, nt48, nu48, na48, nb48, ns48, ne56, nl56, nk56, nt56, nu56, na56, nb56, ns56, ne57, nl57, nk57, nt57, nu57, na57, nb57, ns57, ne59, nl59, nk59, nt59, nu59, na59, nb59, ns59, ne96, nl96, nk96, nt96, nu96, na96, nb96, ns96, ne97, nl97, nk97, nt97, nu97, na97, nb97, ns97, ne98, nl98, nk98, nt98, nu98, na98, nb98, ns98, ne99, nl99, nk99, nt99, nu99, na99, nb99, ns99, ne100, nl100, nk100, nt100, nu100, na100, nb100, ns100, ne101, nl101, nk101, nt101, nu101, na101, nb101, ns101, ne102, nl102, nk102, nt102, nu102, na102, nb102, ns102, ne122, nl122, nk122, nt122, nu122, na122, nb122, ns122, ne250, nl250, nk250, nt250, nu250, na250, nb250, ns250, ne255, nl255, nk255, nt255, nu255, na255, nb255, ns255, ne1000, nl1000, nk1000, nt1000, nu1000, na1000, nb1000, ns1000, npred, opt_b, ite_true, ite_false, n10, n01, eq_self, h3, Nat.not_le.mpr hm, H.c]
    exact ih
theorem m_bears (H : HM σ S) (I : Inv S) {k : Nat} (hk : k < 6) : f_X6_bears σ 93 (nI k) = some (nI (bears (tg S) (ki S k) (ow S k))) := by
  have t20 := I.1.2.2.2.2.2.1
  have k5 := (I.2.1 k).1
  have o9 := (I.2.1 k).2.1
  have e : f_X6_bears_b20 σ 93 (nI k) = some (nI (tg S - ow S k)) := by
    unfold f_X6_bears_b20 mxI
    rw [H.o hk, bind_s, H.1.2.2.1]
    by_cases q : ow S k ≤ tg S
    · rw [pk_sub q]
      by_cases q0 : tg S - ow S k = 0
      · rw [q0]; rfl
      · simp (disch := omega) only [nle, nlt, neq, neqm, nmeq, nlem, nI_add, pk_mul, nI_1, ne0, nl0, nk0, nt0, nu0, ne1, nl1, nk1, nt1, nu1, ne2, nl2, nk2, nt2, nu2, na2, nb2, ns2, ne3, nl3, nk3, nt3, nu3, na3, nb3, ns3, ne4, nl4, nk4, nt4, nu4, na4, nb4, ns4, ne5, nl5, nk5, nt5, nu5, na5, nb5, nm5, nn5, ns5, ne6, nl6, nk6, nt6, nu6, na6, nb6, ns6, ne7, nl7, nk7, nt7, nu7, na7, nb7, ns7, ne8, nl8, nk8, nt8, nu8, na8, nb8, ns8, ne9, nl9, nk9, nt9, nu9, na9, nb9, ns9, ne10, nl10, nk10, nt10, nu10, na10, nb10, nm10, nn10, ns10, ne16, nl16, nk16, nt16, nu16, na16, nb16, ns16, ne18, nl18, nk18, nt18, nu18, na18, nb18, ns18, ne20, nl20, nk20, nt20, nu20, na20, nb20, ns20, ne30, nl30, nk30, nt30, nu30, na30, nb30, ns30, ne32, nl32, nk32, nt32, nu32, na32, nb32, ns32, ne40, nl40, nk40, nt40, nu40, na40, nb40, nm40, nn40, ns40, ne48, nl48, nk48, nt48, nu48, na48, nb48, ns48, ne56, nl56, nk56, nt56, nu56, na56, nb56, ns56, ne57, nl57, nk57, nt57, nu57, na57, nb57, ns57, ne59, nl59, nk59, nt59, nu59, na59, nb59, ns59, ne96, nl96, nk96, nt96, nu96, na96, nb96, ns96, ne97, nl97, nk97, nt97, nu97, na97, nb97, ns97, ne98, nl98, nk98, nt98, nu98, na98, nb98, ns98, ne99, nl99, nk99, nt99, nu99, na99, nb99, ns99, ne100, nl100, nk100, nt100, nu100, na100, nb100, ns100, ne101, nl101, nk101, nt101, nu101, na101, nb101, ns101, ne102, nl102, nk102, nt102, nu102, na102, nb102, ns102, ne122, nl122, nk122, nt122, nu122, na122, nb122, ns122, ne250, nl250, nk250, nt250, nu250, na250, nb250, ns250, ne255, nl255, nk255, nt255, nu255, na255, nb255, ns255, ne1000, nl1000, nk1000, nt1000, nu1000, na1000, nb1000, ns1000, npred, opt_b, ite_true, ite_false, n10, n01, eq_self, show 0 < tg S - ow S k by omega]
    · rw [show tg S - ow S k = 0 by omega]
      have : ¬ (0 < nI (tg S) - nI (ow S k)) := by
        intro z
        have z1 := Int32.lt_iff_toInt_lt.mp z
        rw [pk_sub_toInt (by omega) (by omega)] at z1
        have : (0 : Int32).toInt = 0 := rfl
        omega
      rw [if_neg this]; rfl
  unfold f_X6_bears bears
  rw [e]
  simp (disch := omega) only [nle, nlt, neq, neqm, nmeq, nlem, nI_add, pk_mul, nI_1, ne0, nl0, nk0, nt0, nu0, ne1, nl1, nk1, nt1, nu1, ne2, nl2, nk2, nt2, nu2, na2, nb2, ns2, ne3, nl3, nk3, nt3, nu3, na3, nb3, ns3, ne4, nl4, nk4, nt4, nu4, na4, nb4, ns4, ne5, nl5, nk5, nt5, nu5, na5, nb5, nm5, nn5, ns5, ne6, nl6, nk6, nt6, nu6, na6, nb6, ns6, ne7, nl7, nk7, nt7, nu7, na7, nb7, ns7, ne8, nl8, nk8, nt8, nu8, na8, nb8, ns8, ne9, nl9, nk9, nt9, nu9, na9, nb9, ns9, ne10, nl10, nk10, nt10, nu10, na10, nb10, nm10, nn10, ns10, ne16, nl16, nk16, nt16, nu16, na16, nb16, ns16, ne18, nl18, nk18, nt18, nu18, na18, nb18, ns18, ne20, nl20, nk20, nt20, nu20, na20, nb20, ns20, ne30, nl30, nk30, nt30, nu30, na30, nb30, ns30, ne32, nl32, nk32, nt32, nu32, na32, nb32, ns32, ne40, nl40, nk40, nt40, nu40, na40, nb40, nm40, nn40, ns40, ne48, nl48, nk48, nt48, nu48, na48, nb48, ns48, ne56, nl56, nk56, nt56, nu56, na56, nb56, ns56, ne57, nl57, nk57, nt57, nu57, na57, nb57, ns57, ne59, nl59, nk59, nt59, nu59, na59, nb59, ns59, ne96, nl96, nk96, nt96, nu96, na96, nb96, ns96, ne97, nl97, nk97, nt97, nu97, na97, nb97, ns97, ne98, nl98, nk98, nt98, nu98, na98, nb98, ns98, ne99, nl99, nk99, nt99, nu99, na99, nb99, ns99, ne100, nl100, nk100, nt100, nu100, na100, nb100, ns100, ne101, nl101, nk101, nt101, nu101, na101, nb101, ns101, ne102, nl102, nk102, nt102, nu102, na102, nb102, ns102, ne122, nl122, nk122, nt122, nu122, na122, nb122, ns122, ne250, nl250, nk250, nt250, nu250, na250, nb250, ns250, ne255, nl255, nk255, nt255, nu255, na255, nb255, ns255, ne1000, nl1000, nk1000, nt1000, nu1000, na1000, nb1000, ns1000, npred, opt_b, ite_true, ite_false, n10, n01, eq_self, H.k hk, H.1.2.2.1]
  by_cases q : ki S k = 2
  · rw [if_pos q, if_pos (Or.inl q)]
  · rw [if_neg q]
    by_cases q4 : ki S k = 4
    · rw [if_pos q4, if_pos (Or.inr q4)]
    · rw [if_neg q4, if_neg (fun z => z.elim q q4)]
theorem m_broken (H : HM σ S) (I : Inv S) {k : Nat} (hk : k < 6) : f_X6_broken σ 93 (nI k) = some (if brk (pl S) (tg S) (ki S k) (ow S k) (cu S k) then 1 else 0) := by
  have hs : sm (cu S k) (pl S) ≤ pl S * dp S := sm_le (fun p _ => ((I.2.1 k).2.2 p).1)
  have h1 : pl S * dp S ≤ 5 * 4 := Nat.mul_le_mul I.1.2.1 I.1.2.2.2.1
  have h2 := bears_le (tg S) (ki S k) (ow S k)
  have t20 := I.1.2.2.2.2.2.1
  unfold f_X6_broken brk
  simp (disch := omega) only [nle, nlt, neq, neqm, nmeq, nlem, nI_add, pk_mul, nI_1, ne0, nl0, nk0, nt0, nu0, ne1, nl1, nk1, nt1, nu1, ne2, nl2, nk2, nt2, nu2, na2, nb2, ns2, ne3, nl3, nk3, nt3, nu3, na3, nb3, ns3, ne4, nl4, nk4, nt4, nu4, na4, nb4, ns4, ne5, nl5, nk5, nt5, nu5, na5, nb5, nm5, nn5, ns5, ne6, nl6, nk6, nt6, nu6, na6, nb6, ns6, ne7, nl7, nk7, nt7, nu7, na7, nb7, ns7, ne8, nl8, nk8, nt8, nu8, na8, nb8, ns8, ne9, nl9, nk9, nt9, nu9, na9, nb9, ns9, ne10, nl10, nk10, nt10, nu10, na10, nb10, nm10, nn10, ns10, ne16, nl16, nk16, nt16, nu16, na16, nb16, ns16, ne18, nl18, nk18, nt18, nu18, na18, nb18, ns18, ne20, nl20, nk20, nt20, nu20, na20, nb20, ns20, ne30, nl30, nk30, nt30, nu30, na30, nb30, ns30, ne32, nl32, nk32, nt32, nu32, na32, nb32, ns32, ne40, nl40, nk40, nt40, nu40, na40, nb40, nm40, nn40, ns40, ne48, nl48, nk48, nt48, nu48, na48, nb48, ns48, ne56, nl56, nk56, nt56, nu56, na56, nb56, ns56, ne57, nl57, nk57, nt57, nu57, na57, nb57, ns57, ne59, nl59, nk59, nt59, nu59, na59, nb59, ns59, ne96, nl96, nk96, nt96, nu96, na96, nb96, ns96, ne97, nl97, nk97, nt97, nu97, na97, nb97, ns97, ne98, nl98, nk98, nt98, nu98, na98, nb98, ns98, ne99, nl99, nk99, nt99, nu99, na99, nb99, ns99, ne100, nl100, nk100, nt100, nu100, na100, nb100, ns100, ne101, nl101, nk101, nt101, nu101, na101, nb101, ns101, ne102, nl102, nk102, nt102, nu102, na102, nb102, ns102, ne122, nl122, nk122, nt122, nu122, na122, nb122, ns122, ne250, nl250, nk250, nt250, nu250, na250, nb250, ns250, ne255, nl255, nk255, nt255, nu255, na255, nb255, ns255, ne1000, nl1000, nk1000, nt1000, nu1000, na1000, nb1000, ns1000, npred, opt_b, ite_true, ite_false, n10, n01, eq_self, m_gone H I hk, m_bears H I hk]
  by_cases q : bears (tg S) (ki S k) (ow S k) < sm (cu S k) (pl S)
  · rw [if_neg (by omega), decide_eq_true q]; rfl
  · rw [if_pos (by omega), decide_eq_false q]; rfl
theorem m_depth (H : HM σ S) (I : Inv S) {k p : Nat} (hk : k < 6) (hp : p < pl S) : f_X6_depth σ 93 (nI k) (nI p) = some (nI (dep (pl S) (dp S) (ki S k) (ow S k) (cu S k) p)) := by
  have p5 := I.1.2.1
  have d4 := I.1.2.2.2.1
  have k5 := (I.2.1 k).1
  have o9 := (I.2.1 k).2.1
  have cd := ((I.2.1 k).2.2 p).1
  unfold f_X6_depth dep mnI
  simp (disch := omega) only [nle, nlt, neq, neqm, nmeq, nlem, nI_add, pk_mul, nI_1, ne0, nl0, nk0, nt0, nu0, ne1, nl1, nk1, nt1, nu1, ne2, nl2, nk2, nt2, nu2, na2, nb2, ns2, ne3, nl3, nk3, nt3, nu3, na3, nb3, ns3, ne4, nl4, nk4, nt4, nu4, na4, nb4, ns4, ne5, nl5, nk5, nt5, nu5, na5, nb5, nm5, nn5, ns5, ne6, nl6, nk6, nt6, nu6, na6, nb6, ns6, ne7, nl7, nk7, nt7, nu7, na7, nb7, ns7, ne8, nl8, nk8, nt8, nu8, na8, nb8, ns8, ne9, nl9, nk9, nt9, nu9, na9, nb9, ns9, ne10, nl10, nk10, nt10, nu10, na10, nb10, nm10, nn10, ns10, ne16, nl16, nk16, nt16, nu16, na16, nb16, ns16, ne18, nl18, nk18, nt18, nu18, na18, nb18, ns18, ne20, nl20, nk20, nt20, nu20, na20, nb20, ns20, ne30, nl30, nk30, nt30, nu30, na30, nb30, ns30, ne32, nl32, nk32, nt32, nu32, na32, nb32, ns32, ne40, nl40, nk40, nt40, nu40, na40, nb40, nm40, nn40, ns40, ne48, nl48, nk48, nt48, nu48, na48, nb48, ns48, ne56, nl56, nk56, nt56, nu56, na56, nb56, ns56, ne57, nl57, nk57, nt57, nu57, na57, nb57, ns57, ne59, nl59, nk59, nt59, nu59, na59, nb59, ns59, ne96, nl96, nk96, nt96, nu96, na96, nb96, ns96, ne97, nl97, nk97, nt97, nu97, na97, nb97, ns97, ne98, nl98, nk98, nt98, nu98, na98, nb98, ns98, ne99, nl99, nk99, nt99, nu99, na99, nb99, ns99, ne100, nl100, nk100, nt100, nu100, na100, nb100, ns100, ne101, nl101, nk101, nt101, nu101, na101, nb101, ns101, ne102, nl102, nk102, nt102, nu102, na102, nb102, ns102, ne122, nl122, nk122, nt122, nu122, na122, nb122, ns122, ne250, nl250, nk250, nt250, nu250, na250, nb250, ns250, ne255, nl255, nk255, nt255, nu255, na255, nb255, ns255, ne1000, nl1000, nk1000, nt1000, nu1000, na1000, nb1000, ns1000, npred, opt_b, ite_true, ite_false, n10, n01, eq_self, H.c, H.k, H.o, H.1.1, H.1.2.1]
  by_cases q : ki S k = 1
  · rw [if_pos q]
    have hm := Nat.mod_lt (ow S k) (show 0 < pl S by omega)
    simp (disch := omega) only [nle, nlt, neq, neqm, nmeq, nlem, nI_add, pk_mul, nI_1, ne0, nl0, nk0, nt0, nu0, ne1, nl1, nk1, nt1, nu1, ne2, nl2, nk2, nt2, nu2, na2, nb2, ns2, ne3, nl3, nk3, nt3, nu3, na3, nb3, ns3, ne4, nl4, nk4, nt4, nu4, na4, nb4, ns4, ne5, nl5, nk5, nt5, nu5, na5, nb5, nm5, nn5, ns5, ne6, nl6, nk6, nt6, nu6, na6, nb6, ns6, ne7, nl7, nk7, nt7, nu7, na7, nb7, ns7, ne8, nl8, nk8, nt8, nu8, na8, nb8, ns8, ne9, nl9, nk9, nt9, nu9, na9, nb9, ns9, ne10, nl10, nk10, nt10, nu10, na10, nb10, nm10, nn10, ns10, ne16, nl16, nk16, nt16, nu16, na16, nb16, ns16, ne18, nl18, nk18, nt18, nu18, na18, nb18, ns18, ne20, nl20, nk20, nt20, nu20, na20, nb20, ns20, ne30, nl30, nk30, nt30, nu30, na30, nb30, ns30, ne32, nl32, nk32, nt32, nu32, na32, nb32, ns32, ne40, nl40, nk40, nt40, nu40, na40, nb40, nm40, nn40, ns40, ne48, nl48, nk48, nt48, nu48, na48, nb48, ns48, ne56, nl56, nk56, nt56, nu56, na56, nb56, ns56, ne57, nl57, nk57, nt57, nu57, na57, nb57, ns57, ne59, nl59, nk59, nt59, nu59, na59, nb59, ns59, ne96, nl96, nk96, nt96, nu96, na96, nb96, ns96, ne97, nl97, nk97, nt97, nu97, na97, nb97, ns97, ne98, nl98, nk98, nt98, nu98, na98, nb98, ns98, ne99, nl99, nk99, nt99, nu99, na99, nb99, ns99, ne100, nl100, nk100, nt100, nu100, na100, nb100, ns100, ne101, nl101, nk101, nt101, nu101, na101, nb101, ns101, ne102, nl102, nk102, nt102, nu102, na102, nb102, ns102, ne122, nl122, nk122, nt122, nu122, na122, nb122, ns122, ne250, nl250, nk250, nt250, nu250, na250, nb250, ns250, ne255, nl255, nk255, nt255, nu255, na255, nb255, ns255, ne1000, nl1000, nk1000, nt1000, nu1000, na1000, nb1000, ns1000, npred, opt_b, ite_true, ite_false, n10, n01, eq_self, rm_n]
    by_cases q1 : ow S k % pl S = p
    · rw [if_pos q1]
      by_cases q2 : cu S k p < dp S
      · have e1 : (if cu S k p < dp S ∧ ki S k = 1 ∧ p = ow S k % pl S then cu S k p + 1 else cu S k p) = cu S k p + 1 := if_pos ⟨q2, q, q1.symm⟩
        rw [e1]
        split
        · rfl
        · rw [show dp S = cu S k p + 1 by omega]
      · have e1 : (if cu S k p < dp S ∧ ki S k = 1 ∧ p = ow S k % pl S then cu S k p + 1 else cu S k p) = cu S k p := if_neg (fun z => q2 z.1)
        rw [e1, if_neg (by omega), show cu S k p = dp S by omega]
    · rw [if_neg q1, if_neg (fun z => q1 z.2.2.symm)]
  · rw [if_neg q, if_neg (fun z => q z.2.1)]
theorem m_fits (H : HM σ S) (I : Inv S) {k l : Nat} (hk : k < 6) (hl : l < 8) : f_X6_fits σ 93 (nI k) (nI l) = some (if fitb (pl S) (dp S) (ki S k) (ow S k) (cu S k) (as S l) then 1 else 0) := by
  have p5 := I.1.2.1
  have d4 := I.1.2.2.2.1
  have h3 := H.1.1
  show f_X6_fits_l2 σ FU 93 (nI k) (nI l) (nI 0) = _
  have gen := lp_0 (P := fun n m => al (fun p => decide (as S l p ≤ dep (pl S) (dp S) (ki S k) (ow S k) (cu S k) p)) m = true → f_X6_fits_l2 σ n 93 (nI k) (nI l) (nI m) = some (if fitb (pl S) (dp S) (ki S k) (ow S k) (cu S k) (as S l) then 1 else 0)) (pl S) (by omega) (fun n h => ?_) (fun n m hm ih h => ?_)
  · exact gen rfl
  · show f_X6_fits_b2 _ (f_X6_fits_l2 _ n) _ _ _ _ = _; unfold f_X6_fits_b2
    simp (disch := omega) only [nle, nlt, neq, neqm, nmeq, nlem, nI_add, pk_mul, nI_1, ne0, nl0, nk0, nt0, nu0, ne1, nl1, nk1, nt1, nu1, ne2, nl2, nk2, nt2, nu2, na2, nb2, ns2, ne3, nl3, nk3, nt3, nu3, na3, nb3, ns3, ne4, nl4, nk4, nt4, nu4, na4, nb4, ns4, ne5, nl5, nk5, nt5, nu5, na5, nb5, nm5, nn5, ns5, ne6, nl6, nk6, nt6, nu6, na6, nb6, ns6, ne7, nl7, nk7, nt7, nu7, na7, nb7, ns7, ne8, nl8, nk8, nt8, nu8, na8, nb8, ns8, ne9, nl9, nk9, nt9, nu9, na9, nb9, ns9, ne10, nl10, nk10, nt10, nu10, na10, nb10, nm10, nn10, ns10, ne16, nl16, nk16, nt16, nu16, na16, nb16, ns16, ne18, nl18, nk18, nt18, nu18, na18, nb18, ns18, ne20, nl20, nk20, nt20, nu20, na20, nb20, ns20, ne30, nl30, nk30, nt30, nu30, na30, nb30, ns30, ne32, nl32, nk32, nt32, nu32, na32, nb32, ns32, ne40, nl40, nk40, nt40, nu40, na40, nb40, nm40, nn40, ns40, ne48, nl48, nk48, nt48, nu48, na48, nb48, ns48, ne56, nl56, nk56, nt56, nu56, na56, nb56, ns56, ne57, nl57, nk57, nt57, nu57, na57, nb57, ns57, ne59, nl59, nk59, nt59, nu59, na59, nb59, ns59, ne96, nl96, nk96, nt96, nu96, na96, nb96, ns96, ne97, nl97, nk97, nt97, nu97, na97, nb97, ns97, ne98, nl98, nk98, nt98, nu98, na98, nb98, ns98, ne99, nl99, nk99, nt99, nu99, na99, nb99, ns99, ne100, nl100, nk100, nt100, nu100, na100, nb100, ns100, ne101, nl101, nk101, nt101, nu101, na101, nb101, ns101, ne102, nl102, nk102, nt102, nu102, na102, nb102, ns102, ne122, nl122, nk122, nt122, nu122, na122, nb122, ns122, ne250, nl250, nk250, nt250, nu250, na250, nb250, ns250, ne255, nl255, nk255, nt255, nu255, na255, nb255, ns255, ne1000, nl1000, nk1000, nt1000, nu1000, na1000, nb1000, ns1000, npred, opt_b, ite_true, ite_false, n10, n01, eq_self, h3, Nat.le_refl]
    unfold fitb
    rw [h]; rfl
  · show f_X6_fits_b2 _ (f_X6_fits_l2 _ n) _ _ _ _ = _; unfold f_X6_fits_b2
    have hd := dep_le (pl S) (dp S) (ki S k) (ow S k) (cu S k) m ((I.2.1 k).2.2 m).1
    have ha := (I.2.2.2.1 l m).1
    simp (disch := omega) only [nle, nlt, neq, neqm, nmeq, nlem, nI_add, pk_mul, nI_1, ne0, nl0, nk0, nt0, nu0, ne1, nl1, nk1, nt1, nu1, ne2, nl2, nk2, nt2, nu2, na2, nb2, ns2, ne3, nl3, nk3, nt3, nu3, na3, nb3, ns3, ne4, nl4, nk4, nt4, nu4, na4, nb4, ns4, ne5, nl5, nk5, nt5, nu5, na5, nb5, nm5, nn5, ns5, ne6, nl6, nk6, nt6, nu6, na6, nb6, ns6, ne7, nl7, nk7, nt7, nu7, na7, nb7, ns7, ne8, nl8, nk8, nt8, nu8, na8, nb8, ns8, ne9, nl9, nk9, nt9, nu9, na9, nb9, ns9, ne10, nl10, nk10, nt10, nu10, na10, nb10, nm10, nn10, ns10, ne16, nl16, nk16, nt16, nu16, na16, nb16, ns16, ne18, nl18, nk18, nt18, nu18, na18, nb18, ns18, ne20, nl20, nk20, nt20, nu20, na20, nb20, ns20, ne30, nl30, nk30, nt30, nu30, na30, nb30, ns30, ne32, nl32, nk32, nt32, nu32, na32, nb32, ns32, ne40, nl40, nk40, nt40, nu40, na40, nb40, nm40, nn40, ns40, ne48, nl48, nk48, nt48, nu48, na48, nb48, ns48, ne56, nl56, nk56, nt56, nu56, na56, nb56, ns56, ne57, nl57, nk57, nt57, nu57, na57, nb57, ns57, ne59, nl59, nk59, nt59, nu59, na59, nb59, ns59, ne96, nl96, nk96, nt96, nu96, na96, nb96, ns96, ne97, nl97, nk97, nt97, nu97, na97, nb97, ns97, ne98, nl98, nk98, nt98, nu98, na98, nb98, ns98, ne99, nl99, nk99, nt99, nu99, na99, nb99, ns99, ne100, nl100, nk100, nt100, nu100, na100, nb100, ns100, ne101, nl101, nk101, nt101, nu101, na101, nb101, ns101, ne102, nl102, nk102, nt102, nu102, na102, nb102, ns102, ne122, nl122, nk122, nt122, nu122, na122, nb122, ns122, ne250, nl250, nk250, nt250, nu250, na250, nb250, ns250, ne255, nl255, nk255, nt255, nu255, na255, nb255, ns255, ne1000, nl1000, nk1000, nt1000, nu1000, na1000, nb1000, ns1000, npred, opt_b, ite_true, ite_false, n10, n01, eq_self, h3, Nat.not_le.mpr hm, m_depth H I hk hm, H.a hl]
    by_cases q : as S l m ≤ dep (pl S) (dp S) (ki S k) (ow S k) (cu S k) m
    · rw [if_pos q]
      exact ih (by simp [al, h, q])
    · rw [if_neg q]
      have : fitb (pl S) (dp S) (ki S k) (ow S k) (cu S k) (as S l) = false := by
        apply Bool.eq_false_iff.mpr
        intro z
        have := al_iff.mp z m hm
        simp [q] at this
      rw [this]; rfl
theorem m_opensSo (H : HM σ S) (I : Inv S) {k l : Nat} (hk : k < 6) (hl : l < 8) : f_X6_opensSo σ 93 (nI k) (nI l) = some (if opc S (ki S k) (ow S k) (cu S k) l then 1 else 0) := by
  have k5 := (I.2.1 k).1
  unfold f_X6_opensSo f_X6_opensSo_b46 opc
  rw [m_fits H I hk hl, m_broken H I hk, H.w hl]
  simp only [bind_s, ifz]
  simp (disch := omega) only [nle, nlt, neq, neqm, nmeq, nlem, nI_add, pk_mul, nI_1, ne0, nl0, nk0, nt0, nu0, ne1, nl1, nk1, nt1, nu1, ne2, nl2, nk2, nt2, nu2, na2, nb2, ns2, ne3, nl3, nk3, nt3, nu3, na3, nb3, ns3, ne4, nl4, nk4, nt4, nu4, na4, nb4, ns4, ne5, nl5, nk5, nt5, nu5, na5, nb5, nm5, nn5, ns5, ne6, nl6, nk6, nt6, nu6, na6, nb6, ns6, ne7, nl7, nk7, nt7, nu7, na7, nb7, ns7, ne8, nl8, nk8, nt8, nu8, na8, nb8, ns8, ne9, nl9, nk9, nt9, nu9, na9, nb9, ns9, ne10, nl10, nk10, nt10, nu10, na10, nb10, nm10, nn10, ns10, ne16, nl16, nk16, nt16, nu16, na16, nb16, ns16, ne18, nl18, nk18, nt18, nu18, na18, nb18, ns18, ne20, nl20, nk20, nt20, nu20, na20, nb20, ns20, ne30, nl30, nk30, nt30, nu30, na30, nb30, ns30, ne32, nl32, nk32, nt32, nu32, na32, nb32, ns32, ne40, nl40, nk40, nt40, nu40, na40, nb40, nm40, nn40, ns40, ne48, nl48, nk48, nt48, nu48, na48, nb48, ns48, ne56, nl56, nk56, nt56, nu56, na56, nb56, ns56, ne57, nl57, nk57, nt57, nu57, na57, nb57, ns57, ne59, nl59, nk59, nt59, nu59, na59, nb59, ns59, ne96, nl96, nk96, nt96, nu96, na96, nb96, ns96, ne97, nl97, nk97, nt97, nu97, na97, nb97, ns97, ne98, nl98, nk98, nt98, nu98, na98, nb98, ns98, ne99, nl99, nk99, nt99, nu99, na99, nb99, ns99, ne100, nl100, nk100, nt100, nu100, na100, nb100, ns100, ne101, nl101, nk101, nt101, nu101, na101, nb101, ns101, ne102, nl102, nk102, nt102, nu102, na102, nb102, ns102, ne122, nl122, nk122, nt122, nu122, na122, nb122, ns122, ne250, nl250, nk250, nt250, nu250, na250, nb250, ns250, ne255, nl255, nk255, nt255, nu255, na255, nb255, ns255, ne1000, nl1000, nk1000, nt1000, nu1000, na1000, nb1000, ns1000, npred, opt_b, ite_true, ite_false, n10, n01, eq_self, H.k hk]
  generalize fitb (pl S) (dp S) (ki S k) (ow S k) (cu S k) (as S l) = a
  generalize brk (pl S) (tg S) (ki S k) (ow S k) (cu S k) = b
  generalize wa S l = c
  by_cases q3 : ki S k = 3
  · cases a <;> cases b <;> cases c <;> simp [q3]
  · by_cases q5 : ki S k = 5
    · cases a <;> cases b <;> cases c <;> simp [q5]
    · cases a <;> cases b <;> cases c <;> simp [q3, q5]
theorem m_opensIt (H : HM σ S) (I : Inv S) {k l : Nat} (hk : k < 6) (hl : l < 8) : f_X6_opensIt σ 93 (nI k) (nI l) = some (if op S k l then 1 else 0) := by
  have k5 := (I.2.1 k).1
  have n6 := I.1.2.2.2.2.2.2.1
  have h6 := H.1.2.2.2.1
  have lp : f_X6_opensIt_l33 σ FU 93 (nI l) (nI 0) = some (if an (fun j => decide (ki S j = 0) && opc S (ki S j) (ow S j) (cu S j) l) (nk S) then 1 else 0) := by
    have gen := lp_0 (P := fun n m => an (fun j => decide (ki S j = 0) && opc S (ki S j) (ow S j) (cu S j) l) m = false → f_X6_opensIt_l33 σ n 93 (nI l) (nI m) = some (if an (fun j => decide (ki S j = 0) && opc S (ki S j) (ow S j) (cu S j) l) (nk S) then 1 else 0)) (nk S) (by omega) (fun n h => ?_) (fun n m hm ih h => ?_)
    · exact gen rfl
    · show f_X6_opensIt_b33 _ (f_X6_opensIt_l33 _ n) _ _ _ = _; unfold f_X6_opensIt_b33
      simp (disch := omega) only [nle, nlt, neq, neqm, nmeq, nlem, nI_add, pk_mul, nI_1, ne0, nl0, nk0, nt0, nu0, ne1, nl1, nk1, nt1, nu1, ne2, nl2, nk2, nt2, nu2, na2, nb2, ns2, ne3, nl3, nk3, nt3, nu3, na3, nb3, ns3, ne4, nl4, nk4, nt4, nu4, na4, nb4, ns4, ne5, nl5, nk5, nt5, nu5, na5, nb5, nm5, nn5, ns5, ne6, nl6, nk6, nt6, nu6, na6, nb6, ns6, ne7, nl7, nk7, nt7, nu7, na7, nb7, ns7, ne8, nl8, nk8, nt8, nu8, na8, nb8, ns8, ne9, nl9, nk9, nt9, nu9, na9, nb9, ns9, ne10, nl10, nk10, nt10, nu10, na10, nb10, nm10, nn10, ns10, ne16, nl16, nk16, nt16, nu16, na16, nb16, ns16, ne18, nl18, nk18, nt18, nu18, na18, nb18, ns18, ne20, nl20, nk20, nt20, nu20, na20, nb20, ns20, ne30, nl30, nk30, nt30, nu30, na30, nb30, ns30, ne32, nl32, nk32, nt32, nu32, na32, nb32, ns32, ne40, nl40, nk40, nt40, nu40, na40, nb40, nm40, nn40, ns40, ne48, nl48, nk48, nt48, nu48, na48, nb48, ns48, ne56, nl56, nk56, nt56, nu56, na56, nb56, ns56, ne57, nl57, nk57, nt57, nu57, na57, nb57, ns57, ne59, nl59, nk59, nt59, nu59, na59, nb59, ns59, ne96, nl96, nk96, nt96, nu96, na96, nb96, ns96, ne97, nl97, nk97, nt97, nu97, na97, nb97, ns97, ne98, nl98, nk98, nt98, nu98, na98, nb98, ns98, ne99, nl99, nk99, nt99, nu99, na99, nb99, ns99, ne100, nl100, nk100, nt100, nu100, na100, nb100, ns100, ne101, nl101, nk101, nt101, nu101, na101, nb101, ns101, ne102, nl102, nk102, nt102, nu102, na102, nb102, ns102, ne122, nl122, nk122, nt122, nu122, na122, nb122, ns122, ne250, nl250, nk250, nt250, nu250, na250, nb250, ns250, ne255, nl255, nk255, nt255, nu255, na255, nb255, ns255, ne1000, nl1000, nk1000, nt1000, nu1000, na1000, nb1000, ns1000, npred, opt_b, ite_true, ite_false, n10, n01, eq_self, h6, Nat.le_refl]
      rw [h]; rfl
    · show f_X6_opensIt_b33 _ (f_X6_opensIt_l33 _ n) _ _ _ = _; unfold f_X6_opensIt_b33
      have m5 := (I.2.1 m).1
      unfold f_X6_opensIt_b61
      simp (disch := omega) only [nle, nlt, neq, neqm, nmeq, nlem, nI_add, pk_mul, nI_1, ne0, nl0, nk0, nt0, nu0, ne1, nl1, nk1, nt1, nu1, ne2, nl2, nk2, nt2, nu2, na2, nb2, ns2, ne3, nl3, nk3, nt3, nu3, na3, nb3, ns3, ne4, nl4, nk4, nt4, nu4, na4, nb4, ns4, ne5, nl5, nk5, nt5, nu5, na5, nb5, nm5, nn5, ns5, ne6, nl6, nk6, nt6, nu6, na6, nb6, ns6, ne7, nl7, nk7, nt7, nu7, na7, nb7, ns7, ne8, nl8, nk8, nt8, nu8, na8, nb8, ns8, ne9, nl9, nk9, nt9, nu9, na9, nb9, ns9, ne10, nl10, nk10, nt10, nu10, na10, nb10, nm10, nn10, ns10, ne16, nl16, nk16, nt16, nu16, na16, nb16, ns16, ne18, nl18, nk18, nt18, nu18, na18, nb18, ns18, ne20, nl20, nk20, nt20, nu20, na20, nb20, ns20, ne30, nl30, nk30, nt30, nu30, na30, nb30, ns30, ne32, nl32, nk32, nt32, nu32, na32, nb32, ns32, ne40, nl40, nk40, nt40, nu40, na40, nb40, nm40, nn40, ns40, ne48, nl48, nk48, nt48, nu48, na48, nb48, ns48, ne56, nl56, nk56, nt56, nu56, na56, nb56, ns56, ne57, nl57, nk57, nt57, nu57, na57, nb57, ns57, ne59, nl59, nk59, nt59, nu59, na59, nb59, ns59, ne96, nl96, nk96, nt96, nu96, na96, nb96, ns96, ne97, nl97, nk97, nt97, nu97, na97, nb97, ns97, ne98, nl98, nk98, nt98, nu98, na98, nb98, ns98, ne99, nl99, nk99, nt99, nu99, na99, nb99, ns99, ne100, nl100, nk100, nt100, nu100, na100, nb100, ns100, ne101, nl101, nk101, nt101, nu101, na101, nb101, ns101, ne102, nl102, nk102, nt102, nu102, na102, nb102, ns102, ne122, nl122, nk122, nt122, nu122, na122, nb122, ns122, ne250, nl250, nk250, nt250, nu250, na250, nb250, ns250, ne255, nl255, nk255, nt255, nu255, na255, nb255, ns255, ne1000, nl1000, nk1000, nt1000, nu1000, na1000, nb1000, ns1000, npred, opt_b, ite_true, ite_false, n10, n01, eq_self, h6, Nat.not_le.mpr hm, H.k, m_opensSo H I (show m < 6 by omega) hl]
      by_cases q : ki S m = 0
      · rw [if_pos q, ifz]
        by_cases q2 : opc S (ki S m) (ow S m) (cu S m) l = true
        · rw [if_pos q2]
          have : an (fun j => decide (ki S j = 0) && opc S (ki S j) (ow S j) (cu S j) l) (nk S) = true := an_iff.mpr ⟨m, hm, by simp [q]; rw [← q]; exact q2⟩
          rw [this]; rfl
        · rw [if_neg q2]
          exact ih (by simp [an, h, q2])
      · rw [if_neg q]
        exact ih (by simp [an, h, q])
  have lp' : f_X6_opensIt_l33 σ FU 93 (nI l) 0 = some (if an (fun j => decide (ki S j = 0) && opc S (ki S j) (ow S j) (cu S j) l) (nk S) then 1 else 0) := lp
  unfold f_X6_opensIt op opAs bes
  rw [m_opensSo H I hk hl, m_broken H I hk, lp', bind_s, ifz, bind_s, ifz]
  simp (disch := omega) only [nle, nlt, neq, neqm, nmeq, nlem, nI_add, pk_mul, nI_1, ne0, nl0, nk0, nt0, nu0, ne1, nl1, nk1, nt1, nu1, ne2, nl2, nk2, nt2, nu2, na2, nb2, ns2, ne3, nl3, nk3, nt3, nu3, na3, nb3, ns3, ne4, nl4, nk4, nt4, nu4, na4, nb4, ns4, ne5, nl5, nk5, nt5, nu5, na5, nb5, nm5, nn5, ns5, ne6, nl6, nk6, nt6, nu6, na6, nb6, ns6, ne7, nl7, nk7, nt7, nu7, na7, nb7, ns7, ne8, nl8, nk8, nt8, nu8, na8, nb8, ns8, ne9, nl9, nk9, nt9, nu9, na9, nb9, ns9, ne10, nl10, nk10, nt10, nu10, na10, nb10, nm10, nn10, ns10, ne16, nl16, nk16, nt16, nu16, na16, nb16, ns16, ne18, nl18, nk18, nt18, nu18, na18, nb18, ns18, ne20, nl20, nk20, nt20, nu20, na20, nb20, ns20, ne30, nl30, nk30, nt30, nu30, na30, nb30, ns30, ne32, nl32, nk32, nt32, nu32, na32, nb32, ns32, ne40, nl40, nk40, nt40, nu40, na40, nb40, nm40, nn40, ns40, ne48, nl48, nk48, nt48, nu48, na48, nb48, ns48, ne56, nl56, nk56, nt56, nu56, na56, nb56, ns56, ne57, nl57, nk57, nt57, nu57, na57, nb57, ns57, ne59, nl59, nk59, nt59, nu59, na59, nb59, ns59, ne96, nl96, nk96, nt96, nu96, na96, nb96, ns96, ne97, nl97, nk97, nt97, nu97, na97, nb97, ns97, ne98, nl98, nk98, nt98, nu98, na98, nb98, ns98, ne99, nl99, nk99, nt99, nu99, na99, nb99, ns99, ne100, nl100, nk100, nt100, nu100, na100, nb100, ns100, ne101, nl101, nk101, nt101, nu101, na101, nb101, ns101, ne102, nl102, nk102, nt102, nu102, na102, nb102, ns102, ne122, nl122, nk122, nt122, nu122, na122, nb122, ns122, ne250, nl250, nk250, nt250, nu250, na250, nb250, ns250, ne255, nl255, nk255, nt255, nu255, na255, nb255, ns255, ne1000, nl1000, nk1000, nt1000, nu1000, na1000, nb1000, ns1000, npred, opt_b, ite_true, ite_false, n10, n01, eq_self, H.k hk]
  have hb : opc S (ki S k) (ow S k) (cu S k) l = true → brk (pl S) (tg S) (ki S k) (ow S k) (cu S k) = false := by
    unfold opc
    cases brk (pl S) (tg S) (ki S k) (ow S k) (cu S k) <;> simp
  revert hb
  generalize opc S (ki S k) (ow S k) (cu S k) l = a
  generalize brk (pl S) (tg S) (ki S k) (ow S k) (cu S k) = b
  generalize an (fun j => decide (ki S j = 0) && opc S (ki S j) (ow S j) (cu S j) l) (nk S) = c
  intro hb
  by_cases q5 : ki S k = 5
  · cases a <;> cases b <;> cases c <;> simp_all
  · cases a <;> cases b <;> cases c <;> simp_all
theorem m_openedBy (H : HM σ S) (I : Inv S) {k : Nat} (hk : k < 6) : f_X6_openedBy σ 93 (nI k) = some (mk (op S k) (nl S)) := by
  have n8 : nl S ≤ 8 := I.1.2.2.2.2.2.2.2
  have h11 := H.1.2.2.2.2.1
  show f_X6_openedBy_l4 σ FU 93 (nI k) (mk (op S k) 0) (nI 0) = _
  refine lp_0 (P := fun n m => f_X6_openedBy_l4 σ n 93 (nI k) (mk (op S k) m) (nI m) = some (mk (op S k) (nl S))) (nl S) (by omega) (fun n => ?_) (fun n m hm ih => ?_)
  · show f_X6_openedBy_b4 _ (f_X6_openedBy_l4 _ n) _ _ _ _ = _; unfold f_X6_openedBy_b4
    simp (disch := omega) only [nle, nlt, neq, neqm, nmeq, nlem, nI_add, pk_mul, nI_1, ne0, nl0, nk0, nt0, nu0, ne1, nl1, nk1, nt1, nu1, ne2, nl2, nk2, nt2, nu2, na2, nb2, ns2, ne3, nl3, nk3, nt3, nu3, na3, nb3, ns3, ne4, nl4, nk4, nt4, nu4, na4, nb4, ns4, ne5, nl5, nk5, nt5, nu5, na5, nb5, nm5, nn5, ns5, ne6, nl6, nk6, nt6, nu6, na6, nb6, ns6, ne7, nl7, nk7, nt7, nu7, na7, nb7, ns7, ne8, nl8, nk8, nt8, nu8, na8, nb8, ns8, ne9, nl9, nk9, nt9, nu9, na9, nb9, ns9, ne10, nl10, nk10, nt10, nu10, na10, nb10, nm10, nn10, ns10, ne16, nl16, nk16, nt16, nu16, na16, nb16, ns16, ne18, nl18, nk18, nt18, nu18, na18, nb18, ns18, ne20, nl20, nk20, nt20, nu20, na20, nb20, ns20, ne30, nl30, nk30, nt30, nu30, na30, nb30, ns30, ne32, nl32, nk32, nt32, nu32, na32, nb32, ns32, ne40, nl40, nk40, nt40, nu40, na40, nb40, nm40, nn40, ns40, ne48, nl48, nk48, nt48, nu48, na48, nb48, ns48, ne56, nl56, nk56, nt56, nu56, na56, nb56, ns56, ne57, nl57, nk57, nt57, nu57, na57, nb57, ns57, ne59, nl59, nk59, nt59, nu59, na59, nb59, ns59, ne96, nl96, nk96, nt96, nu96, na96, nb96, ns96, ne97, nl97, nk97, nt97, nu97, na97, nb97, ns97, ne98, nl98, nk98, nt98, nu98, na98, nb98, ns98, ne99, nl99, nk99, nt99, nu99, na99, nb99, ns99, ne100, nl100, nk100, nt100, nu100, na100, nb100, ns100, ne101, nl101, nk101, nt101, nu101, na101, nb101, ns101, ne102, nl102, nk102, nt102, nu102, na102, nb102, ns102, ne122, nl122, nk122, nt122, nu122, na122, nb122, ns122, ne250, nl250, nk250, nt250, nu250, na250, nb250, ns250, ne255, nl255, nk255, nt255, nu255, na255, nb255, ns255, ne1000, nl1000, nk1000, nt1000, nu1000, na1000, nb1000, ns1000, npred, opt_b, ite_true, ite_false, n10, n01, eq_self, h11, Nat.le_refl]
  · show f_X6_openedBy_b4 _ (f_X6_openedBy_l4 _ n) _ _ _ _ = _; unfold f_X6_openedBy_b4
    unfold f_X6_openedBy_b27
    simp (disch := omega) only [nle, nlt, neq, neqm, nmeq, nlem, nI_add, pk_mul, nI_1, ne0, nl0, nk0, nt0, nu0, ne1, nl1, nk1, nt1, nu1, ne2, nl2, nk2, nt2, nu2, na2, nb2, ns2, ne3, nl3, nk3, nt3, nu3, na3, nb3, ns3, ne4, nl4, nk4, nt4, nu4, na4, nb4, ns4, ne5, nl5, nk5, nt5, nu5, na5, nb5, nm5, nn5, ns5, ne6, nl6, nk6, nt6, nu6, na6, nb6, ns6, ne7, nl7, nk7, nt7, nu7, na7, nb7, ns7, ne8, nl8, nk8, nt8, nu8, na8, nb8, ns8, ne9, nl9, nk9, nt9, nu9, na9, nb9, ns9, ne10, nl10, nk10, nt10, nu10, na10, nb10, nm10, nn10, ns10, ne16, nl16, nk16, nt16, nu16, na16, nb16, ns16, ne18, nl18, nk18, nt18, nu18, na18, nb18, ns18, ne20, nl20, nk20, nt20, nu20, na20, nb20, ns20, ne30, nl30, nk30, nt30, nu30, na30, nb30, ns30, ne32, nl32, nk32, nt32, nu32, na32, nb32, ns32, ne40, nl40, nk40, nt40, nu40, na40, nb40, nm40, nn40, ns40, ne48, nl48, nk48, nt48, nu48, na48, nb48, ns48, ne56, nl56, nk56, nt56, nu56, na56, nb56, ns56, ne57, nl57, nk57, nt57, nu57, na57, nb57, ns57, ne59, nl59, nk59, nt59, nu59, na59, nb59, ns59, ne96, nl96, nk96, nt96, nu96, na96, nb96, ns96, ne97, nl97, nk97, nt97, nu97, na97, nb97, ns97, ne98, nl98, nk98, nt98, nu98, na98, nb98, ns98, ne99, nl99, nk99, nt99, nu99, na99, nb99, ns99, ne100, nl100, nk100, nt100, nu100, na100, nb100, ns100, ne101, nl101, nk101, nt101, nu101, na101, nb101, ns101, ne102, nl102, nk102, nt102, nu102, na102, nb102, ns102, ne122, nl122, nk122, nt122, nu122, na122, nb122, ns122, ne250, nl250, nk250, nt250, nu250, na250, nb250, ns250, ne255, nl255, nk255, nt255, nu255, na255, nb255, ns255, ne1000, nl1000, nk1000, nt1000, nu1000, na1000, nb1000, ns1000, npred, opt_b, ite_true, ite_false, n10, n01, eq_self, h11, Nat.not_le.mpr hm, m_opensIt H I hk (show m < 8 by omega)]
    rw [ifz]
    cases q : op S k m
    · rw [if_neg (by simp)]
      rw [mk_un _ q] at ih
      exact ih
    · rw [if_pos rfl, ← mk_up _ q]
      exact ih
theorem m_whoOpens (H : HM σ S) (I : Inv S) {l : Nat} (hl : l < 8) : f_X6_whoOpens σ 93 (nI l) = some (mk (fun k => op S k l) (nk S)) := by
  have n6 := I.1.2.2.2.2.2.2.1
  have h6 := H.1.2.2.2.1
  show f_X6_whoOpens_l4 σ FU 93 (nI l) (mk (fun k => op S k l) 0) (nI 0) = _
  refine lp_0 (P := fun n m => f_X6_whoOpens_l4 σ n 93 (nI l) (mk (fun k => op S k l) m) (nI m) = some (mk (fun k => op S k l) (nk S))) (nk S) (by omega) (fun n => ?_) (fun n m hm ih => ?_)
  · show f_X6_whoOpens_b4 _ (f_X6_whoOpens_l4 _ n) _ _ _ _ = _; unfold f_X6_whoOpens_b4
    simp (disch := omega) only [nle, nlt, neq, neqm, nmeq, nlem, nI_add, pk_mul, nI_1, ne0, nl0, nk0, nt0, nu0, ne1, nl1, nk1, nt1, nu1, ne2, nl2, nk2, nt2, nu2, na2, nb2, ns2, ne3, nl3, nk3, nt3, nu3, na3, nb3, ns3, ne4, nl4, nk4, nt4, nu4, na4, nb4, ns4, ne5, nl5, nk5, nt5, nu5, na5, nb5, nm5, nn5, ns5, ne6, nl6, nk6, nt6, nu6, na6, nb6, ns6, ne7, nl7, nk7, nt7, nu7, na7, nb7, ns7, ne8, nl8, nk8, nt8, nu8, na8, nb8, ns8, ne9, nl9, nk9, nt9, nu9, na9, nb9, ns9, ne10, nl10, nk10, nt10, nu10, na10, nb10, nm10, nn10, ns10, ne16, nl16, nk16, nt16, nu16, na16, nb16, ns16, ne18, nl18, nk18, nt18, nu18, na18, nb18, ns18, ne20, nl20, nk20, nt20, nu20, na20, nb20, ns20, ne30, nl30, nk30, nt30, nu30, na30, nb30, ns30, ne32, nl32, nk32, nt32, nu32, na32, nb32, ns32, ne40, nl40, nk40, nt40, nu40, na40, nb40, nm40, nn40, ns40, ne48, nl48, nk48, nt48, nu48, na48, nb48, ns48, ne56, nl56, nk56, nt56, nu56, na56, nb56, ns56, ne57, nl57, nk57, nt57, nu57, na57, nb57, ns57, ne59, nl59, nk59, nt59, nu59, na59, nb59, ns59, ne96, nl96, nk96, nt96, nu96, na96, nb96, ns96, ne97, nl97, nk97, nt97, nu97, na97, nb97, ns97, ne98, nl98, nk98, nt98, nu98, na98, nb98, ns98, ne99, nl99, nk99, nt99, nu99, na99, nb99, ns99, ne100, nl100, nk100, nt100, nu100, na100, nb100, ns100, ne101, nl101, nk101, nt101, nu101, na101, nb101, ns101, ne102, nl102, nk102, nt102, nu102, na102, nb102, ns102, ne122, nl122, nk122, nt122, nu122, na122, nb122, ns122, ne250, nl250, nk250, nt250, nu250, na250, nb250, ns250, ne255, nl255, nk255, nt255, nu255, na255, nb255, ns255, ne1000, nl1000, nk1000, nt1000, nu1000, na1000, nb1000, ns1000, npred, opt_b, ite_true, ite_false, n10, n01, eq_self, h6, Nat.le_refl]
  · show f_X6_whoOpens_b4 _ (f_X6_whoOpens_l4 _ n) _ _ _ _ = _; unfold f_X6_whoOpens_b4
    unfold f_X6_whoOpens_b27
    simp (disch := omega) only [nle, nlt, neq, neqm, nmeq, nlem, nI_add, pk_mul, nI_1, ne0, nl0, nk0, nt0, nu0, ne1, nl1, nk1, nt1, nu1, ne2, nl2, nk2, nt2, nu2, na2, nb2, ns2, ne3, nl3, nk3, nt3, nu3, na3, nb3, ns3, ne4, nl4, nk4, nt4, nu4, na4, nb4, ns4, ne5, nl5, nk5, nt5, nu5, na5, nb5, nm5, nn5, ns5, ne6, nl6, nk6, nt6, nu6, na6, nb6, ns6, ne7, nl7, nk7, nt7, nu7, na7, nb7, ns7, ne8, nl8, nk8, nt8, nu8, na8, nb8, ns8, ne9, nl9, nk9, nt9, nu9, na9, nb9, ns9, ne10, nl10, nk10, nt10, nu10, na10, nb10, nm10, nn10, ns10, ne16, nl16, nk16, nt16, nu16, na16, nb16, ns16, ne18, nl18, nk18, nt18, nu18, na18, nb18, ns18, ne20, nl20, nk20, nt20, nu20, na20, nb20, ns20, ne30, nl30, nk30, nt30, nu30, na30, nb30, ns30, ne32, nl32, nk32, nt32, nu32, na32, nb32, ns32, ne40, nl40, nk40, nt40, nu40, na40, nb40, nm40, nn40, ns40, ne48, nl48, nk48, nt48, nu48, na48, nb48, ns48, ne56, nl56, nk56, nt56, nu56, na56, nb56, ns56, ne57, nl57, nk57, nt57, nu57, na57, nb57, ns57, ne59, nl59, nk59, nt59, nu59, na59, nb59, ns59, ne96, nl96, nk96, nt96, nu96, na96, nb96, ns96, ne97, nl97, nk97, nt97, nu97, na97, nb97, ns97, ne98, nl98, nk98, nt98, nu98, na98, nb98, ns98, ne99, nl99, nk99, nt99, nu99, na99, nb99, ns99, ne100, nl100, nk100, nt100, nu100, na100, nb100, ns100, ne101, nl101, nk101, nt101, nu101, na101, nb101, ns101, ne102, nl102, nk102, nt102, nu102, na102, nb102, ns102, ne122, nl122, nk122, nt122, nu122, na122, nb122, ns122, ne250, nl250, nk250, nt250, nu250, na250, nb250, ns250, ne255, nl255, nk255, nt255, nu255, na255, nb255, ns255, ne1000, nl1000, nk1000, nt1000, nu1000, na1000, nb1000, ns1000, npred, opt_b, ite_true, ite_false, n10, n01, eq_self, h6, Nat.not_le.mpr hm, m_opensIt H I (show m < 6 by omega) hl]
    rw [ifz]
    cases q : op S m l
    · rw [if_neg (by simp)]
      rw [mk_un (fun k => op S k l) q] at ih
      exact ih
    · rw [if_pos rfl, ← mk_up (fun k => op S k l) q]
      exact ih
end MODEL
