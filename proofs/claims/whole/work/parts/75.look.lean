/-! the same answer of both, both alike then -/
def Agr (f g : St → Option (Int32 × St)) (σ : St) : Prop := ∃ r σ1 σ2, f σ = some (r, σ1) ∧ g σ1 = some (r, σ2) ∧ Sim σ2
theorem Fr1 (σ : St) (i : Nat) : Fr (fun a _ => a = 1) σ (R1 σ i) := Fr.i rfl
theorem Agr.ref {f g : St → Option (Int32 × St)} {σ : St} {S : HS} (H : Sm σ S) (i : Nat) (hi : i < 5) (h1 : f σ = some (rfn i, R1 σ i)) (h2 : HM (R1 σ i) S → Fr (fun a _ => a = 1) σ (R1 σ i) → g (R1 σ i) = some (rfn i, R2 (R1 σ i) i)) : Agr f g σ := ⟨_, _, _, h1, h2 (H.ref hi).1 (Fr1 σ i), S, (H.ref hi).2⟩
theorem Agr.q {f g : St → Option (Int32 × St)} {σ σ1 : St} {S : HS} {r : Int32} (H : Sm σ S) (h1 : f σ = some (r, σ1)) (hf : Fr SC σ σ1) (h2 : Sm σ1 S → ∃ σ2, g σ1 = some (r, σ2) ∧ Sim σ2) : Agr f g σ := by
  obtain ⟨σ2, h3, h4⟩ := h2 (H.sc hf)
  exact ⟨r, σ1, σ2, h1, h3, h4⟩
/-- questions that leave all as it is -/
theorem Agr.p {f g : St → Option (Int32 × St)} {σ : St} {S : HS} {r : Int32} (H : Sm σ S) (h1 : f σ = some (r, σ)) (h2 : g σ = some (r, σ)) : Agr f g σ := ⟨r, σ, σ, h1, h2, S, H⟩
theorem isH39 : isH 39 := Or.inl rfl
theorem hb {x : Int32} {l : Nat} (h : l < 32) : f_X5_hasBit x (nI l) = some (if bt x l then 1 else 0) := by
  unfold f_X5_hasBit
  rw [bit_1 x h]
  cases bt x l <;> rfl
theorem hs {x : Int32} {l : Nat} (h : l < 32) : f_X6_has x (nI l) = some (if bt x l then 1 else 0) := by
  unfold f_X6_has
  rw [bit_1 x h]
  cases bt x l <;> rfl
theorem bt_m (f : Nat → Bool) {n l : Nat} (hl : l < n) (hn : n ≤ 32) : bt (mk f n) l = f l := by rw [bt_mk f hn (by omega)]; simp [hl]
def sub (f g : Nat → Bool) (n : Nat) : Bool := al (fun l => !f l || g l) n
theorem mk_z {f : Nat → Bool} {n : Nat} (hn : n ≤ 32) : mk f n = 0 ↔ ∀ l, l < n → f l = false := by
  constructor
  · intro h l hl
    rw [← mk_0 (n := n)] at h
    exact mk_inj hn h l hl
  · intro h
    rw [← mk_0 (n := n)]
    exact mk_c h
theorem mk_sub {f g : Nat → Bool} {n : Nat} (hn : n ≤ 32) : (mk f n &&& (mk g n ^^^ (-1)) = 0) ↔ sub f g n = true := by
  rw [mk_andn hn, mk_z hn]
  unfold sub
  rw [al_iff]
  constructor
  · intro h k hk
    have := h k hk
    revert this
    cases f k <;> cases g k <;> simp
  · intro h k hk
    have := h k hk
    revert this
    cases f k <;> cases g k <;> simp
section LOOK
variable {σ : St} {S : HS}
theorem c_isKey_i (H : HC σ 39 S) (I : Inv S) {k : Nat} (hk : k < nk S) : f_X5_isKey σ 0 (nI k) = some 1 := by
  have := I.1.2.2.2.2.2.2.1
  unfold f_X5_isKey
  rw [H.1.2.2.2.2.2.1, w_i0 hk (by omega)]; rfl
theorem c_isKey_o (H : HC σ 39 S) (I : Inv S) {x : Int32} (h : ¬ inR x 0 (nk S)) : f_X5_isKey σ 0 x = some 0 := by
  have := I.1.2.2.2.2.2.2.1
  unfold f_X5_isKey
  rw [H.1.2.2.2.2.2.1, w_o0 h (by omega)]; rfl
theorem c_isLock_i (H : HC σ 39 S) (I : Inv S) {k : Nat} (hk : k < nl S) : f_X5_isLock σ 0 (nI k) = some 1 := by
  have := I.1.2.2.2.2.2.2.2
  unfold f_X5_isLock
  rw [H.1.2.2.2.2.2.2.1, w_i0 hk (by omega)]; rfl
theorem c_isLock_o (H : HC σ 39 S) (I : Inv S) {x : Int32} (h : ¬ inR x 0 (nl S)) : f_X5_isLock σ 0 x = some 0 := by
  have := I.1.2.2.2.2.2.2.2
  unfold f_X5_isLock
  rw [H.1.2.2.2.2.2.2.1, w_o0 h (by omega)]; rfl
theorem c_isPlace_i (H : HC σ 39 S) (I : Inv S) {k : Nat} (hk : k < pl S) : f_X5_isPlace σ 0 (nI k) = some 1 := by
  have := I.1.2.1
  unfold f_X5_isPlace
  rw [H.1.1, w_i0 hk (by omega)]; rfl
theorem c_isPlace_o (H : HC σ 39 S) (I : Inv S) {x : Int32} (h : ¬ inR x 0 (pl S)) : f_X5_isPlace σ 0 x = some 0 := by
  have := I.1.2.1
  unfold f_X5_isPlace
  rw [H.1.1, w_o0 h (by omega)]; rfl
theorem m_isKey_i (H : HM σ S) (I : Inv S) {k : Nat} (hk : k < nk S) : f_X6_isKey σ 93 (nI k) = some 1 := by
  have := I.1.2.2.2.2.2.2.1
  unfold f_X6_isKey
  rw [H.1.2.2.2.1, w_6, w_i0 hk (by omega)]; rfl
theorem m_isKey_o (H : HM σ S) (I : Inv S) {x : Int32} (h : ¬ inR x 0 (nk S)) : f_X6_isKey σ 93 x = some 0 := by
  have := I.1.2.2.2.2.2.2.1
  unfold f_X6_isKey
  rw [H.1.2.2.2.1, w_6, w_o0 h (by omega)]; rfl
theorem m_isLock_i (H : HM σ S) (I : Inv S) {k : Nat} (hk : k < nl S) : f_X6_isLock σ 93 (nI k) = some 1 := by
  have := I.1.2.2.2.2.2.2.2
  unfold f_X6_isLock
  rw [H.1.2.2.2.2.1, w_6, w_i0 hk (by omega)]; rfl
theorem m_isLock_o (H : HM σ S) (I : Inv S) {x : Int32} (h : ¬ inR x 0 (nl S)) : f_X6_isLock σ 93 x = some 0 := by
  have := I.1.2.2.2.2.2.2.2
  unfold f_X6_isLock
  rw [H.1.2.2.2.2.1, w_6, w_o0 h (by omega)]; rfl
theorem m_isPlace_i (H : HM σ S) (I : Inv S) {k : Nat} (hk : k < pl S) : f_X6_isPlace σ 93 (nI k) = some 1 := by
  have := I.1.2.1
  unfold f_X6_isPlace
  rw [H.1.1, w_6, w_i0 hk (by omega)]; rfl
theorem m_isPlace_o (H : HM σ S) (I : Inv S) {x : Int32} (h : ¬ inR x 0 (pl S)) : f_X6_isPlace σ 93 x = some 0 := by
  have := I.1.2.1
  unfold f_X6_isPlace
  rw [H.1.1, w_6, w_o0 h (by omega)]; rfl
theorem op_opened (H : Sm σ S) (x : Int32) : Agr (fun s => f_X5_opened s 0 x) (fun s => f_X6_opened s 93 x) σ := by
  obtain ⟨hc, hm, I, -⟩ := id H
  have n6 := I.1.2.2.2.2.2.2.1
  by_cases q : inR x 0 (nk S)
  · obtain ⟨k, -, hk, rfl⟩ := q
    refine Agr.p (r := mk (op S k) (nl S)) H ?_ ?_
    · unfold f_X5_opened
      simp (disch := omega) only [nle, nlt, neq, neqm, nmeq, nlem, nI_add, pk_mul, nI_1, ne0, nl0, nk0, nt0, nu0, ne1, nl1, nk1, nt1, nu1, ne2, nl2, nk2, nt2, nu2, na2, nb2, ns2, ne3, nl3, nk3, nt3, nu3, na3, nb3, ns3, ne4, nl4, nk4, nt4, nu4, na4, nb4, ns4, ne5, nl5, nk5, nt5, nu5, na5, nb5, nm5, nn5, ns5, ne6, nl6, nk6, nt6, nu6, na6, nb6, ns6, ne7, nl7, nk7, nt7, nu7, na7, nb7, ns7, ne8, nl8, nk8, nt8, nu8, na8, nb8, ns8, ne9, nl9, nk9, nt9, nu9, na9, nb9, ns9, ne10, nl10, nk10, nt10, nu10, na10, nb10, nm10, nn10, ns10, ne16, nl16, nk16, nt16, nu16, na16, nb16, ns16, ne18, nl18, nk18, nt18, nu18, na18, nb18, ns18, ne20, nl20, nk20, nt20, nu20, na20, nb20, ns20, ne30, nl30, nk30, nt30, nu30, na30, nb30, ns30, ne32, nl32, nk32, nt32, nu32, na32, nb32, ns32, ne40, nl40, nk40, nt40, nu40, na40, nb40, nm40, nn40, ns40, ne48, nl48, nk48, nt48, nu48, na48, nb48, ns48, ne56, nl56, nk56, nt56, nu56, na56, nb56, ns56, ne57, nl57, nk57, nt57, nu57, na57, nb57, ns57, ne59, nl59, nk59, nt59, nu59, na59, nb59, ns59, ne96, nl96, nk96, nt96, nu96, na96, nb96, ns96, ne97, nl97, nk97, nt97, nu97, na97, nb97, ns97, ne98, nl98, nk98, nt98, nu98, na98, nb98, ns98, ne99, nl99, nk99, nt99, nu99, na99, nb99, ns99, ne100, nl100, nk100, nt100, nu100, na100, nb100, ns100, ne101, nl101, nk101, nt101, nu101, na101, nb101, ns101, ne102, nl102, nk102, nt102, nu102, na102, nb102, ns102, ne122, nl122, nk122, nt122, nu122, na122, nb122, ns122, ne250, nl250, nk250, nt250, nu250, na250, nb250, ns250, ne255, nl255, nk255, nt255, nu255, na255, nb255, ns255, ne1000, nl1000, nk1000, nt1000, nu1000, na1000, nb1000, ns1000, npred, opt_b, ite_true, ite_false, n10, n01, eq_self, c_isKey_i hc I hk, c_oby hc isH39 I (show k < 6 by omega)]
    · unfold f_X6_opened
      simp (disch := omega) only [nle, nlt, neq, neqm, nmeq, nlem, nI_add, pk_mul, nI_1, ne0, nl0, nk0, nt0, nu0, ne1, nl1, nk1, nt1, nu1, ne2, nl2, nk2, nt2, nu2, na2, nb2, ns2, ne3, nl3, nk3, nt3, nu3, na3, nb3, ns3, ne4, nl4, nk4, nt4, nu4, na4, nb4, ns4, ne5, nl5, nk5, nt5, nu5, na5, nb5, nm5, nn5, ns5, ne6, nl6, nk6, nt6, nu6, na6, nb6, ns6, ne7, nl7, nk7, nt7, nu7, na7, nb7, ns7, ne8, nl8, nk8, nt8, nu8, na8, nb8, ns8, ne9, nl9, nk9, nt9, nu9, na9, nb9, ns9, ne10, nl10, nk10, nt10, nu10, na10, nb10, nm10, nn10, ns10, ne16, nl16, nk16, nt16, nu16, na16, nb16, ns16, ne18, nl18, nk18, nt18, nu18, na18, nb18, ns18, ne20, nl20, nk20, nt20, nu20, na20, nb20, ns20, ne30, nl30, nk30, nt30, nu30, na30, nb30, ns30, ne32, nl32, nk32, nt32, nu32, na32, nb32, ns32, ne40, nl40, nk40, nt40, nu40, na40, nb40, nm40, nn40, ns40, ne48, nl48, nk48, nt48, nu48, na48, nb48, ns48, ne56, nl56, nk56, nt56, nu56, na56, nb56, ns56, ne57, nl57, nk57, nt57, nu57, na57, nb57, ns57, ne59, nl59, nk59, nt59, nu59, na59, nb59, ns59, ne96, nl96, nk96, nt96, nu96, na96, nb96, ns96, ne97, nl97, nk97, nt97, nu97, na97, nb97, ns97, ne98, nl98, nk98, nt98, nu98, na98, nb98, ns98, ne99, nl99, nk99, nt99, nu99, na99, nb99, ns99, ne100, nl100, nk100, nt100, nu100, na100, nb100, ns100, ne101, nl101, nk101, nt101, nu101, na101, nb101, ns101, ne102, nl102, nk102, nt102, nu102, na102, nb102, ns102, ne122, nl122, nk122, nt122, nu122, na122, nb122, ns122, ne250, nl250, nk250, nt250, nu250, na250, nb250, ns250, ne255, nl255, nk255, nt255, nu255, na255, nb255, ns255, ne1000, nl1000, nk1000, nt1000, nu1000, na1000, nb1000, ns1000, npred, opt_b, ite_true, ite_false, n10, n01, eq_self, m_isKey_i hm I hk, m_openedBy hm I (show k < 6 by omega)]
  · refine Agr.ref H 0 (by decide) ?_ (fun hm' hf => ?_)
    · unfold f_X5_opened
      simp (disch := omega) only [nle, nlt, neq, neqm, nmeq, nlem, nI_add, pk_mul, nI_1, ne0, nl0, nk0, nt0, nu0, ne1, nl1, nk1, nt1, nu1, ne2, nl2, nk2, nt2, nu2, na2, nb2, ns2, ne3, nl3, nk3, nt3, nu3, na3, nb3, ns3, ne4, nl4, nk4, nt4, nu4, na4, nb4, ns4, ne5, nl5, nk5, nt5, nu5, na5, nb5, nm5, nn5, ns5, ne6, nl6, nk6, nt6, nu6, na6, nb6, ns6, ne7, nl7, nk7, nt7, nu7, na7, nb7, ns7, ne8, nl8, nk8, nt8, nu8, na8, nb8, ns8, ne9, nl9, nk9, nt9, nu9, na9, nb9, ns9, ne10, nl10, nk10, nt10, nu10, na10, nb10, nm10, nn10, ns10, ne16, nl16, nk16, nt16, nu16, na16, nb16, ns16, ne18, nl18, nk18, nt18, nu18, na18, nb18, ns18, ne20, nl20, nk20, nt20, nu20, na20, nb20, ns20, ne30, nl30, nk30, nt30, nu30, na30, nb30, ns30, ne32, nl32, nk32, nt32, nu32, na32, nb32, ns32, ne40, nl40, nk40, nt40, nu40, na40, nb40, nm40, nn40, ns40, ne48, nl48, nk48, nt48, nu48, na48, nb48, ns48, ne56, nl56, nk56, nt56, nu56, na56, nb56, ns56, ne57, nl57, nk57, nt57, nu57, na57, nb57, ns57, ne59, nl59, nk59, nt59, nu59, na59, nb59, ns59, ne96, nl96, nk96, nt96, nu96, na96, nb96, ns96, ne97, nl97, nk97, nt97, nu97, na97, nb97, ns97, ne98, nl98, nk98, nt98, nu98, na98, nb98, ns98, ne99, nl99, nk99, nt99, nu99, na99, nb99, ns99, ne100, nl100, nk100, nt100, nu100, na100, nb100, ns100, ne101, nl101, nk101, nt101, nu101, na101, nb101, ns101, ne102, nl102, nk102, nt102, nu102, na102, nb102, ns102, ne122, nl122, nk122, nt122, nu122, na122, nb122, ns122, ne250, nl250, nk250, nt250, nu250, na250, nb250, ns250, ne255, nl255, nk255, nt255, nu255, na255, nb255, ns255, ne1000, nl1000, nk1000, nt1000, nu1000, na1000, nb1000, ns1000, npred, opt_b, ite_true, ite_false, n10, n01, eq_self, c_isKey_o hc I q, ref_2, b2_s]
      rfl
    · unfold f_X6_opened
      simp (disch := omega) only [nle, nlt, neq, neqm, nmeq, nlem, nI_add, pk_mul, nI_1, ne0, nl0, nk0, nt0, nu0, ne1, nl1, nk1, nt1, nu1, ne2, nl2, nk2, nt2, nu2, na2, nb2, ns2, ne3, nl3, nk3, nt3, nu3, na3, nb3, ns3, ne4, nl4, nk4, nt4, nu4, na4, nb4, ns4, ne5, nl5, nk5, nt5, nu5, na5, nb5, nm5, nn5, ns5, ne6, nl6, nk6, nt6, nu6, na6, nb6, ns6, ne7, nl7, nk7, nt7, nu7, na7, nb7, ns7, ne8, nl8, nk8, nt8, nu8, na8, nb8, ns8, ne9, nl9, nk9, nt9, nu9, na9, nb9, ns9, ne10, nl10, nk10, nt10, nu10, na10, nb10, nm10, nn10, ns10, ne16, nl16, nk16, nt16, nu16, na16, nb16, ns16, ne18, nl18, nk18, nt18, nu18, na18, nb18, ns18, ne20, nl20, nk20, nt20, nu20, na20, nb20, ns20, ne30, nl30, nk30, nt30, nu30, na30, nb30, ns30, ne32, nl32, nk32, nt32, nu32, na32, nb32, ns32, ne40, nl40, nk40, nt40, nu40, na40, nb40, nm40, nn40, ns40, ne48, nl48, nk48, nt48, nu48, na48, nb48, ns48, ne56, nl56, nk56, nt56, nu56, na56, nb56, ns56, ne57, nl57, nk57, nt57, nu57, na57, nb57, ns57, ne59, nl59, nk59, nt59, nu59, na59, nb59, ns59, ne96, nl96, nk96, nt96, nu96, na96, nb96, ns96, ne97, nl97, nk97, nt97, nu97, na97, nb97, ns97, ne98, nl98, nk98, nt98, nu98, na98, nb98, ns98, ne99, nl99, nk99, nt99, nu99, na99, nb99, ns99, ne100, nl100, nk100, nt100, nu100, na100, nb100, ns100, ne101, nl101, nk101, nt101, nu101, na101, nb101, ns101, ne102, nl102, nk102, nt102, nu102, na102, nb102, ns102, ne122, nl122, nk122, nt122, nu122, na122, nb122, ns122, ne250, nl250, nk250, nt250, nu250, na250, nb250, ns250, ne255, nl255, nk255, nt255, nu255, na255, nb255, ns255, ne1000, nl1000, nk1000, nt1000, nu1000, na1000, nb1000, ns1000, npred, opt_b, ite_true, ite_false, n10, n01, eq_self, m_isKey_o hm' I q, nof_2, b2_s]
      rfl
end LOOK
