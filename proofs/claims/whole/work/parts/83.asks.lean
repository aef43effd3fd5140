theorem st_ext {σ σ' : St} (h1 : ∀ a j, σ.1 a j = σ'.1 a j) (h2 : σ.2 = σ'.2) : σ = σ' := Prod.ext (funext fun a => funext fun j => h1 a j) h2
def bitI (l : Nat) : Int32 := (1 : Int32) <<< (nI l &&& 31)
/-- old, but with lock l in it or not -/
def pab (x : Int32) (l : Nat) (b : Bool) : Int32 := if b then (x &&& (bitI l ^^^ (-1))) ||| bitI l else x &&& (bitI l ^^^ (-1))
theorem bt_bitI {l i : Nat} (hl : l < 32) (hi : i < 32) : bt (bitI l) i = decide (i = l) := bt_sh hl hi
theorem bt_pab {x : Int32} {l i : Nat} {b : Bool} (hl : l < 32) (hi : i < 32) : bt (pab x l b) i = if i = l then b else bt x i := by
  unfold pab
  cases b
  · rw [if_neg (by simp), b_and, b_xor, bt_bitI hl hi, b_m1 i hi]
    by_cases e : i = l <;> simp [e]
  · rw [if_pos rfl, b_or, b_and, b_xor, bt_bitI hl hi, b_m1 i hi]
    by_cases e : i = l <;> simp [e]
theorem pab_mk {f : Nat → Bool} {n l : Nat} {b : Bool} (hl : l < n) (hn : n ≤ 32) : pab (mk f n) l b = mk (fun k => if k = l then b else f k) n := b_ext fun i hi => by
  rw [bt_pab (by omega) hi, bt_mk _ hn hi, bt_mk _ hn hi]
  by_cases e : i = l
  · subst e; simp [hl]
  · simp [e]
theorem pab_new {f : Nat → Bool} {n : Nat} {b : Bool} (hn : n < 32) : pab (mk f n) n b = mk (fun k => if k = n then b else f k) (n + 1) := b_ext fun i hi => by
  rw [bt_pab hn hi, bt_mk _ (by omega) hi, bt_mk _ (by omega) hi]
  by_cases e : i = n
  · subst e; simp
  · simp only [e, if_false]
    congr 1
    apply Bool.eq_iff_iff.mpr
    simp only [decide_eq_true_eq]
    omega
/-- the table after one asks of one place was put, up to a depth m -/
def PW (σ : St) (h l p v m j : Nat) : Int32 := if p * 5 ≤ j ∧ j < p * 5 + m then pab (σ.1 (h + 3) j) l (decide (v ≤ j - p * 5)) else σ.1 (h + 3) j
def PAm (σ : St) (h l p v m : Nat) : St := setA (setI σ (h + 2) (l * 5 + p) (nI v)) (h + 3) (PW σ h l p v m)
theorem PAm_0 (σ : St) (h l p v : Nat) : PAm σ h l p v 0 = setI σ (h + 2) (l * 5 + p) (nI v) := by
  refine st_ext (fun a j => ?_) rfl
  unfold PAm
  by_cases e : a = h + 3
  · subst e
    rw [setA_s, setI_a (by omega)]
    unfold PW
    rw [if_neg (by omega)]
  · rw [setA_n e]
theorem PAm_s (σ : St) (h l p v m : Nat) : setI (PAm σ h l p v m) (h + 3) (p * 5 + m) (pab (σ.1 (h + 3) (p * 5 + m)) l (decide (v ≤ m))) = PAm σ h l p v (m + 1) := by
  refine st_ext (fun a j => ?_) rfl
  unfold PAm
  by_cases e : a = h + 3
  · subst e
    rw [setA_s]
    by_cases e2 : j = p * 5 + m
    · subst e2
      rw [setI_s]
      unfold PW
      rw [if_pos (by omega), Nat.add_sub_cancel_left]
    · rw [setI_k e2, setA_s]
      unfold PW
      by_cases e3 : p * 5 ≤ j ∧ j < p * 5 + m
      · rw [if_pos e3, if_pos (by omega)]
      · rw [if_neg e3, if_neg (by omega)]
  · rw [setA_n e, setI_a e, setA_n e]
theorem c_putAsks {σ : St} {h l p v : Nat} (hh : isH h) (hl : l < 8) (hp : p < 5) (hv : v ≤ 5) : f_X0_putAsks σ h (nI l) (nI p) (nI v) = some (PAm σ h l p v 5) := by
  have l2 := (ln_h hh).2.1
  have l3 := (ln_h hh).2.2.1
  unfold f_X0_putAsks
  simp (disch := omega) only [nle, nlt, neq, neqm, nmeq, nlem, nI_add, pk_mul, nI_1, ne0, nl0, nk0, nt0, nu0, ne1, nl1, nk1, nt1, nu1, ne2, nl2, nk2, nt2, nu2, na2, nb2, ns2, ne3, nl3, nk3, nt3, nu3, na3, nb3, ns3, ne4, nl4, nk4, nt4, nu4, na4, nb4, ns4, ne5, nl5, nk5, nt5, nu5, na5, nb5, nm5, nn5, ns5, ne6, nl6, nk6, nt6, nu6, na6, nb6, ns6, ne7, nl7, nk7, nt7, nu7, na7, nb7, ns7, ne8, nl8, nk8, nt8, nu8, na8, nb8, ns8, ne9, nl9, nk9, nt9, nu9, na9, nb9, ns9, ne10, nl10, nk10, nt10, nu10, na10, nb10, nm10, nn10, ns10, ne16, nl16, nk16, nt16, nu16, na16, nb16, ns16, ne18, nl18, nk18, nt18, nu18, na18, nb18, ns18, ne20, nl20, nk20, nt20, nu20, na20, nb20, ns20, ne30, nl30, nk30, nt30, nu30, na30, nb30, ns30, ne32, nl32, nk32, nt32, nu32, na32, nb32, ns32, ne40, nl40, nk40, nt40, nu40, na40, nb40, nm40, nn40, ns40, ne48, nl48, nk48, nt48, nu48, na48, nb48, ns48, ne56, nl56, nk56, nt56, nu56, na56, nb56, ns56, ne57, nl57, nk57, nt57, nu57, na57, nb57, ns57, ne59, nl59, nk59, nt59, nu59, na59, nb59, ns59, ne96, nl96, nk96, nt96, nu96, na96, nb96, ns96, ne97, nl97, nk97, nt97, nu97, na97, nb97, ns97, ne98, nl98, nk98, nt98, nu98, na98, nb98, ns98, ne99, nl99, nk99, nt99, nu99, na99, nb99, ns99, ne100, nl100, nk100, nt100, nu100, na100, nb100, ns100, ne101, nl101, nk101, nt101, nu101, na101, nb101, ns101, ne102, nl102, nk102, nt102, nu102, na102, nb102, ns102, ne122, nl122, nk122, nt122, nu122, na122, nb122, ns122, ne250, nl250, nk250, nt250, nu250, na250, nb250, ns250, ne255, nl255, nk255, nt255, nu255, na255, nb255, ns255, ne1000, nl1000, nk1000, nt1000, nu1000, na1000, nb1000, ns1000, npred, opt_b, ite_true, ite_false, n10, n01, eq_self]
  rw [c_put (by rw [l2]; omega), bind_s, ← PAm_0]
  show f_X0_putAsks_l21 FU (PAm σ h l p v 0) h (nI p) (nI v) (bitI l) (nI 0) = _
  refine lp_0 (P := fun n m => f_X0_putAsks_l21 n (PAm σ h l p v m) h (nI p) (nI v) (bitI l) (nI m) = some (PAm σ h l p v 5)) 5 (by omega) (fun n => ?_) (fun n m hm ih => ?_)
  · show f_X0_putAsks_b21 (f_X0_putAsks_l21 n) _ _ _ _ _ _ = _; unfold f_X0_putAsks_b21
    simp (disch := omega) only [nle, nlt, neq, neqm, nmeq, nlem, nI_add, pk_mul, nI_1, ne0, nl0, nk0, nt0, nu0, ne1, nl1, nk1, nt1, nu1, ne2, nl2, nk2, nt2, nu2, na2, nb2, ns2, ne3, nl3, nk3, nt3, nu3, na3, nb3, ns3, ne4, nl4, nk4, nt4, nu4, na4, nb4, ns4, ne5, nl5, nk5, nt5, nu5, na5, nb5, nm5, nn5, ns5, ne6, nl6, nk6, nt6, nu6, na6, nb6, ns6, ne7, nl7, nk7, nt7, nu7, na7, nb7, ns7, ne8, nl8, nk8, nt8, nu8, na8, nb8, ns8, ne9, nl9, nk9, nt9, nu9, na9, nb9, ns9, ne10, nl10, nk10, nt10, nu10, na10, nb10, nm10, nn10, ns10, ne16, nl16, nk16, nt16, nu16, na16, nb16, ns16, ne18, nl18, nk18, nt18, nu18, na18, nb18, ns18, ne20, nl20, nk20, nt20, nu20, na20, nb20, ns20, ne30, nl30, nk30, nt30, nu30, na30, nb30, ns30, ne32, nl32, nk32, nt32, nu32, na32, nb32, ns32, ne40, nl40, nk40, nt40, nu40, na40, nb40, nm40, nn40, ns40, ne48, nl48, nk48, nt48, nu48, na48, nb48, ns48, ne56, nl56, nk56, nt56, nu56, na56, nb56, ns56, ne57, nl57, nk57, nt57, nu57, na57, nb57, ns57, ne59, nl59, nk59, nt59, nu59, na59, nb59, ns59, ne96, nl96, nk96, nt96, nu96, na96, nb96, ns96, ne97, nl97, nk97, nt97, nu97, na97, nb97, ns97, ne98, nl98, nk98, nt98, nu98, na98, nb98, ns98, ne99, nl99, nk99, nt99, nu99, na99, nb99, ns99, ne100, nl100, nk100, nt100, nu100, na100, nb100, ns100, ne101, nl101, nk101, nt101, nu101, na101, nb101, ns101, ne102, nl102, nk102, nt102, nu102, na102, nb102, ns102, ne122, nl122, nk122, nt122, nu122, na122, nb122, ns122, ne250, nl250, nk250, nt250, nu250, na250, nb250, ns250, ne255, nl255, nk255, nt255, nu255, na255, nb255, ns255, ne1000, nl1000, nk1000, nt1000, nu1000, na1000, nb1000, ns1000, npred, opt_b, ite_true, ite_false, n10, n01, eq_self, Nat.le_refl]
  · show f_X0_putAsks_b21 (f_X0_putAsks_l21 n) _ _ _ _ _ _ = _; unfold f_X0_putAsks_b21
    have rd : f_X0_locksWithin (PAm σ h l p v m) h (nI p) (nI m) = some (σ.1 (h + 3) (p * 5 + m)) := by
      unfold f_X0_locksWithin
      simp (disch := omega) only [nle, nlt, neq, neqm, nmeq, nlem, nI_add, pk_mul, nI_1, ne0, nl0, nk0, nt0, nu0, ne1, nl1, nk1, nt1, nu1, ne2, nl2, nk2, nt2, nu2, na2, nb2, ns2, ne3, nl3, nk3, nt3, nu3, na3, nb3, ns3, ne4, nl4, nk4, nt4, nu4, na4, nb4, ns4, ne5, nl5, nk5, nt5, nu5, na5, nb5, nm5, nn5, ns5, ne6, nl6, nk6, nt6, nu6, na6, nb6, ns6, ne7, nl7, nk7, nt7, nu7, na7, nb7, ns7, ne8, nl8, nk8, nt8, nu8, na8, nb8, ns8, ne9, nl9, nk9, nt9, nu9, na9, nb9, ns9, ne10, nl10, nk10, nt10, nu10, na10, nb10, nm10, nn10, ns10, ne16, nl16, nk16, nt16, nu16, na16, nb16, ns16, ne18, nl18, nk18, nt18, nu18, na18, nb18, ns18, ne20, nl20, nk20, nt20, nu20, na20, nb20, ns20, ne30, nl30, nk30, nt30, nu30, na30, nb30, ns30, ne32, nl32, nk32, nt32, nu32, na32, nb32, ns32, ne40, nl40, nk40, nt40, nu40, na40, nb40, nm40, nn40, ns40, ne48, nl48, nk48, nt48, nu48, na48, nb48, ns48, ne56, nl56, nk56, nt56, nu56, na56, nb56, ns56, ne57, nl57, nk57, nt57, nu57, na57, nb57, ns57, ne59, nl59, nk59, nt59, nu59, na59, nb59, ns59, ne96, nl96, nk96, nt96, nu96, na96, nb96, ns96, ne97, nl97, nk97, nt97, nu97, na97, nb97, ns97, ne98, nl98, nk98, nt98, nu98, na98, nb98, ns98, ne99, nl99, nk99, nt99, nu99, na99, nb99, ns99, ne100, nl100, nk100, nt100, nu100, na100, nb100, ns100, ne101, nl101, nk101, nt101, nu101, na101, nb101, ns101, ne102, nl102, nk102, nt102, nu102, na102, nb102, ns102, ne122, nl122, nk122, nt122, nu122, na122, nb122, ns122, ne250, nl250, nk250, nt250, nu250, na250, nb250, ns250, ne255, nl255, nk255, nt255, nu255, na255, nb255, ns255, ne1000, nl1000, nk1000, nt1000, nu1000, na1000, nb1000, ns1000, npred, opt_b, ite_true, ite_false, n10, n01, eq_self]
      rw [c_at (by rw [l3]; omega)]
      unfold PAm
      rw [setA_s]
      unfold PW
      rw [if_neg (by omega)]
      rfl
    unfold f_X0_putAsks_b67
    simp (disch := omega) only [nle, nlt, neq, neqm, nmeq, nlem, nI_add, pk_mul, nI_1, ne0, nl0, nk0, nt0, nu0, ne1, nl1, nk1, nt1, nu1, ne2, nl2, nk2, nt2, nu2, na2, nb2, ns2, ne3, nl3, nk3, nt3, nu3, na3, nb3, ns3, ne4, nl4, nk4, nt4, nu4, na4, nb4, ns4, ne5, nl5, nk5, nt5, nu5, na5, nb5, nm5, nn5, ns5, ne6, nl6, nk6, nt6, nu6, na6, nb6, ns6, ne7, nl7, nk7, nt7, nu7, na7, nb7, ns7, ne8, nl8, nk8, nt8, nu8, na8, nb8, ns8, ne9, nl9, nk9, nt9, nu9, na9, nb9, ns9, ne10, nl10, nk10, nt10, nu10, na10, nb10, nm10, nn10, ns10, ne16, nl16, nk16, nt16, nu16, na16, nb16, ns16, ne18, nl18, nk18, nt18, nu18, na18, nb18, ns18, ne20, nl20, nk20, nt20, nu20, na20, nb20, ns20, ne30, nl30, nk30, nt30, nu30, na30, nb30, ns30, ne32, nl32, nk32, nt32, nu32, na32, nb32, ns32, ne40, nl40, nk40, nt40, nu40, na40, nb40, nm40, nn40, ns40, ne48, nl48, nk48, nt48, nu48, na48, nb48, ns48, ne56, nl56, nk56, nt56, nu56, na56, nb56, ns56, ne57, nl57, nk57, nt57, nu57, na57, nb57, ns57, ne59, nl59, nk59, nt59, nu59, na59, nb59, ns59, ne96, nl96, nk96, nt96, nu96, na96, nb96, ns96, ne97, nl97, nk97, nt97, nu97, na97, nb97, ns97, ne98, nl98, nk98, nt98, nu98, na98, nb98, ns98, ne99, nl99, nk99, nt99, nu99, na99, nb99, ns99, ne100, nl100, nk100, nt100, nu100, na100, nb100, ns100, ne101, nl101, nk101, nt101, nu101, na101, nb101, ns101, ne102, nl102, nk102, nt102, nu102, na102, nb102, ns102, ne122, nl122, nk122, nt122, nu122, na122, nb122, ns122, ne250, nl250, nk250, nt250, nu250, na250, nb250, ns250, ne255, nl255, nk255, nt255, nu255, na255, nb255, ns255, ne1000, nl1000, nk1000, nt1000, nu1000, na1000, nb1000, ns1000, npred, opt_b, ite_true, ite_false, n10, n01, eq_self, show ¬ 5 ≤ m by omega, rd]
    rw [← PAm_s] at ih
    unfold pab at ih
    by_cases q : m < v
    · rw [if_pos q, c_put (by rw [l3]; omega), bind_s]
      rw [if_neg (by simp; omega)] at ih
      exact ih
    · rw [if_neg q, c_put (by rw [l3]; omega), bind_s]
      rw [if_pos (by simp; omega)] at ih
      exact ih
theorem PAm_n {σ : St} {h l p v m a j : Nat} (h2 : ¬ (a = h + 2 ∧ j = l * 5 + p)) (h3 : ¬ (a = h + 3 ∧ p * 5 ≤ j ∧ j < p * 5 + m)) : (PAm σ h l p v m).1 a j = σ.1 a j := by
  unfold PAm
  by_cases e : a = h + 3
  · subst e
    rw [setA_s]
    unfold PW
    rw [if_neg (fun z => h3 ⟨rfl, z⟩)]
  · rw [setA_n e, setI_n h2]
theorem PAm_a {σ : St} {h l p v m : Nat} : (PAm σ h l p v m).1 (h + 2) (l * 5 + p) = nI v := by
  unfold PAm
  rw [setA_n (by omega), setI_s]
theorem PAm_w {σ : St} {h l p v m d : Nat} (hd : d < m) : (PAm σ h l p v m).1 (h + 3) (p * 5 + d) = pab (σ.1 (h + 3) (p * 5 + d)) l (decide (v ≤ d)) := by
  unfold PAm
  rw [setA_s]
  unfold PW
  rw [if_pos (by omega), Nat.add_sub_cancel_left]
def sAs (S : HS) (l p v : Nat) : HS := (pl S, dp S, tg S, nk S, nl S, co S, se S, ki S, ow S, my S, cu S, wa S, fun j i => if j = l ∧ i = p then v else as S j i)
theorem c_sAs {σ : St} {h : Nat} {S : HS} (H : HC σ h S) {l p v : Nat} (hl : l < nl S) (hn : nl S ≤ 8) (hp : p < 5) : HC (PAm σ h l p v 5) h (sAs S l p v) := by
  refine ⟨⟨?_, ?_, ?_, ?_, ?_, ?_, ?_, ?_⟩, fun k' hk' => ⟨?_, ?_, ?_, fun p' hp' => ?_⟩, fun l' hl' p' hp' => ?_, fun p' hp' d' hd' => ?_, ?_, ?_⟩
  · rw [PAm_n (by omega) (by omega)]; exact H.1.1
  · rw [PAm_n (by omega) (by omega)]; exact H.1.2.1
  · rw [PAm_n (by omega) (by omega)]; exact H.1.2.2.1
  · rw [PAm_n (by omega) (by omega)]; exact H.1.2.2.2.1
  · rw [PAm_n (by omega) (by omega)]; exact H.1.2.2.2.2.1
  · rw [PAm_n (by omega) (by omega)]; exact H.1.2.2.2.2.2.1
  · rw [PAm_n (by omega) (by omega)]; exact H.1.2.2.2.2.2.2.1
  · rw [PAm_n (by omega) (by omega)]; exact H.1.2.2.2.2.2.2.2
  · rw [PAm_n (by unfold kI; omega) (by unfold kI; omega)]; exact (H.2.1 k' hk').1
  · rw [PAm_n (by unfold kI; omega) (by unfold kI; omega)]; exact (H.2.1 k' hk').2.1
  · rw [PAm_n (by unfold kI; omega) (by unfold kI; omega)]; exact (H.2.1 k' hk').2.2.1
  · rw [PAm_n (by unfold kI; omega) (by unfold kI; omega)]; exact (H.2.1 k' hk').2.2.2 p' hp'
  · show _ = nI (if l' = l ∧ p' = p then v else as S l' p')
    by_cases e : l' = l ∧ p' = p
    · rw [if_pos e, e.1, e.2, PAm_a]
    · rw [if_neg e]
      by_cases e2 : l' * 5 + p' = l * 5 + p
      · exfalso
        exact e ⟨by omega, by omega⟩
      · rw [PAm_n (by omega) (by omega)]; exact H.2.2.1 l' hl' p' hp'
  · show _ = mk (fun i => decide ((if i = l ∧ p' = p then v else as S i p') ≤ d')) (nl S)
    by_cases e : p' = p
    · subst e
      rw [PAm_w hd', H.2.2.2.1 p' hp' d' hd', pab_mk hl (by omega)]
      exact mk_c (fun i _ => by by_cases q : i = l <;> simp [q])
    · rw [PAm_n (by omega) (by omega), H.2.2.2.1 p' hp' d' hd']
      exact mk_c (fun i _ => by simp [e])
  · rw [PAm_n (by omega) (by omega)]; exact H.2.2.2.2.1
  · rw [PAm_n (by omega) (by omega)]; exact H.2.2.2.2.2
theorem m_sAs {σ : St} {S : HS} (H : HM σ S) {l p v : Nat} (hp : p < 5) : HM (setI σ 102 (5 * l + p) (nI v)) (sAs S l p v) := by
  refine ⟨⟨?_, ?_, ?_, ?_, ?_, ?_, ?_⟩, fun k' hk' => ⟨?_, ?_, ?_⟩, fun k' hk' p' hp' => ?_, fun l' hl' => ?_, fun l' hl' p' hp' => ?_⟩
  · rw [setI_n (by omega)]; exact H.1.1
  · rw [setI_n (by omega)]; exact H.1.2.1
  · rw [setI_n (by omega)]; exact H.1.2.2.1
  · rw [setI_n (by omega)]; exact H.1.2.2.2.1
  · rw [setI_n (by omega)]; exact H.1.2.2.2.2.1
  · rw [setI_n (by omega)]; exact H.1.2.2.2.2.2.1
  · rw [setI_n (by omega)]; exact H.1.2.2.2.2.2.2
  · rw [setI_n (by omega)]; exact (H.2.1 k' hk').1
  · rw [setI_n (by omega)]; exact (H.2.1 k' hk').2.1
  · rw [setI_n (by omega)]; exact (H.2.1 k' hk').2.2
  · rw [setI_n (by omega)]; exact H.2.2.1 k' hk' p' hp'
  · rw [setI_n (by omega)]; exact H.2.2.2.1 l' hl'
  · show _ = nI (if l' = l ∧ p' = p then v else as S l' p')
    by_cases e : l' = l ∧ p' = p
    · rw [e.1, e.2, setI_s, if_pos ⟨rfl, rfl⟩]
    · rw [if_neg e, setI_n (by omega)]; exact H.2.2.2.2 l' hl' p' hp'
/-- a new lock -/
def sLk (S : HS) (w : Bool) : HS := (pl S, dp S, tg S, nk S, nl S + 1, co S, se S, ki S, ow S, my S, cu S, fun j => if j = nl S then w else wa S j, fun j i => if j = nl S then 0 else as S j i)
theorem inv_sLk {S : HS} (I : Inv S) (h : nl S < 8) (w : Bool) : Inv (sLk S w) := by
  refine ⟨⟨I.1.1, I.1.2.1, I.1.2.2.1, I.1.2.2.2.1, I.1.2.2.2.2.1, I.1.2.2.2.2.2.1, I.1.2.2.2.2.2.2.1, h⟩, I.2.1, I.2.2.1, fun l p => ?_, fun l hl => ?_⟩
  · show (if l = nl S then 0 else as S l p) ≤ dp S ∧ (pl S ≤ p → (if l = nl S then 0 else as S l p) = 0)
    by_cases e : l = nl S
    · rw [if_pos e]; exact ⟨Nat.zero_le _, fun _ => rfl⟩
    · rw [if_neg e]; exact I.2.2.2.1 l p
  · have hl' : nl S + 1 ≤ l := hl
    show (if l = nl S then w else wa S l) = false ∧ ∀ p, (if l = nl S then 0 else as S l p) = 0
    rw [if_neg (by omega)]
    refine ⟨(I.2.2.2.2 l (by omega)).1, fun p => ?_⟩
    rw [if_neg (by omega)]
    exact (I.2.2.2.2 l (by omega)).2 p
theorem c_addLock {σ : St} {h : Nat} {S : HS} (H : HC σ h S) (hh : isH h) (hn : nl S < 8) (w : Bool) : ∃ σ', f_X0_addLock σ h (if w then 1 else 0) = some (nI (nl S), σ') ∧ HC σ' h (sLk S w) ∧ Fr (fun a _ => a = h ∨ a = h + 2 ∨ a = h + 3) σ σ' := by
  have n6 := H.1.2.2.2.2.2.2.1
  have n7 := H.1.2.2.2.2.2.2.2
  have bod : ∀ σ2, Fr (fun a j => a = h ∧ (j = 6 ∨ j = 7)) σ σ2 → σ2.1 h 6 = nI (nl S + 1) → σ2.1 h 7 = mk (fun j => if j = nl S then w else wa S j) (nl S + 1) → ∃ σ', f_X0_addLock_l51 FU σ2 h (nI (nl S)) 0 = some (nI (nl S), σ') ∧ HC σ' h (sLk S w) ∧ Fr (fun a _ => a = h ∨ a = h + 2 ∨ a = h + 3) σ σ' := by
    intro σ2 f2 e6 e7
    have gen := lp_0 (P := fun n m => ∀ σ3, Fr (fun a _ => a = h + 2 ∨ a = h + 3) σ2 σ3 → (∀ l, l < 8 → l ≠ nl S → ∀ p, p < 5 → σ3.1 (h + 2) (l * 5 + p) = σ2.1 (h + 2) (l * 5 + p)) → (∀ p, p < m → σ3.1 (h + 2) (nl S * 5 + p) = nI 0 ∧ ∀ d, d < 5 → σ3.1 (h + 3) (p * 5 + d) = pab (σ2.1 (h + 3) (p * 5 + d)) (nl S) true) → (∀ p, m ≤ p → p < 5 → ∀ d, d < 5 → σ3.1 (h + 3) (p * 5 + d) = σ2.1 (h + 3) (p * 5 + d)) → ∃ σ', f_X0_addLock_l51 n σ3 h (nI (nl S)) (nI m) = some (nI (nl S), σ') ∧ HC σ' h (sLk S w) ∧ Fr (fun a _ => a = h ∨ a = h + 2 ∨ a = h + 3) σ σ') 5 (by omega) (fun n σ3 f3 g1 g2 g3 => ?_) (fun n m hm ih σ3 f3 g1 g2 g3 => ?_)
    · exact gen σ2 (Fr.r _) (fun l _ _ p _ => rfl) (fun p hp => absurd hp (Nat.not_lt_zero p)) (fun p _ _ d _ => rfl)
    · refine ⟨σ3, ?_, ?_, ?_⟩
      · show f_X0_addLock_b51 (f_X0_addLock_l51 n) _ _ _ _ = _; unfold f_X0_addLock_b51
        simp (disch := omega) only [nle, nlt, neq, neqm, nmeq, nlem, nI_add, pk_mul, nI_1, ne0, nl0, nk0, nt0, nu0, ne1, nl1, nk1, nt1, nu1, ne2, nl2, nk2, nt2, nu2, na2, nb2, ns2, ne3, nl3, nk3, nt3, nu3, na3, nb3, ns3, ne4, nl4, nk4, nt4, nu4, na4, nb4, ns4, ne5, nl5, nk5, nt5, nu5, na5, nb5, nm5, nn5, ns5, ne6, nl6, nk6, nt6, nu6, na6, nb6, ns6, ne7, nl7, nk7, nt7, nu7, na7, nb7, ns7, ne8, nl8, nk8, nt8, nu8, na8, nb8, ns8, ne9, nl9, nk9, nt9, nu9, na9, nb9, ns9, ne10, nl10, nk10, nt10, nu10, na10, nb10, nm10, nn10, ns10, ne16, nl16, nk16, nt16, nu16, na16, nb16, ns16, ne18, nl18, nk18, nt18, nu18, na18, nb18, ns18, ne20, nl20, nk20, nt20, nu20, na20, nb20, ns20, ne30, nl30, nk30, nt30, nu30, na30, nb30, ns30, ne32, nl32, nk32, nt32, nu32, na32, nb32, ns32, ne40, nl40, nk40, nt40, nu40, na40, nb40, nm40, nn40, ns40, ne48, nl48, nk48, nt48, nu48, na48, nb48, ns48, ne56, nl56, nk56, nt56, nu56, na56, nb56, ns56, ne57, nl57, nk57, nt57, nu57, na57, nb57, ns57, ne59, nl59, nk59, nt59, nu59, na59, nb59, ns59, ne96, nl96, nk96, nt96, nu96, na96, nb96, ns96, ne97, nl97, nk97, nt97, nu97, na97, nb97, ns97, ne98, nl98, nk98, nt98, nu98, na98, nb98, ns98, ne99, nl99, nk99, nt99, nu99, na99, nb99, ns99, ne100, nl100, nk100, nt100, nu100, na100, nb100, ns100, ne101, nl101, nk101, nt101, nu101, na101, nb101, ns101, ne102, nl102, nk102, nt102, nu102, na102, nb102, ns102, ne122, nl122, nk122, nt122, nu122, na122, nb122, ns122, ne250, nl250, nk250, nt250, nu250, na250, nb250, ns250, ne255, nl255, nk255, nt255, nu255, na255, nb255, ns255, ne1000, nl1000, nk1000, nt1000, nu1000, na1000, nb1000, ns1000, npred, opt_b, ite_true, ite_false, n10, n01, eq_self, Nat.le_refl]
      · have g : ∀ a j, a ≠ h + 2 → a ≠ h + 3 → ¬ (a = h ∧ (j = 6 ∨ j = 7)) → σ3.1 a j = σ.1 a j := fun a j u v x => by rw [f3.1 a j (by omega), f2.1 a j x]
        refine ⟨⟨?_, ?_, ?_, ?_, ?_, ?_, ?_, ?_⟩, fun k' hk' => ⟨?_, ?_, ?_, fun p' hp' => ?_⟩, fun l' hl' p' hp' => ?_, fun p' hp' d' hd' => ?_, ?_, ?_⟩
        · rw [g _ _ (by omega) (by omega) (by omega)]; exact H.1.1
        · rw [g _ _ (by omega) (by omega) (by omega)]; exact H.1.2.1
        · rw [g _ _ (by omega) (by omega) (by omega)]; exact H.1.2.2.1
        · rw [g _ _ (by omega) (by omega) (by omega)]; exact H.1.2.2.2.1
        · rw [g _ _ (by omega) (by omega) (by omega)]; exact H.1.2.2.2.2.1
        · rw [g _ _ (by omega) (by omega) (by omega)]; exact H.1.2.2.2.2.2.1
        · rw [f3.1 h 6 (by omega), e6]; rfl
        · rw [f3.1 h 7 (by omega), e7]; rfl
        · rw [g _ _ (by unfold kI; omega) (by unfold kI; omega) (by unfold kI; omega)]; exact (H.2.1 k' hk').1
        · rw [g _ _ (by unfold kI; omega) (by unfold kI; omega) (by unfold kI; omega)]; exact (H.2.1 k' hk').2.1
        · rw [g _ _ (by unfold kI; omega) (by unfold kI; omega) (by unfold kI; omega)]; exact (H.2.1 k' hk').2.2.1
        · rw [g _ _ (by unfold kI; omega) (by unfold kI; omega) (by unfold kI; omega)]; exact (H.2.1 k' hk').2.2.2 p' hp'
        · show _ = nI (if l' = nl S then 0 else as S l' p')
          by_cases e : l' = nl S
          · rw [if_pos e, e]; exact (g2 p' hp').1
          · rw [if_neg e, g1 l' hl' e p' hp', f2.1 _ _ (by omega)]; exact H.2.2.1 l' hl' p' hp'
        · show _ = mk (fun i => decide ((if i = nl S then 0 else as S i p') ≤ d')) (nl S + 1)
          rw [(g2 p' hp').2 d' hd', f2.1 _ _ (by omega), H.2.2.2.1 p' hp' d' hd', pab_new (by omega)]
          exact mk_c (fun i _ => by by_cases q : i = nl S <;> simp [q])
        · rw [g _ _ (by omega) (by omega) (by omega)]; exact H.2.2.2.2.1
        · rw [g _ _ (by omega) (by omega) (by omega)]; exact H.2.2.2.2.2
      · exact (f2.w fun a j z => Or.inl z.1).t (f3.w fun a j z => Or.inr z)
    · have pa : f_X0_putAsks σ3 h (nI (nl S)) (nI m) 0 = some (PAm σ3 h (nl S) m 0 5) := c_putAsks (v := 0) hh hn hm (by decide)
      have pf : Fr (fun a _ => a = h + 2 ∨ a = h + 3) σ3 (PAm σ3 h (nl S) m 0 5) := ⟨fun a j z => PAm_n (by omega) (by omega), rfl⟩
      obtain ⟨σ', u1, u2⟩ := ih (PAm σ3 h (nl S) m 0 5) (f3.t pf) (fun l hl hne p hp => by rw [PAm_n (by omega) (by omega), g1 l hl hne p hp]) (fun p hp => by
        by_cases e : p = m
        · subst e
          refine ⟨PAm_a, fun d hd => ?_⟩
          rw [PAm_w hd, g3 p (Nat.le_refl _) hm d hd]
          rfl
        · refine ⟨?_, fun d hd => ?_⟩
          · rw [PAm_n (by omega) (by omega)]; exact (g2 p (by omega)).1
          · rw [PAm_n (by omega) (by omega)]; exact (g2 p (by omega)).2 d hd) (fun p hp hp5 d hd => by rw [PAm_n (by omega) (by omega)]; exact g3 p (by omega) hp5 d hd)
      refine ⟨σ', ?_, u2⟩
      show f_X0_addLock_b51 (f_X0_addLock_l51 n) _ _ _ _ = _; unfold f_X0_addLock_b51
      simp (disch := omega) only [nle, nlt, neq, neqm, nmeq, nlem, nI_add, pk_mul, nI_1, ne0, nl0, nk0, nt0, nu0, ne1, nl1, nk1, nt1, nu1, ne2, nl2, nk2, nt2, nu2, na2, nb2, ns2, ne3, nl3, nk3, nt3, nu3, na3, nb3, ns3, ne4, nl4, nk4, nt4, nu4, na4, nb4, ns4, ne5, nl5, nk5, nt5, nu5, na5, nb5, nm5, nn5, ns5, ne6, nl6, nk6, nt6, nu6, na6, nb6, ns6, ne7, nl7, nk7, nt7, nu7, na7, nb7, ns7, ne8, nl8, nk8, nt8, nu8, na8, nb8, ns8, ne9, nl9, nk9, nt9, nu9, na9, nb9, ns9, ne10, nl10, nk10, nt10, nu10, na10, nb10, nm10, nn10, ns10, ne16, nl16, nk16, nt16, nu16, na16, nb16, ns16, ne18, nl18, nk18, nt18, nu18, na18, nb18, ns18, ne20, nl20, nk20, nt20, nu20, na20, nb20, ns20, ne30, nl30, nk30, nt30, nu30, na30, nb30, ns30, ne32, nl32, nk32, nt32, nu32, na32, nb32, ns32, ne40, nl40, nk40, nt40, nu40, na40, nb40, nm40, nn40, ns40, ne48, nl48, nk48, nt48, nu48, na48, nb48, ns48, ne56, nl56, nk56, nt56, nu56, na56, nb56, ns56, ne57, nl57, nk57, nt57, nu57, na57, nb57, ns57, ne59, nl59, nk59, nt59, nu59, na59, nb59, ns59, ne96, nl96, nk96, nt96, nu96, na96, nb96, ns96, ne97, nl97, nk97, nt97, nu97, na97, nb97, ns97, ne98, nl98, nk98, nt98, nu98, na98, nb98, ns98, ne99, nl99, nk99, nt99, nu99, na99, nb99, ns99, ne100, nl100, nk100, nt100, nu100, na100, nb100, ns100, ne101, nl101, nk101, nt101, nu101, na101, nb101, ns101, ne102, nl102, nk102, nt102, nu102, na102, nb102, ns102, ne122, nl122, nk122, nt122, nu122, na122, nb122, ns122, ne250, nl250, nk250, nt250, nu250, na250, nb250, ns250, ne255, nl255, nk255, nt255, nu255, na255, nb255, ns255, ne1000, nl1000, nk1000, nt1000, nu1000, na1000, nb1000, ns1000, npred, opt_b, ite_true, ite_false, n10, n01, eq_self, show ¬ 5 ≤ m by omega]
      exact bind_e pa u1
  have w8 : ∀ b : Bool, mk (fun j => if j = nl S then b else wa S j) (nl S + 1) = if b then mk (wa S) (nl S) ||| bitI (nl S) else mk (wa S) (nl S) := by
    intro b
    have e : mk (fun j => if j = nl S then b else wa S j) (nl S) = mk (wa S) (nl S) := mk_c (fun k hk => by rw [if_neg (by omega)])
    cases b
    · rw [mk_un _ (by simp), e]; rfl
    · rw [mk_up _ (by simp), e]; rfl
  unfold f_X0_addLock
  simp (disch := omega) only [nle, nlt, neq, neqm, nmeq, nlem, nI_add, pk_mul, nI_1, ne0, nl0, nk0, nt0, nu0, ne1, nl1, nk1, nt1, nu1, ne2, nl2, nk2, nt2, nu2, na2, nb2, ns2, ne3, nl3, nk3, nt3, nu3, na3, nb3, ns3, ne4, nl4, nk4, nt4, nu4, na4, nb4, ns4, ne5, nl5, nk5, nt5, nu5, na5, nb5, nm5, nn5, ns5, ne6, nl6, nk6, nt6, nu6, na6, nb6, ns6, ne7, nl7, nk7, nt7, nu7, na7, nb7, ns7, ne8, nl8, nk8, nt8, nu8, na8, nb8, ns8, ne9, nl9, nk9, nt9, nu9, na9, nb9, ns9, ne10, nl10, nk10, nt10, nu10, na10, nb10, nm10, nn10, ns10, ne16, nl16, nk16, nt16, nu16, na16, nb16, ns16, ne18, nl18, nk18, nt18, nu18, na18, nb18, ns18, ne20, nl20, nk20, nt20, nu20, na20, nb20, ns20, ne30, nl30, nk30, nt30, nu30, na30, nb30, ns30, ne32, nl32, nk32, nt32, nu32, na32, nb32, ns32, ne40, nl40, nk40, nt40, nu40, na40, nb40, nm40, nn40, ns40, ne48, nl48, nk48, nt48, nu48, na48, nb48, ns48, ne56, nl56, nk56, nt56, nu56, na56, nb56, ns56, ne57, nl57, nk57, nt57, nu57, na57, nb57, ns57, ne59, nl59, nk59, nt59, nu59, na59, nb59, ns59, ne96, nl96, nk96, nt96, nu96, na96, nb96, ns96, ne97, nl97, nk97, nt97, nu97, na97, nb97, ns97, ne98, nl98, nk98, nt98, nu98, na98, nb98, ns98, ne99, nl99, nk99, nt99, nu99, na99, nb99, ns99, ne100, nl100, nk100, nt100, nu100, na100, nb100, ns100, ne101, nl101, nk101, nt101, nu101, na101, nb101, ns101, ne102, nl102, nk102, nt102, nu102, na102, nb102, ns102, ne122, nl122, nk122, nt122, nu122, na122, nb122, ns122, ne250, nl250, nk250, nt250, nu250, na250, nb250, ns250, ne255, nl255, nk255, nt255, nu255, na255, nb255, ns255, ne1000, nl1000, nk1000, nt1000, nu1000, na1000, nb1000, ns1000, npred, opt_b, ite_true, ite_false, n10, n01, eq_self, n6, show nl S < 8 from hn, ifz]
  cases w
  · simp only [ptI_s, opt_b, Bool.false_eq_true, if_false]
    unfold f_X0_addLock_b46
    simp only [ptI_s, opt_b]
    obtain ⟨σ', u1, u2⟩ := bod (setI (setI σ h 6 (nI (nl S + 1))) h 7 ((setI σ h 6 (nI (nl S + 1))).1 h 7)) ((Fr.i ⟨rfl, Or.inl rfl⟩).t (Fr.i ⟨rfl, Or.inr rfl⟩)) (by rw [setI_k (by decide), setI_s]) (by rw [setI_s, setI_k (by decide), n7, w8]; rfl)
    exact ⟨σ', u1, u2⟩
  · simp only [ptI_s, opt_b, if_true]
    unfold f_X0_addLock_b46
    simp only [ptI_s, opt_b]
    obtain ⟨σ', u1, u2⟩ := bod (setI (setI σ h 6 (nI (nl S + 1))) h 7 ((setI σ h 6 (nI (nl S + 1))).1 h 7 ||| bitI (nl S))) ((Fr.i ⟨rfl, Or.inl rfl⟩).t (Fr.i ⟨rfl, Or.inr rfl⟩)) (by rw [setI_k (by decide), setI_s]) (by rw [setI_s, setI_k (by decide), n7, w8]; rfl)
    exact ⟨σ', u1, u2⟩
