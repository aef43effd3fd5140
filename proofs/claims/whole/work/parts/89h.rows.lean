/-! what a shelf holds: no row's number of refusal, or a row -/
section ROWS
variable {σ : St} {S : HS}
/-- 1 OTHER, 2 NOTHING, as refusals are numbered -/
def NoR (n : Nat) (v : Int32) : Nat → Prop
  | 1 => ∃ k, k < n ∧ v = nI (10 + k)
  | 2 => v = -1
  | _ => False
theorem hOk_c {n : Nat} {v : Int32} (h : hOk n v) : (∃ t, t < 5 ∧ v = nI t) ∨ ∃ i, i < 5 ∧ i ≠ 0 ∧ NoR n v i := by
  rcases h with h | h | h
  · exact Or.inr ⟨2, by decide, by decide, h⟩
  · exact Or.inl h
  · exact Or.inr ⟨1, by decide, by decide, h⟩
theorem NoR_v {n : Nat} {v : Int32} {i : Nat} (hn : n ≤ 6) (h : NoR n v i) : (v = -1 ∧ i = 2) ∨ ∃ k, k < 6 ∧ v = nI (10 + k) ∧ i = 1 := by
  match i, h with
  | 1, ⟨k, hk, e⟩ => exact Or.inr ⟨k, by omega, e, rfl⟩
  | 2, h => exact Or.inl ⟨h, rfl⟩
theorem rw_n1 : ∀ k, k < 6 → f_X5_isWithin (nI (10 + k)) 0 4 = some 0 ∧ ¬ nI (10 + k) < 10 ∧ ¬ nI (10 + k) ≤ 4 := by
  intro k hk
  refine ⟨wo_0_4 (fun ⟨t, _, ht, e⟩ => ?_), ?_, ?_⟩
  · have := nI_inj (by omega) (by omega) e; omega
  · rw [show (10 : Int32) = nI 10 from rfl]
    exact fun z => by have := (nI_ltI (by omega) (by omega)).mp z; omega
  · rw [show (4 : Int32) = nI 4 from rfl]
    exact nI_ge (by omega) (by omega)
theorem c_row_n {a : Nat} {n i : Nat} (hn : n ≤ 6) (h : NoR n (σ.1 a 0) i) : f_X2_isRow σ a = some 0 ∧ f_X2_whyNoRow σ a = some (rfn i) := by
  unfold f_X2_isRow f_X2_whyNoRow f_X2_isKey
  rcases NoR_v hn h with ⟨e, rfl⟩ | ⟨k, hk, e, rfl⟩
  · rw [e]
    exact ⟨by decide, by decide⟩
  · rw [e, (rw_n1 k hk).1, if_neg (rw_n1 k hk).2.1]
    exact ⟨rfl, rfl⟩
theorem c_row_i {a t : Nat} (ht : t < 5) (h : σ.1 a 0 = nI t) : f_X2_isRow σ a = some 1 ∧ f_X2_isKey σ a = some 0 := by
  unfold f_X2_isRow f_X2_isKey
  rw [h, wi_0_4 (Nat.zero_le _) ht, if_pos (show nI t < 10 from (nI_ltI (a := t) (b := 10) (by omega) (by decide)).mpr (by omega))]
  exact ⟨rfl, rfl⟩
theorem m_row_n {s n i : Nat} (hs : s < 8) (hn : n ≤ 6) (h : NoR n (σ.1 94 s) i) : f_X6_noRow σ 93 (nI s) = some (rfn i) ∧ f_X6_isRow σ 93 (nI s) = some 0 := by
  have hld : ldI σ 94 (nI s) = some (σ.1 94 s) := ldI_n (by rw [ln94]; exact hs)
  unfold f_X6_noRow f_X6_isRow
  rw [w_6, wi_0_7 (Nat.zero_le _) hs, bind_s, if_neg (by decide), hld, bind_s, bind_s, bind_s, w_6]
  rcases NoR_v hn h with ⟨e, rfl⟩ | ⟨k, hk, e, rfl⟩
  · rw [e]
    exact ⟨by decide, by decide⟩
  · rw [e, (rw_n1 k hk).1, if_neg (rw_n1 k hk).2.2]
    exact ⟨rfl, rfl⟩
theorem m_row_i {s t : Nat} (hs : s < 8) (ht : t < 5) (h : σ.1 94 s = nI t) : f_X6_noRow σ 93 (nI s) = some 0 ∧ f_X6_isRow σ 93 (nI s) = some 1 := by
  have hld : ldI σ 94 (nI s) = some (σ.1 94 s) := ldI_n (by rw [ln94]; exact hs)
  unfold f_X6_noRow f_X6_isRow
  rw [w_6, wi_0_7 (Nat.zero_le _) hs, bind_s, if_neg (by decide), hld, bind_s, bind_s, bind_s, w_6, h, wi_0_4 (Nat.zero_le _) ht, if_pos (show nI t ≤ 4 from nI_le (a := t) (b := 4) (by omega) (by decide)), if_pos (show (0 : Int32) ≤ nI t from nI_le (a := 0) (b := t) (Nat.zero_le t) (by omega))]
  exact ⟨rfl, rfl⟩
theorem m_noRow_o {x : Int32} (h : ¬ inR x 0 8) : f_X6_noRow σ 93 x = some (-2) := by
  unfold f_X6_noRow
  rw [w_6, wo_0_7 h, bind_s, if_pos rfl]
theorem rfn_neg : ∀ i, i < 5 → ¬ (0 : Int32) ≤ rfn i := by decide +kernel
theorem rfn_ne : ∀ i, i < 5 → ¬ rfn i = 0 := by decide +kernel
def nar (t : Nat) (v : Int64) : Int64 :=
  if t = 0 then Int32.toInt64 ((Int32.toInt8 (Int64.toInt32 v)).toInt32) else if t = 1 then Int32.toInt64 ((Int32.toInt16 (Int64.toInt32 v)).toInt32) else if t = 2 then Int32.toInt64 (Int64.toInt32 v) else if t = 3 then v else if lg_cmp v 0 = 0 then 0 else 1
theorem c_nar {a t : Nat} (ht : t < 5) (h : σ.1 a 0 = nI t) (v : Int64) : f_X2_narrowed σ a v = some (nar t v) := by
  unfold f_X2_narrowed nar
  rw [h]
  rcases (show t = 0 ∨ t = 1 ∨ t = 2 ∨ t = 3 ∨ t = 4 by omega) with rfl | rfl | rfl | rfl | rfl
  · rfl
  · rfl
  · rfl
  · rfl
  · show (if lg_cmp v 0 = 0 then some 0 else some 1) = some (if lg_cmp v 0 = 0 then 0 else 1)
    split <;> rfl
theorem c_has {a t z i : Nat} (ht : t < 5) (la : ln (a + 1) = 40) (h : σ.1 a 0 = nI t) (h1 : σ.1 a 1 = nI z) (hz : z ≤ 40) (hi : i < z) : f_X2_hasElement σ a (nI i) = some 1 := by
  unfold f_X2_hasElement
  rw [(c_row_i ht h).1, bind_s, if_neg (by decide), if_neg (nI_pos (by omega)), h1, if_neg (nI_ge hi (by omega)), la, if_neg (nI_ge (show i < 40 by omega) (by omega))]
theorem c_hasn {a t z : Nat} {x : Int32} (ht : t < 5) (h : σ.1 a 0 = nI t) (h1 : σ.1 a 1 = nI z) (hz : z ≤ 40) (hx : ¬ inR x 0 z) : f_X2_hasElement σ a x = some 0 := by
  unfold f_X2_hasElement
  rw [(c_row_i ht h).1, bind_s, if_neg (by decide)]
  by_cases q : x < 0
  · rw [if_pos q]
  · rw [if_neg q, h1]
    by_cases q2 : nI z ≤ x
    · rw [if_pos q2]
    · exfalso
      have e1 : ¬ x.toInt < (0 : Int32).toInt := fun z => q (Int32.lt_iff_toInt_lt.mpr z)
      have e2 : ¬ (nI z).toInt ≤ x.toInt := fun z => q2 (Int32.le_iff_toInt_le.mpr z)
      have z0 : (0 : Int32).toInt = 0 := rfl
      rw [nI_toInt (by omega)] at e2
      refine hx ⟨x.toInt.toNat, Nat.zero_le _, by omega, ?_⟩
      apply Int32.toInt_inj.mp
      rw [nI_toInt (by omega)]
      omega
theorem c_el {a t z i : Nat} (ht : t < 5) (la : ln (a + 1) = 40) (h : σ.1 a 0 = nI t) (h1 : σ.1 a 1 = nI z) (hz : z ≤ 40) (hi : i < z) : f_X2_elementAt σ a (nI i) = some (σ.2 (a + 1) i) := by
  unfold f_X2_elementAt
  rw [c_has ht la h h1 hz hi, bind_s, if_neg (by decide), ldJ_n (by rw [la]; omega)]
  rfl
theorem sh_a (s : Nat) : 21 + 2 * s + 1 = 22 + 2 * s := by omega
theorem m_set1 {s t i : Nat} {v : Int64} (hs : s < 8) (hi : i < 40) (w : Int64) (ht : t < 5) (h : σ.1 94 s = nI t) : f_X6_set_b114 σ 93 (nI s) (nI i) w = some (1, setJ σ 96 (40 * s + i) w) := by
  unfold f_X6_set_b114
  simp (disch := omega) only [nle, nlt, neq, neqm, nmeq, nlem, nI_add, pk_mul, nI_1, ne0, nl0, nk0, nt0, nu0, ne1, nl1, nk1, nt1, nu1, ne2, nl2, nk2, nt2, nu2, na2, nb2, ns2, ne3, nl3, nk3, nt3, nu3, na3, nb3, ns3, ne4, nl4, nk4, nt4, nu4, na4, nb4, ns4, ne5, nl5, nk5, nt5, nu5, na5, nb5, nm5, nn5, ns5, ne6, nl6, nk6, nt6, nu6, na6, nb6, ns6, ne7, nl7, nk7, nt7, nu7, na7, nb7, ns7, ne8, nl8, nk8, nt8, nu8, na8, nb8, ns8, ne9, nl9, nk9, nt9, nu9, na9, nb9, ns9, ne10, nl10, nk10, nt10, nu10, na10, nb10, nm10, nn10, ns10, ne16, nl16, nk16, nt16, nu16, na16, nb16, ns16, ne18, nl18, nk18, nt18, nu18, na18, nb18, ns18, ne20, nl20, nk20, nt20, nu20, na20, nb20, ns20, ne30, nl30, nk30, nt30, nu30, na30, nb30, ns30, ne32, nl32, nk32, nt32, nu32, na32, nb32, ns32, ne40, nl40, nk40, nt40, nu40, na40, nb40, nm40, nn40, ns40, ne48, nl48, nk48, nt48, nu48, na48, nb48, ns48, ne56, nl56, nk56, nt56, nu56, na56, nb56, ns56, ne57, nl57, nk57, nt57, nu57, na57, nb57, ns57, ne59, nl59, nk59, nt59, nu59, na59, nb59, ns59, ne96, nl96, nk96, nt96, nu96, na96, nb96, ns96, ne97, nl97, nk97, nt97, nu97, na97, nb97, ns97, ne98, nl98, nk98, nt98, nu98, na98, nb98, ns98, ne99, nl99, nk99, nt99, nu99, na99, nb99, ns99, ne100, nl100, nk100, nt100, nu100, na100, nb100, ns100, ne101, nl101, nk101, nt101, nu101, na101, nb101, ns101, ne102, nl102, nk102, nt102, nu102, na102, nb102, ns102, ne122, nl122, nk122, nt122, nu122, na122, nb122, ns122, ne250, nl250, nk250, nt250, nu250, na250, nb250, ns250, ne255, nl255, nk255, nt255, nu255, na255, nb255, ns255, ne1000, nl1000, nk1000, nt1000, nu1000, na1000, nb1000, ns1000, npred, opt_b, ite_true, ite_false, n10, n01, eq_self]
  exact bind_e (stJ_n (by rw [ln96]; omega)) rfl
theorem m_setv {s t i : Nat} {v : Int64} (hs : s < 8) (hi : i < 40) (ht : t < 5) (h : σ.1 94 s = nI t) : ((ldI σ 94 (nI s)).bind fun v_50 => (if v_50 = 0 then ((some (Int32.toInt64 ((Int32.toInt8 (Int64.toInt32 v)).toInt32)) : Option Int64).bind fun y_58 => (f_X6_set_b60 σ 93 (nI s) (nI i) v y_58)) else (f_X6_set_b60 σ 93 (nI s) (nI i) v v))) = some (1, setJ σ 96 (40 * s + i) (nar t v)) := by
  have hld : ldI σ 94 (nI s) = some (nI t) := by rw [ldI_n (by rw [ln94]; exact hs), h]
  have fin : ∀ w, f_X6_set_b114 σ 93 (nI s) (nI i) w = some (1, setJ σ 96 (40 * s + i) w) := fun w => m_set1 (v := v) hs hi w ht h
  have b91 : ∀ w, t ≠ 4 → f_X6_set_b91 σ 93 (nI s) (nI i) v w = some (1, setJ σ 96 (40 * s + i) w) := fun w ht4 => by
    unfold f_X6_set_b91
    rw [hld, bind_s, if_neg (fun z => ht4 (nI_inj (by omega) (by decide) (z.trans l_4))), fin]
  have b76 : ∀ w, t ≠ 2 → f_X6_set_b76 σ 93 (nI s) (nI i) v w = f_X6_set_b91 σ 93 (nI s) (nI i) v w := fun w ht4 => by
    unfold f_X6_set_b76
    rw [hld, bind_s, if_neg (fun z => ht4 (nI_inj (by omega) (by decide) (z.trans l_2)))]
  have b60 : ∀ w, t ≠ 1 → f_X6_set_b60 σ 93 (nI s) (nI i) v w = f_X6_set_b76 σ 93 (nI s) (nI i) v w := fun w ht4 => by
    unfold f_X6_set_b60
    rw [hld, bind_s, if_neg (fun z => ht4 (nI_inj (by omega) (by decide) (z.trans l_1)))]
  rw [hld, bind_s]
  unfold nar
  by_cases t0 : t = 0
  · rw [if_pos (by rw [t0]; rfl), bind_s, b60 _ (by omega), b76 _ (by omega), b91 _ (by omega), if_pos t0]
  · rw [if_neg (fun z => t0 (nI_inj (by omega) (by decide) (z.trans l_0))), if_neg t0]
    by_cases t1 : t = 1
    · rw [if_pos t1]
      unfold f_X6_set_b60
      rw [hld, bind_s, if_pos (by rw [t1]; rfl), bind_s, b76 _ (by omega), b91 _ (by omega)]
    · rw [b60 _ t1, if_neg t1]
      by_cases t2 : t = 2
      · rw [if_pos t2]
        unfold f_X6_set_b76
        rw [hld, bind_s, if_pos (by rw [t2]; rfl), bind_s, b91 _ (by omega)]
      · rw [b76 _ t2, if_neg t2]
        by_cases t3 : t = 3
        · rw [if_pos t3, b91 _ (by omega)]
        · rw [if_neg t3]
          unfold f_X6_set_b91 f_X6_set_b112
          rw [hld, bind_s, if_pos (by rw [show t = 4 by omega]; rfl), fin, fin]
          split <;> rfl
theorem op_set (H : Sm σ S) (x y : Int32) (v : Int64) : Agr (fun s => f_X5_set s 0 x y v) (fun s => f_X6_set s 93 x y v) σ := by
  obtain ⟨hc, hm, I, R⟩ := id H
  have n6 := I.1.2.2.2.2.2.2.1
  by_cases q : inR x 0 8
  · obtain ⟨s, s0, hs, rfl⟩ := q
    obtain ⟨s1, s2, s3, ⟨z, z40, s4⟩, s5⟩ := R.2.1 s hs
    rcases hOk_c s3 with ⟨t, ht, et⟩ | ⟨i, hi, i0, hb⟩
    · have ec : σ.1 (21 + 2 * s) 0 = nI t := s1.trans et
      have ec1 : σ.1 (21 + 2 * s) 1 = nI z := s2.trans s4
      by_cases q1 : inR y 0 z
      · obtain ⟨i, i0, hi, rfl⟩ := q1
        have la : ln (21 + 2 * s + 1) = 40 := by rw [sh_a]; exact ln_s s hs
        have eM : ∀ a j, (setJ σ (22 + 2 * s) i (nar t v)).1 a j = σ.1 a j := fun a j => by rw [setJ_1]
        refine Agr.sh (r := 1) (σ1 := setJ σ (22 + 2 * s) i (nar t v)) (σ2 := setJ (setJ σ (22 + 2 * s) i (nar t v)) 96 (40 * s + i) (nar t v)) H hs ?_ (fun a j e => rfl) (fun a j e => setJ_n (by omega)) ?_ (fun a j e => rfl) (fun a j e => setJ_n (by omega)) ⟨s1, s2, s3, ⟨z, z40, s4⟩, fun j hj => ?_⟩
        · show f_X5_set σ 0 (nI s) (nI i) v = _
          have wi : f_X5_isWithin (nI i) 0 (nI (z - 1)) = some 1 := by rw [← npred (by omega)]; exact w_i0 hi (by omega)
          unfold f_X5_set
          simp (disch := omega) only [nle, nlt, neq, neqm, nmeq, nlem, nI_add, pk_mul, nI_1, ne0, nl0, nk0, nt0, nu0, ne1, nl1, nk1, nt1, nu1, ne2, nl2, nk2, nt2, nu2, na2, nb2, ns2, ne3, nl3, nk3, nt3, nu3, na3, nb3, ns3, ne4, nl4, nk4, nt4, nu4, na4, nb4, ns4, ne5, nl5, nk5, nt5, nu5, na5, nb5, nm5, nn5, ns5, ne6, nl6, nk6, nt6, nu6, na6, nb6, ns6, ne7, nl7, nk7, nt7, nu7, na7, nb7, ns7, ne8, nl8, nk8, nt8, nu8, na8, nb8, ns8, ne9, nl9, nk9, nt9, nu9, na9, nb9, ns9, ne10, nl10, nk10, nt10, nu10, na10, nb10, nm10, nn10, ns10, ne16, nl16, nk16, nt16, nu16, na16, nb16, ns16, ne18, nl18, nk18, nt18, nu18, na18, nb18, ns18, ne20, nl20, nk20, nt20, nu20, na20, nb20, ns20, ne30, nl30, nk30, nt30, nu30, na30, nb30, ns30, ne32, nl32, nk32, nt32, nu32, na32, nb32, ns32, ne40, nl40, nk40, nt40, nu40, na40, nb40, nm40, nn40, ns40, ne48, nl48, nk48, nt48, nu48, na48, nb48, ns48, ne56, nl56, nk56, nt56, nu56, na56, nb56, ns56, ne57, nl57, nk57, nt57, nu57, na57, nb57, ns57, ne59, nl59, nk59, nt59, nu59, na59, nb59, ns59, ne96, nl96, nk96, nt96, nu96, na96, nb96, ns96, ne97, nl97, nk97, nt97, nu97, na97, nb97, ns97, ne98, nl98, nk98, nt98, nu98, na98, nb98, ns98, ne99, nl99, nk99, nt99, nu99, na99, nb99, ns99, ne100, nl100, nk100, nt100, nu100, na100, nb100, ns100, ne101, nl101, nk101, nt101, nu101, na101, nb101, ns101, ne102, nl102, nk102, nt102, nu102, na102, nb102, ns102, ne122, nl122, nk122, nt122, nu122, na122, nb122, ns122, ne250, nl250, nk250, nt250, nu250, na250, nb250, ns250, ne255, nl255, nk255, nt255, nu255, na255, nb255, ns255, ne1000, nl1000, nk1000, nt1000, nu1000, na1000, nb1000, ns1000, npred, opt_b, ite_true, ite_false, n10, n01, eq_self, c_isShelf_i hs, c_shelf hs, (c_row_i ht ec).1, ec1, wi]
          unfold f_X2_putElement
          rw [c_has ht la ec ec1 z40 hi, bind_s, if_neg (by decide), c_nar ht ec, bind_s, sh_a]
          refine bind_e (bind_e (stJ_n (by rw [ln_s s hs]; omega)) rfl) rfl
        · show f_X6_set (setJ σ (22 + 2 * s) i (nar t v)) 93 (nI s) (nI i) v = _
          unfold f_X6_set
          rw [(m_row_i (σ := setJ σ (22 + 2 * s) i (nar t v)) hs ht et).1, bind_s, if_pos (by decide), ldI_n (by rw [ln95]; exact hs), bind_s, eM, s4, w_6, w_i0 hi (by omega), bind_s, if_neg (by decide)]
          exact m_setv (σ := setJ σ (22 + 2 * s) i (nar t v)) hs (by omega) ht et
        · by_cases e : j = i
          · subst e
            rw [setJ_n (by omega), setJ_s, setJ_s]
          · rw [setJ_n (by omega), setJ_n (by omega), setJ_n (by omega), setJ_n (by omega)]; exact s5 j hj
      · refine Agr.ref H 0 (by decide) ?_ (fun hm' hf => ?_)
        · unfold f_X5_set
          simp (disch := omega) only [nle, nlt, neq, neqm, nmeq, nlem, nI_add, pk_mul, nI_1, ne0, nl0, nk0, nt0, nu0, ne1, nl1, nk1, nt1, nu1, ne2, nl2, nk2, nt2, nu2, na2, nb2, ns2, ne3, nl3, nk3, nt3, nu3, na3, nb3, ns3, ne4, nl4, nk4, nt4, nu4, na4, nb4, ns4, ne5, nl5, nk5, nt5, nu5, na5, nb5, nm5, nn5, ns5, ne6, nl6, nk6, nt6, nu6, na6, nb6, ns6, ne7, nl7, nk7, nt7, nu7, na7, nb7, ns7, ne8, nl8, nk8, nt8, nu8, na8, nb8, ns8, ne9, nl9, nk9, nt9, nu9, na9, nb9, ns9, ne10, nl10, nk10, nt10, nu10, na10, nb10, nm10, nn10, ns10, ne16, nl16, nk16, nt16, nu16, na16, nb16, ns16, ne18, nl18, nk18, nt18, nu18, na18, nb18, ns18, ne20, nl20, nk20, nt20, nu20, na20, nb20, ns20, ne30, nl30, nk30, nt30, nu30, na30, nb30, ns30, ne32, nl32, nk32, nt32, nu32, na32, nb32, ns32, ne40, nl40, nk40, nt40, nu40, na40, nb40, nm40, nn40, ns40, ne48, nl48, nk48, nt48, nu48, na48, nb48, ns48, ne56, nl56, nk56, nt56, nu56, na56, nb56, ns56, ne57, nl57, nk57, nt57, nu57, na57, nb57, ns57, ne59, nl59, nk59, nt59, nu59, na59, nb59, ns59, ne96, nl96, nk96, nt96, nu96, na96, nb96, ns96, ne97, nl97, nk97, nt97, nu97, na97, nb97, ns97, ne98, nl98, nk98, nt98, nu98, na98, nb98, ns98, ne99, nl99, nk99, nt99, nu99, na99, nb99, ns99, ne100, nl100, nk100, nt100, nu100, na100, nb100, ns100, ne101, nl101, nk101, nt101, nu101, na101, nb101, ns101, ne102, nl102, nk102, nt102, nu102, na102, nb102, ns102, ne122, nl122, nk122, nt122, nu122, na122, nb122, ns122, ne250, nl250, nk250, nt250, nu250, na250, nb250, ns250, ne255, nl255, nk255, nt255, nu255, na255, nb255, ns255, ne1000, nl1000, nk1000, nt1000, nu1000, na1000, nb1000, ns1000, npred, opt_b, ite_true, ite_false, n10, n01, eq_self, c_isShelf_i hs, c_shelf hs, (c_row_i ht ec).1, ec1, w_o0 q1 (show z < 2 ^ 30 by omega), ref_2, b2_s]
          rfl
        · unfold f_X6_set
          rw [(m_row_i hs ht ((hf.1 94 s (by omega)).trans et)).1, bind_s, if_pos (by decide), ldI_n (by rw [ln95]; exact hs), bind_s, hf.1 95 s (by omega), s4, w_6, w_o0 q1 (by omega), bind_s, if_pos rfl, nof_2, b2_s]
          rfl
    · have hbc : NoR (nk S) (σ.1 (21 + 2 * s) 0) i := by rw [s1]; exact hb
      refine Agr.ref H i hi ?_ (fun hm' hf => ?_)
      · unfold f_X5_set
        simp (disch := omega) only [nle, nlt, neq, neqm, nmeq, nlem, nI_add, pk_mul, nI_1, ne0, nl0, nk0, nt0, nu0, ne1, nl1, nk1, nt1, nu1, ne2, nl2, nk2, nt2, nu2, na2, nb2, ns2, ne3, nl3, nk3, nt3, nu3, na3, nb3, ns3, ne4, nl4, nk4, nt4, nu4, na4, nb4, ns4, ne5, nl5, nk5, nt5, nu5, na5, nb5, nm5, nn5, ns5, ne6, nl6, nk6, nt6, nu6, na6, nb6, ns6, ne7, nl7, nk7, nt7, nu7, na7, nb7, ns7, ne8, nl8, nk8, nt8, nu8, na8, nb8, ns8, ne9, nl9, nk9, nt9, nu9, na9, nb9, ns9, ne10, nl10, nk10, nt10, nu10, na10, nb10, nm10, nn10, ns10, ne16, nl16, nk16, nt16, nu16, na16, nb16, ns16, ne18, nl18, nk18, nt18, nu18, na18, nb18, ns18, ne20, nl20, nk20, nt20, nu20, na20, nb20, ns20, ne30, nl30, nk30, nt30, nu30, na30, nb30, ns30, ne32, nl32, nk32, nt32, nu32, na32, nb32, ns32, ne40, nl40, nk40, nt40, nu40, na40, nb40, nm40, nn40, ns40, ne48, nl48, nk48, nt48, nu48, na48, nb48, ns48, ne56, nl56, nk56, nt56, nu56, na56, nb56, ns56, ne57, nl57, nk57, nt57, nu57, na57, nb57, ns57, ne59, nl59, nk59, nt59, nu59, na59, nb59, ns59, ne96, nl96, nk96, nt96, nu96, na96, nb96, ns96, ne97, nl97, nk97, nt97, nu97, na97, nb97, ns97, ne98, nl98, nk98, nt98, nu98, na98, nb98, ns98, ne99, nl99, nk99, nt99, nu99, na99, nb99, ns99, ne100, nl100, nk100, nt100, nu100, na100, nb100, ns100, ne101, nl101, nk101, nt101, nu101, na101, nb101, ns101, ne102, nl102, nk102, nt102, nu102, na102, nb102, ns102, ne122, nl122, nk122, nt122, nu122, na122, nb122, ns122, ne250, nl250, nk250, nt250, nu250, na250, nb250, ns250, ne255, nl255, nk255, nt255, nu255, na255, nb255, ns255, ne1000, nl1000, nk1000, nt1000, nu1000, na1000, nb1000, ns1000, npred, opt_b, ite_true, ite_false, n10, n01, eq_self, c_isShelf_i hs, c_shelf hs, (c_row_n n6 hbc).1, (c_row_n n6 hbc).2, ref_i hi, b2_s]
      · have hb' : NoR (nk S) ((R1 σ i).1 94 s) i := by rw [hf.1 94 s (by omega)]; exact hb
        unfold f_X6_set
        rw [(m_row_n hs n6 hb').1, bind_s, if_neg (rfn_neg i hi), nof_i hi, b2_s]
  · refine Agr.ref H 0 (by decide) ?_ (fun hm' hf => ?_)
    · unfold f_X5_set
      simp (disch := omega) only [nle, nlt, neq, neqm, nmeq, nlem, nI_add, pk_mul, nI_1, ne0, nl0, nk0, nt0, nu0, ne1, nl1, nk1, nt1, nu1, ne2, nl2, nk2, nt2, nu2, na2, nb2, ns2, ne3, nl3, nk3, nt3, nu3, na3, nb3, ns3, ne4, nl4, nk4, nt4, nu4, na4, nb4, ns4, ne5, nl5, nk5, nt5, nu5, na5, nb5, nm5, nn5, ns5, ne6, nl6, nk6, nt6, nu6, na6, nb6, ns6, ne7, nl7, nk7, nt7, nu7, na7, nb7, ns7, ne8, nl8, nk8, nt8, nu8, na8, nb8, ns8, ne9, nl9, nk9, nt9, nu9, na9, nb9, ns9, ne10, nl10, nk10, nt10, nu10, na10, nb10, nm10, nn10, ns10, ne16, nl16, nk16, nt16, nu16, na16, nb16, ns16, ne18, nl18, nk18, nt18, nu18, na18, nb18, ns18, ne20, nl20, nk20, nt20, nu20, na20, nb20, ns20, ne30, nl30, nk30, nt30, nu30, na30, nb30, ns30, ne32, nl32, nk32, nt32, nu32, na32, nb32, ns32, ne40, nl40, nk40, nt40, nu40, na40, nb40, nm40, nn40, ns40, ne48, nl48, nk48, nt48, nu48, na48, nb48, ns48, ne56, nl56, nk56, nt56, nu56, na56, nb56, ns56, ne57, nl57, nk57, nt57, nu57, na57, nb57, ns57, ne59, nl59, nk59, nt59, nu59, na59, nb59, ns59, ne96, nl96, nk96, nt96, nu96, na96, nb96, ns96, ne97, nl97, nk97, nt97, nu97, na97, nb97, ns97, ne98, nl98, nk98, nt98, nu98, na98, nb98, ns98, ne99, nl99, nk99, nt99, nu99, na99, nb99, ns99, ne100, nl100, nk100, nt100, nu100, na100, nb100, ns100, ne101, nl101, nk101, nt101, nu101, na101, nb101, ns101, ne102, nl102, nk102, nt102, nu102, na102, nb102, ns102, ne122, nl122, nk122, nt122, nu122, na122, nb122, ns122, ne250, nl250, nk250, nt250, nu250, na250, nb250, ns250, ne255, nl255, nk255, nt255, nu255, na255, nb255, ns255, ne1000, nl1000, nk1000, nt1000, nu1000, na1000, nb1000, ns1000, npred, opt_b, ite_true, ite_false, n10, n01, eq_self, c_isShelf_o q, ref_2, b2_s]
      rfl
    · unfold f_X6_set
      rw [m_noRow_o q, bind_s, if_neg (by decide), nof_2, b2_s]
      rfl
/-- the same answer of two questions of longs -/
def AgJ (f g : St → Option Int64) (σ : St) : Prop := ∃ r, f σ = some r ∧ g σ = some r
theorem c_el_n {a n i : Nat} {x : Int32} (hn : n ≤ 6) (h : NoR n (σ.1 a 0) i) : f_X2_elementAt σ a x = some 0 := by
  unfold f_X2_elementAt f_X2_hasElement
  rw [(c_row_n hn h).1, bind_s, if_pos rfl, bind_s, if_pos rfl]
theorem op_element (H : Sm σ S) (x y : Int32) : AgJ (fun s => f_X5_element s 0 x y) (fun s => f_X6_element s 93 x y) σ := by
  obtain ⟨hc, hm, I, R⟩ := id H
  have n6 := I.1.2.2.2.2.2.2.1
  show ∃ r, f_X5_element σ 0 x y = some r ∧ f_X6_element σ 93 x y = some r
  unfold f_X5_element f_X6_element
  by_cases q : inR x 0 8
  · obtain ⟨s, s0, hs, rfl⟩ := q
    obtain ⟨s1, s2, s3, ⟨z, z40, s4⟩, s5⟩ := R.2.1 s hs
    rw [c_shelf hs, bind_s, w_6, wi_0_7 s0 hs, bind_s, if_neg (by decide)]
    rcases hOk_c s3 with ⟨t, ht, et⟩ | ⟨i, hi, i0, hb⟩
    · have ec : σ.1 (21 + 2 * s) 0 = nI t := s1.trans et
      have ec1 : σ.1 (21 + 2 * s) 1 = nI z := s2.trans s4
      rw [(m_row_i hs ht et).2, bind_s, if_neg (by decide), ldI_n (by rw [ln95]; exact hs), bind_s, s4]
      by_cases q1 : inR y 0 z
      · obtain ⟨i, i0, hi, rfl⟩ := q1
        refine ⟨σ.2 96 (40 * s + i), ?_, ?_⟩
        · rw [c_el ht (by rw [sh_a]; exact ln_s s hs) ec ec1 z40 hi, bind_s, sh_a, s5 i (by omega)]
        · rw [w_6, w_i0 hi (by omega), bind_s, if_neg (by decide)]
          simp (disch := omega) only [nle, nlt, neq, neqm, nmeq, nlem, nI_add, pk_mul, nI_1, ne0, nl0, nk0, nt0, nu0, ne1, nl1, nk1, nt1, nu1, ne2, nl2, nk2, nt2, nu2, na2, nb2, ns2, ne3, nl3, nk3, nt3, nu3, na3, nb3, ns3, ne4, nl4, nk4, nt4, nu4, na4, nb4, ns4, ne5, nl5, nk5, nt5, nu5, na5, nb5, nm5, nn5, ns5, ne6, nl6, nk6, nt6, nu6, na6, nb6, ns6, ne7, nl7, nk7, nt7, nu7, na7, nb7, ns7, ne8, nl8, nk8, nt8, nu8, na8, nb8, ns8, ne9, nl9, nk9, nt9, nu9, na9, nb9, ns9, ne10, nl10, nk10, nt10, nu10, na10, nb10, nm10, nn10, ns10, ne16, nl16, nk16, nt16, nu16, na16, nb16, ns16, ne18, nl18, nk18, nt18, nu18, na18, nb18, ns18, ne20, nl20, nk20, nt20, nu20, na20, nb20, ns20, ne30, nl30, nk30, nt30, nu30, na30, nb30, ns30, ne32, nl32, nk32, nt32, nu32, na32, nb32, ns32, ne40, nl40, nk40, nt40, nu40, na40, nb40, nm40, nn40, ns40, ne48, nl48, nk48, nt48, nu48, na48, nb48, ns48, ne56, nl56, nk56, nt56, nu56, na56, nb56, ns56, ne57, nl57, nk57, nt57, nu57, na57, nb57, ns57, ne59, nl59, nk59, nt59, nu59, na59, nb59, ns59, ne96, nl96, nk96, nt96, nu96, na96, nb96, ns96, ne97, nl97, nk97, nt97, nu97, na97, nb97, ns97, ne98, nl98, nk98, nt98, nu98, na98, nb98, ns98, ne99, nl99, nk99, nt99, nu99, na99, nb99, ns99, ne100, nl100, nk100, nt100, nu100, na100, nb100, ns100, ne101, nl101, nk101, nt101, nu101, na101, nb101, ns101, ne102, nl102, nk102, nt102, nu102, na102, nb102, ns102, ne122, nl122, nk122, nt122, nu122, na122, nb122, ns122, ne250, nl250, nk250, nt250, nu250, na250, nb250, ns250, ne255, nl255, nk255, nt255, nu255, na255, nb255, ns255, ne1000, nl1000, nk1000, nt1000, nu1000, na1000, nb1000, ns1000, npred, opt_b, ite_true, ite_false, n10, n01, eq_self]
          exact bind_e (ldJ_n (by rw [ln96]; omega)) rfl
      · refine ⟨0, ?_, ?_⟩
        · unfold f_X2_elementAt
          rw [c_hasn ht ec ec1 z40 q1, bind_s, if_pos rfl, bind_s]
        · rw [w_6, w_o0 q1 (by omega), bind_s, if_pos rfl]
    · have hbc : NoR (nk S) (σ.1 (21 + 2 * s) 0) i := by rw [s1]; exact hb
      exact ⟨0, by rw [c_el_n n6 hbc, bind_s], by rw [(m_row_n hs n6 hb).2, bind_s, if_pos rfl]⟩
  · refine ⟨0, ?_, ?_⟩
    · have hb37 : NoR 0 (σ.1 37 0) 2 := R.2.2.1.1
      rw [c_noShelf q, bind_s, c_el_n (Nat.zero_le _) hb37, bind_s]
    · rw [w_6, wo_0_7 q, bind_s, if_pos rfl]
end ROWS
