theorem to_nI {x : Int32} (h : ¬ x < 0) : ∃ k, k < 2 ^ 31 ∧ x = nI k := by
  have e1 : ¬ x.toInt < (0 : Int32).toInt := fun z => h (Int32.lt_iff_toInt_lt.mpr z)
  have z0 : (0 : Int32).toInt = 0 := rfl
  have h2 := Int32.toInt_lt x
  refine ⟨x.toInt.toNat, by omega, ?_⟩
  apply Int32.toInt_inj.mp
  rw [nI_toInt (by omega)]
  omega
theorem nI_pd (c : Nat) : nI (c + 1) - 1 = nI c := by rw [npred (by omega), Nat.add_sub_cancel]
theorem i_m1 (x : Int32) : x + (-1) = x - 1 := (Int32.sub_eq_add_neg (a := x) (b := 1)).symm
theorem lp_dn {P : Nat → Nat → Prop} (N : Nat) (hN : N < 4000) (hend : ∀ n, P (n + 1) 0) (hstep : ∀ n c, c < N → P n c → P (n + 1) (c + 1)) : P FU N := by
  have h := lp_0 (P := fun n m => P n (N - m)) N hN (fun n => by rw [Nat.sub_self]; exact hend n) (fun n m hm ih => by
    have := hstep n (N - (m + 1)) (by omega) ih
    rwa [show N - (m + 1) + 1 = N - m by omega] at this)
  exact h
section COPY
variable {σ : St} {S : HS}
theorem c_part {a z i n : Nat} (h1 : σ.1 a 1 = nI z) (hz : z ≤ 40) (hi : i < 2 ^ 31) (hn : n < 2 ^ 31) : f_X2_hasPart σ a (nI i) (nI n) = some (if i + n ≤ z then 1 else 0) := by
  unfold f_X2_hasPart
  rw [if_neg (nI_pos hn), h1]
  by_cases q : z < n
  · rw [if_pos ((nI_ltI (by omega) hn).mpr q), if_neg (by omega)]
  · rw [if_neg (fun e => q ((nI_ltI (by omega) hn).mp e)), if_neg (nI_pos hi), pk_sub (by omega)]
    by_cases q2 : z - n < i
    · rw [if_pos ((nI_ltI (by omega) hi).mpr q2), if_neg (by omega)]
    · rw [if_neg (fun e => q2 ((nI_ltI (by omega) hi).mp e)), if_pos (by omega)]
theorem c_part_n {a : Nat} {i n : Int32} (h : n < 0 ∨ i < 0) : f_X2_hasPart σ a i n = some 0 := by
  unfold f_X2_hasPart
  by_cases q : n < 0
  · rw [if_pos q]
  · rw [if_neg q]
    split
    · rfl
    · rw [if_pos (h.resolve_left q)]
theorem lg_p {i n z : Nat} (hi : i < 2 ^ 31) (hn : n < 2 ^ 31) (hz : z < 2 ^ 31) : (0 < lg_cmp (Int32.toInt64 (nI i) + Int32.toInt64 (nI n)) (Int32.toInt64 (nI z))) ↔ z < i + n := by
  rw [lg_cmp_gt, nI_l hi, nI_l hn, nI_l hz, lN_add, pk_lLT (by omega) (by omega)]
theorem lg_q {i n z : Nat} (hi : i < 2 ^ 31) (hn : n < 2 ^ 31) (hz : z < 2 ^ 31) : (lg_cmp (Int32.toInt64 (nI i) + Int32.toInt64 (nI n)) (Int32.toInt64 (nI z)) ≤ 0) ↔ i + n ≤ z := by
  rw [lg_cmp_le, nI_l hi, nI_l hn, nI_l hz, lN_add, pk_lLE (by omega) (by omega)]
/-- n cells of the model's long row copied -/
def Cpd (σ σ' : St) (a b n : Nat) : Prop := σ'.1 = σ.1 ∧ ∀ c k, σ'.2 c k = if c = 96 ∧ b ≤ k ∧ k < b + n then σ.2 96 (a + (k - b)) else σ.2 c k
theorem m_fwd {p q i j n : Nat} (hp : p < 8) (hq : q < 8) (hi : i + n ≤ 40) (hj : j + n ≤ 40) (hd : p ≠ q ∨ j ≤ i) : ∃ σ', f_X6_copy_b226 σ 93 (nI p) (nI q) (nI i) (nI j) (nI n) = some (nI n, σ') ∧ Cpd σ σ' (40 * p + i) (40 * q + j) n := by
  have gen := lp_0 (P := fun f m => ∀ σ1, Cpd σ σ1 (40 * p + i) (40 * q + j) m → ∃ σ', f_X6_copy_l229 f σ1 93 (nI p) (nI q) (nI i) (nI j) (nI n) (nI m) = some (nI n, σ') ∧ Cpd σ σ' (40 * p + i) (40 * q + j) n) n (by omega) (fun f σ1 h => ?_) (fun f m hm ih σ1 h => ?_)
  · exact gen σ ⟨rfl, fun c k => by rw [if_neg (by omega)]⟩
  · refine ⟨σ1, ?_, h⟩
    show f_X6_copy_b229 (f_X6_copy_l229 f) _ _ _ _ _ _ _ _ = _; unfold f_X6_copy_b229
    simp (disch := omega) only [nle, nlt, neq, neqm, nmeq, nlem, nI_add, pk_mul, nI_1, ne0, nl0, nk0, nt0, nu0, ne1, nl1, nk1, nt1, nu1, ne2, nl2, nk2, nt2, nu2, na2, nb2, ns2, ne3, nl3, nk3, nt3, nu3, na3, nb3, ns3, ne4, nl4, nk4, nt4, nu4, na4, nb4, ns4, ne5, nl5, nk5, nt5, nu5, na5, nb5, nm5, nn5, ns5, ne6, nl6, nk6, nt6, nu6, na6, nb6, ns6, ne7, nl7, nk7, nt7, nu7, na7, nb7, ns7, ne8, nl8, nk8, nt8, nu8, na8, nb8, ns8, ne9, nl9, nk9, nt9, nu9, na9, nb9, ns9, ne10, nl10, nk10, nt10, nu10, na10, nb10, nm10, nn10, ns10, ne16, nl16, nk16, nt16, nu16, na16, nb16, ns16, ne18, nl18, nk18, nt18, nu18, na18, nb18, ns18, ne20, nl20, nk20, nt20, nu20, na20, nb20, ns20, ne30, nl30, nk30, nt30, nu30, na30, nb30, ns30, ne32, nl32, nk32, nt32, nu32, na32, nb32, ns32, ne40, nl40, nk40, nt40, nu40, na40, nb40, nm40, nn40, ns40, ne48, nl48, nk48, nt48, nu48, na48, nb48, ns48, ne56, nl56, nk56, nt56, nu56, na56, nb56, ns56, ne57, nl57, nk57, nt57, nu57, na57, nb57, ns57, ne59, nl59, nk59, nt59, nu59, na59, nb59, ns59, ne96, nl96, nk96, nt96, nu96, na96, nb96, ns96, ne97, nl97, nk97, nt97, nu97, na97, nb97, ns97, ne98, nl98, nk98, nt98, nu98, na98, nb98, ns98, ne99, nl99, nk99, nt99, nu99, na99, nb99, ns99, ne100, nl100, nk100, nt100, nu100, na100, nb100, ns100, ne101, nl101, nk101, nt101, nu101, na101, nb101, ns101, ne102, nl102, nk102, nt102, nu102, na102, nb102, ns102, ne122, nl122, nk122, nt122, nu122, na122, nb122, ns122, ne250, nl250, nk250, nt250, nu250, na250, nb250, ns250, ne255, nl255, nk255, nt255, nu255, na255, nb255, ns255, ne1000, nl1000, nk1000, nt1000, nu1000, na1000, nb1000, ns1000, npred, opt_b, ite_true, ite_false, n10, n01, eq_self, Nat.le_refl]
  · have rd : σ1.2 96 (40 * p + i + m) = σ.2 96 (40 * p + i + m) := by
      rw [h.2, if_neg (by omega)]
    obtain ⟨σ', u1, u2⟩ := ih (setJ σ1 96 (40 * q + j + m) (σ1.2 96 (40 * p + i + m))) ⟨by rw [setJ_1]; exact h.1, fun c k => by
      by_cases e : c = 96 ∧ k = 40 * q + j + m
      · obtain ⟨rfl, rfl⟩ := e
        rw [setJ_s, rd, if_pos (by omega)]
        exact congrArg (σ.2 96) (by omega)
      · rw [setJ_n e, h.2]
        by_cases e2 : c = 96 ∧ 40 * q + j ≤ k ∧ k < 40 * q + j + m
        · rw [if_pos e2, if_pos (by omega)]
        · rw [if_neg e2, if_neg (by omega)]⟩
    refine ⟨σ', ?_, u2⟩
    show f_X6_copy_b229 (f_X6_copy_l229 f) _ _ _ _ _ _ _ _ = _; unfold f_X6_copy_b229
    simp (disch := omega) only [nle, nlt, neq, neqm, nmeq, nlem, nI_add, pk_mul, nI_1, ne0, nl0, nk0, nt0, nu0, ne1, nl1, nk1, nt1, nu1, ne2, nl2, nk2, nt2, nu2, na2, nb2, ns2, ne3, nl3, nk3, nt3, nu3, na3, nb3, ns3, ne4, nl4, nk4, nt4, nu4, na4, nb4, ns4, ne5, nl5, nk5, nt5, nu5, na5, nb5, nm5, nn5, ns5, ne6, nl6, nk6, nt6, nu6, na6, nb6, ns6, ne7, nl7, nk7, nt7, nu7, na7, nb7, ns7, ne8, nl8, nk8, nt8, nu8, na8, nb8, ns8, ne9, nl9, nk9, nt9, nu9, na9, nb9, ns9, ne10, nl10, nk10, nt10, nu10, na10, nb10, nm10, nn10, ns10, ne16, nl16, nk16, nt16, nu16, na16, nb16, ns16, ne18, nl18, nk18, nt18, nu18, na18, nb18, ns18, ne20, nl20, nk20, nt20, nu20, na20, nb20, ns20, ne30, nl30, nk30, nt30, nu30, na30, nb30, ns30, ne32, nl32, nk32, nt32, nu32, na32, nb32, ns32, ne40, nl40, nk40, nt40, nu40, na40, nb40, nm40, nn40, ns40, ne48, nl48, nk48, nt48, nu48, na48, nb48, ns48, ne56, nl56, nk56, nt56, nu56, na56, nb56, ns56, ne57, nl57, nk57, nt57, nu57, na57, nb57, ns57, ne59, nl59, nk59, nt59, nu59, na59, nb59, ns59, ne96, nl96, nk96, nt96, nu96, na96, nb96, ns96, ne97, nl97, nk97, nt97, nu97, na97, nb97, ns97, ne98, nl98, nk98, nt98, nu98, na98, nb98, ns98, ne99, nl99, nk99, nt99, nu99, na99, nb99, ns99, ne100, nl100, nk100, nt100, nu100, na100, nb100, ns100, ne101, nl101, nk101, nt101, nu101, na101, nb101, ns101, ne102, nl102, nk102, nt102, nu102, na102, nb102, ns102, ne122, nl122, nk122, nt122, nu122, na122, nb122, ns122, ne250, nl250, nk250, nt250, nu250, na250, nb250, ns250, ne255, nl255, nk255, nt255, nu255, na255, nb255, ns255, ne1000, nl1000, nk1000, nt1000, nu1000, na1000, nb1000, ns1000, npred, opt_b, ite_true, ite_false, n10, n01, eq_self, Nat.not_le.mpr hm]
    exact bind_e (ldJ_n (by rw [ln96]; omega)) (bind_e (stJ_n (by rw [ln96]; omega)) u1)
theorem m_bwd {q i j n : Nat} (hq : q < 8) (hi : i + n ≤ 40) (hj : j + n ≤ 40) (hd : i < j) : ∃ σ', f_X6_copy_l183 FU σ 93 (nI q) (nI q) (nI i) (nI j) (nI n) (nI n - 1) = some (nI n, σ') ∧ Cpd σ σ' (40 * q + i) (40 * q + j) n := by
  have gen := lp_dn (P := fun f c => ∀ σ1, (σ1.1 = σ.1 ∧ ∀ b k, σ1.2 b k = if b = 96 ∧ 40 * q + j + c ≤ k ∧ k < 40 * q + j + n then σ.2 96 (40 * q + i + (k - (40 * q + j))) else σ.2 b k) → ∃ σ', f_X6_copy_l183 f σ1 93 (nI q) (nI q) (nI i) (nI j) (nI n) (nI c - 1) = some (nI n, σ') ∧ Cpd σ σ' (40 * q + i) (40 * q + j) n) n (by omega) (fun f σ1 h => ?_) (fun f m hm ih σ1 h => ?_)
  · exact gen σ ⟨rfl, fun c k => by rw [if_neg (by omega)]⟩
  · refine ⟨σ1, ?_, h.1, fun c k => by rw [h.2]; rfl⟩
    show f_X6_copy_b183 (f_X6_copy_l183 f) _ _ _ _ _ _ _ _ = _; unfold f_X6_copy_b183
    rw [if_pos (by decide)]
  · have rd : σ1.2 96 (40 * q + i + m) = σ.2 96 (40 * q + i + m) := by
      rw [h.2, if_neg (by omega)]
    obtain ⟨σ', u1, u2⟩ := ih (setJ σ1 96 (40 * q + j + m) (σ1.2 96 (40 * q + i + m))) ⟨by rw [setJ_1]; exact h.1, fun c k => by
      by_cases e : c = 96 ∧ k = 40 * q + j + m
      · obtain ⟨rfl, rfl⟩ := e
        rw [setJ_s, rd, if_pos (by omega)]
        exact congrArg (σ.2 96) (by omega)
      · rw [setJ_n e, h.2]
        by_cases e2 : c = 96 ∧ 40 * q + j + (m + 1) ≤ k ∧ k < 40 * q + j + n
        · rw [if_pos e2, if_pos (by omega)]
        · rw [if_neg e2, if_neg (by omega)]⟩
    refine ⟨σ', ?_, u2⟩
    rw [nI_pd]
    show f_X6_copy_b183 (f_X6_copy_l183 f) _ _ _ _ _ _ _ _ = _; unfold f_X6_copy_b183
    rw [if_neg (nI_pos (by omega)), i_m1]
    simp (disch := omega) only [nle, nlt, neq, neqm, nmeq, nlem, nI_add, pk_mul, nI_1, ne0, nl0, nk0, nt0, nu0, ne1, nl1, nk1, nt1, nu1, ne2, nl2, nk2, nt2, nu2, na2, nb2, ns2, ne3, nl3, nk3, nt3, nu3, na3, nb3, ns3, ne4, nl4, nk4, nt4, nu4, na4, nb4, ns4, ne5, nl5, nk5, nt5, nu5, na5, nb5, nm5, nn5, ns5, ne6, nl6, nk6, nt6, nu6, na6, nb6, ns6, ne7, nl7, nk7, nt7, nu7, na7, nb7, ns7, ne8, nl8, nk8, nt8, nu8, na8, nb8, ns8, ne9, nl9, nk9, nt9, nu9, na9, nb9, ns9, ne10, nl10, nk10, nt10, nu10, na10, nb10, nm10, nn10, ns10, ne16, nl16, nk16, nt16, nu16, na16, nb16, ns16, ne18, nl18, nk18, nt18, nu18, na18, nb18, ns18, ne20, nl20, nk20, nt20, nu20, na20, nb20, ns20, ne30, nl30, nk30, nt30, nu30, na30, nb30, ns30, ne32, nl32, nk32, nt32, nu32, na32, nb32, ns32, ne40, nl40, nk40, nt40, nu40, na40, nb40, nm40, nn40, ns40, ne48, nl48, nk48, nt48, nu48, na48, nb48, ns48, ne56, nl56, nk56, nt56, nu56, na56, nb56, ns56, ne57, nl57, nk57, nt57, nu57, na57, nb57, ns57, ne59, nl59, nk59, nt59, nu59, na59, nb59, ns59, ne96, nl96, nk96, nt96, nu96, na96, nb96, ns96, ne97, nl97, nk97, nt97, nu97, na97, nb97, ns97, ne98, nl98, nk98, nt98, nu98, na98, nb98, ns98, ne99, nl99, nk99, nt99, nu99, na99, nb99, ns99, ne100, nl100, nk100, nt100, nu100, na100, nb100, ns100, ne101, nl101, nk101, nt101, nu101, na101, nb101, ns101, ne102, nl102, nk102, nt102, nu102, na102, nb102, ns102, ne122, nl122, nk122, nt122, nu122, na122, nb122, ns122, ne250, nl250, nk250, nt250, nu250, na250, nb250, ns250, ne255, nl255, nk255, nt255, nu255, na255, nb255, ns255, ne1000, nl1000, nk1000, nt1000, nu1000, na1000, nb1000, ns1000, npred, opt_b, ite_true, ite_false, n10, n01, eq_self]
    exact bind_e (ldJ_n (by rw [ln96]; omega)) (bind_e (stJ_n (by rw [ln96]; omega)) u1)
theorem cpJ_n {a b i j n : Nat} (hi : i + n ≤ ln a) (hj : j + n ≤ ln b) : cpJ σ a (nI i) b (nI j) (nI n) = some (setAJ σ b (va_cpy (σ.2 a) (σ.2 b) i j n)) := by
  have h1 := ln_le a
  have h2 := ln_le b
  unfold cpJ
  rw [nI_clamp (by omega), nI_clamp (by omega), nI_clamp (by omega), if_neg]
  rintro (h | h | h | h | h)
  · exact absurd h (nI_pos (by omega))
  · exact absurd h (nI_pos (by omega))
  · exact absurd h (nI_pos (by omega))
  · omega
  · omega
theorem key_i {a k : Nat} (hk : k < 6) (h : σ.1 a 0 = nI (10 + k)) : f_X2_isKey σ a = some 1 := by
  unfold f_X2_isKey
  rw [h, if_neg (rw_n1 k hk).2.1]
theorem key_m {a : Nat} (h : σ.1 a 0 = -1) : f_X2_isKey σ a = some 0 := by
  unfold f_X2_isKey
  rw [h]; decide
theorem row_m {a : Nat} (h : σ.1 a 0 = -1) : f_X2_isRow σ a = some 0 := by
  unfold f_X2_isRow
  rw [h]; decide
/-- what a shelf holds, for copy: a key, nothing, or a row -/
theorem op_copy (H : Sm σ S) (x y i j n : Int32) : Agr (fun s => f_X5_copy s 0 x y i j n) (fun s => f_X6_copy s 93 x y i j n) σ := by
  obtain ⟨hc, hm, I, R⟩ := id H
  have n6 := I.1.2.2.2.2.2.2.1
  by_cases q : inR x 0 8
  · obtain ⟨p, p0, hp, rfl⟩ := q
    by_cases q1 : inR y 0 8
    · obtain ⟨s, s0, hs, rfl⟩ := q1
      obtain ⟨a1, a2, a3, ⟨zp, zp40, a4⟩, a5⟩ := R.2.1 p hp
      obtain ⟨b1, b2', b3, ⟨zq, zq40, b4⟩, b5⟩ := R.2.1 s hs
      have Lp : ∀ τ : St, ldI τ 94 (nI p) = some (τ.1 94 p) := fun τ => ldI_n (by rw [ln94]; exact hp)
      have Ls : ∀ τ : St, ldI τ 94 (nI s) = some (τ.1 94 s) := fun τ => ldI_n (by rw [ln94]; exact hs)
      have Zp : ∀ τ : St, ldI τ 95 (nI p) = some (τ.1 95 p) := fun τ => ldI_n (by rw [ln95]; exact hp)
      have Zs : ∀ τ : St, ldI τ 95 (nI s) = some (τ.1 95 s) := fun τ => ldI_n (by rw [ln95]; exact hs)
      have big : ∀ k, k < 6 → (4 : Int32) < nI (10 + k) := by decide +kernel
      have sml : ∀ t, t < 5 → ¬ (4 : Int32) < nI t := by decide +kernel
      have neg : ∀ t, t < 5 → ¬ nI t < 0 := by decide +kernel
      have pos : ∀ t, t < 5 → (0 : Int32) ≤ nI t := by decide +kernel
      have E3 : (R1 σ 1).1 94 p = σ.1 94 p ∧ (R1 σ 1).1 94 s = σ.1 94 s := ⟨(Fr1 σ 1).1 _ _ (by omega), (Fr1 σ 1).1 _ _ (by omega)⟩
      have E4 : (R1 σ 2).1 94 p = σ.1 94 p ∧ (R1 σ 2).1 94 s = σ.1 94 s := ⟨(Fr1 σ 2).1 _ _ (by omega), (Fr1 σ 2).1 _ _ (by omega)⟩
      have E2 : (R1 σ 0).1 94 p = σ.1 94 p ∧ (R1 σ 0).1 94 s = σ.1 94 s ∧ (R1 σ 0).1 95 p = nI zp ∧ (R1 σ 0).1 95 s = nI zq := ⟨(Fr1 σ 0).1 _ _ (by omega), (Fr1 σ 0).1 _ _ (by omega), ((Fr1 σ 0).1 _ _ (by omega)).trans a4, ((Fr1 σ 0).1 _ _ (by omega)).trans b4⟩
      rcases a3 with ep | ⟨t, ht, ep⟩ | ⟨k, hk, ep⟩
      · have ec := a1.trans ep
        rcases b3 with es | ⟨u, hu, es⟩ | ⟨k, hk, es⟩
        · have ed := b1.trans es
          refine Agr.ref H 2 (by decide) ?_ (fun hm' hf => ?_)
          · unfold f_X5_copy f_X5_copy_b76
            simp (disch := omega) only [nle, nlt, neq, neqm, nmeq, nlem, nI_add, pk_mul, nI_1, ne0, nl0, nk0, nt0, nu0, ne1, nl1, nk1, nt1, nu1, ne2, nl2, nk2, nt2, nu2, na2, nb2, ns2, ne3, nl3, nk3, nt3, nu3, na3, nb3, ns3, ne4, nl4, nk4, nt4, nu4, na4, nb4, ns4, ne5, nl5, nk5, nt5, nu5, na5, nb5, nm5, nn5, ns5, ne6, nl6, nk6, nt6, nu6, na6, nb6, ns6, ne7, nl7, nk7, nt7, nu7, na7, nb7, ns7, ne8, nl8, nk8, nt8, nu8, na8, nb8, ns8, ne9, nl9, nk9, nt9, nu9, na9, nb9, ns9, ne10, nl10, nk10, nt10, nu10, na10, nb10, nm10, nn10, ns10, ne16, nl16, nk16, nt16, nu16, na16, nb16, ns16, ne18, nl18, nk18, nt18, nu18, na18, nb18, ns18, ne20, nl20, nk20, nt20, nu20, na20, nb20, ns20, ne30, nl30, nk30, nt30, nu30, na30, nb30, ns30, ne32, nl32, nk32, nt32, nu32, na32, nb32, ns32, ne40, nl40, nk40, nt40, nu40, na40, nb40, nm40, nn40, ns40, ne48, nl48, nk48, nt48, nu48, na48, nb48, ns48, ne56, nl56, nk56, nt56, nu56, na56, nb56, ns56, ne57, nl57, nk57, nt57, nu57, na57, nb57, ns57, ne59, nl59, nk59, nt59, nu59, na59, nb59, ns59, ne96, nl96, nk96, nt96, nu96, na96, nb96, ns96, ne97, nl97, nk97, nt97, nu97, na97, nb97, ns97, ne98, nl98, nk98, nt98, nu98, na98, nb98, ns98, ne99, nl99, nk99, nt99, nu99, na99, nb99, ns99, ne100, nl100, nk100, nt100, nu100, na100, nb100, ns100, ne101, nl101, nk101, nt101, nu101, na101, nb101, ns101, ne102, nl102, nk102, nt102, nu102, na102, nb102, ns102, ne122, nl122, nk122, nt122, nu122, na122, nb122, ns122, ne250, nl250, nk250, nt250, nu250, na250, nb250, ns250, ne255, nl255, nk255, nt255, nu255, na255, nb255, ns255, ne1000, nl1000, nk1000, nt1000, nu1000, na1000, nb1000, ns1000, npred, opt_b, ite_true, ite_false, n10, n01, eq_self, c_isShelf_i hp, c_isShelf_i hs, c_shelf hp, c_shelf hs, key_m ec, key_m ed, row_m ec, ref_4, b2_s]
            rfl
          · unfold f_X6_copy f_X6_copy_b85 f_X6_copy_b103
            rw [w_6, wi_0_7 p0 hp, bind_s, if_neg (by decide), w_6, wi_0_7 s0 hs, bind_s, if_neg (by decide), Lp, bind_s, E4.1, ep, if_neg (by decide), Ls, bind_s, E4.2, es, if_neg (by decide), (m_row_n (n := 6) hp (Nat.le_refl _) (i := 2) (E4.1.trans ep)).2, bind_s, if_pos rfl, bind_s, if_pos (by decide), nof_4, b2_s]
            rfl
        · have ed := b1.trans es
          refine Agr.ref H 2 (by decide) ?_ (fun hm' hf => ?_)
          · unfold f_X5_copy f_X5_copy_b76
            simp (disch := omega) only [nle, nlt, neq, neqm, nmeq, nlem, nI_add, pk_mul, nI_1, ne0, nl0, nk0, nt0, nu0, ne1, nl1, nk1, nt1, nu1, ne2, nl2, nk2, nt2, nu2, na2, nb2, ns2, ne3, nl3, nk3, nt3, nu3, na3, nb3, ns3, ne4, nl4, nk4, nt4, nu4, na4, nb4, ns4, ne5, nl5, nk5, nt5, nu5, na5, nb5, nm5, nn5, ns5, ne6, nl6, nk6, nt6, nu6, na6, nb6, ns6, ne7, nl7, nk7, nt7, nu7, na7, nb7, ns7, ne8, nl8, nk8, nt8, nu8, na8, nb8, ns8, ne9, nl9, nk9, nt9, nu9, na9, nb9, ns9, ne10, nl10, nk10, nt10, nu10, na10, nb10, nm10, nn10, ns10, ne16, nl16, nk16, nt16, nu16, na16, nb16, ns16, ne18, nl18, nk18, nt18, nu18, na18, nb18, ns18, ne20, nl20, nk20, nt20, nu20, na20, nb20, ns20, ne30, nl30, nk30, nt30, nu30, na30, nb30, ns30, ne32, nl32, nk32, nt32, nu32, na32, nb32, ns32, ne40, nl40, nk40, nt40, nu40, na40, nb40, nm40, nn40, ns40, ne48, nl48, nk48, nt48, nu48, na48, nb48, ns48, ne56, nl56, nk56, nt56, nu56, na56, nb56, ns56, ne57, nl57, nk57, nt57, nu57, na57, nb57, ns57, ne59, nl59, nk59, nt59, nu59, na59, nb59, ns59, ne96, nl96, nk96, nt96, nu96, na96, nb96, ns96, ne97, nl97, nk97, nt97, nu97, na97, nb97, ns97, ne98, nl98, nk98, nt98, nu98, na98, nb98, ns98, ne99, nl99, nk99, nt99, nu99, na99, nb99, ns99, ne100, nl100, nk100, nt100, nu100, na100, nb100, ns100, ne101, nl101, nk101, nt101, nu101, na101, nb101, ns101, ne102, nl102, nk102, nt102, nu102, na102, nb102, ns102, ne122, nl122, nk122, nt122, nu122, na122, nb122, ns122, ne250, nl250, nk250, nt250, nu250, na250, nb250, ns250, ne255, nl255, nk255, nt255, nu255, na255, nb255, ns255, ne1000, nl1000, nk1000, nt1000, nu1000, na1000, nb1000, ns1000, npred, opt_b, ite_true, ite_false, n10, n01, eq_self, c_isShelf_i hp, c_isShelf_i hs, c_shelf hp, c_shelf hs, key_m ec, (c_row_i hu ed).2, row_m ec, ref_4, b2_s]
            rfl
          · unfold f_X6_copy f_X6_copy_b85 f_X6_copy_b103
            rw [w_6, wi_0_7 p0 hp, bind_s, if_neg (by decide), w_6, wi_0_7 s0 hs, bind_s, if_neg (by decide), Lp, bind_s, E4.1, ep, if_neg (by decide), Ls, bind_s, E4.2, es, if_neg (sml u hu), (m_row_n (n := 6) hp (Nat.le_refl _) (i := 2) (E4.1.trans ep)).2, bind_s, if_pos rfl, bind_s, if_pos (by decide), nof_4, b2_s]
            rfl
        · have ed := b1.trans es
          refine Agr.ref H 1 (by decide) ?_ (fun hm' hf => ?_)
          · unfold f_X5_copy f_X5_copy_b53
            simp (disch := omega) only [nle, nlt, neq, neqm, nmeq, nlem, nI_add, pk_mul, nI_1, ne0, nl0, nk0, nt0, nu0, ne1, nl1, nk1, nt1, nu1, ne2, nl2, nk2, nt2, nu2, na2, nb2, ns2, ne3, nl3, nk3, nt3, nu3, na3, nb3, ns3, ne4, nl4, nk4, nt4, nu4, na4, nb4, ns4, ne5, nl5, nk5, nt5, nu5, na5, nb5, nm5, nn5, ns5, ne6, nl6, nk6, nt6, nu6, na6, nb6, ns6, ne7, nl7, nk7, nt7, nu7, na7, nb7, ns7, ne8, nl8, nk8, nt8, nu8, na8, nb8, ns8, ne9, nl9, nk9, nt9, nu9, na9, nb9, ns9, ne10, nl10, nk10, nt10, nu10, na10, nb10, nm10, nn10, ns10, ne16, nl16, nk16, nt16, nu16, na16, nb16, ns16, ne18, nl18, nk18, nt18, nu18, na18, nb18, ns18, ne20, nl20, nk20, nt20, nu20, na20, nb20, ns20, ne30, nl30, nk30, nt30, nu30, na30, nb30, ns30, ne32, nl32, nk32, nt32, nu32, na32, nb32, ns32, ne40, nl40, nk40, nt40, nu40, na40, nb40, nm40, nn40, ns40, ne48, nl48, nk48, nt48, nu48, na48, nb48, ns48, ne56, nl56, nk56, nt56, nu56, na56, nb56, ns56, ne57, nl57, nk57, nt57, nu57, na57, nb57, ns57, ne59, nl59, nk59, nt59, nu59, na59, nb59, ns59, ne96, nl96, nk96, nt96, nu96, na96, nb96, ns96, ne97, nl97, nk97, nt97, nu97, na97, nb97, ns97, ne98, nl98, nk98, nt98, nu98, na98, nb98, ns98, ne99, nl99, nk99, nt99, nu99, na99, nb99, ns99, ne100, nl100, nk100, nt100, nu100, na100, nb100, ns100, ne101, nl101, nk101, nt101, nu101, na101, nb101, ns101, ne102, nl102, nk102, nt102, nu102, na102, nb102, ns102, ne122, nl122, nk122, nt122, nu122, na122, nb122, ns122, ne250, nl250, nk250, nt250, nu250, na250, nb250, ns250, ne255, nl255, nk255, nt255, nu255, na255, nb255, ns255, ne1000, nl1000, nk1000, nt1000, nu1000, na1000, nb1000, ns1000, npred, opt_b, ite_true, ite_false, n10, n01, eq_self, c_isShelf_i hp, c_isShelf_i hs, c_shelf hp, c_shelf hs, key_m ec, key_i (show k < 6 by omega) ed, ref_3, b2_s]
            rfl
          · unfold f_X6_copy f_X6_copy_b78
            rw [w_6, wi_0_7 p0 hp, bind_s, if_neg (by decide), w_6, wi_0_7 s0 hs, bind_s, if_neg (by decide), Lp, bind_s, E3.1, ep, if_neg (by decide), Ls, bind_s, E3.2, es, if_pos (big k (by omega)), nof_3, b2_s]
            rfl
      · have ec := a1.trans ep
        rcases b3 with es | ⟨u, hu, es⟩ | ⟨k, hk, es⟩
        · have ed := b1.trans es
          refine Agr.ref H 2 (by decide) ?_ (fun hm' hf => ?_)
          · unfold f_X5_copy f_X5_copy_b76
            simp (disch := omega) only [nle, nlt, neq, neqm, nmeq, nlem, nI_add, pk_mul, nI_1, ne0, nl0, nk0, nt0, nu0, ne1, nl1, nk1, nt1, nu1, ne2, nl2, nk2, nt2, nu2, na2, nb2, ns2, ne3, nl3, nk3, nt3, nu3, na3, nb3, ns3, ne4, nl4, nk4, nt4, nu4, na4, nb4, ns4, ne5, nl5, nk5, nt5, nu5, na5, nb5, nm5, nn5, ns5, ne6, nl6, nk6, nt6, nu6, na6, nb6, ns6, ne7, nl7, nk7, nt7, nu7, na7, nb7, ns7, ne8, nl8, nk8, nt8, nu8, na8, nb8, ns8, ne9, nl9, nk9, nt9, nu9, na9, nb9, ns9, ne10, nl10, nk10, nt10, nu10, na10, nb10, nm10, nn10, ns10, ne16, nl16, nk16, nt16, nu16, na16, nb16, ns16, ne18, nl18, nk18, nt18, nu18, na18, nb18, ns18, ne20, nl20, nk20, nt20, nu20, na20, nb20, ns20, ne30, nl30, nk30, nt30, nu30, na30, nb30, ns30, ne32, nl32, nk32, nt32, nu32, na32, nb32, ns32, ne40, nl40, nk40, nt40, nu40, na40, nb40, nm40, nn40, ns40, ne48, nl48, nk48, nt48, nu48, na48, nb48, ns48, ne56, nl56, nk56, nt56, nu56, na56, nb56, ns56, ne57, nl57, nk57, nt57, nu57, na57, nb57, ns57, ne59, nl59, nk59, nt59, nu59, na59, nb59, ns59, ne96, nl96, nk96, nt96, nu96, na96, nb96, ns96, ne97, nl97, nk97, nt97, nu97, na97, nb97, ns97, ne98, nl98, nk98, nt98, nu98, na98, nb98, ns98, ne99, nl99, nk99, nt99, nu99, na99, nb99, ns99, ne100, nl100, nk100, nt100, nu100, na100, nb100, ns100, ne101, nl101, nk101, nt101, nu101, na101, nb101, ns101, ne102, nl102, nk102, nt102, nu102, na102, nb102, ns102, ne122, nl122, nk122, nt122, nu122, na122, nb122, ns122, ne250, nl250, nk250, nt250, nu250, na250, nb250, ns250, ne255, nl255, nk255, nt255, nu255, na255, nb255, ns255, ne1000, nl1000, nk1000, nt1000, nu1000, na1000, nb1000, ns1000, npred, opt_b, ite_true, ite_false, n10, n01, eq_self, c_isShelf_i hp, c_isShelf_i hs, c_shelf hp, c_shelf hs, (c_row_i ht ec).2, key_m ed, (c_row_i ht ec).1, row_m ed, ref_4, b2_s]
            rfl
          · unfold f_X6_copy f_X6_copy_b85 f_X6_copy_b103
            rw [w_6, wi_0_7 p0 hp, bind_s, if_neg (by decide), w_6, wi_0_7 s0 hs, bind_s, if_neg (by decide), Lp, bind_s, E4.1, ep, if_neg (sml t ht), Ls, bind_s, E4.2, es, if_neg (by decide), (m_row_i hp ht (E4.1.trans ep)).2, bind_s, if_neg (by decide), (m_row_n (n := 6) hs (Nat.le_refl _) (i := 2) (E4.2.trans es)).2, bind_s, if_pos rfl, bind_s, if_neg (neg t ht), bind_s, if_neg (by decide), nof_4, b2_s]
            rfl
        · have ed := b1.trans es
          have top : ∀ τ : St, τ.1 94 p = nI t → τ.1 94 s = nI u → f_X6_copy τ 93 (nI p) (nI s) i j n = if t = u then f_X6_copy_b85 τ 93 (nI p) (nI s) i j n else f_X6_copy_b78 τ 93 := by
            intro τ e1 e2
            unfold f_X6_copy
            rw [w_6, wi_0_7 p0 hp, bind_s, if_neg (by decide), w_6, wi_0_7 s0 hs, bind_s, if_neg (by decide), Lp, bind_s, e1, if_neg (sml t ht), Ls, bind_s, e2, if_neg (sml u hu), (m_row_i hp ht e1).2, bind_s, if_neg (by decide), (m_row_i hs hu e2).2, bind_s, if_neg (by decide), bind_s, bind_s]
            by_cases e : t = u
            · rw [if_pos (by rw [e]), if_pos e]
            · rw [if_neg (fun z => e (nI_inj (by omega) (by omega) z)), if_neg e]
          by_cases e : t = u
          · subst e
            have ctop : f_X5_copy σ 0 (nI p) (nI s) i j n = (f_X2_hasPart σ (21 + 2 * p) i n).bind fun v_108 => (if v_108 = 0 then (f_X5_copy_b126 σ 0) else ((f_X2_hasPart σ (21 + 2 * s) j n).bind fun v_120 => (if v_120 = 0 then (f_X5_copy_b126 σ 0) else ((cpJ σ (21 + 2 * p + 1) i (21 + 2 * s + 1) j n).bind fun s_148 => (some (n, s_148)))))) := by
              unfold f_X5_copy
              rw [c_isShelf_i hp, bind_s, if_neg (by decide), c_isShelf_i hs, bind_s, if_neg (by decide), c_shelf hp, bind_s, c_shelf hs, bind_s, (c_row_i ht ec).2, bind_s, if_pos rfl, (c_row_i hu ed).2, bind_s, if_pos rfl, (c_row_i ht ec).1, bind_s, if_neg (by decide), (c_row_i hu ed).1, bind_s, if_neg (by decide), ec, ed, if_pos rfl]
            have mtop : ∀ τ : St, τ.1 94 p = nI t → τ.1 94 s = nI t → τ.1 95 p = nI zp → τ.1 95 s = nI zq → f_X6_copy τ 93 (nI p) (nI s) i j n = (if n < 0 then (f_X6_copy_b159 τ 93) else (if i < 0 then (f_X6_copy_b159 τ 93) else (if j < 0 then (f_X6_copy_b159 τ 93) else (if 0 < (lg_cmp ((Int32.toInt64 i) + (Int32.toInt64 n)) (Int32.toInt64 (nI zp))) then (f_X6_copy_b159 τ 93) else (if (lg_cmp ((Int32.toInt64 j) + (Int32.toInt64 n)) (Int32.toInt64 (nI zq))) ≤ 0 then (if nI p = nI s then (if j ≤ i then (f_X6_copy_b226 τ 93 (nI p) (nI s) i j n) else (f_X6_copy_l183 FU τ 93 (nI p) (nI s) i j n (n - 1))) else (f_X6_copy_b226 τ 93 (nI p) (nI s) i j n)) else (f_X6_copy_b159 τ 93)))))) := by
              intro τ e1 e2 e3 e4
              rw [top τ e1 e2, if_pos rfl]
              unfold f_X6_copy_b85
              rw [Lp, bind_s, e1, if_neg (neg t ht), Ls, bind_s, e2, if_pos (pos t ht), Zp, bind_s, e3, Zs, bind_s, e4, bind_s]
            have bad : f_X5_copy σ 0 (nI p) (nI s) i j n = f_X5_copy_b126 σ 0 → f_X6_copy (R1 σ 0) 93 (nI p) (nI s) i j n = f_X6_copy_b159 (R1 σ 0) 93 → Agr (fun u => f_X5_copy u 0 (nI p) (nI s) i j n) (fun u => f_X6_copy u 93 (nI p) (nI s) i j n) σ := fun h1 h2 => by
              refine Agr.ref H 0 (by decide) ?_ (fun hm' hf => ?_)
              · show f_X5_copy σ 0 (nI p) (nI s) i j n = _
                rw [h1]
                unfold f_X5_copy_b126
                rw [ref_2, b2_s]
                rfl
              · show f_X6_copy (R1 σ 0) 93 (nI p) (nI s) i j n = _
                rw [h2]
                unfold f_X6_copy_b159
                rw [nof_2, b2_s]
                rfl
            have mR := mtop (R1 σ 0) (E2.1.trans ep) (E2.2.1.trans es) E2.2.2.1 E2.2.2.2
            by_cases n0 : n < 0
            · refine bad ?_ ?_
              · rw [ctop, c_part_n (Or.inl n0), bind_s, if_pos rfl]
              · rw [mR, if_pos n0]
            · by_cases i0 : i < 0
              · refine bad ?_ ?_
                · rw [ctop, c_part_n (Or.inr i0), bind_s, if_pos rfl]
                · rw [mR, if_neg n0, if_pos i0]
              · by_cases j0 : j < 0
                · refine bad ?_ ?_
                  · rw [ctop, c_part_n (i := j) (Or.inr j0)]
                    obtain ⟨n', hn', rfl⟩ := to_nI n0
                    obtain ⟨i', hi', rfl⟩ := to_nI i0
                    rw [c_part (a2.trans a4) zp40 hi' hn', bind_s, ifz]
                    split <;> rfl
                  · rw [mR, if_neg n0, if_neg i0, if_pos j0]
                · obtain ⟨n', hn', rfl⟩ := to_nI n0
                  obtain ⟨i', hi', rfl⟩ := to_nI i0
                  obtain ⟨j', hj', rfl⟩ := to_nI j0
                  rw [c_part (a2.trans a4) zp40 hi' hn', bind_s, ifz, c_part (b2'.trans b4) zq40 hj' hn', bind_s, ifz] at ctop
                  by_cases c1 : i' + n' ≤ zp
                  · rw [if_pos c1] at ctop
                    by_cases c2 : j' + n' ≤ zq
                    · rw [if_pos c2] at ctop
                      have lp : ln (21 + 2 * p + 1) = 40 := by rw [sh_a]; exact ln_s p hp
                      have lq : ln (21 + 2 * s + 1) = 40 := by rw [sh_a]; exact ln_s s hs
                      rw [cpJ_n (by rw [lp]; omega) (by rw [lq]; omega), bind_s, sh_a, sh_a] at ctop
                      let σ1 := setAJ σ (22 + 2 * s) (va_cpy (σ.2 (22 + 2 * p)) (σ.2 (22 + 2 * s)) i' j' n')
                      have ml : ∃ σ2, f_X6_copy σ1 93 (nI p) (nI s) (nI i') (nI j') (nI n') = some (nI n', σ2) ∧ Cpd σ1 σ2 (40 * p + i') (40 * s + j') n' := by
                        have m1 := mtop σ1 ep es a4 b4
                        rw [if_neg n0, if_neg i0, if_neg j0, if_neg (fun z => by have := (lg_p hi' hn' (by omega)).mp z; omega), if_pos ((lg_q hj' hn' (by omega)).mpr c2)] at m1
                        rw [m1]
                        by_cases ps : p = s
                        · subst ps
                          rw [if_pos rfl]
                          by_cases ji : j' ≤ i'
                          · rw [if_pos (nI_le ji hi')]
                            exact m_fwd hp hp (by omega) (by omega) (Or.inr ji)
                          · rw [if_neg (nI_ge (by omega) hj')]
                            exact m_bwd hp (by omega) (by omega) (by omega)
                        · rw [if_neg (fun z => ps (nI_inj (by omega) (by omega) z))]
                          exact m_fwd hp hs (by omega) (by omega) (Or.inl ps)
                      obtain ⟨σ2, v1, v2, v3⟩ := ml
                      refine Agr.sh (r := nI n') (σ1 := σ1) (σ2 := σ2) (s := s) H hs ctop (fun a k e => rfl) (fun a k e => by show (setAJ σ _ _).2 a k = _; rw [setAJ_n e]) v1 (fun a k e => by rw [v2]) (fun a k e => by rw [v3, if_neg (by omega)]) ⟨?_, ?_, ?_, ?_, fun k hk => ?_⟩
                      · rw [v2]; exact b1
                      · rw [v2]; exact b2'
                      · rw [v2]; exact Or.inr (Or.inl ⟨t, ht, es⟩)
                      · rw [v2]; exact ⟨zq, zq40, b4⟩
                      · rw [v3, if_neg (by omega), v3]
                        show (setAJ σ _ _).2 (22 + 2 * s) k = if _ then (setAJ σ _ _).2 96 _ else (setAJ σ _ _).2 96 _
                        rw [setAJ_s, setAJ_n (by omega)]
                        unfold va_cpy
                        by_cases c : j' ≤ k ∧ k < j' + n'
                        · rw [if_pos c, if_pos (by omega), a5 _ (by omega)]
                          exact congrArg (σ.2 96) (by omega)
                        · rw [if_neg c, if_neg (by omega), b5 k hk]
                    · rw [if_neg c2] at ctop
                      refine bad ctop ?_
                      rw [mR, if_neg n0, if_neg i0, if_neg j0, if_neg (fun z => by have := (lg_p hi' hn' (by omega)).mp z; omega), if_neg (fun z => c2 ((lg_q hj' hn' (by omega)).mp z))]
                  · rw [if_neg c1] at ctop
                    refine bad ctop ?_
                    rw [mR, if_neg n0, if_neg i0, if_neg j0, if_pos ((lg_p hi' hn' (by omega)).mpr (by omega))]
          · refine Agr.ref H 1 (by decide) ?_ (fun hm' hf => ?_)
            · unfold f_X5_copy
              rw [c_isShelf_i hp, bind_s, if_neg (by decide), c_isShelf_i hs, bind_s, if_neg (by decide), c_shelf hp, bind_s, c_shelf hs, bind_s, (c_row_i ht ec).2, bind_s, if_pos rfl, (c_row_i hu ed).2, bind_s, if_pos rfl, (c_row_i ht ec).1, bind_s, if_neg (by decide), (c_row_i hu ed).1, bind_s, if_neg (by decide), ec, ed, if_neg (fun z => e (nI_inj (by omega) (by omega) z)), ref_3, b2_s]
              rfl
            · show f_X6_copy (R1 σ 1) 93 (nI p) (nI s) i j n = _
              rw [top _ (E3.1.trans ep) (E3.2.trans es), if_neg e]
              unfold f_X6_copy_b78
              rw [nof_3, b2_s]
              rfl
        · have ed := b1.trans es
          refine Agr.ref H 1 (by decide) ?_ (fun hm' hf => ?_)
          · unfold f_X5_copy f_X5_copy_b53
            simp (disch := omega) only [nle, nlt, neq, neqm, nmeq, nlem, nI_add, pk_mul, nI_1, ne0, nl0, nk0, nt0, nu0, ne1, nl1, nk1, nt1, nu1, ne2, nl2, nk2, nt2, nu2, na2, nb2, ns2, ne3, nl3, nk3, nt3, nu3, na3, nb3, ns3, ne4, nl4, nk4, nt4, nu4, na4, nb4, ns4, ne5, nl5, nk5, nt5, nu5, na5, nb5, nm5, nn5, ns5, ne6, nl6, nk6, nt6, nu6, na6, nb6, ns6, ne7, nl7, nk7, nt7, nu7, na7, nb7, ns7, ne8, nl8, nk8, nt8, nu8, na8, nb8, ns8, ne9, nl9, nk9, nt9, nu9, na9, nb9, ns9, ne10, nl10, nk10, nt10, nu10, na10, nb10, nm10, nn10, ns10, ne16, nl16, nk16, nt16, nu16, na16, nb16, ns16, ne18, nl18, nk18, nt18, nu18, na18, nb18, ns18, ne20, nl20, nk20, nt20, nu20, na20, nb20, ns20, ne30, nl30, nk30, nt30, nu30, na30, nb30, ns30, ne32, nl32, nk32, nt32, nu32, na32, nb32, ns32, ne40, nl40, nk40, nt40, nu40, na40, nb40, nm40, nn40, ns40, ne48, nl48, nk48, nt48, nu48, na48, nb48, ns48, ne56, nl56, nk56, nt56, nu56, na56, nb56, ns56, ne57, nl57, nk57, nt57, nu57, na57, nb57, ns57, ne59, nl59, nk59, nt59, nu59, na59, nb59, ns59, ne96, nl96, nk96, nt96, nu96, na96, nb96, ns96, ne97, nl97, nk97, nt97, nu97, na97, nb97, ns97, ne98, nl98, nk98, nt98, nu98, na98, nb98, ns98, ne99, nl99, nk99, nt99, nu99, na99, nb99, ns99, ne100, nl100, nk100, nt100, nu100, na100, nb100, ns100, ne101, nl101, nk101, nt101, nu101, na101, nb101, ns101, ne102, nl102, nk102, nt102, nu102, na102, nb102, ns102, ne122, nl122, nk122, nt122, nu122, na122, nb122, ns122, ne250, nl250, nk250, nt250, nu250, na250, nb250, ns250, ne255, nl255, nk255, nt255, nu255, na255, nb255, ns255, ne1000, nl1000, nk1000, nt1000, nu1000, na1000, nb1000, ns1000, npred, opt_b, ite_true, ite_false, n10, n01, eq_self, c_isShelf_i hp, c_isShelf_i hs, c_shelf hp, c_shelf hs, (c_row_i ht ec).2, key_i (show k < 6 by omega) ed, ref_3, b2_s]
            rfl
          · unfold f_X6_copy f_X6_copy_b78
            rw [w_6, wi_0_7 p0 hp, bind_s, if_neg (by decide), w_6, wi_0_7 s0 hs, bind_s, if_neg (by decide), Lp, bind_s, E3.1, ep, if_neg (sml t ht), Ls, bind_s, E3.2, es, if_pos (big k (by omega)), nof_3, b2_s]
            rfl
      · have ec := a1.trans ep
        refine Agr.ref H 1 (by decide) ?_ (fun hm' hf => ?_)
        · unfold f_X5_copy f_X5_copy_b53
          simp (disch := omega) only [nle, nlt, neq, neqm, nmeq, nlem, nI_add, pk_mul, nI_1, ne0, nl0, nk0, nt0, nu0, ne1, nl1, nk1, nt1, nu1, ne2, nl2, nk2, nt2, nu2, na2, nb2, ns2, ne3, nl3, nk3, nt3, nu3, na3, nb3, ns3, ne4, nl4, nk4, nt4, nu4, na4, nb4, ns4, ne5, nl5, nk5, nt5, nu5, na5, nb5, nm5, nn5, ns5, ne6, nl6, nk6, nt6, nu6, na6, nb6, ns6, ne7, nl7, nk7, nt7, nu7, na7, nb7, ns7, ne8, nl8, nk8, nt8, nu8, na8, nb8, ns8, ne9, nl9, nk9, nt9, nu9, na9, nb9, ns9, ne10, nl10, nk10, nt10, nu10, na10, nb10, nm10, nn10, ns10, ne16, nl16, nk16, nt16, nu16, na16, nb16, ns16, ne18, nl18, nk18, nt18, nu18, na18, nb18, ns18, ne20, nl20, nk20, nt20, nu20, na20, nb20, ns20, ne30, nl30, nk30, nt30, nu30, na30, nb30, ns30, ne32, nl32, nk32, nt32, nu32, na32, nb32, ns32, ne40, nl40, nk40, nt40, nu40, na40, nb40, nm40, nn40, ns40, ne48, nl48, nk48, nt48, nu48, na48, nb48, ns48, ne56, nl56, nk56, nt56, nu56, na56, nb56, ns56, ne57, nl57, nk57, nt57, nu57, na57, nb57, ns57, ne59, nl59, nk59, nt59, nu59, na59, nb59, ns59, ne96, nl96, nk96, nt96, nu96, na96, nb96, ns96, ne97, nl97, nk97, nt97, nu97, na97, nb97, ns97, ne98, nl98, nk98, nt98, nu98, na98, nb98, ns98, ne99, nl99, nk99, nt99, nu99, na99, nb99, ns99, ne100, nl100, nk100, nt100, nu100, na100, nb100, ns100, ne101, nl101, nk101, nt101, nu101, na101, nb101, ns101, ne102, nl102, nk102, nt102, nu102, na102, nb102, ns102, ne122, nl122, nk122, nt122, nu122, na122, nb122, ns122, ne250, nl250, nk250, nt250, nu250, na250, nb250, ns250, ne255, nl255, nk255, nt255, nu255, na255, nb255, ns255, ne1000, nl1000, nk1000, nt1000, nu1000, na1000, nb1000, ns1000, npred, opt_b, ite_true, ite_false, n10, n01, eq_self, c_isShelf_i hp, c_isShelf_i hs, c_shelf hp, c_shelf hs, key_i (show k < 6 by omega) ec, ref_3, b2_s]
          rfl
        · unfold f_X6_copy f_X6_copy_b78
          rw [w_6, wi_0_7 p0 hp, bind_s, if_neg (by decide), w_6, wi_0_7 s0 hs, bind_s, if_neg (by decide), Lp, bind_s, E3.1, ep, if_pos (big k (by omega)), nof_3, b2_s]
          rfl
    · refine Agr.ref H 0 (by decide) ?_ (fun hm' hf => ?_)
      · unfold f_X5_copy f_X5_copy_b16
        simp (disch := omega) only [nle, nlt, neq, neqm, nmeq, nlem, nI_add, pk_mul, nI_1, ne0, nl0, nk0, nt0, nu0, ne1, nl1, nk1, nt1, nu1, ne2, nl2, nk2, nt2, nu2, na2, nb2, ns2, ne3, nl3, nk3, nt3, nu3, na3, nb3, ns3, ne4, nl4, nk4, nt4, nu4, na4, nb4, ns4, ne5, nl5, nk5, nt5, nu5, na5, nb5, nm5, nn5, ns5, ne6, nl6, nk6, nt6, nu6, na6, nb6, ns6, ne7, nl7, nk7, nt7, nu7, na7, nb7, ns7, ne8, nl8, nk8, nt8, nu8, na8, nb8, ns8, ne9, nl9, nk9, nt9, nu9, na9, nb9, ns9, ne10, nl10, nk10, nt10, nu10, na10, nb10, nm10, nn10, ns10, ne16, nl16, nk16, nt16, nu16, na16, nb16, ns16, ne18, nl18, nk18, nt18, nu18, na18, nb18, ns18, ne20, nl20, nk20, nt20, nu20, na20, nb20, ns20, ne30, nl30, nk30, nt30, nu30, na30, nb30, ns30, ne32, nl32, nk32, nt32, nu32, na32, nb32, ns32, ne40, nl40, nk40, nt40, nu40, na40, nb40, nm40, nn40, ns40, ne48, nl48, nk48, nt48, nu48, na48, nb48, ns48, ne56, nl56, nk56, nt56, nu56, na56, nb56, ns56, ne57, nl57, nk57, nt57, nu57, na57, nb57, ns57, ne59, nl59, nk59, nt59, nu59, na59, nb59, ns59, ne96, nl96, nk96, nt96, nu96, na96, nb96, ns96, ne97, nl97, nk97, nt97, nu97, na97, nb97, ns97, ne98, nl98, nk98, nt98, nu98, na98, nb98, ns98, ne99, nl99, nk99, nt99, nu99, na99, nb99, ns99, ne100, nl100, nk100, nt100, nu100, na100, nb100, ns100, ne101, nl101, nk101, nt101, nu101, na101, nb101, ns101, ne102, nl102, nk102, nt102, nu102, na102, nb102, ns102, ne122, nl122, nk122, nt122, nu122, na122, nb122, ns122, ne250, nl250, nk250, nt250, nu250, na250, nb250, ns250, ne255, nl255, nk255, nt255, nu255, na255, nb255, ns255, ne1000, nl1000, nk1000, nt1000, nu1000, na1000, nb1000, ns1000, npred, opt_b, ite_true, ite_false, n10, n01, eq_self, c_isShelf_i hp, c_isShelf_o q1, ref_2, b2_s]
        rfl
      · unfold f_X6_copy f_X6_copy_b20
        simp (disch := omega) only [nle, nlt, neq, neqm, nmeq, nlem, nI_add, pk_mul, nI_1, ne0, nl0, nk0, nt0, nu0, ne1, nl1, nk1, nt1, nu1, ne2, nl2, nk2, nt2, nu2, na2, nb2, ns2, ne3, nl3, nk3, nt3, nu3, na3, nb3, ns3, ne4, nl4, nk4, nt4, nu4, na4, nb4, ns4, ne5, nl5, nk5, nt5, nu5, na5, nb5, nm5, nn5, ns5, ne6, nl6, nk6, nt6, nu6, na6, nb6, ns6, ne7, nl7, nk7, nt7, nu7, na7, nb7, ns7, ne8, nl8, nk8, nt8, nu8, na8, nb8, ns8, ne9, nl9, nk9, nt9, nu9, na9, nb9, ns9, ne10, nl10, nk10, nt10, nu10, na10, nb10, nm10, nn10, ns10, ne16, nl16, nk16, nt16, nu16, na16, nb16, ns16, ne18, nl18, nk18, nt18, nu18, na18, nb18, ns18, ne20, nl20, nk20, nt20, nu20, na20, nb20, ns20, ne30, nl30, nk30, nt30, nu30, na30, nb30, ns30, ne32, nl32, nk32, nt32, nu32, na32, nb32, ns32, ne40, nl40, nk40, nt40, nu40, na40, nb40, nm40, nn40, ns40, ne48, nl48, nk48, nt48, nu48, na48, nb48, ns48, ne56, nl56, nk56, nt56, nu56, na56, nb56, ns56, ne57, nl57, nk57, nt57, nu57, na57, nb57, ns57, ne59, nl59, nk59, nt59, nu59, na59, nb59, ns59, ne96, nl96, nk96, nt96, nu96, na96, nb96, ns96, ne97, nl97, nk97, nt97, nu97, na97, nb97, ns97, ne98, nl98, nk98, nt98, nu98, na98, nb98, ns98, ne99, nl99, nk99, nt99, nu99, na99, nb99, ns99, ne100, nl100, nk100, nt100, nu100, na100, nb100, ns100, ne101, nl101, nk101, nt101, nu101, na101, nb101, ns101, ne102, nl102, nk102, nt102, nu102, na102, nb102, ns102, ne122, nl122, nk122, nt122, nu122, na122, nb122, ns122, ne250, nl250, nk250, nt250, nu250, na250, nb250, ns250, ne255, nl255, nk255, nt255, nu255, na255, nb255, ns255, ne1000, nl1000, nk1000, nt1000, nu1000, na1000, nb1000, ns1000, npred, opt_b, ite_true, ite_false, n10, n01, eq_self, w_6, wi_0_7 p0 hp, wo_0_7 q1, nof_2, b2_s]
        rfl
  · refine Agr.ref H 0 (by decide) ?_ (fun hm' hf => ?_)
    · unfold f_X5_copy f_X5_copy_b16
      simp (disch := omega) only [nle, nlt, neq, neqm, nmeq, nlem, nI_add, pk_mul, nI_1, ne0, nl0, nk0, nt0, nu0, ne1, nl1, nk1, nt1, nu1, ne2, nl2, nk2, nt2, nu2, na2, nb2, ns2, ne3, nl3, nk3, nt3, nu3, na3, nb3, ns3, ne4, nl4, nk4, nt4, nu4, na4, nb4, ns4, ne5, nl5, nk5, nt5, nu5, na5, nb5, nm5, nn5, ns5, ne6, nl6, nk6, nt6, nu6, na6, nb6, ns6, ne7, nl7, nk7, nt7, nu7, na7, nb7, ns7, ne8, nl8, nk8, nt8, nu8, na8, nb8, ns8, ne9, nl9, nk9, nt9, nu9, na9, nb9, ns9, ne10, nl10, nk10, nt10, nu10, na10, nb10, nm10, nn10, ns10, ne16, nl16, nk16, nt16, nu16, na16, nb16, ns16, ne18, nl18, nk18, nt18, nu18, na18, nb18, ns18, ne20, nl20, nk20, nt20, nu20, na20, nb20, ns20, ne30, nl30, nk30, nt30, nu30, na30, nb30, ns30, ne32, nl32, nk32, nt32, nu32, na32, nb32, ns32, ne40, nl40, nk40, nt40, nu40, na40, nb40, nm40, nn40, ns40, ne48, nl48, nk48, nt48, nu48, na48, nb48, ns48, ne56, nl56, nk56, nt56, nu56, na56, nb56, ns56, ne57, nl57, nk57, nt57, nu57, na57, nb57, ns57, ne59, nl59, nk59, nt59, nu59, na59, nb59, ns59, ne96, nl96, nk96, nt96, nu96, na96, nb96, ns96, ne97, nl97, nk97, nt97, nu97, na97, nb97, ns97, ne98, nl98, nk98, nt98, nu98, na98, nb98, ns98, ne99, nl99, nk99, nt99, nu99, na99, nb99, ns99, ne100, nl100, nk100, nt100, nu100, na100, nb100, ns100, ne101, nl101, nk101, nt101, nu101, na101, nb101, ns101, ne102, nl102, nk102, nt102, nu102, na102, nb102, ns102, ne122, nl122, nk122, nt122, nu122, na122, nb122, ns122, ne250, nl250, nk250, nt250, nu250, na250, nb250, ns250, ne255, nl255, nk255, nt255, nu255, na255, nb255, ns255, ne1000, nl1000, nk1000, nt1000, nu1000, na1000, nb1000, ns1000, npred, opt_b, ite_true, ite_false, n10, n01, eq_self, c_isShelf_o q, ref_2, b2_s]
      rfl
    · unfold f_X6_copy f_X6_copy_b20
      simp (disch := omega) only [nle, nlt, neq, neqm, nmeq, nlem, nI_add, pk_mul, nI_1, ne0, nl0, nk0, nt0, nu0, ne1, nl1, nk1, nt1, nu1, ne2, nl2, nk2, nt2, nu2, na2, nb2, ns2, ne3, nl3, nk3, nt3, nu3, na3, nb3, ns3, ne4, nl4, nk4, nt4, nu4, na4, nb4, ns4, ne5, nl5, nk5, nt5, nu5, na5, nb5, nm5, nn5, ns5, ne6, nl6, nk6, nt6, nu6, na6, nb6, ns6, ne7, nl7, nk7, nt7, nu7, na7, nb7, ns7, ne8, nl8, nk8, nt8, nu8, na8, nb8, ns8, ne9, nl9, nk9, nt9, nu9, na9, nb9, ns9, ne10, nl10, nk10, nt10, nu10, na10, nb10, nm10, nn10, ns10, ne16, nl16, nk16, nt16, nu16, na16, nb16, ns16, ne18, nl18, nk18, nt18, nu18, na18, nb18, ns18, ne20, nl20, nk20, nt20, nu20, na20, nb20, ns20, ne30, nl30, nk30, nt30, nu30, na30, nb30, ns30, ne32, nl32, nk32, nt32, nu32, na32, nb32, ns32, ne40, nl40, nk40, nt40, nu40, na40, nb40, nm40, nn40, ns40, ne48, nl48, nk48, nt48, nu48, na48, nb48, ns48, ne56, nl56, nk56, nt56, nu56, na56, nb56, ns56, ne57, nl57, nk57, nt57, nu57, na57, nb57, ns57, ne59, nl59, nk59, nt59, nu59, na59, nb59, ns59, ne96, nl96, nk96, nt96, nu96, na96, nb96, ns96, ne97, nl97, nk97, nt97, nu97, na97, nb97, ns97, ne98, nl98, nk98, nt98, nu98, na98, nb98, ns98, ne99, nl99, nk99, nt99, nu99, na99, nb99, ns99, ne100, nl100, nk100, nt100, nu100, na100, nb100, ns100, ne101, nl101, nk101, nt101, nu101, na101, nb101, ns101, ne102, nl102, nk102, nt102, nu102, na102, nb102, ns102, ne122, nl122, nk122, nt122, nu122, na122, nb122, ns122, ne250, nl250, nk250, nt250, nu250, na250, nb250, ns250, ne255, nl255, nk255, nt255, nu255, na255, nb255, ns255, ne1000, nl1000, nk1000, nt1000, nu1000, na1000, nb1000, ns1000, npred, opt_b, ite_true, ite_false, n10, n01, eq_self, w_6, wo_0_7 q, nof_2, b2_s]
      rfl
end COPY
