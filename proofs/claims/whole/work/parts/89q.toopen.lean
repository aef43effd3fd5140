section TOOPEN
variable {σ : St} {S : HS}
/-- the shallowest row by which a key fits a lock -/
def tgt (S : HS) (k l p : Nat) : Nat := max (cu S k p) (as S l p - if ki S k = 1 ∧ p = ow S k % pl S then 1 else 0)
theorem tgt_le (I : Inv S) (k l p : Nat) : tgt S k l p ≤ dp S := by
  have c4 := ((I.2.1 k).2.2 p).1
  have a4 := (I.2.2.2.1 l p).1
  unfold tgt
  exact Nat.max_le.mpr ⟨c4, by omega⟩
theorem tgt_fit (I : Inv S) (k l p : Nat) : as S l p ≤ dep (pl S) (dp S) (ki S k) (ow S k) (tgt S k l) p := by
  have a4 := (I.2.2.2.1 l p).1
  have t4 := tgt_le I k l p
  have h1 : as S l p - (if ki S k = 1 ∧ p = ow S k % pl S then 1 else 0) ≤ tgt S k l p := Nat.le_max_right _ _
  unfold dep
  by_cases q : ki S k = 1 ∧ p = ow S k % pl S
  · rw [if_pos q] at h1
    by_cases q2 : tgt S k l p < dp S
    · rw [if_pos ⟨q2, q⟩]; omega
    · rw [if_neg (fun z => q2 z.1)]; omega
  · rw [if_neg q] at h1
    rw [if_neg (fun z => q z.2)]
    omega
theorem tgt_min {k l p : Nat} {row : Nat → Nat} (hr : cu S k p ≤ row p) (hf : as S l p ≤ dep (pl S) (dp S) (ki S k) (ow S k) row p) : tgt S k l p ≤ row p := by
  unfold tgt
  refine Nat.max_le.mpr ⟨hr, ?_⟩
  unfold dep at hf
  by_cases q : ki S k = 1 ∧ p = ow S k % pl S
  · rw [if_pos q]
    by_cases q2 : row p < dp S
    · rw [if_pos ⟨q2, q⟩] at hf; omega
    · rw [if_neg (fun z => q2 z.1)] at hf; omega
  · rw [if_neg q]
    rw [if_neg (fun z => q z.2)] at hf
    omega
theorem brk_m {P T k o : Nat} {r r' : Nat → Nat} (h : ∀ p, p < P → r p ≤ r' p) (hb : brk P T k o r' = false) : brk P T k o r = false := by
  unfold brk at *
  have := of_decide_eq_false hb
  have h2 := sm_mono h
  exact decide_eq_false (by omega)
/-- coins to be spent until it opens -/
def coins (S : HS) (k l : Nat) : Option Nat := if op S k l then some 0 else if ki S k = 4 then none else if opc S (ki S k) (ow S k) (tgt S k l) l then some (fcr S k (tgt S k l)) else none
def cfc (S : HS) (k r : Nat) : Nat := fcr S k (dgS S r)
theorem fcr_m {k : Nat} {r r' : Nat → Nat} (h : ∀ p, p < pl S → r p ≤ r' p) : fcr S k r ≤ fcr S k r' := sm_mono fun p hp => fc_m (h p hp)
theorem fcr_c {k : Nat} {r r' : Nat → Nat} (h : ∀ p, p < pl S → r p = r' p) : fcr S k r = fcr S k r' := sm_c fun p hp => by rw [h p hp]
theorem row_of (I : Inv S) {row : Nat → Nat} (h : ∀ p, p < pl S → row p ≤ dp S) : ∃ r, r < MR S ∧ ∀ p, p < pl S → dgS S r p = row p := ⟨vl (dp S + 1) row (pl S), vl_lt fun p hp => Nat.lt_succ_of_le (h p hp), fun p hp => dg_vl (Nat.succ_pos _) (fun p hp => Nat.lt_succ_of_le (h p hp)) hp⟩
theorem vd_iff {k : Nat} {row : Nat → Nat} : vd S k row = true ↔ ∀ p, p < pl S → cu S k p ≤ row p ∧ (ki S k = 4 → row p = cu S k p) := by
  unfold vd
  rw [al_iff]
  constructor
  · intro h p hp
    exact of_decide_eq_true (h p hp)
  · intro h p hp
    exact decide_eq_true (h p hp)
/-- if it does not open it as it is, it must by its own cuts -/
theorem own_cuts {k l : Nat} {row : Nat → Nat} (ho : op S k l = false) (hr : ∀ p, p < pl S → cu S k p ≤ row p) (h : opAs S (ki S k) (ow S k) row l = true) : opc S (ki S k) (ow S k) row l = true := by
  unfold opAs at h
  rw [Bool.and_eq_true] at h
  obtain ⟨h1, h2⟩ := h
  have hb : brk (pl S) (tg S) (ki S k) (ow S k) row = false := by
    revert h1
    cases brk (pl S) (tg S) (ki S k) (ow S k) row <;> simp
  have hb' := brk_m hr hb
  cases q : opc S (ki S k) (ow S k) row l
  · rw [q, Bool.false_or] at h2
    exfalso
    unfold op opAs at ho
    rw [hb', h2] at ho
    simp at ho
  · rfl
theorem coins_bst (I : Inv S) (k l : Nat) : (bst (okm S k (some l)) (cfc S k) (MR S)).map (cfc S k) = coins S k l := by
  unfold coins
  have hcu : ∀ p, p < pl S → cu S k p ≤ dp S := fun p _ => ((I.2.1 k).2.2 p).1
  by_cases o : op S k l = true
  · rw [if_pos o]
    obtain ⟨r0, h1, h2⟩ := row_of I hcu
    have ok0 : okm S k (some l) r0 = true := by
      unfold okm
      rw [vd_iff.mpr (fun p hp => by rw [h2 p hp]; exact ⟨Nat.le_refl _, fun _ => rfl⟩), Bool.true_and]
      show opAs S (ki S k) (ow S k) (dgS S r0) l = true
      rw [opAs_c h2]
      exact o
    have c0 : cfc S k r0 = 0 := by
      have : ∀ n, sm (fun p => fc (cu S k p) (cu S k p)) n = 0 := by
        intro n
        induction n with
        | zero => rfl
        | succ n ih => rw [sm, ih, fc_0 (Nat.le_refl _)]
      exact (fcr_c h2).trans (this _)
    cases e : bst (okm S k (some l)) (cfc S k) (MR S) with
    | none =>
      have := bst_none.mp e r0 h1
      rw [ok0] at this
      cases this
    | some b =>
      have := bst_min e r0 h1 ok0
      show some (cfc S k b) = some 0
      rw [show cfc S k b = 0 by omega]
  · have o' : op S k l = false := by
      revert o
      cases op S k l <;> simp
    rw [if_neg o]
    by_cases k4 : ki S k = 4
    · rw [if_pos k4]
      have : bst (okm S k (some l)) (cfc S k) (MR S) = none := bst_none.mpr fun r _ => by
        unfold okm
        cases hv : vd S k (dgS S r)
        · rfl
        · rw [Bool.true_and]
          show opAs S (ki S k) (ow S k) (dgS S r) l = false
          rw [opAs_c (fun p hp => (vd_iff.mp hv p hp).2 k4)]
          exact o'
      rw [this]
      rfl
    · rw [if_neg k4]
      have key : ∀ r, okm S k (some l) r = true → (∀ p, p < pl S → tgt S k l p ≤ dgS S r p) ∧ opc S (ki S k) (ow S k) (tgt S k l) l = true := by
        intro r hr
        unfold okm at hr
        rw [Bool.and_eq_true] at hr
        have hv := vd_iff.mp hr.1
        have hc := own_cuts o' (fun p hp => (hv p hp).1) hr.2
        unfold opc at hc ⊢
        rw [Bool.and_eq_true, Bool.and_eq_true] at hc
        obtain ⟨c1, c2, c3⟩ := hc
        have ht : ∀ p, p < pl S → tgt S k l p ≤ dgS S r p := fun p hp => tgt_min (hv p hp).1 (of_decide_eq_true (al_iff.mp c2 p hp))
        refine ⟨ht, ?_⟩
        have hb : brk (pl S) (tg S) (ki S k) (ow S k) (dgS S r) = false := by
          revert c1
          cases brk (pl S) (tg S) (ki S k) (ow S k) (dgS S r) <;> simp
        rw [brk_m ht hb, c3, show fitb (pl S) (dp S) (ki S k) (ow S k) (tgt S k l) (as S l) = true from al_iff.mpr fun p _ => decide_eq_true (tgt_fit I k l p)]
        rfl
      by_cases t : opc S (ki S k) (ow S k) (tgt S k l) l = true
      · rw [if_pos t]
        obtain ⟨rt, h1, h2⟩ := row_of I (fun p _ => tgt_le I k l p)
        have okt : okm S k (some l) rt = true := by
          unfold okm
          rw [vd_iff.mpr (fun p hp => by rw [h2 p hp]; exact ⟨Nat.le_max_left _ _, fun z => absurd z k4⟩), Bool.true_and]
          show opAs S (ki S k) (ow S k) (dgS S rt) l = true
          rw [opAs_c h2]
          unfold opAs
          rw [t]
          unfold opc at t
          rw [Bool.and_eq_true] at t
          rw [t.1]
          rfl
        have ct : cfc S k rt = fcr S k (tgt S k l) := fcr_c h2
        cases e : bst (okm S k (some l)) (cfc S k) (MR S) with
        | none =>
          have := bst_none.mp e rt h1
          rw [okt] at this
          cases this
        | some b =>
          have m1 := bst_min e rt h1 okt
          have m2 : fcr S k (tgt S k l) ≤ cfc S k b := fcr_m (key b (bst_ok e).2).1
          show some (cfc S k b) = some _
          rw [show cfc S k b = fcr S k (tgt S k l) by omega]
      · rw [if_neg t]
        have : bst (okm S k (some l)) (cfc S k) (MR S) = none := bst_none.mpr fun r _ => by
          cases q : okm S k (some l) r
          · rfl
          · exact absurd (key r q).2 t
        rw [this]
        rfl
def coI (o : Option Nat) : Int32 := match o with
  | none => -1
  | some c => nI c
theorem mx_p {c a : Nat} (hc : c < 2 ^ 30) (ha : a < 2 ^ 30) : mxI (nI c) (nI a - 1) = nI (max c (a - 1)) := by
  by_cases q : a = 0
  · subst q
    unfold mxI
    rw [if_neg (show ¬ nI c < nI 0 - 1 from fun z => ?_)]
    · rw [Nat.max_eq_left (by omega)]
    · have e := Int32.lt_iff_toInt_lt.mp z
      rw [nI_toInt (by omega), pr_toInt (by omega)] at e
      omega
  · rw [npred (by omega), mx_n (by omega) (by omega)]
theorem c_coins (H0 : HC σ 39 S) (I : Inv S) {k l : Nat} (hk : k < 6) (hl : l < nl S) : ∃ σ', f_X4_coinsToOpen σ 5 (nI k) (nI l) = some (coI (coins S k l), σ') ∧ Fr (fun a _ => a = 7) σ σ' := by
  have p5 := I.1.2.1
  have p1 := I.1.1
  have d4 := I.1.2.2.2.1
  have n8 := I.1.2.2.2.2.2.2.2
  have k5 := (I.2.1 k).1
  have o9 := (I.2.1 k).2.1
  unfold f_X4_coinsToOpen coins
  rw [c_keyAt isH39 hk, bind_s, c_oby H0 isH39 I hk, bind_s, hb (by omega), bind_s, bt_m _ hl (by omega), ifz]
  by_cases o : op S k l = true
  · rw [if_pos o, if_pos o]
    exact ⟨σ, rfl, Fr.r σ⟩
  · rw [if_neg o, if_neg o, (H0.2.1 k hk).1]
    by_cases k4 : ki S k = 4
    · rw [if_pos k4, if_pos (by rw [k4]; rfl)]
      exact ⟨σ, rfl, Fr.r σ⟩
    · rw [if_neg k4, if_neg (fun z => k4 (nI_inj (by omega) (by decide) (z.trans l_4))), c_worn (H0.B I) (H0.K I hk), bind_s]
      have gen := lp_0 (P := fun n m => ∀ σ1, Fr (fun a _ => a = 7) σ σ1 → (∀ q, q < m → σ1.1 7 q = nI (tgt S k l q)) → ∃ σ', f_X4_coinsToOpen_l49 n σ1 5 (nI l) (kI 39 k) (if ki S k = 1 then nI (ow S k % pl S) else -1) (nI m) = some (coI (if opc S (ki S k) (ow S k) (tgt S k l) l = true then some (fcr S k (tgt S k l)) else none), σ') ∧ Fr (fun a _ => a = 7) σ σ') (pl S) (by omega) (fun n σ1 f1 h => ?_) (fun n m hm ih σ1 f1 h => ?_)
      · exact gen σ (Fr.r σ) (fun q hq => absurd hq (Nat.not_lt_zero q))
      · have H1 : HC σ1 39 S := H0.cf (f1.w fun a j z => by unfold CF; omega)
        have hr : ∀ q, q < pl S → σ1.1 7 q = nI (tgt S k l q) ∧ tgt S k l q ≤ dp S := fun q hq => ⟨h q hq, tgt_le I k l q⟩
        refine ⟨σ1, ?_, f1⟩
        show f_X4_coinsToOpen_b49 (f_X4_coinsToOpen_l49 n) _ _ _ _ _ _ = _; unfold f_X4_coinsToOpen_b49
        rw [H1.1.1, if_pos (nI_le (Nat.le_refl _) (by omega)), c_obc H1 isH39 I (H1.K I hk) ⟨ln7, fun q hq => (hr q hq).1, fun q hq => (hr q hq).2⟩, bind_s, hb (by omega), bind_s, bt_m _ hl (by omega), ifz]
        by_cases t : opc S (ki S k) (ow S k) (tgt S k l) l = true
        · rw [if_pos t, if_pos t, c_cost H1 I hk hr, bind_s]
          rfl
        · rw [if_neg t, if_neg t]
          rfl
      · have H1 : HC σ1 39 S := H0.cf (f1.w fun a j z => by unfold CF; omega)
        have c4 := ((I.2.1 k).2.2 m).1
        have a4 := (I.2.2.2.1 l m).1
        have hmo := Nat.mod_lt (ow S k) (show 0 < pl S by omega)
        obtain ⟨σ', u1, u2⟩ := ih (setI σ1 7 m (nI (tgt S k l m))) (f1.t (Fr.i rfl)) (fun q hq => by
          by_cases e : q = m
          · rw [e, setI_s]
          · rw [setI_k e]; exact h q (by omega))
        refine ⟨σ', ?_, u2⟩
        show f_X4_coinsToOpen_b49 (f_X4_coinsToOpen_l49 n) _ _ _ _ _ _ = _; unfold f_X4_coinsToOpen_b49
        unfold f_X4_coinsToOpen_b104
        rw [H1.1.1, if_neg (nI_ge hm (by omega)), c_asksAt H1 (show l < 8 by omega) (show m < 5 by omega), bind_s, kI_cut H1 hk (show m < 5 by omega), bind_s]
        by_cases w : ki S k = 1 ∧ m = ow S k % pl S
        · rw [if_pos (show nI m = if ki S k = 1 then nI (ow S k % pl S) else -1 by rw [if_pos w.1, ← w.2]), mx_p (by omega) (by omega), c_put (by rw [ln7]; omega), bind_s, nI_1, bind_s]
          have e : tgt S k l m = max (cu S k m) (as S l m - 1) := by
            unfold tgt
            rw [if_pos w]
          rw [e] at u1
          exact u1
        · have ne : ¬ nI m = if ki S k = 1 then nI (ow S k % pl S) else -1 := fun z => by
            by_cases k1 : ki S k = 1
            · rw [if_pos k1] at z
              exact w ⟨k1, nI_inj (by omega) (by omega) z⟩
            · rw [if_neg k1] at z
              exact nm1_ne m (by omega) z
          rw [if_neg ne, mx_n (by omega) (by omega), c_put (by rw [ln7]; omega), bind_s, nI_1, bind_s]
          have e : tgt S k l m = max (cu S k m) (as S l m) := by
            unfold tgt
            rw [if_neg w, Nat.sub_zero]
          rw [e] at u1
          exact u1
theorem m_coins (H : HM σ S) (I : Inv S) {k l : Nat} (hk : k < nk S) (hl : l < 8) : ∃ σ', f_X6_least σ 93 (nI k) (nI l) = some (coI (coins S k l), σ') ∧ Fr SC σ σ' := by
  obtain ⟨v, σ', u1, u2, u3⟩ := m_least H I hk (some l) (fun l' e => by cases e; exact hl)
  refine ⟨σ', ?_, u3.w fun a j z => by unfold LpF at z; unfold SC; omega⟩
  have e := coins_bst I k l
  have u1' : f_X6_least σ 93 (nI k) (nI l) = some (v, σ') := u1
  rw [u1', ← e]
  rcases u2 with ⟨h1, h2⟩ | ⟨r, h1, h2, -⟩
  · have h1' : bst (okm S k (some l)) (cfc S k) (MR S) = none := h1
    rw [h1', h2]
    rfl
  · have h1' : bst (okm S k (some l)) (cfc S k) (MR S) = some r := h1
    rw [h1', h2]
    rfl
theorem op_toOpen (H : Sm σ S) (x y : Int32) : Agr (fun s => f_X5_toOpen s 0 x y) (fun s => f_X6_toOpen s 93 x y) σ := by
  obtain ⟨hc, hm, I, -⟩ := id H
  have n6 := I.1.2.2.2.2.2.2.1
  have n8 := I.1.2.2.2.2.2.2.2
  by_cases q : inR x 0 (nk S)
  · obtain ⟨k, -, hk, rfl⟩ := q
    by_cases q1 : inR y 0 (nl S)
    · obtain ⟨l, -, hl, rfl⟩ := q1
      obtain ⟨σ1, e1, e2⟩ := c_coins hc I (show k < 6 by omega) hl
      refine Agr.q (σ1 := σ1) (r := coI (coins S k l)) H ?_ (e2.w fun a j z => by unfold SC; omega) (fun H1 => ?_)
      · show f_X5_toOpen σ 0 (nI k) (nI l) = _
        unfold f_X5_toOpen
        rw [c_isKey_i hc I hk, bind_s, if_neg (by decide), c_isLock_i hc I hl, bind_s, if_neg (by decide)]
        exact b2_e e1 rfl
      · obtain ⟨σ2, u1, u2⟩ := m_coins H1.2.1 I hk (show l < 8 by omega)
        refine ⟨σ2, ?_, S, H1.sc u2⟩
        show f_X6_toOpen σ1 93 (nI k) (nI l) = _
        unfold f_X6_toOpen
        rw [m_isKey_i H1.2.1 I hk, bind_s, if_neg (by decide), m_isLock_i H1.2.1 I hl, bind_s, if_neg (by decide)]
        exact b2_e u1 rfl
    · refine Agr.ref H 0 (by decide) ?_ (fun hm' hf => ?_)
      · unfold f_X5_toOpen f_X5_toOpen_b28
        rw [c_isKey_i hc I hk, bind_s, if_neg (by decide), c_isLock_o hc I q1, bind_s, if_pos rfl, ref_2, b2_s]
        rfl
      · unfold f_X6_toOpen f_X6_toOpen_b25
        rw [m_isKey_i hm' I hk, bind_s, if_neg (by decide), m_isLock_o hm' I q1, bind_s, if_pos rfl, nof_2, b2_s]
        rfl
  · refine Agr.ref H 0 (by decide) ?_ (fun hm' hf => ?_)
    · unfold f_X5_toOpen f_X5_toOpen_b28
      rw [c_isKey_o hc I q, bind_s, if_pos rfl, ref_2, b2_s]
      rfl
    · unfold f_X6_toOpen f_X6_toOpen_b25
      rw [m_isKey_o hm' I q, bind_s, if_pos rfl, nof_2, b2_s]
      rfl
/-- keys that can't be filed so -/
def sfe (S : HS) (l k : Nat) : Bool := (coins S k l).isNone
theorem coI_m {o : Option Nat} (h : ∀ c, o = some c → c < 2 ^ 31) : coI o = -1 ↔ o.isNone = true := by
  cases o with
  | none => exact ⟨fun _ => rfl, fun _ => rfl⟩
  | some c =>
    constructor
    · intro z
      exact absurd z (nm1_ne c (h c rfl))
    · intro z
      cases z
theorem coins_lt (I : Inv S) {k l c : Nat} (h : coins S k l = some c) : c ≤ 80 := by
  unfold coins at h
  split at h
  · cases h; omega
  · split at h
    · cases h
    · split at h
      · cases h
        exact fcr_le I (fun p _ => tgt_le I k l p)
      · cases h
theorem c_safe (H0 : HC σ 39 S) (I : Inv S) {l : Nat} (hl : l < nl S) : ∃ σ', f_X4_safeFrom σ 5 (nI l) = some (mk (sfe S l) (nk S), σ') ∧ Fr (fun a _ => a = 7) σ σ' := by
  have n6 := I.1.2.2.2.2.2.2.1
  have gen := lp_0 (P := fun n m => ∀ σ1, Fr (fun a _ => a = 7) σ σ1 → ∃ σ', f_X4_safeFrom_l4 n σ1 5 (nI l) (mk (sfe S l) m) (nI m) = some (mk (sfe S l) (nk S), σ') ∧ Fr (fun a _ => a = 7) σ σ') (nk S) (by omega) (fun n σ1 f1 => ?_) (fun n m hm ih σ1 f1 => ?_)
  · exact gen σ (Fr.r σ)
  · have H1 : HC σ1 39 S := H0.cf (f1.w fun a j z => by unfold CF; omega)
    have h5 := H1.1.2.2.2.2.2.1
    refine ⟨σ1, ?_, f1⟩
    show f_X4_safeFrom_b4 (f_X4_safeFrom_l4 n) _ _ _ _ _ = _; unfold f_X4_safeFrom_b4
    rw [h5, if_pos (nI_le (Nat.le_refl _) (by omega))]
  · have H1 : HC σ1 39 S := H0.cf (f1.w fun a j z => by unfold CF; omega)
    have h5 := H1.1.2.2.2.2.2.1
    obtain ⟨σ2, e1, e2⟩ := c_coins H1 I (show m < 6 by omega) hl
    obtain ⟨σ', u1, u2⟩ := ih σ2 (f1.t e2)
    refine ⟨σ', ?_, u2⟩
    show f_X4_safeFrom_b4 (f_X4_safeFrom_l4 n) _ _ _ _ _ = _; unfold f_X4_safeFrom_b4
    unfold f_X4_safeFrom_b31
    rw [h5, if_neg (nI_ge hm (by omega))]
    refine b2_e e1 ?_
    have hc := coI_m (o := coins S m l) (fun c e => by have := coins_lt I e; omega)
    by_cases q : sfe S l m = true
    · rw [if_pos (hc.mpr q), bind_s, nI_1, bind_s]
      rw [mk_up (sfe S l) q] at u1
      exact u1
    · rw [if_neg (fun z => q (hc.mp z)), nI_1, bind_s]
      rw [mk_un (sfe S l) (by revert q; cases sfe S l m <;> simp)] at u1
      exact u1
theorem m_safe (H0 : HM σ S) (I : Inv S) {l : Nat} (hl : l < 8) : ∃ σ', f_X6_safeOf σ 93 (nI l) = some (mk (sfe S l) (nk S), σ') ∧ Fr SC σ σ' := by
  have n6 := I.1.2.2.2.2.2.2.1
  have gen := lp_0 (P := fun n m => ∀ σ1, Fr SC σ σ1 → ∃ σ', f_X6_safeOf_l4 n σ1 93 (nI l) (mk (sfe S l) m) (nI m) = some (mk (sfe S l) (nk S), σ') ∧ Fr SC σ σ') (nk S) (by omega) (fun n σ1 f1 => ?_) (fun n m hm ih σ1 f1 => ?_)
  · exact gen σ (Fr.r σ)
  · have H1 : HM σ1 S := H0.fr (f1.w fun _ _ => SC_MF)
    refine ⟨σ1, ?_, f1⟩
    show f_X6_safeOf_b4 (f_X6_safeOf_l4 n) _ _ _ _ _ = _; unfold f_X6_safeOf_b4
    rw [H1.1.2.2.2.1, if_pos (nI_le (Nat.le_refl _) (by omega))]
  · have H1 : HM σ1 S := H0.fr (f1.w fun _ _ => SC_MF)
    obtain ⟨σ2, e1, e2⟩ := m_coins H1 I hm hl
    obtain ⟨σ', u1, u2⟩ := ih σ2 (f1.t e2)
    refine ⟨σ', ?_, u2⟩
    show f_X6_safeOf_b4 (f_X6_safeOf_l4 n) _ _ _ _ _ = _; unfold f_X6_safeOf_b4
    unfold f_X6_safeOf_b28
    rw [H1.1.2.2.2.1, if_neg (nI_ge hm (by omega))]
    refine b2_e e1 ?_
    have hc := coI_m (o := coins S m l) (fun c e => by have := coins_lt I e; omega)
    by_cases q : sfe S l m = true
    · rw [if_pos (hc.mpr q), bind_s, nI_1, bind_s]
      rw [mk_up (sfe S l) q] at u1
      exact u1
    · rw [if_neg (fun z => q (hc.mp z)), nI_1, bind_s]
      rw [mk_un (sfe S l) (by revert q; cases sfe S l m <;> simp)] at u1
      exact u1
theorem op_safe (H : Sm σ S) (x : Int32) : Agr (fun s => f_X5_safe s 0 x) (fun s => f_X6_safe s 93 x) σ := by
  obtain ⟨hc, hm, I, -⟩ := id H
  have n8 := I.1.2.2.2.2.2.2.2
  by_cases q : inR x 0 (nl S)
  · obtain ⟨l, -, hl, rfl⟩ := q
    obtain ⟨σ1, e1, e2⟩ := c_safe hc I hl
    refine Agr.q (σ1 := σ1) (r := mk (sfe S l) (nk S)) H ?_ (e2.w fun a j z => by unfold SC; omega) (fun H1 => ?_)
    · show f_X5_safe σ 0 (nI l) = _
      unfold f_X5_safe
      rw [c_isLock_i hc I hl, bind_s, if_neg (by decide)]
      exact b2_e e1 rfl
    · obtain ⟨σ2, u1, u2⟩ := m_safe H1.2.1 I (show l < 8 by omega)
      refine ⟨σ2, ?_, S, H1.sc u2⟩
      show f_X6_safe σ1 93 (nI l) = _
      unfold f_X6_safe
      rw [m_isLock_i H1.2.1 I hl, bind_s, if_neg (by decide)]
      exact b2_e u1 rfl
  · refine Agr.ref H 0 (by decide) ?_ (fun hm' hf => ?_)
    · unfold f_X5_safe
      rw [c_isLock_o hc I q, bind_s, if_pos rfl, ref_2, b2_s]
      rfl
    · unfold f_X6_safe
      rw [m_isLock_o hm' I q, bind_s, if_pos rfl, nof_2, b2_s]
      rfl
theorem safest_lp (H : Sm σ S) : ∃ r σ1, f_X5_safest σ 0 = some (r, σ1) ∧ Fr SC σ σ1 ∧ ∀ σm, HM σm S → ∃ σ2, f_X6_safest σm 93 = some (r, σ2) ∧ Fr SC σm σ2 := by
  have I := H.2.2.1
  have n6 := I.1.2.2.2.2.2.2.1
  have n8 := I.1.2.2.2.2.2.2.2
  have gen := lp_0 (P := fun n m => ∀ b w σc, Fr SC σ σc → ∃ r σ1, f_X5_safest_l6 n σc 0 b w (nI m) = some (r, σ1) ∧ Fr SC σ σ1 ∧ ∀ σm, HM σm S → ∃ σ2, f_X6_safest_l6 n σm 93 b w (nI m) = some (r, σ2) ∧ Fr SC σm σ2) (nl S) (by omega) (fun n b w σc hf => ?_) (fun n m hm ih b w σc hf => ?_)
  · exact gen (-1) (-1) σ (Fr.r σ)
  · have h6 := (H.sc hf).1.1.2.2.2.2.2.2.1
    refine ⟨b, σc, ?_, hf, fun σm hσm => ⟨σm, ?_, Fr.r _⟩⟩
    · show f_X5_safest_b6 (f_X5_safest_l6 n) _ _ _ _ _ = _; unfold f_X5_safest_b6
      rw [h6, if_pos (nI_le (Nat.le_refl _) (by omega))]
    · show f_X6_safest_b6 (f_X6_safest_l6 n) _ _ _ _ _ = _; unfold f_X6_safest_b6
      rw [hσm.1.2.2.2.2.1, if_pos (nI_le (Nat.le_refl _) (by omega))]
  · have h6 := (H.sc hf).1.1.2.2.2.2.2.2.1
    obtain ⟨σ2, e1, e2⟩ := c_safe (H.sc hf).1 I hm
    have hf2 : Fr SC σ σ2 := hf.t (e2.w fun a j z => by unfold SC; omega)
    have pc : f_J6_bitCount_0f7a4 (mk (sfe S m) (nk S)) = some (nI (cnt (sfe S m) (nk S))) := pop_mk _ (by omega)
    by_cases z : nI (cnt (sfe S m) (nk S)) ≤ w
    · have z' : ¬ w < nI (cnt (sfe S m) (nk S)) := Int32.not_lt.mpr z
      obtain ⟨r, σ1, u1, u2, u3⟩ := ih b w σ2 hf2
      refine ⟨r, σ1, ?_, u2, fun σm hσm => ?_⟩
      · show f_X5_safest_b6 (f_X5_safest_l6 n) _ _ _ _ _ = _; unfold f_X5_safest_b6
        unfold f_X5_safest_b41
        rw [h6, if_neg (nI_ge hm (by omega))]
        refine b2_e e1 (bind_e pc ?_)
        rw [if_pos z, nI_1, bind_s]
        exact u1
      · obtain ⟨σ3, v1, v2⟩ := m_safe hσm I (show m < 8 by omega)
        obtain ⟨σ4, w1, w2⟩ := u3 σ3 (hσm.fr (v2.w fun _ _ => SC_MF))
        refine ⟨σ4, ?_, v2.t w2⟩
        show f_X6_safest_b6 (f_X6_safest_l6 n) _ _ _ _ _ = _; unfold f_X6_safest_b6
        unfold f_X6_safest_b38
        rw [hσm.1.2.2.2.2.1, if_neg (nI_ge hm (by omega))]
        refine b2_e v1 (bind_e pc ?_)
        rw [if_neg z', nI_1, bind_s]
        exact w1
    · have z' : w < nI (cnt (sfe S m) (nk S)) := Int32.not_le.mp z
      obtain ⟨r, σ1, u1, u2, u3⟩ := ih (nI m) (nI (cnt (sfe S m) (nk S))) σ2 hf2
      refine ⟨r, σ1, ?_, u2, fun σm hσm => ?_⟩
      · show f_X5_safest_b6 (f_X5_safest_l6 n) _ _ _ _ _ = _; unfold f_X5_safest_b6
        unfold f_X5_safest_b41
        rw [h6, if_neg (nI_ge hm (by omega))]
        refine b2_e e1 (bind_e pc ?_)
        rw [if_neg z, nI_1, bind_s]
        exact u1
      · obtain ⟨σ3, v1, v2⟩ := m_safe hσm I (show m < 8 by omega)
        obtain ⟨σ4, w1, w2⟩ := u3 σ3 (hσm.fr (v2.w fun _ _ => SC_MF))
        refine ⟨σ4, ?_, v2.t w2⟩
        show f_X6_safest_b6 (f_X6_safest_l6 n) _ _ _ _ _ = _; unfold f_X6_safest_b6
        unfold f_X6_safest_b38
        rw [hσm.1.2.2.2.2.1, if_neg (nI_ge hm (by omega))]
        refine b2_e v1 (bind_e pc ?_)
        rw [if_pos z', nI_1, bind_s]
        exact w1
theorem op_safest (H : Sm σ S) : Agr (fun s => f_X5_safest s 0) (fun s => f_X6_safest s 93) σ := by
  obtain ⟨r, σ1, e1, e2, e3⟩ := safest_lp H
  refine Agr.q (σ1 := σ1) (r := r) H e1 e2 (fun H1 => ?_)
  obtain ⟨σ2, u1, u2⟩ := e3 σ1 H1.2.1
  exact ⟨σ2, u1, S, H1.sc u2⟩
end TOOPEN
