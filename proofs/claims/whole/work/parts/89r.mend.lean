theorem Agr.us {f g : St → Option (Int32 × St)} {σ σ1 : St} {S S' : HS} {r : Int32} (H : Sm σ S) (h1 : f σ = some (r, σ1)) (f1 : Fr (fun a j => HF a j ∨ SC a j) σ σ1) (hc : HC σ1 39 S') (hn : nk S ≤ nk S') (I' : Inv S') (h2 : HM σ1 S → ∃ σ2, g σ1 = some (r, σ2) ∧ Fr (fun a j => XF a j ∨ SC a j) σ1 σ2 ∧ HM σ2 S') : Agr f g σ := by
  obtain ⟨σ2, e1, f2, e2⟩ := h2 (H.2.1.fr (f1.w fun a j z => by unfold HF SC at z; unfold MF; omega))
  refine ⟨r, σ1, σ2, h1, e1, S', hc.cf (f2.w fun a j z => by unfold XF SC at z; unfold CF; omega), e2, I', ?_⟩
  have R1 := H.2.2.2.fr (f1.w fun a j z => by unfold HF SC at z; unfold RF; omega)
  have R2 := R1.fr (f2.w fun a j z => by unfold XF SC at z; unfold RF; omega)
  exact R2.mono hn
theorem ln10 : ln 10 = 6 := by decide +kernel
theorem ln11 : ln 11 = 6 := by decide +kernel
theorem ln_m : ∀ k, k < 6 → ln (12 + k) = 5 := by decide +kernel
section MENDED
variable {σ : St} {S : HS}
/-- the best row to which a key can be mended -/
def mv (S : HS) (k : Nat) : Option Nat := bst (okm S k none) (cfc S k) (MR S)
/-- as the class has it -/
def PB (σ : St) (S : HS) (k : Nat) (b : Option Nat) (v : Int32) : Prop := (b = none ∧ v = -1) ∨ ∃ r, b = some r ∧ v = nI (cfc S k r) ∧ (∀ q, q < pl S → σ.1 (12 + k) q = nI (dgS S r q)) ∧ ∀ q, pl S ≤ q → q < 5 → σ.1 (12 + k) q = 0
theorem PB.fr {σ' : St} {k : Nat} {b : Option Nat} {v : Int32} (h : PB σ S k b v) (f : ∀ q, σ'.1 (12 + k) q = σ.1 (12 + k) q) : PB σ' S k b v := by
  rcases h with h | ⟨r, h1, h2, h3, h4⟩
  · exact Or.inl h
  · exact Or.inr ⟨r, h1, h2, fun q hq => by rw [f q]; exact h3 q hq, fun q h5 h6 => by rw [f q]; exact h4 q h5 h6⟩
theorem c_mat {k : Nat} (hk : k < 6) : f_X4_mendedAt σ 5 (nI k) = some (12 + k) := by
  unfold f_X4_mendedAt
  rw [if_neg (nI_pos (by omega)), ln11, if_neg (nI_ge hk (by omega)), ldR_n (by rw [ln11]; exact hk)]
  rfl
def PF (k a _j : Nat) : Prop := a = 7 ∨ a = 12 + k
theorem dg_inj {r r' : Nat} (h : r < MR S) (h' : r' < MR S) (e : ∀ p, p < pl S → dgS S r p = dgS S r' p) : r = r' := by
  have := vl_c (B := dp S + 1) e
  rw [vl_dg h, vl_dg h'] at this
  exact this
theorem c_plan1 (H0 : HC σ 39 S) (I : Inv S) {k : Nat} (hk : k < 6) : ∃ v σ', f_X4_planMendingOf σ 5 (nI k) = some (v, σ') ∧ PB σ' S k (mv S k) v ∧ Fr (PF k) σ σ' := by
  have p5 := I.1.2.1
  have d4 := I.1.2.2.2.1
  have rl := rows_le I
  have hM : MR S ≤ 3125 := rl
  have k5 := (I.2.1 k).1
  have hcu : ∀ p, p < pl S → cu S k p ≤ dp S := fun p _ => ((I.2.1 k).2.2 p).1
  have lm := ln_m k hk
  have lp : ∀ n c step σ1 v, c < MR S → MR S - c ≤ n → step ≤ c → Fr (PF k) σ σ1 → (∀ q, q < pl S → σ1.1 7 q = nI (dgS S c q)) → (∀ q, pl S ≤ q → q < 5 → σ1.1 7 q = 0) → vd S k (dgS S c) = true → PB σ1 S k (bst (okm S k none) (cfc S k) c) v → ∃ v' σ', f_X4_planMendingOf_l38 n σ1 5 (nI k) (kI 39 k) (mk (bes S (ki S k)) (nl S)) v (nI step) = some (v', σ') ∧ PB σ' S k (mv S k) v' ∧ Fr (PF k) σ σ' := by
    intro n
    induction n with
    | zero => intro c step σ1 v h1 h2; omega
    | succ n ih =>
      intro c step σ1 v hc hn hs f1 hr h0 hv hb
      have H1 : HC σ1 39 S := H0.cf (f1.w fun a j z => by unfold PF at z; unfold CF; omega)
      have asE := c_oas H1 isH39 I (H1.K I hk) (r := 7) (row := dgS S c) ⟨ln7, hr, fun p _ => dg_le⟩
      have costE := c_cost H1 I hk (row := dgS S c) (fun q hq => ⟨hr q hq, dg_le⟩)
      have cl := fcr_le I (k := k) (row := dgS S c) (fun p _ => dg_le)
      have hv' := vd_iff.mp hv
      have tail : ∀ (σ2 : St) (v2 : Int32), Fr (fun a _ => a = 12 + k) σ1 σ2 → PB σ2 S k (bst (okm S k none) (cfc S k) (c + 1)) v2 → ∃ v' σ', f_X4_planMendingOf_b112 (f_X4_planMendingOf_l38 n) σ2 5 (nI k) (kI 39 k) (mk (bes S (ki S k)) (nl S)) v2 (nI step) = some (v', σ') ∧ PB σ' S k (mv S k) v' ∧ Fr (PF k) σ σ' := by
        intro σ2 v2 f2 b2'
        have f12 : Fr (PF k) σ σ2 := f1.t (f2.w fun a j z => Or.inr z)
        have H2 : HC σ2 39 S := H0.cf (f12.w fun a j z => by unfold PF at z; unfold CF; omega)
        unfold f_X4_planMendingOf_b112
        rw [(H2.2.1 k hk).1]
        by_cases k4 : ki S k = 4
        · rw [if_pos (by rw [k4]; rfl)]
          refine ⟨v2, σ2, rfl, ?_, f12⟩
          unfold mv
          rw [bst_skip (a := c + 1) (by omega) (fun r h1 h2 => ?_)]
          · exact b2'
          · unfold okm
            cases q : vd S k (dgS S r)
            · rfl
            · exfalso
              have := dg_inj h2 hc (fun p hp => by rw [(vd_iff.mp q p hp).2 k4, (hv' p hp).2 k4])
              omega
        · rw [if_neg (fun z => k4 (nI_inj (by omega) (by decide) (z.trans l_4)))]
          obtain ⟨σ3, f3, h⟩ := c_advS (σ := σ2) (l := cu S k) (a := kI 39 k + 1) (c := c) H2.1.1 H2.1.2.1 I.1.1 p5 d4 ((ln_h isH39).2.2.2.1 k hk) (by unfold kI; omega) (fun q hq => ⟨(H2.2.1 k hk).2.2.2 q (by omega), hcu q hq⟩) (fun q hq => (hv' q hq).1) hc (fun q hq => by rw [f2.1 _ _ (by omega)]; exact hr q hq)
          have f3P : Fr (PF k) σ2 σ3 := f3.w fun a j z => Or.inl z.1
          have noV : ∀ r, (∃ q, q < pl S ∧ dg (dp S + 1) (pl S) r q < cu S k q) → okm S k none r = false := fun r ⟨q, hq, hlt⟩ => by
            unfold okm
            cases w : vd S k (dgS S r)
            · rfl
            · have w1 := (vd_iff.mp w q hq).1
              have hlt' : dgS S r q < cu S k q := hlt
              omega
          rcases h with ⟨u, g⟩ | ⟨u, c', h1, h2, h3, h4, h5⟩
          · refine ⟨v2, σ3, b2_e u (if_pos rfl), ?_, f12.t f3P⟩
            unfold mv
            rw [bst_skip (a := c + 1) (b := MR S) (by omega) (fun r h1 h2 => noV r (g r (by omega) h2))]
            exact b2'.fr (fun q => f3.1 _ _ (by omega))
          · obtain ⟨v', σ', u1, u2, u3⟩ := ih c' (step + 1) σ3 v2 h2 (by omega) (by omega) (f12.t f3P) h5 (fun q h6 h7 => by rw [f3.1 _ _ (by omega), f2.1 _ _ (by omega)]; exact h0 q h6 h7) (vd_iff.mpr fun p hp => ⟨h3 p hp, fun z => absurd z k4⟩) (by
              rw [bst_skip (a := c + 1) (b := c') (by omega) (fun r h6 h7 => noV r (h4 r (by omega) h7))]
              exact b2'.fr (fun q => f3.1 _ _ (by omega)))
            refine ⟨v', σ', b2_e u ?_, u2, u3⟩
            rw [if_neg (by decide), bind_s, nI_1]
            exact u1
      have keep : bst (okm S k none) (cfc S k) (c + 1) = bst (okm S k none) (cfc S k) c → ∃ v' σ', f_X4_planMendingOf_b112 (f_X4_planMendingOf_l38 n) σ1 5 (nI k) (kI 39 k) (mk (bes S (ki S k)) (nl S)) v (nI step) = some (v', σ') ∧ PB σ' S k (mv S k) v' ∧ Fr (PF k) σ σ' := fun e => tail σ1 v (Fr.r _) (by rw [e]; exact hb)
      have take : bst (okm S k none) (cfc S k) (c + 1) = some c → ∃ v' σ', f_X4_planMendingOf_b93 (f_X4_planMendingOf_l38 n) σ1 5 (nI k) (kI 39 k) (mk (bes S (ki S k)) (nl S)) (nI step) (nI (fcr S k (dgS S c))) = some (v', σ') ∧ PB σ' S k (mv S k) v' ∧ Fr (PF k) σ σ' := by
        intro e
        obtain ⟨s2, w1, w2, w3⟩ := cp_n (σ := σ1) (a := 7) (b := 12 + k) (n := 5) (by rw [ln7]; exact Nat.le_refl _) (by rw [lm]; exact Nat.le_refl _)
        have w1' : cpI σ1 7 0 (12 + k) 0 5 = some s2 := w1
        unfold f_X4_planMendingOf_b93
        rw [c_mat hk, bind_s, w1', bind_s]
        exact tail s2 _ (w3.w fun a j z => z.1) (Or.inr ⟨c, e, rfl, fun q hq => by rw [w2 q (by omega)]; exact hr q hq, fun q h6 h7 => by rw [w2 q h7]; exact h0 q h6 h7⟩)
      show ∃ v' σ', f_X4_planMendingOf_b38 (f_X4_planMendingOf_l38 n) σ1 5 (nI k) (kI 39 k) (mk (bes S (ki S k)) (nl S)) v (nI step) = some (v', σ') ∧ PB σ' S k (mv S k) v' ∧ Fr (PF k) σ σ'
      unfold f_X4_planMendingOf_b38
      rw [if_neg (show ¬ (3125 : Int32) ≤ nI step from nI_ge (a := step) (b := 3125) (by omega) (by decide)), asE, bind_s, (H1.2.1 k hk).2.2.1, costE, bind_s]
      by_cases so : mk (opAs S (ki S k) (ow S k) (dgS S c)) (nl S) = my S k
      · have okc : okm S k none c = true := by
          unfold okm
          rw [hv, Bool.true_and]
          exact decide_eq_true so
        rw [if_pos so]
        rcases hb with ⟨e1, e2⟩ | ⟨r, e1, e2, e3⟩
        · rw [if_pos e2]
          refine take ?_
          rw [bst, e1]
          simp only [okc, if_true]
        · have cr := fcr_le I (k := k) (row := dgS S r) (fun p _ => dg_le)
          have ecf : cfc S k r = fcr S k (dgS S r) := rfl
          have ecc : cfc S k c = fcr S k (dgS S c) := rfl
          rw [if_neg (by rw [e2]; exact nm1_ne _ (by omega))]
          by_cases q : cfc S k r ≤ cfc S k c
          · rw [if_pos (by rw [e2]; exact nI_le q (by omega))]
            refine keep ?_
            rw [bst, e1]
            simp only [decide_eq_false (show ¬ cfc S k c < cfc S k r by omega), Bool.and_false, Bool.false_eq_true, if_false]
          · rw [if_neg (by rw [e2]; exact nI_ge (a := fcr S k (dgS S c)) (by omega) (by omega))]
            refine take ?_
            rw [bst, e1]
            simp only [okc, decide_eq_true (show cfc S k c < cfc S k r by omega), Bool.and_self, if_true]
      · have okc : okm S k none c = false := by
          unfold okm
          rw [hv, Bool.true_and]
          exact decide_eq_false so
        rw [if_neg so]
        refine keep (bst_skip (Nat.le_succ c) (fun r h1 h2 => ?_))
        rw [show r = c by omega]
        exact okc
  obtain ⟨s1, a1, a2, a3⟩ := cp_n (σ := σ) (a := kI 39 k + 1) (b := 7) (n := 5) (by rw [(ln_h isH39).2.2.2.1 k hk]; exact Nat.le_refl _) (by rw [ln7]; exact Nat.le_refl _)
  have a1' : cpI σ (kI 39 k + 1) 0 7 0 5 = some s1 := a1
  have cB : ∀ p, p < pl S → cu S k p < dp S + 1 := fun p hp => Nat.lt_succ_of_le (hcu p hp)
  have hc0 : vl (dp S + 1) (cu S k) (pl S) < MR S := vl_lt cB
  have dg0 : ∀ p, p < pl S → dgS S (vl (dp S + 1) (cu S k) (pl S)) p = cu S k p := fun p hp => dg_vl (Nat.succ_pos _) cB hp
  obtain ⟨v', σ', u1, u2, u3⟩ := lp FU (vl (dp S + 1) (cu S k) (pl S)) 0 s1 (-1) hc0 (by show MR S - _ ≤ 4000; omega) (Nat.zero_le _) (a3.w fun a j z => Or.inl z.1) (fun q hq => by rw [a2 q (by omega), (H0.2.1 k hk).2.2.2 q (by omega), dg0 q hq]) (fun q h6 h7 => by rw [a2 q h7, (H0.2.1 k hk).2.2.2 q h7, ((I.2.1 k).2.2 q).2 h6]; rfl) (vd_iff.mpr fun p hp => by rw [dg0 p hp]; exact ⟨Nat.le_refl _, fun _ => rfl⟩) (Or.inl ⟨by
    rw [bst_skip (a := 0) (Nat.zero_le _) (fun r h1 h2 => ?_)]
    · rfl
    · unfold okm
      cases w : vd S k (dgS S r)
      · rfl
      · exfalso
        have := vl_m (B := dp S + 1) (n := pl S) (x := cu S k) (y := dgS S r) (fun p hp => (vd_iff.mp w p hp).1)
        rw [vl_dg (show r < (dp S + 1) ^ pl S from Nat.lt_trans h2 hc0)] at this
        omega, rfl⟩)
  refine ⟨v', σ', ?_, u2, u3⟩
  unfold f_X4_planMendingOf
  rw [c_keyAt isH39 hk, bind_s, c_bes H0 isH39 I (H0.K I hk), bind_s, a1', bind_s]
  exact u1
/-- all is planned up to a key -/
def PLm (σ : St) (S : HS) (m : Nat) : Prop := ∀ k, k < m → PB σ S k (mv S k) (σ.1 10 k)
theorem c_plan (H0 : HC σ 39 S) (I : Inv S) : ∃ σ', f_X4_planMending σ 5 = some σ' ∧ PLm σ' S (nk S) ∧ Fr SC σ σ' := by
  have n6 := I.1.2.2.2.2.2.2.1
  have gen := lp_0 (P := fun n m => ∀ σ1, Fr SC σ σ1 → PLm σ1 S m → ∃ σ', f_X4_planMending_l2 n σ1 5 (nI m) = some σ' ∧ PLm σ' S (nk S) ∧ Fr SC σ σ') (nk S) (by omega) (fun n σ1 f1 h => ?_) (fun n m hm ih σ1 f1 h => ?_)
  · exact gen σ (Fr.r σ) (fun k hk => absurd hk (Nat.not_lt_zero k))
  · have H1 := H0.cf (f1.w fun _ _ => SC_CF)
    have h5 := H1.1.2.2.2.2.2.1
    refine ⟨σ1, ?_, h, f1⟩
    show f_X4_planMending_b2 (f_X4_planMending_l2 n) _ _ _ = _; unfold f_X4_planMending_b2
    rw [h5, if_pos (nI_le (Nat.le_refl _) (by omega))]
  · have H1 := H0.cf (f1.w fun _ _ => SC_CF)
    have h5 := H1.1.2.2.2.2.2.1
    obtain ⟨v, s2, w1, w2, w3⟩ := c_plan1 H1 I (show m < 6 by omega)
    obtain ⟨σ', u1, u2⟩ := ih (setI s2 10 m v) ((f1.t (w3.w fun a j z => by unfold PF at z; unfold SC; omega)).t (Fr.i (by unfold SC; omega))) (fun k hk => by
      by_cases e : k = m
      · subst e
        rw [setI_s]
        exact w2.fr (fun q => setI_a (by omega))
      · rw [setI_k e, w3.1 10 k (by unfold PF; omega)]
        exact (h k (by omega)).fr (fun q => by rw [setI_a (by omega), w3.1 _ _ (by unfold PF; omega)]))
    refine ⟨σ', ?_, u2⟩
    show f_X4_planMending_b2 (f_X4_planMending_l2 n) _ _ _ = _; unfold f_X4_planMending_b2
    rw [h5, if_neg (nI_ge hm (by omega))]
    refine b2_e w1 ?_
    rw [c_put (by rw [ln10]; omega), bind_s, nI_1, bind_s]
    exact u1
/-- what mending a key comes to -/
def mct (S : HS) (k : Nat) : Nat := match mv S k with
  | none => 0
  | some r => cfc S k r
def mno (S : HS) (k : Nat) : Bool := (mv S k).isNone
theorem mxI_m : mxI 0 (-1) = 0 := by decide
theorem mxI_n {c : Nat} (h : c < 2 ^ 31) : mxI 0 (nI c) = nI c := by
  have := mx_n (a := 0) (b := c) (by decide) h
  rw [Nat.zero_max] at this
  exact this
theorem cfc_lt (I : Inv S) (k r : Nat) : cfc S k r ≤ 80 := fcr_le I (fun p _ => dg_le)
/-- from a best row to its number, its coins -/
theorem PB.c {k : Nat} {v : Int32} (I : Inv S) (h : PB σ S k (mv S k) v) : mxI 0 v = nI (mct S k) ∧ (v = -1 ↔ mno S k = true) := by
  unfold mct mno
  rcases h with ⟨h1, h2⟩ | ⟨r, h1, h2, -⟩
  · rw [h1, h2]
    exact ⟨mxI_m, fun _ => rfl, fun _ => rfl⟩
  · have := cfc_lt I k r
    rw [h1, h2]
    exact ⟨mxI_n (by omega), fun z => absurd z (nm1_ne _ (by omega)), fun z => by cases z⟩
theorem c_mcoins (H0 : HC σ 39 S) (I : Inv S) (h : PLm σ S (nk S)) : f_X4_mendingCoins σ 5 = some (nI (sm (mct S) (nk S))) := by
  have n6 := I.1.2.2.2.2.2.2.1
  have h5 := H0.1.2.2.2.2.2.1
  show f_X4_mendingCoins_l4 σ FU 5 (nI (sm (mct S) 0)) (nI 0) = _
  refine lp_0 (P := fun n m => f_X4_mendingCoins_l4 σ n 5 (nI (sm (mct S) m)) (nI m) = some (nI (sm (mct S) (nk S)))) (nk S) (by omega) (fun n => ?_) (fun n m hm ih => ?_)
  · show f_X4_mendingCoins_b4 _ (f_X4_mendingCoins_l4 _ n) _ _ _ = _; unfold f_X4_mendingCoins_b4
    rw [h5, if_pos (nI_le (Nat.le_refl _) (by omega))]
  · show f_X4_mendingCoins_b4 _ (f_X4_mendingCoins_l4 _ n) _ _ _ = _; unfold f_X4_mendingCoins_b4
    rw [h5, if_neg (nI_ge hm (by omega)), c_at (by rw [ln10]; omega), bind_s, ((h m hm).c I).1, nI_add, bind_s, nI_1, bind_s]
    exact ih
theorem c_mpast (H0 : HC σ 39 S) (I : Inv S) (h : PLm σ S (nk S)) : f_X4_pastMending σ 5 = some (mk (mno S) (nk S)) := by
  have n6 := I.1.2.2.2.2.2.2.1
  have h5 := H0.1.2.2.2.2.2.1
  show f_X4_pastMending_l4 σ FU 5 (mk (mno S) 0) (nI 0) = _
  refine lp_0 (P := fun n m => f_X4_pastMending_l4 σ n 5 (mk (mno S) m) (nI m) = some (mk (mno S) (nk S))) (nk S) (by omega) (fun n => ?_) (fun n m hm ih => ?_)
  · show f_X4_pastMending_b4 _ (f_X4_pastMending_l4 _ n) _ _ _ = _; unfold f_X4_pastMending_b4
    rw [h5, if_pos (nI_le (Nat.le_refl _) (by omega))]
  · show f_X4_pastMending_b4 _ (f_X4_pastMending_l4 _ n) _ _ _ = _; unfold f_X4_pastMending_b4
    unfold f_X4_pastMending_b33
    rw [h5, if_neg (nI_ge hm (by omega)), c_at (by rw [ln10]; omega), bind_s]
    have hc := ((h m hm).c I).2
    by_cases q : mno S m = true
    · rw [if_pos (hc.mpr q), bind_s, nI_1, bind_s]
      rw [mk_up (mno S) q] at ih
      exact ih
    · rw [if_neg (fun z => q (hc.mp z)), nI_1, bind_s]
      rw [mk_un (mno S) (by revert q; cases mno S m <;> simp)] at ih
      exact ih
theorem LB.c {k : Nat} {v : Int32} (I : Inv S) (h : LB σ S k (mv S k) v) : mxI 0 v = nI (mct S k) ∧ ((0 ≤ v) ↔ mno S k = false) ∧ (0 ≤ v → v = nI (mct S k)) := by
  unfold mct mno
  rcases h with ⟨h1, h2⟩ | ⟨r, h1, h2, -⟩
  · rw [h1, h2]
    exact ⟨mxI_m, ⟨fun z => absurd z (by decide), fun z => by cases z⟩, fun z => absurd z (by decide)⟩
  · have := cfc_lt I k r
    have e : fcr S k (dgS S r) = cfc S k r := rfl
    rw [h1, h2, e]
    exact ⟨mxI_n (by omega), ⟨fun _ => rfl, fun _ => nI_le (a := 0) (Nat.zero_le _) (by omega)⟩, fun _ => rfl⟩
theorem m_leastM (H : HM σ S) (I : Inv S) {k : Nat} (hk : k < nk S) : ∃ v σ', f_X6_least σ 93 (nI k) (-1) = some (v, σ') ∧ LB σ' S k (mv S k) v ∧ Fr LpF σ σ' := m_least H I hk none (fun l e => by cases e)
theorem m_mended (H0 : HM σ S) (I : Inv S) (x : Int32) : ∃ σ', f_X6_mended_l23 FU σ 93 x 0 0 0 = some (if x = 0 then nI (sm (mct S) (nk S)) else mk (mno S) (nk S), σ') ∧ Fr SC σ σ' := by
  have n6 := I.1.2.2.2.2.2.2.1
  have gen := lp_0 (P := fun n m => ∀ σ1, Fr SC σ σ1 → ∃ σ', f_X6_mended_l23 n σ1 93 x (nI (sm (mct S) m)) (mk (mno S) m) (nI m) = some (if x = 0 then nI (sm (mct S) (nk S)) else mk (mno S) (nk S), σ') ∧ Fr SC σ σ') (nk S) (by omega) (fun n σ1 f1 => ?_) (fun n m hm ih σ1 f1 => ?_)
  · exact gen σ (Fr.r σ)
  · have H1 : HM σ1 S := H0.fr (f1.w fun _ _ => SC_MF)
    refine ⟨σ1, ?_, f1⟩
    show f_X6_mended_b23 (f_X6_mended_l23 n) _ _ _ _ _ _ = _; unfold f_X6_mended_b23
    rw [H1.1.2.2.2.1, if_pos (nI_le (Nat.le_refl _) (by omega))]
    split <;> rfl
  · have H1 : HM σ1 S := H0.fr (f1.w fun _ _ => SC_MF)
    obtain ⟨v, σ2, e1, e2, e3⟩ := m_leastM H1 I hm
    obtain ⟨σ', u1, u2⟩ := ih σ2 (f1.t (e3.w fun a j z => by unfold LpF at z; unfold SC; omega))
    obtain ⟨c1, c2, c3⟩ := e2.c I
    refine ⟨σ', ?_, u2⟩
    show f_X6_mended_b23 (f_X6_mended_l23 n) _ _ _ _ _ _ = _; unfold f_X6_mended_b23
    unfold f_X6_mended_b61
    rw [H1.1.2.2.2.1, if_neg (nI_ge hm (by omega))]
    refine b2_e e1 ?_
    rw [sm] at u1
    by_cases q : mno S m = false
    · rw [if_pos (c2.mpr q), c3 (c2.mpr q), nI_add, bind_s, nI_1, bind_s]
      rw [mk_un (mno S) q] at u1
      exact u1
    · have q' : mno S m = true := by
        revert q
        cases mno S m <;> simp
      have z0 : mct S m = 0 := by
        unfold mct
        unfold mno at q'
        cases w : mv S m with
        | none => rfl
        | some r => rw [w] at q'; cases q'
      rw [if_neg (fun z => q (c2.mp z)), bind_s, nI_1, bind_s]
      rw [mk_up (mno S) q', z0, Nat.add_zero] at u1
      exact u1
theorem op_mended (H : Sm σ S) (x : Int32) : Agr (fun s => f_X5_mended s 0 x) (fun s => f_X6_mended s 93 x) σ := by
  obtain ⟨hc, hm, I, -⟩ := id H
  by_cases q : inR x 0 2
  · obtain ⟨v, v0, hv, rfl⟩ := q
    obtain ⟨σ1, e1, e2, e3⟩ := c_plan hc I
    have H1c : HC σ1 39 S := hc.cf (e3.w fun _ _ => SC_CF)
    refine Agr.q (σ1 := σ1) (r := if nI v = 0 then nI (sm (mct S) (nk S)) else mk (mno S) (nk S)) H ?_ e3 (fun H1 => ?_)
    · show f_X5_mended σ 0 (nI v) = _
      unfold f_X5_mended
      rw [wi_0_1 v0 hv, bind_s, if_neg (by decide), e1, bind_s, c_mcoins H1c I e2, bind_s, c_mpast H1c I e2, bind_s]
      split <;> rfl
    · obtain ⟨σ2, u1, u2⟩ := m_mended H1.2.1 I (nI v)
      refine ⟨σ2, ?_, S, H1.sc u2⟩
      show f_X6_mended σ1 93 (nI v) = _
      unfold f_X6_mended
      rw [w_6, wi_0_1 v0 hv, bind_s, if_neg (by decide)]
      exact u1
  · refine Agr.ref H 0 (by decide) ?_ (fun hm' hf => ?_)
    · unfold f_X5_mended
      rw [wo_0_1 q, bind_s, if_pos rfl, ref_2, b2_s]
      rfl
    · unfold f_X6_mended
      rw [w_6, wo_0_1 q, bind_s, if_pos rfl, nof_2, b2_s]
      rfl
/-- the cuts behind mending -/
def mnd (S : HS) (k p : Nat) : Nat := match mv S k with
  | none => cu S k p
  | some r => if p < pl S then dgS S r p else 0
theorem mnd_o (I : Inv S) {k p : Nat} (h : pl S ≤ p) : mnd S k p = 0 ∧ cu S k p = 0 := by
  have c0 := ((I.2.1 k).2.2 p).2 h
  refine ⟨?_, c0⟩
  unfold mnd
  cases mv S k with
  | none => exact c0
  | some r => exact if_neg (by omega)
theorem mnd_le (I : Inv S) (k p : Nat) : mnd S k p ≤ dp S := by
  have c0 := ((I.2.1 k).2.2 p).1
  unfold mnd
  cases mv S k with
  | none => exact c0
  | some r =>
    show (if p < pl S then dgS S r p else 0) ≤ dp S
    split
    · exact dg_le
    · exact Nat.zero_le _
/-- mended up to a key and a place -/
def wS (S : HS) (k p : Nat) : HS := wCu S (fun j i => if j < k ∨ (j = k ∧ i < p) then mnd S j i else cu S j i)
theorem wS_0 (S : HS) : wS S 0 0 = S := by
  have e : (fun j i => if j < 0 ∨ (j = 0 ∧ i < 0) then mnd S j i else cu S j i) = cu S := funext fun j => funext fun i => if_neg (by omega)
  unfold wS
  rw [e, wCu_s]
theorem wS_s (S : HS) (k p : Nat) : sCu (wS S k p) k p (mnd S k p) = wS S k (p + 1) := by
  unfold wS
  rw [sCu_w, wCu_w, wCu_c]
  refine congrArg (wCu S) (funext fun j => funext fun i => ?_)
  by_cases e : j = k ∧ i = p
  · rw [if_pos e, if_pos (by omega), e.1, e.2]
  · rw [if_neg e]
    by_cases e3 : j < k ∨ (j = k ∧ i < p)
    · rw [if_pos e3, if_pos (by omega)]
    · rw [if_neg e3, if_neg (by omega)]
theorem wS_n (I : Inv S) (k : Nat) {p : Nat} (hp : pl S ≤ p) : wS S k p = wS S (k + 1) 0 := by
  unfold wS
  refine congrArg (wCu S) (funext fun j => funext fun i => ?_)
  by_cases e : j < k ∨ (j = k ∧ i < p)
  · rw [if_pos e, if_pos (by omega)]
  · rw [if_neg e]
    by_cases e2 : j = k
    · rw [if_pos (by omega), e2, (mnd_o I (show pl S ≤ i by omega)).1, (mnd_o I (show pl S ≤ i by omega)).2]
    · rw [if_neg (by omega)]
theorem inv_wS (I : Inv S) {k : Nat} (hk : k ≤ nk S) : Inv (wS S k 0) := by
  refine ⟨I.1, fun j => ⟨(I.2.1 j).1, (I.2.1 j).2.1, fun i => ?_⟩, fun j hj => ⟨(I.2.2.1 j hj).1, (I.2.2.1 j hj).2.1, (I.2.2.1 j hj).2.2.1, fun i => ?_⟩, I.2.2.2⟩
  · show (if j < k ∨ (j = k ∧ i < 0) then mnd S j i else cu S j i) ≤ dp S ∧ (pl S ≤ i → (if j < k ∨ (j = k ∧ i < 0) then mnd S j i else cu S j i) = 0)
    split
    · exact ⟨mnd_le I j i, fun z => (mnd_o I z).1⟩
    · exact (I.2.1 j).2.2 i
  · have hj' : nk S ≤ j := hj
    show (if j < k ∨ (j = k ∧ i < 0) then mnd S j i else cu S j i) = 0
    rw [if_neg (by omega)]
    exact (I.2.2.1 j hj).2.2.2 i
theorem HC.cut {σ' : St} {T : HS} (H : HC σ 39 T) {k : Nat} {g : Nat → Nat} (hk : k < 6) (f : Fr (fun a _ => a = kI 39 k + 1) σ σ') (hc : ∀ p, p < 5 → σ'.1 (kI 39 k + 1) p = nI (g p)) : HC σ' 39 (wCu T (fun j i => if j = k then g i else cu T j i)) := by
  have e : ∀ a j, a ≠ kI 39 k + 1 → σ'.1 a j = σ.1 a j := fun a j q => f.1 a j q
  refine ⟨⟨?_, ?_, ?_, ?_, ?_, ?_, ?_, ?_⟩, fun k' hk' => ⟨?_, ?_, ?_, fun p' hp' => ?_⟩, fun l' hl' p' hp' => ?_, fun p' hp' d' hd' => ?_, ?_, ?_⟩
  · rw [e _ _ (by unfold kI; omega)]; exact H.1.1
  · rw [e _ _ (by unfold kI; omega)]; exact H.1.2.1
  · rw [e _ _ (by unfold kI; omega)]; exact H.1.2.2.1
  · rw [e _ _ (by unfold kI; omega)]; exact H.1.2.2.2.1
  · rw [e _ _ (by unfold kI; omega)]; exact H.1.2.2.2.2.1
  · rw [e _ _ (by unfold kI; omega)]; exact H.1.2.2.2.2.2.1
  · rw [e _ _ (by unfold kI; omega)]; exact H.1.2.2.2.2.2.2.1
  · rw [e _ _ (by unfold kI; omega)]; exact H.1.2.2.2.2.2.2.2
  · rw [e _ _ (by unfold kI; omega)]; exact (H.2.1 k' hk').1
  · rw [e _ _ (by unfold kI; omega)]; exact (H.2.1 k' hk').2.1
  · rw [e _ _ (by unfold kI; omega)]; exact (H.2.1 k' hk').2.2.1
  · show _ = nI (if k' = k then g p' else cu T k' p')
    by_cases q : k' = k
    · rw [q, if_pos rfl]; exact hc p' hp'
    · rw [if_neg q, e _ _ (by unfold kI; omega)]; exact (H.2.1 k' hk').2.2.2 p' hp'
  · rw [e _ _ (by unfold kI; omega)]; exact H.2.2.1 l' hl' p' hp'
  · rw [e _ _ (by unfold kI; omega)]; exact H.2.2.2.1 p' hp' d' hd'
  · rw [e _ _ (by unfold kI; omega)]; exact H.2.2.2.2.1
  · rw [e _ _ (by unfold kI; omega)]; exact H.2.2.2.2.2
theorem wS_k (S : HS) (k : Nat) : wCu (wS S k 0) (fun j i => if j = k then mnd S k i else cu (wS S k 0) j i) = wS S (k + 1) 0 := by
  show wCu (wCu S _) _ = _
  rw [wCu_w]
  unfold wS
  refine congrArg (wCu S) (funext fun j => funext fun i => ?_)
  rw [wCu_c]
  by_cases e : j = k
  · rw [if_pos e, if_pos (by omega), e]
  · rw [if_neg e]
    by_cases e3 : j < k
    · rw [if_pos (by omega), if_pos (by omega)]
    · rw [if_neg (by omega), if_neg (by omega)]
theorem wS_u {k : Nat} (h : mv S k = none) : wS S (k + 1) 0 = wS S k 0 := by
  unfold wS
  refine congrArg (wCu S) (funext fun j => funext fun i => ?_)
  by_cases e : j = k
  · rw [if_pos (by omega), if_neg (by omega), e]
    unfold mnd
    rw [h]
  · by_cases e3 : j < k
    · rw [if_pos (by omega), if_pos (by omega)]
    · rw [if_neg (by omega), if_neg (by omega)]
theorem c_do (H0 : HC σ 39 S) (I : Inv S) (h : PLm σ S (nk S)) : ∃ σ', f_X4_doMending σ 5 = some σ' ∧ HC σ' 39 (wS S (nk S) 0) ∧ Fr HF σ σ' := by
  have n6 := I.1.2.2.2.2.2.2.1
  have p5 := I.1.2.1
  have gen := lp_0 (P := fun n m => ∀ σ1, Fr HF σ σ1 → HC σ1 39 (wS S m 0) → ∃ σ', f_X4_doMending_l2 n σ1 5 (nI m) = some σ' ∧ HC σ' 39 (wS S (nk S) 0) ∧ Fr HF σ σ') (nk S) (by omega) (fun n σ1 f1 H1 => ?_) (fun n m hm ih σ1 f1 H1 => ?_)
  · exact gen σ (Fr.r σ) (by rw [wS_0]; exact H0)
  · have h5 : σ1.1 39 5 = nI (nk S) := H1.1.2.2.2.2.2.1
    refine ⟨σ1, ?_, H1, f1⟩
    show f_X4_doMending_b2 (f_X4_doMending_l2 n) _ _ _ = _; unfold f_X4_doMending_b2
    rw [h5, if_pos (nI_le (Nat.le_refl _) (by omega))]
  · have h5 : σ1.1 39 5 = nI (nk S) := H1.1.2.2.2.2.2.1
    have m6 : m < 6 := by omega
    have e10 : σ1.1 10 m = σ.1 10 m := f1.1 _ _ (by unfold HF; omega)
    rcases h m hm with ⟨b1, b2'⟩ | ⟨r, b1, b2', b3, b4⟩
    · obtain ⟨σ', u1, u2⟩ := ih σ1 f1 (by rw [wS_u b1]; exact H1)
      refine ⟨σ', ?_, u2⟩
      show f_X4_doMending_b2 (f_X4_doMending_l2 n) _ _ _ = _; unfold f_X4_doMending_b2
      unfold f_X4_doMending_b47
      rw [h5, if_neg (nI_ge hm (by omega)), c_at (by rw [ln10]; omega), bind_s, e10, if_pos b2', nI_1, bind_s]
      exact u1
    · have cl := cfc_lt I m r
      obtain ⟨s2, w1, w2, w3⟩ := cp_n (σ := σ1) (a := 12 + m) (b := kI 39 m + 1) (n := 5) (by rw [ln_m m m6]; exact Nat.le_refl _) (by rw [(ln_h isH39).2.2.2.1 m m6]; exact Nat.le_refl _)
      have w1' : cpI σ1 (12 + m) 0 (kI 39 m + 1) 0 5 = some s2 := w1
      have e12 : ∀ q, σ1.1 (12 + m) q = σ.1 (12 + m) q := fun q => f1.1 _ _ (by unfold HF; omega)
      have H2 : HC s2 39 (wS S (m + 1) 0) := by
        have := H1.cut (g := mnd S m) m6 (w3.w fun a j z => z.1) (fun p hp => by
          rw [w2 p hp, e12]
          unfold mnd
          rw [b1]
          by_cases q : p < pl S
          · show _ = nI (if p < pl S then dgS S r p else 0)
            rw [if_pos q]; exact b3 p q
          · show _ = nI (if p < pl S then dgS S r p else 0)
            rw [if_neg q]; exact b4 p (by omega) hp)
        rw [wS_k] at this
        exact this
      obtain ⟨σ', u1, u2⟩ := ih s2 (f1.t (w3.w fun a j z => by unfold kI at z; unfold HF; omega)) H2
      refine ⟨σ', ?_, u2⟩
      show f_X4_doMending_b2 (f_X4_doMending_l2 n) _ _ _ = _; unfold f_X4_doMending_b2
      unfold f_X4_doMending_b47
      rw [h5, if_neg (nI_ge hm (by omega)), c_at (by rw [ln10]; omega), bind_s, e10, if_neg (by rw [b2']; exact nm1_ne _ (by omega)), c_mat m6, bind_s, c_keyAt isH39 m6, bind_s, w1', bind_s, nI_1, bind_s]
      exact u1
def MgF (a _j : Nat) : Prop := 107 ≤ a
theorem LB.p {k p : Nat} {v : Int32} (I : Inv S) (h : LB σ S k (mv S k) v) (hp : p < pl S) (hm : σ.1 100 (5 * k + p) = nI (cu S k p)) (hk : k < 6) : (if 0 ≤ v then ldI σ 108 (nI p) else ldI σ 100 ((5 * nI k) + nI p)) = some (nI (mnd S k p)) := by
  have p5 := I.1.2.1
  rw [l_5, pk_mul, nI_add, ldI_n (show p < ln 108 by rw [ln108]; omega), ldI_n (show 5 * k + p < ln 100 by rw [ln100]; omega)]
  unfold mnd
  rcases h with ⟨h1, h2⟩ | ⟨r, h1, h2, h3⟩
  · rw [h1, h2, if_neg (by decide), hm]
  · have := cfc_lt I k r
    have e : fcr S k (dgS S r) = cfc S k r := rfl
    rw [h1, h2, e, if_pos (show (0 : Int32) ≤ nI (cfc S k r) from nI_le (a := 0) (Nat.zero_le _) (by omega)), h3 p hp]
    show some (nI (dgS S r p)) = some (nI (if p < pl S then dgS S r p else 0))
    rw [if_pos hp]
theorem m_first (H0 : HM σ S) (I : Inv S) {k : Nat} (hk : k < nk S) (K : St → Nat → Int32 → Int32 → Option (Int32 × St)) (A : Nat) (τ : St) (v : Int32) (f : Fr MgF σ τ) (hb : LB τ S k (mv S k) v) (h9 : ∀ j p, j < k → p < pl S → τ.1 109 (5 * j + p) = nI (mnd S j p)) : ∃ σ', f_X6_mend_l22 K FU τ 93 (nI A) (nI k) v 0 = K σ' 93 (nI (A + mct S k)) (nI (k + 1)) ∧ Fr MgF σ σ' ∧ ∀ j p, j < k + 1 → p < pl S → σ'.1 109 (5 * j + p) = nI (mnd S j p) := by
  have n6 := I.1.2.2.2.2.2.2.1
  have p5 := I.1.2.1
  obtain ⟨c1, c2, c3⟩ := hb.c I
  have gen := lp_0 (P := fun n m => ∀ τ1, Fr (fun a j => a = 109 ∧ 5 * k ≤ j) τ τ1 → (∀ p, p < m → τ1.1 109 (5 * k + p) = nI (mnd S k p)) → ∃ σ', f_X6_mend_l22 K n τ1 93 (nI A) (nI k) v (nI m) = K σ' 93 (nI (A + mct S k)) (nI (k + 1)) ∧ Fr MgF σ σ' ∧ ∀ j p, j < k + 1 → p < pl S → σ'.1 109 (5 * j + p) = nI (mnd S j p)) (pl S) (by omega) (fun n τ1 f1 g => ?_) (fun n m hm ih τ1 f1 g => ?_)
  · exact gen τ (Fr.r τ) (fun p hp => absurd hp (Nat.not_lt_zero p))
  · refine ⟨τ1, ?_, f.t (f1.w fun a j z => by unfold MgF; omega), fun j p hj hp => ?_⟩
    · show f_X6_mend_b22 _ (f_X6_mend_l22 _ n) _ _ _ _ _ _ = _; unfold f_X6_mend_b22
      rw [f1.1 93 3 (by omega), f.1 93 3 (by unfold MgF; omega), H0.1.1, if_pos (nI_le (Nat.le_refl _) (by omega)), c1, nI_add, bind_s, nI_1, bind_s]
    · by_cases e : j = k
      · rw [e]; exact g p hp
      · rw [f1.1 _ _ (by omega)]; exact h9 j p (by omega) hp
  · obtain ⟨σ', u1, u2⟩ := ih (setI τ1 109 (5 * k + m) (nI (mnd S k m))) (f1.t (Fr.i ⟨rfl, by omega⟩)) (fun p hp => by
      by_cases e : p = m
      · rw [e, setI_s]
      · rw [setI_k (by omega)]; exact g p (by omega))
    have e100 : ∀ q, τ1.1 100 q = σ.1 100 q := fun q => by rw [f1.1 _ _ (by omega), f.1 _ _ (by unfold MgF; omega)]
    have hb1 : LB τ1 S k (mv S k) v := by
      rcases hb with h | ⟨r, h1, h2, h3⟩
      · exact Or.inl h
      · exact Or.inr ⟨r, h1, h2, fun q hq => by rw [f1.1 _ _ (by omega)]; exact h3 q hq⟩
    have pE := hb1.p I hm (by rw [e100]; exact H0.2.2.1 k (by omega) m (by omega)) (show k < 6 by omega)
    refine ⟨σ', ?_, u2⟩
    show f_X6_mend_b22 _ (f_X6_mend_l22 _ n) _ _ _ _ _ _ = _; unfold f_X6_mend_b22
    unfold f_X6_mend_b66
    rw [f1.1 93 3 (by omega), f.1 93 3 (by unfold MgF; omega), H0.1.1, if_neg (nI_ge hm (by omega))]
    by_cases q : 0 ≤ v
    · rw [if_pos q] at pE ⊢
      rw [pE, bind_s, l_5, pk_mul, nI_add, stI_n (by rw [ln109]; omega), bind_s, nI_1, bind_s]
      exact u1
    · rw [if_neg q] at pE ⊢
      rw [pE, bind_s, l_5, pk_mul, nI_add, stI_n (by rw [ln109]; omega), bind_s, nI_1, bind_s]
      exact u1
theorem m_put (I : Inv S) {k A : Nat} (hk : k < nk S) (K : St → Nat → Int32 → Int32 → Option (Int32 × St)) (τ : St) (hτ : HM τ (wS S k 0)) (h9 : ∀ j p, j < nk S → p < pl S → τ.1 109 (5 * j + p) = nI (mnd S j p)) : ∃ σ', f_X6_mend_l99 K FU τ 93 (nI A) (nI k) 0 = K σ' 93 (nI A) (nI (k + 1)) ∧ HM σ' (wS S (k + 1) 0) ∧ Fr (fun a _ => a = 100) τ σ' := by
  have n6 := I.1.2.2.2.2.2.2.1
  have p5 := I.1.2.1
  have gen := lp_0 (P := fun n m => ∀ τ1, Fr (fun a _ => a = 100) τ τ1 → HM τ1 (wS S k m) → ∃ σ', f_X6_mend_l99 K n τ1 93 (nI A) (nI k) (nI m) = K σ' 93 (nI A) (nI (k + 1)) ∧ HM σ' (wS S (k + 1) 0) ∧ Fr (fun a _ => a = 100) τ σ') (pl S) (by omega) (fun n τ1 f1 h1 => ?_) (fun n m hm ih τ1 f1 h1 => ?_)
  · exact gen τ (Fr.r τ) hτ
  · have e3 : τ1.1 93 3 = nI (pl S) := h1.1.1
    refine ⟨τ1, ?_, ?_, f1⟩
    · show f_X6_mend_b99 _ (f_X6_mend_l99 _ n) _ _ _ _ _ = _; unfold f_X6_mend_b99
      rw [e3, if_pos (nI_le (Nat.le_refl _) (by omega)), nI_1, bind_s]
    · rw [← wS_n I k (Nat.le_refl _)]
      exact h1
  · have e3 : τ1.1 93 3 = nI (pl S) := h1.1.1
    obtain ⟨σ', u1, u2⟩ := ih (setI τ1 100 (5 * k + m) (nI (mnd S k m))) (f1.t (Fr.i rfl)) (by
      have := m_sCu h1 k m (mnd S k m) (by omega)
      rw [wS_s] at this
      exact this)
    refine ⟨σ', ?_, u2⟩
    show f_X6_mend_b99 _ (f_X6_mend_l99 _ n) _ _ _ _ _ = _; unfold f_X6_mend_b99
    rw [e3, if_neg (nI_ge hm (by omega)), l_5, pk_mul, nI_add, ldI_n (by rw [ln109]; omega), bind_s, f1.1 _ _ (by omega), h9 k m hk hm, stI_n (by rw [ln100]; omega), bind_s, nI_1, bind_s]
    exact u1
theorem m_mend (H0 : HM σ S) (I : Inv S) : ∃ σ', f_X6_mend σ 93 = some (nI (sm (mct S) (nk S)), σ') ∧ HM σ' (sCo (wS S (nk S) 0) (co S + nI (sm (mct S) (nk S)))) ∧ Fr (fun a j => XF a j ∨ SC a j) σ σ' := by
  have n6 := I.1.2.2.2.2.2.2.1
  have puts : ∀ A (τ : St), HM τ S → (∀ j p, j < nk S → p < pl S → τ.1 109 (5 * j + p) = nI (mnd S j p)) → ∃ σ', f_X6_mend_l89 FU τ 93 (nI A) 0 = some (nI A, σ') ∧ HM σ' (sCo (wS S (nk S) 0) (co S + nI A)) ∧ Fr XF τ σ' := by
    intro A τ hτ h9
    have gen := lp_0 (P := fun n m => ∀ τ1, Fr (fun a _ => a = 100) τ τ1 → HM τ1 (wS S m 0) → ∃ σ', f_X6_mend_l89 n τ1 93 (nI A) (nI m) = some (nI A, σ') ∧ HM σ' (sCo (wS S (nk S) 0) (co S + nI A)) ∧ Fr XF τ σ') (nk S) (by omega) (fun n τ1 f1 h1 => ?_) (fun n m hm ih τ1 f1 h1 => ?_)
    · exact gen τ (Fr.r τ) (by rw [wS_0]; exact hτ)
    · have e6 : τ1.1 93 6 = nI (nk S) := h1.1.2.2.2.1
      have e14 : τ1.1 93 14 = co S := h1.1.2.2.2.2.2.1
      refine ⟨setI τ1 93 14 (co S + nI A), ?_, m_sCo h1 _, (f1.w fun a j z => by unfold XF; omega).t (Fr.i (by unfold XF; omega))⟩
      show f_X6_mend_b89 (f_X6_mend_l89 n) _ _ _ _ = _; unfold f_X6_mend_b89
      rw [e6, if_pos (nI_le (Nat.le_refl _) (by omega)), e14, ptI_s, bind_s]
    · have e6 : τ1.1 93 6 = nI (nk S) := h1.1.2.2.2.1
      obtain ⟨s2, w1, w2, w3⟩ := m_put I (A := A) hm (f_X6_mend_l89 n) τ1 h1 (fun j p hj hp => by rw [f1.1 _ _ (by omega)]; exact h9 j p hj hp)
      obtain ⟨σ', u1, u2⟩ := ih s2 (f1.t w3) w2
      refine ⟨σ', ?_, u2⟩
      show f_X6_mend_b89 (f_X6_mend_l89 n) _ _ _ _ = _; unfold f_X6_mend_b89
      rw [e6, if_neg (nI_ge hm (by omega))]
      exact w1.trans u1
  have gen := lp_0 (P := fun n m => ∀ τ, Fr MgF σ τ → (∀ j p, j < m → p < pl S → τ.1 109 (5 * j + p) = nI (mnd S j p)) → ∃ σ', f_X6_mend_l4 n τ 93 (nI (sm (mct S) m)) (nI m) = some (nI (sm (mct S) (nk S)), σ') ∧ HM σ' (sCo (wS S (nk S) 0) (co S + nI (sm (mct S) (nk S)))) ∧ Fr (fun a j => XF a j ∨ SC a j) σ σ') (nk S) (by omega) (fun n τ f h9 => ?_) (fun n m hm ih τ f h9 => ?_)
  · exact gen σ (Fr.r σ) (fun j p hj => absurd hj (Nat.not_lt_zero j))
  · have H1 : HM τ S := H0.fr (f.w fun a j z => by unfold MgF at z; unfold MF; omega)
    obtain ⟨σ', u1, u2, u3⟩ := puts _ τ H1 h9
    refine ⟨σ', ?_, u2, (f.w fun a j z => by unfold MgF at z; unfold SC; omega).t (u3.w fun a j z => Or.inl z)⟩
    show f_X6_mend_b4 (f_X6_mend_l4 n) _ _ _ _ = _; unfold f_X6_mend_b4
    rw [H1.1.2.2.2.1, if_pos (nI_le (Nat.le_refl _) (by omega))]
    exact u1
  · have H1 : HM τ S := H0.fr (f.w fun a j z => by unfold MgF at z; unfold MF; omega)
    obtain ⟨v, s2, e1, e2, e3⟩ := m_leastM H1 I hm
    obtain ⟨s3, w1, w2, w3⟩ := m_first H0 I hm (f_X6_mend_l4 n) (sm (mct S) m) s2 v (f.t (e3.w fun a j z => by unfold LpF at z; unfold MgF; omega)) e2 (fun j p hj hp => by rw [e3.1 _ _ (by unfold LpF; omega)]; exact h9 j p hj hp)
    obtain ⟨σ', u1, u2⟩ := ih s3 w2 w3
    refine ⟨σ', ?_, u2⟩
    show f_X6_mend_b4 (f_X6_mend_l4 n) _ _ _ _ = _; unfold f_X6_mend_b4
    rw [H1.1.2.2.2.1, if_neg (nI_ge hm (by omega))]
    exact b2_e e1 (w1.trans u1)
theorem op_mend (H : Sm σ S) : Agr (fun s => f_X5_mend s 0) (fun s => f_X6_mend s 93) σ := by
  obtain ⟨hc, hm, I, -⟩ := id H
  obtain ⟨σ1, e1, e2, e3⟩ := c_plan hc I
  have H1c : HC σ1 39 S := hc.cf (e3.w fun _ _ => SC_CF)
  obtain ⟨σ2, d1, d2, d3⟩ := c_do H1c I e2
  have PL2 : PLm σ2 (wS S (nk S) 0) (nk S) → True := fun _ => trivial
  have mc : f_X4_mendingCoins σ2 5 = some (nI (sm (mct S) (nk S))) := by
    have h5 : σ2.1 39 5 = nI (nk S) := d2.1.2.2.2.2.2.1
    have n6 := I.1.2.2.2.2.2.2.1
    show f_X4_mendingCoins_l4 σ2 FU 5 (nI (sm (mct S) 0)) (nI 0) = _
    refine lp_0 (P := fun n m => f_X4_mendingCoins_l4 σ2 n 5 (nI (sm (mct S) m)) (nI m) = some (nI (sm (mct S) (nk S)))) (nk S) (by omega) (fun n => ?_) (fun n m hm ih => ?_)
    · show f_X4_mendingCoins_b4 _ (f_X4_mendingCoins_l4 _ n) _ _ _ = _; unfold f_X4_mendingCoins_b4
      rw [h5, if_pos (nI_le (Nat.le_refl _) (by omega))]
    · show f_X4_mendingCoins_b4 _ (f_X4_mendingCoins_l4 _ n) _ _ _ = _; unfold f_X4_mendingCoins_b4
      rw [h5, if_neg (nI_ge hm (by omega)), c_at (by rw [ln10]; omega), bind_s, d3.1 _ _ (by unfold HF; omega), ((e2 m hm).c I).1, nI_add, bind_s, nI_1, bind_s]
      exact ih
  have e3' : σ2.1 39 3 = co S := d2.1.2.2.2.1
  refine Agr.us (r := nI (sm (mct S) (nk S))) (S' := sCo (wS S (nk S) 0) (co S + nI (sm (mct S) (nk S)))) H (σ1 := setI σ2 39 3 (co S + nI (sm (mct S) (nk S)))) ?_ (((e3.w fun a j z => Or.inr z).t (d3.w fun a j z => Or.inl z)).t (Fr.i (Or.inl (by unfold HF; omega)))) (c_sCo d2 _) (Nat.le_refl _) (inv_wS I (Nat.le_refl _)) (fun hm' => ?_)
  · show f_X5_mend σ 0 = _
    unfold f_X5_mend
    rw [e1, bind_s, d1, bind_s, mc, bind_s, e3', ptI_s, bind_s]
  · obtain ⟨σ3, u1, u2, u3⟩ := m_mend hm' I
    exact ⟨σ3, u1, u3, u2⟩
end MENDED
