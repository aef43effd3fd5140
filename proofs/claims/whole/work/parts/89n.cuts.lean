theorem al_s (f : Nat → Bool) (m : Nat) : al f (m + 1) = (al f m && f m) := rfl
theorem bt_nat (v : Nat) {i : Nat} (hi : i < 32) : bt (nI v) i = v.testBit i := by
  show (BitVec.ofNat 32 v).getLsbD i = _
  rw [BitVec.getLsbD_ofNat, decide_eq_true hi, Bool.true_and]
theorem mk_of {v n : Nat} (hn : n ≤ 32) (h : v < 2 ^ n) : mk (bt (nI v)) n = nI v := b_ext fun i hi => by
  rw [bt_mk _ hn hi, bt_nat v hi]
  by_cases q : i < n
  · rw [decide_eq_true q, Bool.true_and]
  · rw [decide_eq_false q, Bool.false_and, Nat.testBit_lt_two_pow (Nat.lt_of_lt_of_le h (Nat.pow_le_pow_right (by decide) (by omega)))]
theorem mk_al {f : Nat → Bool} {x : Int32} {n : Nat} (hn : n ≤ 32) (hx : mk (bt x) n = x) : decide (mk f n = x) = al (fun l => decide (f l = bt x l)) n := by
  apply Bool.eq_iff_iff.mpr
  rw [decide_eq_true_eq, al_iff]
  constructor
  · intro h k hk
    rw [decide_eq_true_eq]
    rw [← hx] at h
    exact mk_inj hn h k hk
  · intro h
    rw [← hx]
    exact mk_c fun k hk => of_decide_eq_true (h k hk)
theorem pw_8 {n : Nat} (h : n ≤ 8) : 2 ^ n ≤ 256 := Nat.pow_le_pow_right (by decide) h
theorem first_pw {n : Nat} (h : n ≤ 8) : (1 : Int32) <<< (nI n &&& 31) - 1 = nI (2 ^ n) - 1 := by rw [sh_pow n (by omega)]
section CUTS
variable {σ : St} {S : HS}
theorem c_isLocks_i (H : HC σ 39 S) (I : Inv S) {v : Nat} (hv : v < 2 ^ nl S) : f_X5_isLocks σ 0 (nI v) = some 1 := by
  have n8 := I.1.2.2.2.2.2.2.2
  have := pw_8 n8
  unfold f_X5_isLocks f_X5_firstBits
  rw [H.1.2.2.2.2.2.2.1, first_pw n8, bind_s, w_i0 hv (by omega)]
  rfl
theorem c_isLocks_o (H : HC σ 39 S) (I : Inv S) {x : Int32} (h : ¬ inR x 0 (2 ^ nl S)) : f_X5_isLocks σ 0 x = some 0 := by
  have n8 := I.1.2.2.2.2.2.2.2
  have := pw_8 n8
  unfold f_X5_isLocks f_X5_firstBits
  rw [H.1.2.2.2.2.2.2.1, first_pw n8, bind_s, w_o0 h (by omega)]
  rfl
theorem c_isKeys_i (H : HC σ 39 S) (I : Inv S) {v : Nat} (hv : v < 2 ^ nk S) : f_X5_isKeys σ 0 (nI v) = some 1 := by
  have n6 := I.1.2.2.2.2.2.2.1
  have := pw_8 (show nk S ≤ 8 by omega)
  unfold f_X5_isKeys f_X5_firstBits
  rw [H.1.2.2.2.2.2.1, first_pw (by omega), bind_s, w_i0 hv (by omega)]
  rfl
theorem c_isKeys_o (H : HC σ 39 S) (I : Inv S) {x : Int32} (h : ¬ inR x 0 (2 ^ nk S)) : f_X5_isKeys σ 0 x = some 0 := by
  have n6 := I.1.2.2.2.2.2.2.1
  have := pw_8 (show nk S ≤ 8 by omega)
  unfold f_X5_isKeys f_X5_firstBits
  rw [H.1.2.2.2.2.2.1, first_pw (by omega), bind_s, w_o0 h (by omega)]
  rfl
theorem m_set_i (H : HM σ S) (I : Inv S) {v : Nat} (hv : v < 2 ^ nl S) : f_X6_within (nI v) 0 ((1 <<< ((σ.1 93 11) &&& 31)) - 1) = some 1 := by
  have n8 := I.1.2.2.2.2.2.2.2
  have := pw_8 n8
  rw [H.1.2.2.2.2.1, first_pw n8, w_6, w_i0 hv (by omega)]
theorem m_set_o (H : HM σ S) (I : Inv S) {x : Int32} (h : ¬ inR x 0 (2 ^ nl S)) : f_X6_within x 0 ((1 <<< ((σ.1 93 11) &&& 31)) - 1) = some 0 := by
  have n8 := I.1.2.2.2.2.2.2.2
  have := pw_8 n8
  rw [H.1.2.2.2.2.1, first_pw n8, w_6, w_o0 h (by omega)]
theorem m_ks_i (H : HM σ S) (I : Inv S) {v : Nat} (hv : v < 2 ^ nk S) : f_X6_within (nI v) 0 ((1 <<< ((σ.1 93 6) &&& 31)) - 1) = some 1 := by
  have n6 := I.1.2.2.2.2.2.2.1
  have := pw_8 (show nk S ≤ 8 by omega)
  rw [H.1.2.2.2.1, first_pw (by omega), w_6, w_i0 hv (by omega)]
theorem m_ks_o (H : HM σ S) (I : Inv S) {x : Int32} (h : ¬ inR x 0 (2 ^ nk S)) : f_X6_within x 0 ((1 <<< ((σ.1 93 6) &&& 31)) - 1) = some 0 := by
  have n6 := I.1.2.2.2.2.2.2.1
  have := pw_8 (show nk S ≤ 8 by omega)
  rw [H.1.2.2.2.1, first_pw (by omega), w_6, w_o0 h (by omega)]
def TBL (σ : St) (t P D N : Nat) (G : Nat → Nat → Nat → Bool) : Prop := ln t = 25 ∧ ∀ p, p < P → ∀ d, d ≤ D → σ.1 t (p * 5 + d) = mk (fun i => G i p d) N
theorem c_fitrow {t N : Nat} {G : Nat → Nat → Nat → Bool} {row : Nat → Nat} (H : HC σ 39 S) (I : Inv S) (T : TBL σ t (pl S) (dp S) N G) (hN : N ≤ 8) (hr : ∀ q, q < pl S → σ.1 7 q = nI (row q) ∧ row q ≤ dp S) : f_X4_fittingRow σ 5 t (mk (fun _ => true) N) = some (mk (fun i => al (fun p => G i p (row p)) (pl S)) N) := by
  have p5 := I.1.2.1
  have d4 := I.1.2.2.2.1
  have e0 := H.1.1
  show f_X4_fittingRow_l5 σ FU 5 t (mk (fun i => al (fun p => G i p (row p)) 0) N) (nI 0) = _
  refine lp_0 (P := fun n m => f_X4_fittingRow_l5 σ n 5 t (mk (fun i => al (fun p => G i p (row p)) m) N) (nI m) = some (mk (fun i => al (fun p => G i p (row p)) (pl S)) N)) (pl S) (by omega) (fun n => ?_) (fun n m hm ih => ?_)
  · show f_X4_fittingRow_b5 _ (f_X4_fittingRow_l5 _ n) _ _ _ _ = _; unfold f_X4_fittingRow_b5
    rw [e0, if_pos (nI_le (Nat.le_refl _) (by omega))]
  · have r1 := hr m hm
    show f_X4_fittingRow_b5 _ (f_X4_fittingRow_l5 _ n) _ _ _ _ = _; unfold f_X4_fittingRow_b5
    rw [e0, if_neg (nI_ge hm (by omega)), c_at (by rw [ln7]; omega), bind_s, r1.1, l_5, pk_mul, nI_add, c_at (by rw [T.1]; omega), bind_s, T.2 m hm _ r1.2, mk_and (by omega), bind_s, bind_s, nI_1]
    exact ih
/-- does a row do, what does it come to -/
def okr (S : HS) (N : Nat) (G : Nat → Nat → Nat → Bool) (x : Int32) (r : Nat) : Bool := decide (mk (fun i => al (fun p => G i p (dg (dp S + 1) (pl S) r p)) (pl S)) N = x)
def csr (S : HS) (r : Nat) : Nat := sm (dg (dp S + 1) (pl S) r) (pl S)
def MR (S : HS) : Nat := (dp S + 1) ^ pl S
theorem MR_le (I : Inv S) : nI ((dp S + 1) ^ pl S) ≤ nI (MR S) := nI_le (Nat.le_refl _) (by have := rows_le I; unfold MR; omega)
theorem MR_gt (I : Inv S) {m : Nat} (hm : m < MR S) : ¬ nI ((dp S + 1) ^ pl S) ≤ nI m := nI_ge (show m < (dp S + 1) ^ pl S from hm) (by have := rows_le I; omega)
theorem csr_le (I : Inv S) (r : Nat) : csr S r ≤ 20 := sum_le I.1.2.1 I.1.2.2.2.1 (fun p _ => dg_le)
/-- the best row so far, as the class has it -/
def BR (σ : St) (S : HS) (b : Option Nat) (v : Int32) : Prop := (b = none ∧ v = -1) ∨ ∃ r, b = some r ∧ v = nI (csr S r) ∧ ∀ q, q < pl S → σ.1 8 q = nI (dg (dp S + 1) (pl S) r q)
theorem BR.fr {σ' : St} {b : Option Nat} {v : Int32} (h : BR σ S b v) (f : ∀ q, q < pl S → σ'.1 8 q = σ.1 8 q) : BR σ' S b v := by
  rcases h with h | ⟨r, h1, h2, h3⟩
  · exact Or.inl h
  · exact Or.inr ⟨r, h1, h2, fun q hq => by rw [f q hq]; exact h3 q hq⟩
theorem ln8 : ln 8 = 5 := by decide +kernel
theorem ln6 : ln 6 = 5 := by decide +kernel
theorem lr_tl {t N : Nat} {x : Int32} {ok : Nat → Bool} {c step : Nat} {v : Int32} {K : St → Nat → Nat → Int32 → Int32 → Int32 → Int32 → Option (Int32 × St)} (H : HC σ 39 S) (I : Inv S) (z6 : ∀ j, j < 5 → σ.1 6 j = 0) (hc : c < MR S) (hr : ∀ q, q < pl S → σ.1 7 q = nI (dg (dp S + 1) (pl S) c q)) (hb : BR σ S (bst ok (csr S) (c + 1)) v) (kk : c + 1 < MR S → ∀ σ1, Fr (fun a _ => a = 7) σ σ1 → (∀ q, q < pl S → σ1.1 7 q = nI (dg (dp S + 1) (pl S) (c + 1) q)) → ∃ v' σ', K σ1 5 t (mk (fun _ => true) N) x v (nI (step + 1)) = some (v', σ') ∧ BR σ' S (bst ok (csr S) (MR S)) v' ∧ Fr (fun a _ => a = 7 ∨ a = 8) σ σ') : ∃ v' σ', f_X4_leastRow_b76 K σ 5 t (mk (fun _ => true) N) x v (nI step) = some (v', σ') ∧ BR σ' S (bst ok (csr S) (MR S)) v' ∧ Fr (fun a _ => a = 7 ∨ a = 8) σ σ' := by
  have p5 := I.1.2.1
  have d4 := I.1.2.2.2.1
  obtain ⟨σ1, f1, h⟩ := c_adv (σ := σ) (l := fun _ => 0) (a := 6) (c := c) H.1.1 H.1.2.1 I.1.1 p5 d4 ln6 (by decide) (fun q hq => ⟨z6 q (by omega), Nat.zero_le _⟩) (fun q _ => Nat.zero_le _) hc hr
  unfold f_X4_leastRow_b76
  rcases h with ⟨u, g⟩ | ⟨u, c', h1, h2, h3, h4, h5⟩
  · have ec : c + 1 = MR S := by
      apply Classical.byContradiction
      intro z
      obtain ⟨q, -, hq⟩ := g (c + 1) (by omega) (by unfold MR at *; omega)
      exact absurd hq (Nat.not_lt_zero _)
    refine ⟨v, σ1, b2_e u (if_pos rfl), ?_, f1.w fun a j z => Or.inl z⟩
    rw [← ec]
    exact hb.fr (fun q _ => f1.1 _ _ (by omega))
  · have ec : c' = c + 1 := by
      apply Classical.byContradiction
      intro z
      obtain ⟨q, -, hq⟩ := h4 (c + 1) (by omega) (by omega)
      exact absurd hq (Nat.not_lt_zero _)
    subst ec
    obtain ⟨v', σ', u1, u2, u3⟩ := kk h2 σ1 f1 h5
    refine ⟨v', σ', b2_e u ?_, u2, u3⟩
    rw [if_neg (by decide), bind_s, nI_1]
    exact u1
theorem c_leastRow {t N : Nat} {G : Nat → Nat → Nat → Bool} (H0 : HC σ 39 S) (I : Inv S) (z6 : ∀ j, j < 5 → σ.1 6 j = 0) (ht : t ≠ 7 ∧ t ≠ 8) (T0 : TBL σ t (pl S) (dp S) N G) (hN : N ≤ 8) (x : Int32) : ∃ v σ', f_X4_leastRow σ 5 t (mk (fun _ => true) N) x = some (v, σ') ∧ BR σ' S (bst (okr S N G x) (csr S) (MR S)) v ∧ Fr (fun a _ => a = 7 ∨ a = 8) σ σ' := by
  have p5 := I.1.2.1
  have d4 := I.1.2.2.2.1
  have rl := rows_le I
  have lp : ∀ n c step σ1 v, c < MR S → MR S - c ≤ n → step ≤ c → Fr (fun a _ => a = 7 ∨ a = 8) σ σ1 → (∀ q, q < pl S → σ1.1 7 q = nI (dg (dp S + 1) (pl S) c q)) → BR σ1 S (bst (okr S N G x) (csr S) c) v → ∃ v' σ', f_X4_leastRow_l14 n σ1 5 t (mk (fun _ => true) N) x v (nI step) = some (v', σ') ∧ BR σ' S (bst (okr S N G x) (csr S) (MR S)) v' ∧ Fr (fun a _ => a = 7 ∨ a = 8) σ σ' := by
    intro n
    induction n with
    | zero => intro c step σ1 v h1 h2; omega
    | succ n ih =>
      intro c step σ1 v hc hn hs f1 hr hb
      have hM : MR S ≤ 3125 := rl
      have H1 : HC σ1 39 S := H0.cf (f1.w fun a j z => by unfold CF; omega)
      have T1 : TBL σ1 t (pl S) (dp S) N G := ⟨T0.1, fun p hp d hd => by rw [f1.1 _ _ (by omega)]; exact T0.2 p hp d hd⟩
      have z1 : ∀ j, j < 5 → σ1.1 6 j = 0 := fun j hj => by rw [f1.1 _ _ (by omega)]; exact z6 j hj
      have sumE : f_X0_sum σ1 39 7 = some (nI (csr S c)) := c_sum (H1.B I) ⟨ln7, hr, fun p _ => dg_le⟩
      have fitE := c_fitrow H1 I T1 hN (row := dg (dp S + 1) (pl S) c) (fun q hq => ⟨hr q hq, dg_le⟩)
      have cl := csr_le I c
      -- the tail, over the state that it is at
      have tail : ∀ (σ2 : St) (v2 : Int32), Fr (fun a _ => a = 8) σ1 σ2 → BR σ2 S (bst (okr S N G x) (csr S) (c + 1)) v2 → ∃ v' σ', f_X4_leastRow_b76 (f_X4_leastRow_l14 n) σ2 5 t (mk (fun _ => true) N) x v2 (nI step) = some (v', σ') ∧ BR σ' S (bst (okr S N G x) (csr S) (MR S)) v' ∧ Fr (fun a _ => a = 7 ∨ a = 8) σ σ' := by
        intro σ2 v2 f2 b2'
        have f12 : Fr (fun a _ => a = 7 ∨ a = 8) σ σ2 := f1.t (f2.w fun a j z => Or.inr z)
        have H2 : HC σ2 39 S := H0.cf (f12.w fun a j z => by unfold CF; omega)
        obtain ⟨v', σ', u1, u2, u3⟩ := lr_tl (t := t) (N := N) (x := x) (ok := okr S N G x) (step := step) (K := f_X4_leastRow_l14 n) H2 I (fun j hj => by rw [f12.1 _ _ (by omega)]; exact z6 j hj) hc (fun q hq => by rw [f2.1 _ _ (by omega)]; exact hr q hq) b2' (fun hlt σ3 f3 hr3 => by
          obtain ⟨v', σ', u1, u2, u3⟩ := ih (c + 1) (step + 1) σ3 v2 hlt (by omega) (by omega) (f12.t (f3.w fun a j z => Or.inl z)) hr3 (b2'.fr (fun q _ => f3.1 _ _ (by omega)))
          refine ⟨v', σ', u1, u2, ?_⟩
          exact ⟨fun a j z => by rw [u3.1 a j z, f12.1 a j z], by rw [u3.2, f12.2]⟩)
        exact ⟨v', σ', u1, u2, f12.t u3⟩
      have keep : bst (okr S N G x) (csr S) (c + 1) = bst (okr S N G x) (csr S) c → ∃ v' σ', f_X4_leastRow_b76 (f_X4_leastRow_l14 n) σ1 5 t (mk (fun _ => true) N) x v (nI step) = some (v', σ') ∧ BR σ' S (bst (okr S N G x) (csr S) (MR S)) v' ∧ Fr (fun a _ => a = 7 ∨ a = 8) σ σ' := fun e => tail σ1 v (Fr.r _) (by rw [e]; exact hb)
      have chk : (okr S N G x c = true → bst (okr S N G x) (csr S) (c + 1) = some c) → (okr S N G x c = false → bst (okr S N G x) (csr S) (c + 1) = bst (okr S N G x) (csr S) c) → ∃ v' σ', f_X4_leastRow_b48 (f_X4_leastRow_l14 n) σ1 5 t (mk (fun _ => true) N) x v (nI step) (nI (csr S c)) = some (v', σ') ∧ BR σ' S (bst (okr S N G x) (csr S) (MR S)) v' ∧ Fr (fun a _ => a = 7 ∨ a = 8) σ σ' := by
        intro y1 y2
        unfold f_X4_leastRow_b48
        rw [fitE, bind_s]
        by_cases q : mk (fun i => al (fun p => G i p (dg (dp S + 1) (pl S) c p)) (pl S)) N = x
        · rw [if_pos q]
          obtain ⟨s2, w1, w2, w3⟩ := cp_n (σ := σ1) (a := 7) (b := 8) (n := 5) (by rw [ln7]; exact Nat.le_refl _) (by rw [ln8]; exact Nat.le_refl _)
          have w1' : cpI σ1 7 0 8 0 5 = some s2 := w1
          rw [w1', bind_s]
          have oc : okr S N G x c = true := by unfold okr; exact decide_eq_true q
          refine tail s2 (nI (csr S c)) (w3.w fun a j z => z.1) (Or.inr ⟨c, y1 oc, rfl, fun q hq => ?_⟩)
          rw [w2 q (by omega)]
          exact hr q hq
        · rw [if_neg q]
          have oc : okr S N G x c = false := by unfold okr; exact decide_eq_false q
          exact keep (y2 oc)
      show ∃ v' σ', f_X4_leastRow_b14 (f_X4_leastRow_l14 n) σ1 5 t (mk (fun _ => true) N) x v (nI step) = some (v', σ') ∧ BR σ' S (bst (okr S N G x) (csr S) (MR S)) v' ∧ Fr (fun a _ => a = 7 ∨ a = 8) σ σ'
      unfold f_X4_leastRow_b14
      rw [if_neg (show ¬ (3125 : Int32) ≤ nI step from nI_ge (a := step) (b := 3125) (by omega) (by decide)), sumE, bind_s]
      rcases hb with ⟨e1, e2⟩ | ⟨r, e1, e2, e3⟩
      · rw [if_pos e2]
        refine chk (fun o => ?_) (fun o => ?_)
        · rw [bst, e1]
          simp only [o, if_true]
        · rw [bst, e1]
          simp only [o, Bool.false_eq_true, if_false]
      · have rl2 := csr_le I r
        rw [if_neg (by rw [e2]; exact nm1_ne _ (by omega))]
        by_cases q : csr S r ≤ csr S c
        · rw [if_pos (by rw [e2]; exact nI_le q (by omega))]
          refine keep ?_
          rw [bst, e1]
          simp only [decide_eq_false (show ¬ csr S c < csr S r by omega), Bool.and_false, Bool.false_eq_true, if_false]
        · rw [if_neg (by rw [e2]; exact nI_ge (by omega) (by omega))]
          refine chk (fun o => ?_) (fun o => ?_)
          · rw [bst, e1]
            simp only [o, decide_eq_true (show csr S c < csr S r by omega), Bool.and_self, if_true]
          · rw [bst, e1]
            simp only [o, Bool.false_and, Bool.false_eq_true, if_false]
  obtain ⟨s1, a1, a2, a3⟩ := c_fillI (σ := σ) (a := 7) ln7 (by decide) 0
  have M0 : 0 < MR S := Nat.pow_pos (Nat.succ_pos _)
  obtain ⟨v', σ', u1, u2, u3⟩ := lp FU 0 0 s1 (-1) M0 (by have : MR S ≤ 3125 := rl; show MR S - 0 ≤ 4000; omega) (Nat.le_refl _) (a3.w fun a j z => Or.inl z) (fun q hq => by
    rw [a2 q (by omega)]
    unfold dg
    rw [Nat.zero_div, Nat.zero_mod]
    rfl) (Or.inl ⟨rfl, rfl⟩)
  exact ⟨v', σ', bind_e a1 u1, u2, u3⟩
/-- the answer of a question for the best row -/
def rs (S : HS) (b : Option Nat) (y : Int32) : Int32 := match b with
  | none => -1
  | some r => if y = -1 then nI (csr S r) else nI (dg (dp S + 1) (pl S) r y.toNatClampNeg)
theorem m_rowFits (H : HM σ S) (I : Inv S) {r l : Nat} (hr : r < 2 ^ 31) (hl : l < 8) : f_X6_rowFits σ 93 (nI r) (nI l) = some (if al (fun p => decide (as S l p ≤ dg (dp S + 1) (pl S) r p)) (pl S) then 1 else 0) := by
  have p5 := I.1.2.1
  have d4 := I.1.2.2.2.1
  have e3 := H.1.1
  have gen := lp_0 (P := fun n m => al (fun p => decide (as S l p ≤ dg (dp S + 1) (pl S) r p)) m = true → f_X6_rowFits_l2 σ n 93 (nI r) (nI l) (nI m) = some (if al (fun p => decide (as S l p ≤ dg (dp S + 1) (pl S) r p)) (pl S) then 1 else 0)) (pl S) (by omega) (fun n h => ?_) (fun n m hm ih h => ?_)
  · exact gen rfl
  · show f_X6_rowFits_b2 _ (f_X6_rowFits_l2 _ n) _ _ _ _ = _; unfold f_X6_rowFits_b2
    rw [e3, if_pos (nI_le (Nat.le_refl _) (by omega)), h]
    rfl
  · show f_X6_rowFits_b2 _ (f_X6_rowFits_l2 _ n) _ _ _ _ = _; unfold f_X6_rowFits_b2
    have a1 := (I.2.2.2.1 l m).1
    have b1 := dg_le (D := dp S) (P := pl S) (r := r) (p := m)
    rw [e3, if_neg (nI_ge hm (by omega)), m_dig H I hr hm, bind_s, l_5, pk_mul, nI_add, H.a hl (by omega), bind_s]
    by_cases q : as S l m ≤ dg (dp S + 1) (pl S) r m
    · rw [if_pos (nI_le q (by omega)), bind_s, nI_1]
      exact ih (by rw [al, h, decide_eq_true q]; rfl)
    · rw [if_neg (nI_ge (by omega) (by omega))]
      have : al (fun p => decide (as S l p ≤ dg (dp S + 1) (pl S) r p)) (pl S) = false := by
        apply Bool.eq_false_iff.mpr
        intro z
        have := al_iff.mp z m hm
        exact q (of_decide_eq_true this)
      rw [this]
      rfl
def Gc (S : HS) (l p d : Nat) : Bool := decide (as S l p ≤ d)
theorem m_fitsJust (H : HM σ S) (I : Inv S) {r : Nat} {x : Int32} (hr : r < 2 ^ 31) (hx : mk (bt x) (nl S) = x) : f_X6_fitsJust σ 93 (nI r) x = some (if okr S (nl S) (Gc S) x r then 1 else 0) := by
  have n8 := I.1.2.2.2.2.2.2.2
  have e11 := H.1.2.2.2.2.1
  unfold okr
  rw [mk_al (by omega) hx]
  have gen := lp_0 (P := fun n m => al (fun l => decide (al (fun p => Gc S l p (dg (dp S + 1) (pl S) r p)) (pl S) = bt x l)) m = true → f_X6_fitsJust_l2 σ n 93 (nI r) x (nI m) = some (if al (fun l => decide (al (fun p => Gc S l p (dg (dp S + 1) (pl S) r p)) (pl S) = bt x l)) (nl S) then 1 else 0)) (nl S) (by omega) (fun n h => ?_) (fun n m hm ih h => ?_)
  · exact gen rfl
  · show f_X6_fitsJust_b2 _ (f_X6_fitsJust_l2 _ n) _ _ _ _ = _; unfold f_X6_fitsJust_b2
    rw [e11, if_pos (nI_le (Nat.le_refl _) (by omega)), h]
    rfl
  · show f_X6_fitsJust_b2 _ (f_X6_fitsJust_l2 _ n) _ _ _ _ = _; unfold f_X6_fitsJust_b2
    rw [e11, if_neg (nI_ge hm (by omega)), m_rowFits H I hr (by omega), bind_s, hs (by omega), bind_s]
    by_cases q : al (fun p => Gc S m p (dg (dp S + 1) (pl S) r p)) (pl S) = bt x m
    · have q' : al (fun p => decide (as S m p ≤ dg (dp S + 1) (pl S) r p)) (pl S) = bt x m := q
      rw [q', if_pos rfl, bind_s, nI_1]
      exact ih (by rw [al, h, decide_eq_true q]; rfl)
    · have q' : ¬ al (fun p => decide (as S m p ≤ dg (dp S + 1) (pl S) r p)) (pl S) = bt x m := q
      have ne : ¬ (if al (fun p => decide (as S m p ≤ dg (dp S + 1) (pl S) r p)) (pl S) = true then (1 : Int32) else 0) = (if bt x m = true then 1 else 0) := by
        revert q'
        cases al (fun p => decide (as S m p ≤ dg (dp S + 1) (pl S) r p)) (pl S) <;> cases bt x m <;> simp
      rw [if_neg ne]
      have : al (fun l => decide (al (fun p => Gc S l p (dg (dp S + 1) (pl S) r p)) (pl S) = bt x l)) (nl S) = false := by
        apply Bool.eq_false_iff.mpr
        intro z
        have := al_iff.mp z m hm
        exact q (of_decide_eq_true this)
      rw [this]
      rfl
theorem rs_p {r p : Nat} (hp : p < 2 ^ 31) : rs S (some r) (nI p) = nI (dg (dp S + 1) (pl S) r p) := by
  show (if nI p = -1 then nI (csr S r) else nI (dg (dp S + 1) (pl S) r (nI p).toNatClampNeg)) = _
  rw [if_neg (nm1_ne p hp), nI_clamp hp]
theorem rs_m {r : Nat} : rs S (some r) (-1) = nI (csr S r) := by
  show (if (-1 : Int32) = -1 then nI (csr S r) else nI (dg (dp S + 1) (pl S) r (-1 : Int32).toNatClampNeg)) = _
  rw [if_pos rfl]
/-- the model's best so far -/
def fdI (b : Option Nat) : Int32 := match b with
  | none => -1
  | some r => nI r
theorem m_fin (H : HM σ S) (I : Inv S) {ok : Nat → Bool} {y : Int32} (hy : y = -1 ∨ ∃ p, p < pl S ∧ y = nI p) : (if 0 ≤ fdI (bst ok (csr S) (MR S)) then (if y = (-1) then ((f_X6_sum σ 93 (fdI (bst ok (csr S) (MR S)))).bind fun v_102 => (some (v_102, σ))) else ((f_X6_of σ 93 (fdI (bst ok (csr S) (MR S))) y).bind fun v_111 => (some (v_111, σ)))) else (some ((-1), σ))) = some (rs S (bst ok (csr S) (MR S)) y, σ) := by
  have rl := rows_le I
  have hM : MR S ≤ 3125 := rl
  have p5 := I.1.2.1
  cases e : bst ok (csr S) (MR S) with
  | none => exact if_neg (by decide)
  | some r =>
    have hr := (bst_ok e).1
    show (if 0 ≤ nI r then _ else _) = some (rs S (some r) y, σ)
    rw [if_pos (show (0 : Int32) ≤ nI r from nI_le (a := 0) (b := r) (Nat.zero_le _) (by omega))]
    rcases hy with rfl | ⟨p, hp, rfl⟩
    · rw [if_pos rfl]
      exact bind_e (m_dsum H I (by omega)) rfl
    · rw [if_neg (nm1_ne p (by omega))]
      refine bind_e (m_dig H I (by omega) hp) ?_
      rw [rs_p (by omega)]
theorem m_cuts (H : HM σ S) (I : Inv S) {x y : Int32} (hx : mk (bt x) (nl S) = x) (hy : y = -1 ∨ ∃ p, p < pl S ∧ y = nI p) : f_X6_cuts_l41 FU σ 93 x y (-1) 0 = some (rs S (bst (okr S (nl S) (Gc S) x) (csr S) (MR S)) y, σ) := by
  have rl := rows_le I
  have hM : MR S ≤ 3125 := rl
  show f_X6_cuts_l41 FU σ 93 x y (fdI (bst (okr S (nl S) (Gc S) x) (csr S) 0)) (nI 0) = _
  refine lp_0 (P := fun n m => f_X6_cuts_l41 n σ 93 x y (fdI (bst (okr S (nl S) (Gc S) x) (csr S) m)) (nI m) = some (rs S (bst (okr S (nl S) (Gc S) x) (csr S) (MR S)) y, σ)) (MR S) (by omega) (fun n => ?_) (fun n m hm ih => ?_)
  · show f_X6_cuts_b41 (f_X6_cuts_l41 n) _ _ _ _ _ _ = _; unfold f_X6_cuts_b41
    rw [m_rows H I, bind_s, if_pos (MR_le I)]
    exact m_fin H I hy
  · have hm31 : m < 2 ^ 31 := by omega
    have c1 := csr_le I m
    show f_X6_cuts_b41 (f_X6_cuts_l41 n) _ _ _ _ _ _ = _; unfold f_X6_cuts_b41
    unfold f_X6_cuts_b81 f_X6_cuts_b78 f_X6_cuts_b81
    rw [m_rows H I, bind_s, if_neg (MR_gt I hm), m_fitsJust H I hm31 hx, bind_s, ifz]
    rw [bst] at ih
    cases o : okr S (nl S) (Gc S) x m
    · rw [if_neg Bool.false_ne_true, bind_s, nI_1]
      rw [o] at ih
      revert ih
      cases bst (okr S (nl S) (Gc S) x) (csr S) m <;> exact fun ih => ih
    · rw [if_pos rfl]
      rw [o] at ih
      cases e : bst (okr S (nl S) (Gc S) x) (csr S) m with
      | none =>
        rw [e] at ih
        show (if fdI none < 0 then _ else _) = _
        rw [if_pos (by decide), bind_s, nI_1]
        exact ih
      | some r =>
        rw [e] at ih
        have hr := (bst_ok e).1
        have c2 := csr_le I r
        show (if nI r < 0 then _ else _) = _
        rw [if_neg (nI_pos (by omega)), m_dsum H I hm31, bind_s]
        show ((f_X6_sum σ 93 (nI r)).bind _) = _
        rw [m_dsum H I (by omega), bind_s]
        by_cases q : csr S r ≤ csr S m
        · rw [if_pos (nI_le (show sm (dg (dp S + 1) (pl S) r) (pl S) ≤ sm (dg (dp S + 1) (pl S) m) (pl S) from q) (by show csr S m < _; omega)), bind_s, nI_1]
          simp only [decide_eq_false (show ¬ csr S m < csr S r by omega), Bool.and_false, Bool.false_eq_true, if_false] at ih
          exact ih
        · rw [if_neg (nI_ge (show sm (dg (dp S + 1) (pl S) m) (pl S) < sm (dg (dp S + 1) (pl S) r) (pl S) by show csr S m < csr S r; omega) (by show csr S r < _; omega)), bind_s, nI_1]
          simp only [decide_eq_true (show csr S m < csr S r by omega), Bool.and_self, if_true] at ih
          exact ih
theorem c_fnd {b : Option Nat} {v y : Int32} (I : Inv S) (h : BR σ S b v) (hy : y = -1 ∨ ∃ p, p < pl S ∧ y = nI p) : (if v = (-1) then some (v, σ) else (if y = (-1) then some (v, σ) else ((f_X4_foundAt σ 5 y).bind fun v_56 => (some (v_56, σ))))) = some (rs S b y, σ) := by
  have p5 := I.1.2.1
  rcases h with ⟨rfl, rfl⟩ | ⟨r, rfl, rfl, h3⟩
  · rw [if_pos rfl]
    rfl
  · have := csr_le I r
    rw [if_neg (nm1_ne _ (by omega))]
    rcases hy with rfl | ⟨p, hp, rfl⟩
    · rw [if_pos rfl, rs_m]
    · rw [if_neg (nm1_ne p (by omega)), rs_p (by omega)]
      unfold f_X4_foundAt
      rw [c_at (by rw [ln8]; omega), bind_s, bind_s, h3 p hp]
theorem op_cuts (H : Sm σ S) (x y : Int32) : Agr (fun s => f_X5_cuts s 0 x y) (fun s => f_X6_cuts s 93 x y) σ := by
  obtain ⟨hc, hm, I, R⟩ := id H
  have n8 := I.1.2.2.2.2.2.2.2
  by_cases q : inR x 0 (2 ^ nl S)
  · obtain ⟨v, -, hv, rfl⟩ := q
    have hx := mk_of (show nl S ≤ 32 by omega) hv
    have main : (y = -1 ∨ ∃ p, p < pl S ∧ y = nI p) → f_X5_cuts σ 0 (nI v) y = f_X5_cuts_b28 σ 0 (nI v) y → (∀ τ, HM τ S → f_X6_cuts τ 93 (nI v) y = f_X6_cuts_b36 τ 93 (nI v) y) → Agr (fun s => f_X5_cuts s 0 (nI v) y) (fun s => f_X6_cuts s 93 (nI v) y) σ := by
      intro hy e1 e2
      have T : TBL σ 42 (pl S) (dp S) (nl S) (Gc S) := ⟨(ln_h isH39).2.2.1, fun p hp d hd => hc.2.2.2.1 p (by have := I.1.2.1; omega) d (by have := I.1.2.2.2.1; omega)⟩
      obtain ⟨w, σ1, u1, u2, u3⟩ := c_leastRow hc I R.2.2.1.2.2.2.2.2 ⟨by decide, by decide⟩ T n8 (nI v)
      refine Agr.q (σ1 := σ1) (r := rs S (bst (okr S (nl S) (Gc S) (nI v)) (csr S) (MR S)) y) H ?_ (u3.w fun a j z => by unfold SC; omega) (fun H1 => ⟨σ1, ?_, S, H1⟩)
      · show f_X5_cuts σ 0 (nI v) y = _
        rw [e1]
        unfold f_X5_cuts_b28 f_X4_leastCuts f_X5_cuts_b47
        rw [hc.1.2.2.2.2.2.2.1, c_first n8, bind_s]
        exact b2_e (b2_e u1 rfl) (c_fnd I u2 hy)
      · show f_X6_cuts σ1 93 (nI v) y = _
        rw [e2 σ1 H1.2.1]
        exact m_cuts H1.2.1 I hx hy
    by_cases y0 : y = -1
    · refine main (Or.inl y0) ?_ (fun τ hτ => ?_)
      · unfold f_X5_cuts
        rw [c_isLocks_i hc I hv, bind_s, if_neg (by decide), if_pos y0]
      · unfold f_X6_cuts
        rw [m_set_i hτ I hv, bind_s, if_neg (by decide), if_pos y0]
    · by_cases q1 : inR y 0 (pl S)
      · obtain ⟨p, -, hp, rfl⟩ := q1
        refine main (Or.inr ⟨p, hp, rfl⟩) ?_ (fun τ hτ => ?_)
        · unfold f_X5_cuts
          rw [c_isLocks_i hc I hv, bind_s, if_neg (by decide), if_neg y0, c_isPlace_i hc I hp, bind_s, if_neg (by decide)]
        · unfold f_X6_cuts
          rw [m_set_i hτ I hv, bind_s, if_neg (by decide), if_neg y0, m_isPlace_i hτ I hp, bind_s, if_neg (by decide)]
      · refine Agr.ref H 0 (by decide) ?_ (fun hm' hf => ?_)
        · unfold f_X5_cuts f_X5_cuts_b21
          rw [c_isLocks_i hc I hv, bind_s, if_neg (by decide), if_neg y0, c_isPlace_o hc I q1, bind_s, if_pos rfl, ref_2, b2_s]
          rfl
        · unfold f_X6_cuts f_X6_cuts_b29
          rw [m_set_i hm' I hv, bind_s, if_neg (by decide), if_neg y0, m_isPlace_o hm' I q1, bind_s, if_pos rfl, nof_2, b2_s]
          rfl
  · refine Agr.ref H 0 (by decide) ?_ (fun hm' hf => ?_)
    · unfold f_X5_cuts f_X5_cuts_b21
      rw [c_isLocks_o hc I q, bind_s, if_pos rfl, ref_2, b2_s]
      rfl
    · unfold f_X6_cuts f_X6_cuts_b29
      rw [m_set_o hm' I q, bind_s, if_pos rfl, nof_2, b2_s]
      rfl
end CUTS
