section MANY
variable {σ : St} {S : HS}
theorem rf_tl {x : Int32} {c step : Nat} {v all : Int32} {K : St → Nat → Int32 → Int32 → Int32 → Int32 → Option (Int32 × St)} {w : Int32} (H : HC σ 39 S) (I : Inv S) (z6 : ∀ j, j < 5 → σ.1 6 j = 0) (hc : c < MR S) (hr : ∀ q, q < pl S → σ.1 7 q = nI (dg (dp S + 1) (pl S) c q)) (hend : c + 1 = MR S → v = w) (kk : c + 1 < MR S → ∀ σ1, Fr (fun a _ => a = 7) σ σ1 → (∀ q, q < pl S → σ1.1 7 q = nI (dg (dp S + 1) (pl S) (c + 1) q)) → ∃ σ', K σ1 5 x v all (nI (step + 1)) = some (w, σ') ∧ Fr (fun a _ => a = 7) σ σ') : ∃ σ', f_X4_rowsFor_b51 K σ 5 x v all (nI step) = some (w, σ') ∧ Fr (fun a _ => a = 7) σ σ' := by
  have p5 := I.1.2.1
  have d4 := I.1.2.2.2.1
  obtain ⟨σ1, f1, h⟩ := c_adv (σ := σ) (l := fun _ => 0) (a := 6) (c := c) H.1.1 H.1.2.1 I.1.1 p5 d4 ln6 (by decide) (fun q hq => ⟨z6 q (by omega), Nat.zero_le _⟩) (fun q _ => Nat.zero_le _) hc hr
  unfold f_X4_rowsFor_b51
  rcases h with ⟨u, g⟩ | ⟨u, c', h1, h2, h3, h4, h5⟩
  · have ec : c + 1 = MR S := by
      apply Classical.byContradiction
      intro z
      obtain ⟨q, -, hq⟩ := g (c + 1) (by omega) (by unfold MR at *; omega)
      exact absurd hq (Nat.not_lt_zero _)
    rw [hend ec]
    exact ⟨σ1, b2_e u (if_pos rfl), f1⟩
  · have ec : c' = c + 1 := by
      apply Classical.byContradiction
      intro z
      obtain ⟨q, -, hq⟩ := h4 (c + 1) (by omega) (by omega)
      exact absurd hq (Nat.not_lt_zero _)
    subst ec
    obtain ⟨σ', u1, u2⟩ := kk h2 σ1 f1 h5
    refine ⟨σ', b2_e u ?_, u2⟩
    rw [if_neg (by decide), bind_s, nI_1]
    exact u1
theorem c_rowsFor (H0 : HC σ 39 S) (I : Inv S) (z6 : ∀ j, j < 5 → σ.1 6 j = 0) (x : Int32) : ∃ σ', f_X4_rowsFor σ 5 x = some (nI (cnt (okr S (nl S) (Gc S) x) (MR S)), σ') ∧ Fr (fun a _ => a = 7) σ σ' := by
  have p5 := I.1.2.1
  have d4 := I.1.2.2.2.1
  have n8 := I.1.2.2.2.2.2.2.2
  have rl := rows_le I
  have hM : MR S ≤ 3125 := rl
  have lp : ∀ n c step σ1, c < MR S → MR S - c ≤ n → step ≤ c → Fr (fun a _ => a = 7) σ σ1 → (∀ q, q < pl S → σ1.1 7 q = nI (dg (dp S + 1) (pl S) c q)) → ∃ σ', f_X4_rowsFor_l24 n σ1 5 x (nI (cnt (okr S (nl S) (Gc S) x) c)) (mk (fun _ => true) (nl S)) (nI step) = some (nI (cnt (okr S (nl S) (Gc S) x) (MR S)), σ') ∧ Fr (fun a _ => a = 7) σ σ' := by
    intro n
    induction n with
    | zero => intro c step σ1 h1 h2; omega
    | succ n ih =>
      intro c step σ1 hc hn hs f1 hr
      have H1 : HC σ1 39 S := H0.cf (f1.w fun a j z => by unfold CF; omega)
      have T1 : TBL σ1 42 (pl S) (dp S) (nl S) (Gc S) := ⟨(ln_h isH39).2.2.1, fun p hp d hd => H1.2.2.2.1 p (by omega) d (by omega)⟩
      have fitE := c_fitrow H1 I T1 n8 (row := dg (dp S + 1) (pl S) c) (fun q hq => ⟨hr q hq, dg_le⟩)
      have go : ∀ v, v = nI (cnt (okr S (nl S) (Gc S) x) (c + 1)) → ∃ σ', f_X4_rowsFor_b51 (f_X4_rowsFor_l24 n) σ1 5 x v (mk (fun _ => true) (nl S)) (nI step) = some (nI (cnt (okr S (nl S) (Gc S) x) (MR S)), σ') ∧ Fr (fun a _ => a = 7) σ σ' := by
        intro v hv
        obtain ⟨σ', u1, u2⟩ := rf_tl (x := x) (step := step) (v := v) (all := mk (fun _ => true) (nl S)) (K := f_X4_rowsFor_l24 n) (w := nI (cnt (okr S (nl S) (Gc S) x) (MR S))) H1 I (fun j hj => by rw [f1.1 _ _ (by omega)]; exact z6 j hj) hc hr (fun e => by rw [hv, e]) (fun hlt σ3 f3 hr3 => by
          obtain ⟨σ', u1, u2⟩ := ih (c + 1) (step + 1) σ3 hlt (by omega) (by omega) (f1.t f3) hr3
          rw [← hv] at u1
          exact ⟨σ', u1, ⟨fun a j z => by rw [u2.1 a j z, f1.1 a j z], by rw [u2.2, f1.2]⟩⟩)
        exact ⟨σ', u1, f1.t u2⟩
      show ∃ σ', f_X4_rowsFor_b24 (f_X4_rowsFor_l24 n) σ1 5 x (nI (cnt (okr S (nl S) (Gc S) x) c)) (mk (fun _ => true) (nl S)) (nI step) = some (nI (cnt (okr S (nl S) (Gc S) x) (MR S)), σ') ∧ Fr (fun a _ => a = 7) σ σ'
      unfold f_X4_rowsFor_b24
      have fitE' : f_X4_fittingRow σ1 5 (39 + 3) (mk (fun _ => true) (nl S)) = _ := fitE
      rw [if_neg (show ¬ (3125 : Int32) ≤ nI step from nI_ge (a := step) (b := 3125) (by omega) (by decide)), fitE', bind_s]
      by_cases q : mk (fun i => al (fun p => Gc S i p (dg (dp S + 1) (pl S) c p)) (pl S)) (nl S) = x
      · have oc : okr S (nl S) (Gc S) x c = true := decide_eq_true q
        rw [if_pos q, bind_s, nI_1]
        exact go _ (by rw [cnt, oc, if_pos rfl])
      · have oc : okr S (nl S) (Gc S) x c = false := decide_eq_false q
        rw [if_neg q]
        exact go _ (by rw [cnt, oc, if_neg Bool.false_ne_true]; rfl)
  obtain ⟨s1, a1, a2, a3⟩ := c_fillI (σ := σ) (a := 7) ln7 (by decide) 0
  have M0 : 0 < MR S := Nat.pow_pos (Nat.succ_pos _)
  obtain ⟨σ', u1, u2⟩ := lp FU 0 0 s1 M0 (by show MR S - 0 ≤ 4000; omega) (Nat.le_refl _) a3 (fun q hq => by
    rw [a2 q (by omega)]
    unfold dg
    rw [Nat.zero_div, Nat.zero_mod]
    rfl)
  refine ⟨σ', ?_, u2⟩
  unfold f_X4_rowsFor
  rw [H0.1.2.2.2.2.2.2.1, c_first n8, bind_s]
  exact bind_e a1 u1
theorem m_many (H : HM σ S) (I : Inv S) {x : Int32} (hx : mk (bt x) (nl S) = x) : f_X6_many_l27 FU σ 93 x 0 0 = some (nI (cnt (okr S (nl S) (Gc S) x) (MR S)), σ) := by
  have rl := rows_le I
  have hM : MR S ≤ 3125 := rl
  show f_X6_many_l27 FU σ 93 x (nI (cnt (okr S (nl S) (Gc S) x) 0)) (nI 0) = _
  refine lp_0 (P := fun n m => f_X6_many_l27 n σ 93 x (nI (cnt (okr S (nl S) (Gc S) x) m)) (nI m) = some (nI (cnt (okr S (nl S) (Gc S) x) (MR S)), σ)) (MR S) (by omega) (fun n => ?_) (fun n m hm ih => ?_)
  · show f_X6_many_b27 (f_X6_many_l27 n) _ _ _ _ _ = _; unfold f_X6_many_b27
    rw [m_rows H I, bind_s, if_pos (MR_le I)]
  · show f_X6_many_b27 (f_X6_many_l27 n) _ _ _ _ _ = _; unfold f_X6_many_b27
    unfold f_X6_many_b47
    rw [m_rows H I, bind_s, if_neg (MR_gt I hm), m_fitsJust H I (by omega) hx, bind_s, ifz]
    rw [cnt] at ih
    cases o : okr S (nl S) (Gc S) x m
    · rw [o, if_neg Bool.false_ne_true] at ih
      rw [if_neg Bool.false_ne_true, bind_s, nI_1]
      exact ih
    · rw [o, if_pos rfl] at ih
      rw [if_pos rfl, bind_s, nI_1, bind_s, nI_1]
      exact ih
theorem op_many (H : Sm σ S) (x : Int32) : Agr (fun s => f_X5_many s 0 x) (fun s => f_X6_many s 93 x) σ := by
  obtain ⟨hc, hm, I, R⟩ := id H
  have n8 := I.1.2.2.2.2.2.2.2
  by_cases q : inR x 0 (2 ^ nl S)
  · obtain ⟨v, -, hv, rfl⟩ := q
    have hx := mk_of (show nl S ≤ 32 by omega) hv
    obtain ⟨σ1, u1, u2⟩ := c_rowsFor hc I R.2.2.1.2.2.2.2.2 (nI v)
    refine Agr.q (σ1 := σ1) (r := nI (cnt (okr S (nl S) (Gc S) (nI v)) (MR S))) H ?_ (u2.w fun a j z => by unfold SC; omega) (fun H1 => ⟨σ1, ?_, S, H1⟩)
    · show f_X5_many σ 0 (nI v) = _
      unfold f_X5_many
      rw [c_isLocks_i hc I hv, bind_s, if_neg (by decide)]
      exact b2_e u1 rfl
    · show f_X6_many σ1 93 (nI v) = _
      unfold f_X6_many
      rw [m_set_i H1.2.1 I hv, bind_s, if_neg (by decide)]
      exact m_many H1.2.1 I hx
  · refine Agr.ref H 0 (by decide) ?_ (fun hm' hf => ?_)
    · unfold f_X5_many
      rw [c_isLocks_o hc I q, bind_s, if_pos rfl, ref_2, b2_s]
      rfl
    · unfold f_X6_many
      rw [m_set_o hm' I q, bind_s, if_pos rfl, nof_2, b2_s]
      rfl
end MANY
section ASKED
variable {σ : St} {S : HS}
def Gk (S : HS) (k p d : Nat) : Bool := decide (d ≤ dep (pl S) (dp S) (ki S k) (ow S k) (cu S k) p)
theorem c_kod (H : HC σ 39 S) (I : Inv S) {p d : Nat} (hp : p < pl S) (hd : d < 5) : f_X4_keysOfDepth σ 5 (nI p) (nI d) = some (mk (fun k => Gk S k p d) (nk S)) := by
  have n6 := I.1.2.2.2.2.2.2.1
  have d4 := I.1.2.2.2.1
  have e5 := H.1.2.2.2.2.2.1
  show f_X4_keysOfDepth_l5 σ FU 5 (nI p) (nI d) (mk (fun k => Gk S k p d) 0) (nI 0) = _
  refine lp_0 (P := fun n m => f_X4_keysOfDepth_l5 σ n 5 (nI p) (nI d) (mk (fun k => Gk S k p d) m) (nI m) = some (mk (fun k => Gk S k p d) (nk S))) (nk S) (by omega) (fun n => ?_) (fun n m hm ih => ?_)
  · show f_X4_keysOfDepth_b5 _ (f_X4_keysOfDepth_l5 _ n) _ _ _ _ _ = _; unfold f_X4_keysOfDepth_b5
    rw [e5, if_pos (nI_le (Nat.le_refl _) (by omega))]
  · have hd2 := dep_le (pl S) (dp S) (ki S m) (ow S m) (cu S m) p ((I.2.1 m).2.2 p).1
    show f_X4_keysOfDepth_b5 _ (f_X4_keysOfDepth_l5 _ n) _ _ _ _ _ = _; unfold f_X4_keysOfDepth_b5
    unfold f_X4_keysOfDepth_b54
    rw [e5, if_neg (nI_ge hm (by omega)), c_keyAt isH39 (by omega), bind_s, c_depth (H.B I) (H.K I (show m < 6 by omega)) (H.R isH39 I (show m < 6 by omega)) hp, bind_s]
    by_cases q : dep (pl S) (dp S) (ki S m) (ow S m) (cu S m) p < d
    · rw [if_pos ((nI_ltI (by omega) (by omega)).mpr q), bind_s, nI_1]
      rw [mk_un (fun k => Gk S k p d) (decide_eq_false (by omega))] at ih
      exact ih
    · rw [if_neg (fun z => q ((nI_ltI (by omega) (by omega)).mp z)), bind_s, bind_s, nI_1]
      rw [mk_up (fun k => Gk S k p d) (decide_eq_true (show d ≤ dep (pl S) (dp S) (ki S m) (ow S m) (cu S m) p by omega))] at ih
      exact ih
theorem ln9 : ln 9 = 25 := by decide +kernel
def AkF (a _j : Nat) : Prop := a = 9
theorem c_askrow (H0 : HC σ 39 S) (I : Inv S) (K : St → Nat → Int32 → Int32 → Option (Int32 × St)) {x : Int32} {p : Nat} (hp : p < pl S) {R : Int32 × St → Prop} (kk : ∀ σ1, Fr AkF σ σ1 → (∀ q, q < p + 1 → ∀ d, d < 5 → σ1.1 9 (q * 5 + d) = mk (fun k => Gk S k q d) (nk S)) → ∃ v, K σ1 5 x (nI (p + 1)) = some v ∧ R v) (σ1 : St) (f1 : Fr AkF σ σ1) (g : ∀ q, q < p → ∀ d, d < 5 → σ1.1 9 (q * 5 + d) = mk (fun k => Gk S k q d) (nk S)) : ∃ v, f_X4_leastAsks_l15 K FU σ1 5 x (nI p) 0 = some v ∧ R v := by
  have p5 := I.1.2.1
  have gen := lp_0 (P := fun n m => ∀ σ1, Fr AkF σ σ1 → (∀ q, q < p → ∀ d, d < 5 → σ1.1 9 (q * 5 + d) = mk (fun k => Gk S k q d) (nk S)) → (∀ d, d < m → σ1.1 9 (p * 5 + d) = mk (fun k => Gk S k p d) (nk S)) → ∃ v, f_X4_leastAsks_l15 K n σ1 5 x (nI p) (nI m) = some v ∧ R v) 5 (by omega) (fun n σ1 f1 g1 g2 => ?_) (fun n m hm ih σ1 f1 g1 g2 => ?_)
  · exact gen σ1 f1 g (fun d hd => absurd hd (Nat.not_lt_zero d))
  · obtain ⟨v, u1, u2⟩ := kk σ1 f1 (fun q hq d hd => by
      by_cases e : q = p
      · rw [e]; exact g2 d hd
      · exact g1 q (by omega) d hd)
    refine ⟨v, ?_, u2⟩
    show f_X4_leastAsks_b15 _ (f_X4_leastAsks_l15 _ n) _ _ _ _ _ = _; unfold f_X4_leastAsks_b15
    rw [if_pos (show (5 : Int32) ≤ nI 5 from nI_le (a := 5) (b := 5) (Nat.le_refl 5) (by decide)), bind_s, nI_1]
    exact u1
  · have H1 : HC σ1 39 S := H0.cf (f1.w fun a j z => by unfold AkF at z; unfold CF; omega)
    obtain ⟨v, u1, u2⟩ := ih (setI σ1 9 (p * 5 + m) (mk (fun k => Gk S k p m) (nk S))) (f1.t (Fr.i rfl)) (fun q hq d hd => by rw [setI_k (by omega)]; exact g1 q hq d hd) (fun d hd => by
      by_cases e : d = m
      · rw [e, setI_s]
      · rw [setI_k (by omega)]; exact g2 d (by omega))
    refine ⟨v, ?_, u2⟩
    show f_X4_leastAsks_b15 _ (f_X4_leastAsks_l15 _ n) _ _ _ _ _ = _; unfold f_X4_leastAsks_b15
    rw [if_neg (show ¬ (5 : Int32) ≤ nI m from nI_ge (a := m) (b := 5) hm (by decide)), c_kod H1 I hp hm, bind_s, l_5, pk_mul, nI_add, c_put (by rw [ln9]; omega), bind_s, bind_s, nI_1]
    exact u1
theorem c_leastAsks (H0 : HC σ 39 S) (I : Inv S) (z6 : ∀ j, j < 5 → σ.1 6 j = 0) (x : Int32) : ∃ v σ', f_X4_leastAsks σ 5 x = some (v, σ') ∧ BR σ' S (bst (okr S (nk S) (Gk S) x) (csr S) (MR S)) v ∧ Fr SC σ σ' := by
  have p5 := I.1.2.1
  have d4 := I.1.2.2.2.1
  have n6 := I.1.2.2.2.2.2.2.1
  have gen := lp_0 (P := fun n m => ∀ σ1, Fr AkF σ σ1 → (∀ q, q < m → ∀ d, d < 5 → σ1.1 9 (q * 5 + d) = mk (fun k => Gk S k q d) (nk S)) → ∃ v, f_X4_leastAsks_l2 n σ1 5 x (nI m) = some v ∧ (BR v.2 S (bst (okr S (nk S) (Gk S) x) (csr S) (MR S)) v.1 ∧ Fr SC σ v.2)) (pl S) (by omega) (fun n σ1 f1 g => ?_) (fun n m hm ih σ1 f1 g => ?_)
  · obtain ⟨v, u1, u2, u3⟩ := gen σ (Fr.r σ) (fun q hq => absurd hq (Nat.not_lt_zero q))
    exact ⟨v.1, v.2, u1, u2, u3⟩
  · have H1 : HC σ1 39 S := H0.cf (f1.w fun a j z => by unfold AkF at z; unfold CF; omega)
    obtain ⟨v, σ', u1, u2, u3⟩ := c_leastRow (t := 9) (N := nk S) (G := Gk S) H1 I (fun j hj => by rw [f1.1 _ _ (by unfold AkF; omega)]; exact z6 j hj) ⟨by decide, by decide⟩ ⟨ln9, fun p hp d hd => g p hp d (by omega)⟩ (by omega) x
    refine ⟨(v, σ'), ?_, u2, (f1.w fun a j z => by unfold AkF at z; unfold SC; omega).t (u3.w fun a j z => by unfold SC; omega)⟩
    have h5 := H1.1.2.2.2.2.2.1
    show f_X4_leastAsks_b2 (f_X4_leastAsks_l2 n) _ _ _ _ = _; unfold f_X4_leastAsks_b2
    rw [H1.1.1, if_pos (nI_le (Nat.le_refl _) (by omega)), h5, c_first (by omega), bind_s]
    exact b2_e u1 rfl
  · have H1 : HC σ1 39 S := H0.cf (f1.w fun a j z => by unfold AkF at z; unfold CF; omega)
    obtain ⟨v, u1, u2⟩ := c_askrow H0 I (f_X4_leastAsks_l2 n) hm (x := x) (R := fun v => BR v.2 S (bst (okr S (nk S) (Gk S) x) (csr S) (MR S)) v.1 ∧ Fr SC σ v.2) ih σ1 f1 g
    refine ⟨v, ?_, u2⟩
    show f_X4_leastAsks_b2 (f_X4_leastAsks_l2 n) _ _ _ _ = _; unfold f_X4_leastAsks_b2
    rw [H1.1.1, if_neg (nI_ge hm (by omega))]
    exact u1
theorem m_ask1 (H : HM σ S) (I : Inv S) (K : St → Nat → Int32 → Int32 → Int32 → Int32 → Int32 → Int32 → Option (Int32 × St)) {x y f : Int32} {r k : Nat} (hr : r < 2 ^ 31) (hk : k < 6) (d : Bool) : f_X6_asked_l71 K FU σ 93 x y f (nI r) (if d then 1 else 0) (nI k) 1 0 = K σ 93 x y f (nI r) (if d && decide (al (fun p => Gk S k p (dg (dp S + 1) (pl S) r p)) (pl S) = bt x k) then 1 else 0) (nI (k + 1)) := by
  have p5 := I.1.2.1
  have d4 := I.1.2.2.2.1
  have e3 := H.1.1
  have gen := lp_0 (P := fun n m => f_X6_asked_l71 K n σ 93 x y f (nI r) (if d then 1 else 0) (nI k) (if al (fun p => Gk S k p (dg (dp S + 1) (pl S) r p)) m then 1 else 0) (nI m) = K σ 93 x y f (nI r) (if d && decide (al (fun p => Gk S k p (dg (dp S + 1) (pl S) r p)) (pl S) = bt x k) then 1 else 0) (nI (k + 1))) (pl S) (by omega) (fun n => ?_) (fun n m hm ih => ?_)
  · exact gen
  · show f_X6_asked_b71 _ (f_X6_asked_l71 _ n) _ _ _ _ _ _ _ _ _ _ = _; unfold f_X6_asked_b71
    unfold f_X6_asked_b122
    rw [e3, if_pos (nI_le (Nat.le_refl _) (by omega)), hs (by omega), bind_s]
    by_cases q : al (fun p => Gk S k p (dg (dp S + 1) (pl S) r p)) (pl S) = bt x k
    · rw [q, if_pos rfl, bind_s, nI_1]
      simp only [decide_true, Bool.and_true]
    · have ne : ¬ (if al (fun p => Gk S k p (dg (dp S + 1) (pl S) r p)) (pl S) = true then (1 : Int32) else 0) = (if bt x k = true then 1 else 0) := by
        revert q
        cases al (fun p => Gk S k p (dg (dp S + 1) (pl S) r p)) (pl S) <;> cases bt x k <;> simp
      rw [if_neg ne, bind_s, nI_1, decide_eq_false q, Bool.and_false, if_neg Bool.false_ne_true]
  · have a1 := dep_le (pl S) (dp S) (ki S k) (ow S k) (cu S k) m ((I.2.1 k).2.2 m).1
    have b1 := dg_le (D := dp S) (P := pl S) (r := r) (p := m)
    show f_X6_asked_b71 _ (f_X6_asked_l71 _ n) _ _ _ _ _ _ _ _ _ _ = _; unfold f_X6_asked_b71
    unfold f_X6_asked_b102
    rw [e3, if_neg (nI_ge hm (by omega)), m_depth H I hk hm, bind_s, m_dig H I hr hm, bind_s]
    rw [al_s] at ih
    by_cases q : dg (dp S + 1) (pl S) r m ≤ dep (pl S) (dp S) (ki S k) (ow S k) (cu S k) m
    · rw [if_pos (nI_le q (by omega)), bind_s, nI_1]
      rw [show Gk S k m (dg (dp S + 1) (pl S) r m) = true from decide_eq_true q, Bool.and_true] at ih
      exact ih
    · rw [if_neg (nI_ge (by omega) (by omega)), bind_s, nI_1]
      rw [show Gk S k m (dg (dp S + 1) (pl S) r m) = false from decide_eq_false q, Bool.and_false, if_neg Bool.false_ne_true] at ih
      exact ih
theorem m_ask2 (H : HM σ S) (I : Inv S) (K : St → Nat → Int32 → Int32 → Int32 → Int32 → Option (Int32 × St)) {x y f : Int32} {r : Nat} (hr : r < 2 ^ 31) (hx : mk (bt x) (nk S) = x) {X : Option (Int32 × St)} (h : ∀ n, f_X6_asked_b56 K (f_X6_asked_l56 K n) σ 93 x y f (nI r) (if okr S (nk S) (Gk S) x r then 1 else 0) (nI (nk S)) = X) : f_X6_asked_l56 K FU σ 93 x y f (nI r) 1 0 = X := by
  have n6 := I.1.2.2.2.2.2.2.1
  have e6 := H.1.2.2.2.1
  have ho : okr S (nk S) (Gk S) x r = al (fun k => decide (al (fun p => Gk S k p (dg (dp S + 1) (pl S) r p)) (pl S) = bt x k)) (nk S) := by
    unfold okr
    exact mk_al (by omega) hx
  rw [ho] at h
  have gen := lp_0 (P := fun n m => f_X6_asked_l56 K n σ 93 x y f (nI r) (if al (fun k => decide (al (fun p => Gk S k p (dg (dp S + 1) (pl S) r p)) (pl S) = bt x k)) m then 1 else 0) (nI m) = X) (nk S) (by omega) (fun n => ?_) (fun n m hm ih => ?_)
  · exact gen
  · exact h n
  · show f_X6_asked_b56 _ (f_X6_asked_l56 _ n) _ _ _ _ _ _ _ _ = _; unfold f_X6_asked_b56
    rw [e6, if_neg (nI_ge hm (by omega)), m_ask1 H I _ hr (by omega)]
    exact ih
theorem m_asked (H : HM σ S) (I : Inv S) {x y : Int32} (hx : mk (bt x) (nk S) = x) (hy : y = -1 ∨ ∃ p, p < pl S ∧ y = nI p) : f_X6_asked_l41 FU σ 93 x y (-1) 0 = some (rs S (bst (okr S (nk S) (Gk S) x) (csr S) (MR S)) y, σ) := by
  have n6 := I.1.2.2.2.2.2.2.1
  have rl := rows_le I
  have hM : MR S ≤ 3125 := rl
  have e6 := H.1.2.2.2.1
  show f_X6_asked_l41 FU σ 93 x y (fdI (bst (okr S (nk S) (Gk S) x) (csr S) 0)) (nI 0) = _
  refine lp_0 (P := fun n m => f_X6_asked_l41 n σ 93 x y (fdI (bst (okr S (nk S) (Gk S) x) (csr S) m)) (nI m) = some (rs S (bst (okr S (nk S) (Gk S) x) (csr S) (MR S)) y, σ)) (MR S) (by omega) (fun n => ?_) (fun N m hm ih => ?_)
  · show f_X6_asked_b41 (f_X6_asked_l41 n) _ _ _ _ _ _ = _; unfold f_X6_asked_b41
    rw [m_rows H I, bind_s, if_pos (MR_le I)]
    exact m_fin H I hy
  · have hm31 : m < 2 ^ 31 := by omega
    have c1 := csr_le I m
    show f_X6_asked_b41 (f_X6_asked_l41 N) _ _ _ _ _ _ = _; unfold f_X6_asked_b41
    rw [m_rows H I, bind_s, if_neg (MR_gt I hm)]
    refine m_ask2 H I _ hm31 hx (fun n => ?_)
    unfold f_X6_asked_b56 f_X6_asked_b154 f_X6_asked_b151 f_X6_asked_b154
    rw [e6, if_pos (nI_le (Nat.le_refl _) (by omega)), ifz]
    rw [bst] at ih
    cases o : okr S (nk S) (Gk S) x m
    · rw [if_neg Bool.false_ne_true, bind_s, nI_1]
      rw [o] at ih
      revert ih
      cases bst (okr S (nk S) (Gk S) x) (csr S) m <;> exact fun ih => ih
    · rw [if_pos rfl]
      rw [o] at ih
      cases e : bst (okr S (nk S) (Gk S) x) (csr S) m with
      | none =>
        rw [e] at ih
        show (if fdI none < 0 then _ else _) = _
        rw [if_pos (by decide), bind_s, nI_1]
        exact ih
      | some r =>
        rw [e] at ih
        have hr := (bst_ok e).1
        have c2 := csr_le I r
        show (if nI r < 0 then _ else _) = _
        rw [if_neg (nI_pos (by omega)), m_dsum H I hm31, bind_s]
        show ((f_X6_sum σ 93 (nI r)).bind _) = _
        rw [m_dsum H I (by omega), bind_s]
        by_cases q : csr S r ≤ csr S m
        · rw [if_pos (nI_le (show sm (dg (dp S + 1) (pl S) r) (pl S) ≤ sm (dg (dp S + 1) (pl S) m) (pl S) from q) (by show csr S m < _; omega)), bind_s, nI_1]
          simp only [decide_eq_false (show ¬ csr S m < csr S r by omega), Bool.and_false, Bool.false_eq_true, if_false] at ih
          exact ih
        · rw [if_neg (nI_ge (show sm (dg (dp S + 1) (pl S) m) (pl S) < sm (dg (dp S + 1) (pl S) r) (pl S) by show csr S m < csr S r; omega) (by show csr S r < _; omega)), bind_s, nI_1]
          simp only [decide_eq_true (show csr S m < csr S r by omega), Bool.and_self, if_true] at ih
          exact ih
theorem op_asked (H : Sm σ S) (x y : Int32) : Agr (fun s => f_X5_asked s 0 x y) (fun s => f_X6_asked s 93 x y) σ := by
  obtain ⟨hc, hm, I, R⟩ := id H
  have n6 := I.1.2.2.2.2.2.2.1
  by_cases q : inR x 0 (2 ^ nk S)
  · obtain ⟨v, -, hv, rfl⟩ := q
    have hx := mk_of (show nk S ≤ 32 by omega) hv
    have main : (y = -1 ∨ ∃ p, p < pl S ∧ y = nI p) → f_X5_asked σ 0 (nI v) y = f_X5_asked_b28 σ 0 (nI v) y → (∀ τ, HM τ S → f_X6_asked τ 93 (nI v) y = f_X6_asked_b36 τ 93 (nI v) y) → Agr (fun s => f_X5_asked s 0 (nI v) y) (fun s => f_X6_asked s 93 (nI v) y) σ := by
      intro hy e1 e2
      obtain ⟨w, σ1, u1, u2, u3⟩ := c_leastAsks hc I R.2.2.1.2.2.2.2.2 (nI v)
      refine Agr.q (σ1 := σ1) (r := rs S (bst (okr S (nk S) (Gk S) (nI v)) (csr S) (MR S)) y) H ?_ u3 (fun H1 => ⟨σ1, ?_, S, H1⟩)
      · show f_X5_asked σ 0 (nI v) y = _
        rw [e1]
        unfold f_X5_asked_b28 f_X5_asked_b47
        exact b2_e u1 (c_fnd I u2 hy)
      · show f_X6_asked σ1 93 (nI v) y = _
        rw [e2 σ1 H1.2.1]
        exact m_asked H1.2.1 I hx hy
    by_cases y0 : y = -1
    · refine main (Or.inl y0) ?_ (fun τ hτ => ?_)
      · unfold f_X5_asked
        rw [c_isKeys_i hc I hv, bind_s, if_neg (by decide), if_pos y0]
      · unfold f_X6_asked
        rw [m_ks_i hτ I hv, bind_s, if_neg (by decide), if_pos y0]
    · by_cases q1 : inR y 0 (pl S)
      · obtain ⟨p, -, hp, rfl⟩ := q1
        refine main (Or.inr ⟨p, hp, rfl⟩) ?_ (fun τ hτ => ?_)
        · unfold f_X5_asked
          rw [c_isKeys_i hc I hv, bind_s, if_neg (by decide), if_neg y0, c_isPlace_i hc I hp, bind_s, if_neg (by decide)]
        · unfold f_X6_asked
          rw [m_ks_i hτ I hv, bind_s, if_neg (by decide), if_neg y0, m_isPlace_i hτ I hp, bind_s, if_neg (by decide)]
      · refine Agr.ref H 0 (by decide) ?_ (fun hm' hf => ?_)
        · unfold f_X5_asked f_X5_asked_b21
          rw [c_isKeys_i hc I hv, bind_s, if_neg (by decide), if_neg y0, c_isPlace_o hc I q1, bind_s, if_pos rfl, ref_2, b2_s]
          rfl
        · unfold f_X6_asked f_X6_asked_b29
          rw [m_ks_i hm' I hv, bind_s, if_neg (by decide), if_neg y0, m_isPlace_o hm' I q1, bind_s, if_pos rfl, nof_2, b2_s]
          rfl
  · refine Agr.ref H 0 (by decide) ?_ (fun hm' hf => ?_)
    · unfold f_X5_asked f_X5_asked_b21
      rw [c_isKeys_o hc I q, bind_s, if_pos rfl, ref_2, b2_s]
      rfl
    · unfold f_X6_asked f_X6_asked_b29
      rw [m_ks_o hm' I q, bind_s, if_pos rfl, nof_2, b2_s]
      rfl
end ASKED
