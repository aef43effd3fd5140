/-! rows of digits, their numbers, their order -/
def vl (B : Nat) (x : Nat → Nat) : Nat → Nat
  | 0 => 0
  | p + 1 => vl B x p * B + x p
theorem vl_c {B : Nat} {x y : Nat → Nat} : ∀ {n : Nat}, (∀ p, p < n → x p = y p) → vl B x n = vl B y n
  | 0, _ => rfl
  | n + 1, h => by rw [vl, vl, vl_c (fun p hp => h p (by omega)), h n (by omega)]
theorem vl_lt {B : Nat} {x : Nat → Nat} : ∀ {n : Nat}, (∀ p, p < n → x p < B) → vl B x n < B ^ n
  | 0, _ => Nat.one_pos
  | n + 1, h => by
    have h1 := vl_lt (n := n) (fun p hp => h p (by omega))
    have h2 := h n (by omega)
    have h3 := Nat.mul_le_mul_right B (Nat.succ_le_of_lt h1)
    rw [Nat.succ_mul] at h3
    rw [vl, Nat.pow_succ]
    omega
theorem hb_ab {B a a' x y : Nat} (hx : x < B) (hy : y < B) (h : a * B + x = a' * B + y) : a = a' ∧ x = y := by
  rcases Nat.lt_trichotomy a a' with q | q | q
  · have := Nat.mul_le_mul_right B (Nat.succ_le_of_lt q)
    rw [Nat.succ_mul] at this
    omega
  · subst q
    exact ⟨rfl, by omega⟩
  · have := Nat.mul_le_mul_right B (Nat.succ_le_of_lt q)
    rw [Nat.succ_mul] at this
    omega
theorem vl_inj {B : Nat} {x y : Nat → Nat} : ∀ {n : Nat}, (∀ p, p < n → x p < B) → (∀ p, p < n → y p < B) → vl B x n = vl B y n → ∀ p, p < n → x p = y p
  | 0, _, _, _, p, h => absurd h (Nat.not_lt_zero p)
  | n + 1, hx, hy, h, p, hp => by
    rw [vl, vl] at h
    have h1 := hb_ab (hx n (by omega)) (hy n (by omega)) h
    by_cases e : p = n
    · rw [e]; exact h1.2
    · exact vl_inj (fun p hp => hx p (by omega)) (fun p hp => hy p (by omega)) h1.1 p (by omega)
theorem vl_dg {B P r : Nat} (hr : r < B ^ P) : vl B (dg B P r) P = r := by
  have h : ∀ m, m ≤ P → vl B (dg B P r) m = r / B ^ (P - m) := by
    intro m
    induction m with
    | zero => intro _; rw [vl, Nat.sub_zero, Nat.div_eq_of_lt hr]
    | succ m ih =>
      intro hm
      rw [vl, ih (by omega), show P - m = P - 1 - m + 1 by omega, Nat.pow_succ, ← Nat.div_div_eq_div_mul, show P - (m + 1) = P - 1 - m by omega]
      unfold dg
      exact Nat.div_add_mod' _ _
  have := h P (Nat.le_refl _)
  rw [Nat.sub_self, Nat.pow_zero, Nat.div_one] at this
  exact this
theorem dg_vl {B P : Nat} {x : Nat → Nat} (hB : 0 < B) (hx : ∀ p, p < P → x p < B) {p : Nat} (hp : p < P) : dg B P (vl B x P) p = x p := vl_inj (fun p _ => dg_lt hB) hx (vl_dg (vl_lt hx)) p hp
theorem vl_lex {B : Nat} {x y : Nat → Nat} : ∀ {n : Nat}, (∀ p, p < n → x p < B) → (∀ p, p < n → y p < B) → vl B x n < vl B y n → ∃ p, p < n ∧ (∀ q, q < p → x q = y q) ∧ x p < y p
  | 0, _, _, h => absurd h (Nat.lt_irrefl _)
  | n + 1, hx, hy, h => by
    rw [vl, vl] at h
    have hxn := hx n (by omega)
    have hyn := hy n (by omega)
    rcases Nat.lt_trichotomy (vl B x n) (vl B y n) with q | q | q
    · obtain ⟨p, hp, h1, h2⟩ := vl_lex (fun p hp => hx p (by omega)) (fun p hp => hy p (by omega)) q
      exact ⟨p, by omega, h1, h2⟩
    · rw [q] at h
      exact ⟨n, by omega, vl_inj (fun p hp => hx p (by omega)) (fun p hp => hy p (by omega)) q, by omega⟩
    · have := Nat.mul_le_mul_right B (Nat.succ_le_of_lt q)
      rw [Nat.succ_mul] at this
      omega
theorem vl_of {B : Nat} {x y : Nat → Nat} {p : Nat} : ∀ {n : Nat}, (∀ p, p < n → x p < B) → p < n → (∀ q, q < p → x q = y q) → x p < y p → vl B x n < vl B y n
  | 0, _, h, _, _ => absurd h (Nat.not_lt_zero p)
  | n + 1, hx, hp, h1, h2 => by
    rw [vl, vl]
    by_cases e : p = n
    · subst e
      rw [vl_c h1]
      omega
    · have h3 := vl_of (n := n) (fun p hp => hx p (by omega)) (by omega) h1 h2
      have := Nat.mul_le_mul_right B (Nat.succ_le_of_lt h3)
      rw [Nat.succ_mul] at this
      have := hx n (by omega)
      omega
theorem vl_m {B : Nat} {x y : Nat → Nat} : ∀ {n : Nat}, (∀ p, p < n → x p ≤ y p) → vl B x n ≤ vl B y n
  | 0, _ => Nat.le_refl _
  | n + 1, h => by
    have h1 := Nat.mul_le_mul_right B (vl_m (B := B) (n := n) (fun p hp => h p (by omega)))
    have h2 := h n (by omega)
    rw [vl, vl]
    omega
/-- the next row behind x of those that are l at least -/
def Nxt (P D : Nat) (l x y : Nat → Nat) : Prop := ∃ p, p < P ∧ x p < D ∧ (∀ q, p < q → q < P → x q = D) ∧ (∀ q, q < p → y q = x q) ∧ y p = x p + 1 ∧ ∀ q, p < q → q < P → y q = l q
theorem nxt_v {P D : Nat} {l x y : Nat → Nat} (h : Nxt P D l x y) (hl : ∀ p, p < P → l p ≤ D) (hx : ∀ p, p < P → l p ≤ x p ∧ x p ≤ D) : (∀ p, p < P → l p ≤ y p ∧ y p ≤ D) ∧ vl (D + 1) x P < vl (D + 1) y P := by
  obtain ⟨p, hp, a, b, c, d, e⟩ := h
  refine ⟨fun q hq => ?_, vl_of (fun q hq => by have := (hx q hq).2; omega) hp (fun q hq => (c q hq).symm) (by omega)⟩
  rcases Nat.lt_trichotomy q p with z | z | z
  · rw [c q z]; exact hx q hq
  · subst z
    rw [d]
    have := (hx q hq).1
    omega
  · rw [e q z hq]
    exact ⟨Nat.le_refl _, hl q hq⟩
theorem nxt_g {P D : Nat} {l x y z : Nat → Nat} (h : Nxt P D l x y) (hl : ∀ p, p < P → l p ≤ D) (hx : ∀ p, p < P → l p ≤ x p ∧ x p ≤ D) (hz : ∀ p, p < P → l p ≤ z p ∧ z p ≤ D) (hlt : vl (D + 1) x P < vl (D + 1) z P) : vl (D + 1) y P ≤ vl (D + 1) z P := by
  have hy := (nxt_v h hl hx).1
  obtain ⟨p, hp, a, b, c, d, e⟩ := h
  obtain ⟨j, hj, j1, j2⟩ := vl_lex (fun q hq => by have := (hx q hq).2; omega) (fun q hq => by have := (hz q hq).2; omega) hlt
  rcases Nat.lt_trichotomy j p with w | w | w
  · refine Nat.le_of_lt (vl_of (fun q hq => by have := (hy q hq).2; omega) hj (fun q hq => ?_) (by rw [c j w]; exact j2))
    rw [c q (by omega)]; exact j1 q hq
  · subst w
    by_cases k : y j < z j
    · exact Nat.le_of_lt (vl_of (fun q hq => by have := (hy q hq).2; omega) hj (fun q hq => by rw [c q hq]; exact j1 q hq) k)
    · refine vl_m fun q hq => ?_
      rcases Nat.lt_trichotomy q j with w | w | w
      · rw [c q w, j1 q w]; exact Nat.le_refl _
      · subst w
        omega
      · rw [e q w hq]; exact (hz q hq).1
  · exfalso
    have := b j w hj
    have := (hz j hj).2
    omega
/-- the best number below n: the first of least cost of those that will do -/
def bst (ok : Nat → Bool) (cost : Nat → Nat) : Nat → Option Nat
  | 0 => none
  | n + 1 => match bst ok cost n with
    | none => if ok n then some n else none
    | some b => if ok n && decide (cost n < cost b) then some n else some b
theorem bst_skip {ok : Nat → Bool} {cost : Nat → Nat} {a : Nat} : ∀ {b : Nat}, a ≤ b → (∀ r, a ≤ r → r < b → ok r = false) → bst ok cost b = bst ok cost a
  | 0, h, _ => by rw [show a = 0 by omega]
  | b + 1, h, g => by
    by_cases e : a = b + 1
    · rw [e]
    · rw [bst, g b (by omega) (by omega), bst_skip (b := b) (by omega) (fun r h1 h2 => g r h1 (by omega))]
      cases bst ok cost a <;> simp
theorem bst_ok {ok : Nat → Bool} {cost : Nat → Nat} : ∀ {n b : Nat}, bst ok cost n = some b → b < n ∧ ok b = true
  | 0, b, h => by cases h
  | n + 1, b, h => by
    rw [bst] at h
    cases e : bst ok cost n with
    | none =>
      rw [e] at h
      simp only at h
      split at h
      · rename_i q
        cases h
        exact ⟨Nat.lt_succ_self _, q⟩
      · cases h
    | some c =>
      rw [e] at h
      simp only at h
      have ih := bst_ok e
      split at h
      · rename_i q
        cases h
        rw [Bool.and_eq_true] at q
        exact ⟨Nat.lt_succ_self _, q.1⟩
      · cases h
        exact ⟨by omega, ih.2⟩
theorem bst_c {ok ok' : Nat → Bool} {cost cost' : Nat → Nat} : ∀ {n : Nat}, (∀ r, r < n → ok r = ok' r) → (∀ r, r < n → ok r = true → cost r = cost' r) → bst ok cost n = bst ok' cost' n
  | 0, _, _ => rfl
  | n + 1, h, g => by
    have ih := bst_c (n := n) (fun r hr => h r (by omega)) (fun r hr => g r (by omega))
    rw [bst, bst, ← ih, h n (by omega)]
    cases e : bst ok cost n with
    | none => rfl
    | some b =>
      have hb' := bst_ok e
      show (if (ok' n && decide (cost n < cost b)) = true then some n else some b) = (if (ok' n && decide (cost' n < cost' b)) = true then some n else some b)
      rw [g b (by omega) hb'.2]
      cases q : ok' n
      · rfl
      · rw [g n (by omega) (by rw [h n (by omega)]; exact q)]
/-- what the best is -/
theorem bst_none {ok : Nat → Bool} {cost : Nat → Nat} : ∀ {n : Nat}, bst ok cost n = none ↔ ∀ r, r < n → ok r = false
  | 0 => ⟨fun _ r h => absurd h (Nat.not_lt_zero r), fun _ => rfl⟩
  | n + 1 => by
    rw [bst]
    cases e : bst ok cost n with
    | none =>
      have ih := bst_none.mp e
      simp only
      cases q : ok n
      · simp only [Bool.false_eq_true, if_false, true_iff]
        intro r hr
        by_cases z : r = n
        · rw [z]; exact q
        · exact ih r (by omega)
      · simp only [if_true]
        constructor
        · intro z; cases z
        · intro z
          have := z n (Nat.lt_succ_self _)
          rw [q] at this
          cases this
    | some b =>
      have hb' := bst_ok e
      constructor
      · intro z
        simp only at z
        split at z <;> cases z
      · intro z
        have := z b (by omega)
        rw [hb'.2] at this
        cases this
theorem bst_min {ok : Nat → Bool} {cost : Nat → Nat} : ∀ {n b : Nat}, bst ok cost n = some b → ∀ r, r < n → ok r = true → cost b ≤ cost r
  | 0, b, h, _, _, _ => by cases h
  | n + 1, b, h, r, hr, ho => by
    rw [bst] at h
    cases e : bst ok cost n with
    | none =>
      rw [e] at h
      simp only at h
      have ih := bst_none.mp e
      split at h
      · cases h
        by_cases z : r = n
        · rw [z]; exact Nat.le_refl _
        · have := ih r (by omega)
          rw [ho] at this
          cases this
      · cases h
    | some c =>
      rw [e] at h
      simp only at h
      have ih := bst_min e
      split at h
      · rename_i q
        cases h
        rw [Bool.and_eq_true, decide_eq_true_eq] at q
        by_cases z : r = n
        · rw [z]; exact Nat.le_refl _
        · have := ih r (by omega) ho
          omega
      · rename_i q
        cases h
        by_cases z : r = n
        · subst z
          rw [ho, Bool.true_and, decide_eq_true_eq] at q
          omega
        · exact ih r (by omega) ho
section ODO
variable {σ : St}
/-- the class's row: what comes behind it -/
def Adv (σ : St) (P D : Nat) (l x : Nat → Nat) (v : Int32 × St) : Prop := Fr (fun b j => b = 7 ∧ j < P) σ v.2 ∧ ((v.1 = 0 ∧ ∀ q, q < P → x q = D) ∨ (v.1 = 1 ∧ ∃ y, Nxt P D l x y ∧ ∀ q, q < P → v.2.1 7 q = nI (y q)))
theorem c_adv0 {P D a : Nat} {l x : Nat → Nat} (e0 : σ.1 39 0 = nI P) (e1 : σ.1 39 1 = nI D) (p1 : 1 ≤ P) (p5 : P ≤ 5) (d4 : D ≤ 4) (la : ln a = 5) (ha : a ≠ 7) (hl : ∀ q, q < P → σ.1 a q = nI (l q)) (hx : ∀ q, q < P → σ.1 7 q = nI (x q) ∧ x q ≤ D) : ∃ v, f_X0_advance σ 39 7 a = some v ∧ Adv σ P D l x v := by
  have gen := lp_dn (P := fun n c => ∀ σ1, Fr (fun b j => b = 7 ∧ j < P) σ σ1 → (∀ q, q < c → σ1.1 7 q = nI (x q)) → (∀ q, c ≤ q → q < P → σ1.1 7 q = nI (l q)) → (∀ q, c ≤ q → q < P → x q = D) → ∃ v, f_X0_advance_l7 n σ1 39 7 a (nI c - 1) = some v ∧ Adv σ P D l x v) P (by omega) (fun n σ1 f1 g1 g2 g3 => ?_) (fun n c hc ih σ1 f1 g1 g2 g3 => ?_)
  · obtain ⟨v, u1, u2⟩ := gen σ (Fr.r σ) (fun q hq => (hx q hq).1) (fun q h1 h2 => absurd h1 (by omega)) (fun q h1 h2 => absurd h1 (by omega))
    refine ⟨v, ?_, u2⟩
    unfold f_X0_advance
    rw [e0, bind_s]
    exact u1
  · refine ⟨(0, σ1), ?_, f1, Or.inl ⟨rfl, fun q hq => g3 q (Nat.zero_le _) hq⟩⟩
    show f_X0_advance_b7 (f_X0_advance_l7 n) _ _ _ _ _ = _; unfold f_X0_advance_b7
    rw [if_pos (by decide)]
  · have ec : f_X5_at σ1 7 (nI c) = some (nI (x c)) := by rw [c_at (by rw [ln7]; omega), g1 c (by omega)]
    have xc := (hx c hc).2
    rw [nI_pd]
    by_cases q : D ≤ x c
    · have ea : f_X5_at σ1 a (nI c) = some (nI (l c)) := by rw [c_at (by rw [la]; omega), f1.1 _ _ (fun z => ha z.1), hl c hc]
      obtain ⟨v, u1, u2⟩ := ih (setI σ1 7 c (nI (l c))) (f1.t (Fr.i ⟨rfl, hc⟩)) (fun q hq => by rw [setI_k (by omega)]; exact g1 q (by omega)) (fun q h1 h2 => by
        by_cases e : q = c
        · rw [e, setI_s]
        · rw [setI_k e]; exact g2 q (by omega) h2) (fun q h1 h2 => by
        by_cases e : q = c
        · rw [e]; omega
        · exact g3 q (by omega) h2)
      refine ⟨v, ?_, u2⟩
      show f_X0_advance_b7 (f_X0_advance_l7 n) _ _ _ _ _ = _; unfold f_X0_advance_b7
      rw [if_neg (nI_pos (by omega)), ec, bind_s, f1.1 39 1 (by omega), e1, if_pos (nI_le q (by omega)), ea, bind_s, c_put (by rw [ln7]; omega), bind_s, bind_s, i_m1]
      exact u1
    · refine ⟨(1, setI σ1 7 c (nI (x c + 1))), ?_, f1.t (Fr.i ⟨rfl, hc⟩), Or.inr ⟨rfl, fun q => if q < c then x q else if q = c then x c + 1 else l q, ⟨c, hc, by omega, fun q h1 h2 => g3 q (by omega) h2, fun q hq => if_pos hq, ?_, fun q h1 h2 => ?_⟩, fun q hq => ?_⟩⟩
      · show f_X0_advance_b7 (f_X0_advance_l7 n) _ _ _ _ _ = _; unfold f_X0_advance_b7
        rw [if_neg (nI_pos (by omega)), ec, bind_s, f1.1 39 1 (by omega), e1, if_neg (nI_ge (by omega) (by omega)), bind_s, nI_1, c_put (by rw [ln7]; omega), bind_s]
      · show (if c < c then x c else if c = c then x c + 1 else l c) = _
        rw [if_neg (Nat.lt_irrefl _), if_pos rfl]
      · show (if q < c then x q else if q = c then x c + 1 else l q) = _
        rw [if_neg (by omega), if_neg (by omega)]
      · show (setI σ1 7 c (nI (x c + 1))).1 7 q = nI (if q < c then x q else if q = c then x c + 1 else l q)
        by_cases e : q < c
        · rw [setI_k (by omega), if_pos e]; exact g1 q (by omega)
        · rw [if_neg e]
          by_cases e2 : q = c
          · rw [e2, setI_s, if_pos rfl]
          · rw [setI_k e2, if_neg e2]; exact g2 q (by omega) hq
/-- the same by numbers -/
theorem c_advS {P D a c : Nat} {l : Nat → Nat} (e0 : σ.1 39 0 = nI P) (e1 : σ.1 39 1 = nI D) (p1 : 1 ≤ P) (p5 : P ≤ 5) (d4 : D ≤ 4) (la : ln a = 5) (ha : a ≠ 7) (hl : ∀ q, q < P → σ.1 a q = nI (l q) ∧ l q ≤ D) (hc : ∀ q, q < P → l q ≤ dg (D + 1) P c q) (hcM : c < (D + 1) ^ P) (hx : ∀ q, q < P → σ.1 7 q = nI (dg (D + 1) P c q)) : ∃ σ', Fr (fun b j => b = 7 ∧ j < P) σ σ' ∧ ((f_X0_advance σ 39 7 a = some (0, σ') ∧ ∀ r, c < r → r < (D + 1) ^ P → ∃ q, q < P ∧ dg (D + 1) P r q < l q) ∨ (f_X0_advance σ 39 7 a = some (1, σ') ∧ ∃ c', c < c' ∧ c' < (D + 1) ^ P ∧ (∀ q, q < P → l q ≤ dg (D + 1) P c' q) ∧ (∀ r, c < r → r < c' → ∃ q, q < P ∧ dg (D + 1) P r q < l q) ∧ ∀ q, q < P → σ'.1 7 q = nI (dg (D + 1) P c' q))) := by
  obtain ⟨v, u1, u2, u3⟩ := c_adv0 (l := l) (x := dg (D + 1) P c) e0 e1 p1 p5 d4 la ha (fun q hq => (hl q hq).1) (fun q hq => ⟨hx q hq, dg_le⟩)
  obtain ⟨v1, σ'⟩ := v
  refine ⟨σ', u2, ?_⟩
  have nov : ∀ r, (¬ ∃ q, q < P ∧ dg (D + 1) P r q < l q) → ∀ q, q < P → l q ≤ dg (D + 1) P r q ∧ dg (D + 1) P r q ≤ D := fun r h q hq => ⟨Nat.le_of_not_lt fun z => h ⟨q, hq, z⟩, dg_le⟩
  rcases u3 with ⟨rfl, hD⟩ | ⟨rfl, y, hy, hyc⟩
  · refine Or.inl ⟨u1, fun r h1 h2 => ?_⟩
    apply Classical.byContradiction
    intro h
    have := vl_m (B := D + 1) (n := P) (x := dg (D + 1) P r) (y := dg (D + 1) P c) (fun q hq => by rw [hD q hq]; exact dg_le)
    rw [vl_dg h2, vl_dg hcM] at this
    omega
  · have hxv : ∀ q, q < P → l q ≤ dg (D + 1) P c q ∧ dg (D + 1) P c q ≤ D := fun q hq => ⟨hc q hq, dg_le⟩
    have nv := nxt_v hy (fun q hq => (hl q hq).2) hxv
    have yB : ∀ q, q < P → y q < D + 1 := fun q hq => Nat.lt_succ_of_le (nv.1 q hq).2
    have eq : ∀ q, q < P → dg (D + 1) P (vl (D + 1) y P) q = y q := fun q hq => dg_vl (Nat.succ_pos D) yB hq
    refine Or.inr ⟨u1, vl (D + 1) y P, ?_, vl_lt yB, fun q hq => by rw [eq q hq]; exact (nv.1 q hq).1, fun r h1 h2 => ?_, fun q hq => by rw [eq q hq]; exact hyc q hq⟩
    · have := nv.2
      rw [vl_dg hcM] at this
      exact this
    · apply Classical.byContradiction
      intro h
      have hrM : r < (D + 1) ^ P := Nat.lt_trans h2 (vl_lt yB)
      have := nxt_g hy (fun q hq => (hl q hq).2) hxv (nov r h) (by rw [vl_dg hcM, vl_dg hrM]; exact h1)
      rw [vl_dg hrM] at this
      omega
theorem c_adv {P D a c : Nat} {l : Nat → Nat} (e0 : σ.1 39 0 = nI P) (e1 : σ.1 39 1 = nI D) (p1 : 1 ≤ P) (p5 : P ≤ 5) (d4 : D ≤ 4) (la : ln a = 5) (ha : a ≠ 7) (hl : ∀ q, q < P → σ.1 a q = nI (l q) ∧ l q ≤ D) (hc : ∀ q, q < P → l q ≤ dg (D + 1) P c q) (hcM : c < (D + 1) ^ P) (hx : ∀ q, q < P → σ.1 7 q = nI (dg (D + 1) P c q)) : ∃ σ', Fr (fun b _ => b = 7) σ σ' ∧ ((f_X0_advance σ 39 7 a = some (0, σ') ∧ ∀ r, c < r → r < (D + 1) ^ P → ∃ q, q < P ∧ dg (D + 1) P r q < l q) ∨ (f_X0_advance σ 39 7 a = some (1, σ') ∧ ∃ c', c < c' ∧ c' < (D + 1) ^ P ∧ (∀ q, q < P → l q ≤ dg (D + 1) P c' q) ∧ (∀ r, c < r → r < c' → ∃ q, q < P ∧ dg (D + 1) P r q < l q) ∧ ∀ q, q < P → σ'.1 7 q = nI (dg (D + 1) P c' q))) := by
  obtain ⟨σ', h1, h2⟩ := c_advS e0 e1 p1 p5 d4 la ha hl hc hcM hx
  exact ⟨σ', h1.w fun b j z => z.1, h2⟩
end ODO
