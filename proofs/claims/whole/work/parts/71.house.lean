/-! THE HOUSE AS MATHEMATICS: places, deep, strength, keys, locks; coins, seed; of a key kind, own, may, cuts; of a lock ward, asks -/
def HS : Type := Nat × Nat × Nat × Nat × Nat × Int32 × Int32 × (Nat → Nat) × (Nat → Nat) × (Nat → Int32) × (Nat → Nat → Nat) × (Nat → Bool) × (Nat → Nat → Nat)
def pl (S : HS) : Nat := S.1
def dp (S : HS) : Nat := S.2.1
def tg (S : HS) : Nat := S.2.2.1
def nk (S : HS) : Nat := S.2.2.2.1
def nl (S : HS) : Nat := S.2.2.2.2.1
def co (S : HS) : Int32 := S.2.2.2.2.2.1
def se (S : HS) : Int32 := S.2.2.2.2.2.2.1
def ki (S : HS) : Nat → Nat := S.2.2.2.2.2.2.2.1
def ow (S : HS) : Nat → Nat := S.2.2.2.2.2.2.2.2.1
def my (S : HS) : Nat → Int32 := S.2.2.2.2.2.2.2.2.2.1
def cu (S : HS) : Nat → Nat → Nat := S.2.2.2.2.2.2.2.2.2.2.1
def wa (S : HS) : Nat → Bool := S.2.2.2.2.2.2.2.2.2.2.2.1
def as (S : HS) : Nat → Nat → Nat := S.2.2.2.2.2.2.2.2.2.2.2.2
abbrev kI (h k : Nat) : Nat := h + 1 + 3 + 2 * k
def isH (h : Nat) : Prop := h = 39 ∨ h = 57 ∨ h = 75
/-- what a house may be -/
def Inv (S : HS) : Prop := (1 ≤ pl S ∧ pl S ≤ 5 ∧ 1 ≤ dp S ∧ dp S ≤ 4 ∧ 1 ≤ tg S ∧ tg S ≤ 20 ∧ nk S ≤ 6 ∧ nl S ≤ 8) ∧ (∀ k, ki S k ≤ 5 ∧ ow S k ≤ 9 ∧ ∀ p, cu S k p ≤ dp S ∧ (pl S ≤ p → cu S k p = 0)) ∧ (∀ k, nk S ≤ k → ki S k = 0 ∧ ow S k = 0 ∧ my S k = 0 ∧ ∀ p, cu S k p = 0) ∧ (∀ l p, as S l p ≤ dp S ∧ (pl S ≤ p → as S l p = 0)) ∧ ∀ l, nl S ≤ l → wa S l = false ∧ ∀ p, as S l p = 0
/-- the class's house at h holds S -/
def HC (σ : St) (h : Nat) (S : HS) : Prop :=
  (σ.1 h 0 = nI (pl S) ∧ σ.1 h 1 = nI (dp S) ∧ σ.1 h 2 = nI (tg S) ∧ σ.1 h 3 = co S ∧ σ.1 h 4 = se S ∧ σ.1 h 5 = nI (nk S) ∧ σ.1 h 6 = nI (nl S) ∧ σ.1 h 7 = mk (wa S) (nl S)) ∧
  (∀ k, k < 6 → σ.1 (kI h k) 0 = nI (ki S k) ∧ σ.1 (kI h k) 1 = nI (ow S k) ∧ σ.1 (kI h k) 2 = my S k ∧ ∀ p, p < 5 → σ.1 (kI h k + 1) p = nI (cu S k p)) ∧
  (∀ l, l < 8 → ∀ p, p < 5 → σ.1 (h + 2) (l * 5 + p) = nI (as S l p)) ∧
  (∀ p, p < 5 → ∀ d, d < 5 → σ.1 (h + 3) (p * 5 + d) = mk (fun l => decide (as S l p ≤ d)) (nl S)) ∧
  σ.1 (h + 16) 0 = 0 ∧ σ.1 (h + 16) 1 = 0
def HB (σ : St) (h P D T : Nat) : Prop := σ.1 h 0 = nI P ∧ σ.1 h 1 = nI D ∧ σ.1 h 2 = nI T ∧ 1 ≤ P ∧ P ≤ 5 ∧ 1 ≤ D ∧ D ≤ 4 ∧ T ≤ 20
def KB (σ : St) (x k o : Nat) : Prop := σ.1 x 0 = nI k ∧ σ.1 x 1 = nI o ∧ k ≤ 5 ∧ o ≤ 9
def RB (σ : St) (r P D : Nat) (row : Nat → Nat) : Prop := ln r = 5 ∧ (∀ p, p < P → σ.1 r p = nI (row p)) ∧ ∀ p, p < P → row p ≤ D
theorem ln_h {h : Nat} (hh : isH h) : ln (h + 1) = 6 ∧ ln (h + 2) = 40 ∧ ln (h + 3) = 25 ∧ (∀ k, k < 6 → ln (kI h k + 1) = 5) ∧ ln (h + 16 + 1) = 5 := by
  rcases hh with rfl | rfl | rfl <;> decide +kernel
theorem HC.B {σ : St} {h : Nat} {S : HS} (H : HC σ h S) (I : Inv S) : HB σ h (pl S) (dp S) (tg S) := ⟨H.1.1, H.1.2.1, H.1.2.2.1, I.1.1, I.1.2.1, I.1.2.2.1, I.1.2.2.2.1, I.1.2.2.2.2.2.1⟩
theorem HC.K {σ : St} {h : Nat} {S : HS} (H : HC σ h S) (I : Inv S) {k : Nat} (hk : k < 6) : KB σ (kI h k) (ki S k) (ow S k) := ⟨(H.2.1 k hk).1, (H.2.1 k hk).2.1, (I.2.1 k).1, (I.2.1 k).2.1⟩
theorem HC.R {σ : St} {h : Nat} {S : HS} (H : HC σ h S) (hh : isH h) (I : Inv S) {k : Nat} (hk : k < 6) : RB σ (kI h k + 1) (pl S) (dp S) (cu S k) := ⟨(ln_h hh).2.2.2.1 k hk, fun p hp => (H.2.1 k hk).2.2.2 p (by have := I.1.2.1; omega), fun p _ => ((I.2.1 k).2.2 p).1⟩
/-! what opens, by numbers -/
def bears (T k o : Nat) : Nat := if k = 2 ∨ k = 4 then T - o else T
def brk (P T k o : Nat) (row : Nat → Nat) : Bool := decide (bears T k o < sm row P)
def dep (P D k o : Nat) (row : Nat → Nat) (p : Nat) : Nat := if row p < D ∧ k = 1 ∧ p = o % P then row p + 1 else row p
def fitb (P D k o : Nat) (row ask : Nat → Nat) : Bool := al (fun p => decide (ask p ≤ dep P D k o row p)) P
def opc (S : HS) (k o : Nat) (row : Nat → Nat) (l : Nat) : Bool := !brk (pl S) (tg S) k o row && (fitb (pl S) (dp S) k o row (as S l) && (!wa S l || decide (k = 3 ∨ k = 5)))
/-- what a master opens besides -/
def bes (S : HS) (k : Nat) (l : Nat) : Bool := decide (k = 5) && an (fun j => decide (ki S j = 0) && opc S (ki S j) (ow S j) (cu S j) l) (nk S)
def opAs (S : HS) (k o : Nat) (row : Nat → Nat) (l : Nat) : Bool := !brk (pl S) (tg S) k o row && (opc S k o row l || bes S k l)
def op (S : HS) (k l : Nat) : Bool := opAs S (ki S k) (ow S k) (cu S k) l
section HOUSE
variable {σ : St} {h x r P D T k o : Nat} {row : Nat → Nat}
theorem c_sum (B : HB σ h P D T) (Rw : RB σ r P D row) : f_X0_sum σ h r = some (nI (sm row P)) := by
  obtain ⟨hP, -, -, p1, p5, -⟩ := B
  obtain ⟨hl, hr, -⟩ := Rw
  show f_X0_sum_l4 σ FU h r (nI (sm row 0)) (nI 0) = _
  refine lp_0 (P := fun n m => f_X0_sum_l4 σ n h r (nI (sm row m)) (nI m) = some (nI (sm row P))) P (by omega) (fun n => ?_) (fun n m hm ih => ?_)
  · show f_X0_sum_b4 σ (f_X0_sum_l4 σ n) h r _ _ = _
    unfold f_X0_sum_b4
    rw [hP, if_pos (nI_le (Nat.le_refl _) (by omega))]
  · show f_X0_sum_b4 σ (f_X0_sum_l4 σ n) h r _ _ = _
    unfold f_X0_sum_b4
    rw [hP, hl, if_neg (nI_ge hm (by omega)), if_neg (nI_ge (show m < 5 by omega) (by omega)), ldI_n (by rw [hl]; omega), bind_s, hr m hm, bind_s, bind_s, nI_add, nI_1]
    exact ih
theorem c_bears (B : HB σ h P D T) (K : KB σ x k o) : f_X0_bears σ h x = some (nI (bears T k o)) := by
  obtain ⟨-, -, hT, -, -, -, -, t20⟩ := B
  obtain ⟨h0, h1, k5, o9⟩ := K
  have e : f_X0_bears_b21 σ h x = some (nI (T - o)) := by
    unfold f_X0_bears_b21
    rw [hT, h1]
    by_cases q : T ≤ o
    · rw [if_pos (nI_le q (by omega)), Nat.sub_eq_zero_of_le q]; rfl
    · rw [if_neg (nI_ge (by omega) (by omega)), pk_sub (by omega)]
  unfold f_X0_bears bears
  rw [h0, e, hT, l_2, l_4]
  by_cases q : k = 2
  · rw [if_pos (by rw [q]), if_pos (Or.inl q)]
  · rw [if_neg (fun z => q (nI_inj (by omega) (by omega) z))]
    by_cases q4 : k = 4
    · rw [if_pos (by rw [q4]), if_pos (Or.inr q4)]
    · rw [if_neg (fun z => q4 (nI_inj (by omega) (by omega) z)), if_neg (fun z => z.elim q q4)]
theorem bears_le (T k o : Nat) : bears T k o ≤ T := by unfold bears; split <;> omega
theorem c_breaks (B : HB σ h P D T) (K : KB σ x k o) (Rw : RB σ r P D row) : f_X0_breaks σ h x r = some (if brk P T k o row then 1 else 0) := by
  have hs : sm row P ≤ P * D := sm_le Rw.2.2
  obtain ⟨-, -, -, -, p5, -, d4, t20⟩ := id B
  have h1 : P * D ≤ 5 * 4 := Nat.mul_le_mul p5 d4
  have h2 := bears_le T k o
  unfold f_X0_breaks brk
  rw [c_sum B Rw, bind_s, c_bears B K, bind_s]
  by_cases q : bears T k o < sm row P
  · rw [if_neg (nI_ge q (by omega)), decide_eq_true q]; rfl
  · rw [if_pos (nI_le (by omega) (by omega)), decide_eq_false q]; rfl
theorem c_worn (B : HB σ h P D T) (K : KB σ x k o) : f_X0_wornPlace σ h x = some (if k = 1 then nI (o % P) else -1) := by
  obtain ⟨hP, -, -, p1, p5, -⟩ := B
  obtain ⟨h0, h1, k5, o9⟩ := K
  unfold f_X0_wornPlace
  rw [h0, h1, hP, l_1]
  by_cases q : k = 1
  · rw [if_pos (by rw [q]), if_neg (nI_nle (by omega) (by omega)), if_pos q]
    unfold rmI
    rw [if_neg (nI_ne0 (by omega) (by omega)), bind_s, pk_rem (by omega) (by omega) (by omega)]
  · rw [if_neg (fun z => q (nI_inj (by omega) (by omega) z)), if_neg q]
theorem c_at {a j : Nat} (hj : j < ln a) : f_X5_at σ a (nI j) = some (σ.1 a j) := by
  have := ln_le a
  unfold f_X5_at
  rw [if_neg (nI_pos (by omega)), if_neg (nI_ge hj (by omega)), ldI_n hj]
  rfl
theorem c_put {a j : Nat} {v : Int32} (hj : j < ln a) : f_X5_put σ a (nI j) v = some (setI σ a j v) := by
  have := ln_le a
  unfold f_X5_put
  rw [if_neg (nI_pos (by omega)), if_neg (nI_ge hj (by omega)), stI_n hj]
  rfl
theorem c_depth (B : HB σ h P D T) (K : KB σ x k o) (Rw : RB σ r P D row) {p : Nat} (hp : p < P) : f_X0_depth σ h x r (nI p) = some (nI (dep P D k o row p)) := by
  obtain ⟨hP, hD, -, p1, p5, d1, d4, -⟩ := id B
  obtain ⟨hl, hr, hb⟩ := Rw
  have hbp := hb p hp
  unfold f_X0_depth dep
  rw [c_at (by rw [hl]; omega), bind_s, hr p hp, hD]
  by_cases q : D ≤ row p
  · rw [if_pos (nI_le q (by omega)), if_neg (fun z => by omega)]
  · rw [if_neg (nI_ge (by omega) (by omega)), c_worn B K, bind_s]
    by_cases q1 : k = 1
    · rw [if_pos q1]
      have hm := Nat.mod_lt o (show 0 < P by omega)
      by_cases q2 : p = o % P
      · rw [if_pos (by rw [← q2]), if_pos ⟨by omega, q1, q2⟩, nI_1]
      · rw [if_neg (fun z => q2 (nI_inj (by omega) (by omega) z)), if_neg (fun z => q2 z.2.2)]
    · rw [if_neg q1, if_neg (nm1_ne p (by omega)), if_neg (fun z => q1 z.2.1)]
theorem dep_le (P D k o : Nat) (row : Nat → Nat) (p : Nat) (h : row p ≤ D) : dep P D k o row p ≤ D := by unfold dep; split <;> omega
end HOUSE
section HOUSE2
variable {σ : St} {h x r k o : Nat} {row : Nat → Nat} {S : HS}
theorem c_first {n : Nat} (hn : n ≤ 8) : f_X5_firstBits (nI n) = some (mk (fun _ => true) n) := by
  unfold f_X5_firstBits
  rw [first_mk n hn]
theorem c_kind (K : KB σ x k o) : f_X1_isOfKind σ x 3 = some (if k = 3 ∨ k = 5 then 1 else 0) := by
  obtain ⟨h0, -, k5, -⟩ := K
  have h : ∀ k, k ≤ 5 → ((if (3 : Int32) = 0 then (some 1 : Option Int32) else if 3 = nI k then some 1 else if (3 : Int32) = 2 then (if nI k = 4 then some 1 else if (3 : Int32) = 3 then (if nI k = 5 then some 1 else some 0) else some 0) else (if (3 : Int32) = 3 then (if nI k = 5 then some 1 else some 0) else some 0)) = some (if k = 3 ∨ k = 5 then 1 else 0)) := by decide +kernel
  unfold f_X1_isOfKind f_X1_isOfKind_b27 f_X1_isOfKind_b40
  rw [h0]
  exact h k (by omega)
theorem c_fitted (H : HC σ h S) (hh : isH h) (I : Inv S) (K : KB σ x k o) (Rw : RB σ r (pl S) (dp S) row) : f_X0_fitted σ h x r = some (mk (fun l => fitb (pl S) (dp S) k o row (as S l)) (nl S)) := by
  have B := H.B I
  obtain ⟨hP, hD, -, p1, p5, d1, d4, -⟩ := id B
  have n8 : nl S ≤ 8 := I.1.2.2.2.2.2.2.2
  have l25 := (ln_h hh).2.2.1
  obtain ⟨hl, hr, hb⟩ := id Rw
  unfold f_X0_fitted
  rw [H.1.2.2.2.2.2.2.1, c_first n8, bind_s, c_worn B K, bind_s]
  have gen : ∀ w : Int32, (w = if k = 1 then nI (o % pl S) else -1) → f_X0_fitted_l18 σ FU h r (mk (fun l => al (fun p => decide (as S l p ≤ dep (pl S) (dp S) k o row p)) 0) (nl S)) w (nI 0) = some (mk (fun l => fitb (pl S) (dp S) k o row (as S l)) (nl S)) := by
    intro w hw
    refine lp_0 (P := fun n m => f_X0_fitted_l18 σ n h r (mk (fun l => al (fun p => decide (as S l p ≤ dep (pl S) (dp S) k o row p)) m) (nl S)) w (nI m) = some (mk (fun l => fitb (pl S) (dp S) k o row (as S l)) (nl S))) (pl S) (by omega) (fun n => ?_) (fun n m hm ih => ?_)
    · show f_X0_fitted_b18 σ (f_X0_fitted_l18 σ n) h r _ _ _ = _
      unfold f_X0_fitted_b18
      rw [hP, if_pos (nI_le (Nat.le_refl _) (by omega))]
      rfl
    · show f_X0_fitted_b18 σ (f_X0_fitted_l18 σ n) h r _ _ _ = _
      have hbm := hb m hm
      have hdm := dep_le (pl S) (dp S) k o row m hbm
      have last : ∀ t : Int32, t = nI (dep (pl S) (dp S) k o row m) → f_X0_fitted_b60 σ (f_X0_fitted_l18 σ n) h r (mk (fun l => al (fun p => decide (as S l p ≤ dep (pl S) (dp S) k o row p)) m) (nl S)) w (nI m) t = some (mk (fun l => fitb (pl S) (dp S) k o row (as S l)) (nl S)) := by
        intro t ht
        subst ht
        unfold f_X0_fitted_b60
        rw [l_5, pk_mul, nI_add, c_at (by rw [l25]; omega), bind_s, H.2.2.2.1 m (by omega) _ (by omega), mk_and (by omega), bind_s, bind_s, nI_1]
        exact ih
      unfold f_X0_fitted_b18 f_X0_fitted_b58
      rw [hP, if_neg (nI_ge hm (by omega)), c_at (by rw [hl]; omega), bind_s, hr m hm, hD]
      by_cases q : dp S ≤ row m
      · rw [if_pos (nI_le q (by omega))]
        exact last _ (by unfold dep; rw [if_neg (fun z => by omega)])
      · rw [if_neg (nI_ge (by omega) (by omega)), hw]
        by_cases q1 : k = 1
        · rw [if_pos q1]
          have hmo := Nat.mod_lt o (show 0 < pl S by omega)
          rw [hw, if_pos q1] at last
          by_cases q2 : m = o % pl S
          · rw [if_pos (by rw [← q2])]
            exact last _ (by unfold dep; rw [if_pos ⟨by omega, q1, q2⟩, nI_1])
          · rw [if_neg (fun z => q2 (nI_inj (by omega) (by omega) z))]
            exact last _ (by unfold dep; rw [if_neg (fun z => q2 z.2.2)])
        · rw [if_neg q1, if_neg (nm1_ne m (by omega))]
          rw [hw, if_neg q1] at last
          exact last _ (by unfold dep; rw [if_neg (fun z => q1 z.2.1)])
  exact gen _ rfl
theorem c_obc (H : HC σ h S) (hh : isH h) (I : Inv S) (K : KB σ x k o) (Rw : RB σ r (pl S) (dp S) row) : f_X0_openedByCuts σ h x r = some (mk (opc S k o row) (nl S)) := by
  have B := H.B I
  have n8 : nl S ≤ 8 := I.1.2.2.2.2.2.2.2
  unfold f_X0_openedByCuts
  rw [c_breaks B K Rw, bind_s, ifz]
  cases hb : brk (pl S) (tg S) k o row
  · rw [if_neg Bool.false_ne_true, c_fitted H hh I K Rw, bind_s, c_kind K, bind_s, ifz]
    by_cases q : k = 3 ∨ k = 5
    · rw [if_pos q]
      congr 1
      exact mk_c (fun l _ => by simp [opc, hb, q])
    · rw [if_neg q, H.1.2.2.2.2.2.2.2, mk_andn (by omega)]
      congr 1
      exact mk_c (fun l _ => by simp [opc, hb, q])
  · rw [if_pos rfl]
    congr 1
    rw [← mk_0 (n := nl S)]
    exact mk_c (fun l _ => by simp [opc, hb])
theorem c_keyAt (hh : isH h) {j : Nat} (hj : j < 6) : f_X0_keyAt σ h (nI j) = some (kI h j) := by
  have l6 := (ln_h hh).1
  unfold f_X0_keyAt
  rw [if_neg (nI_pos (by omega)), l6, if_neg (nI_ge hj (by omega)), ldK_n (by rw [l6]; exact hj)]
  rfl
theorem c_bes (H : HC σ h S) (hh : isH h) (I : Inv S) (K : KB σ x k o) : f_X0_openedBesides σ h x = some (mk (bes S k) (nl S)) := by
  have n8 : nl S ≤ 8 := I.1.2.2.2.2.2.2.2
  have k6 : nk S ≤ 6 := I.1.2.2.2.2.2.2.1
  obtain ⟨h0, -, k5, -⟩ := id K
  have hK := H.1.2.2.2.2.2.1
  show f_X0_openedBesides_l4 σ FU h x 0 0 = _
  by_cases q : k = 5
  · subst q
    have h1 : f_X0_openedBesides_l4 σ FU h x (mk (fun l => an (fun j => decide (ki S j = 0) && opc S (ki S j) (ow S j) (cu S j) l) 0) (nl S)) (nI 0) = some (mk (bes S 5) (nl S)) := by
      refine lp_0 (P := fun n m => f_X0_openedBesides_l4 σ n h x (mk (fun l => an (fun j => decide (ki S j = 0) && opc S (ki S j) (ow S j) (cu S j) l) m) (nl S)) (nI m) = some (mk (bes S 5) (nl S))) (nk S) (by omega) (fun n => ?_) (fun n m hm ih => ?_)
      · show f_X0_openedBesides_b4 σ (f_X0_openedBesides_l4 σ n) h x _ _ = _
        unfold f_X0_openedBesides_b4
        rw [hK, if_pos (nI_le (Nat.le_refl _) (by omega))]
        congr 1
      · show f_X0_openedBesides_b4 σ (f_X0_openedBesides_l4 σ n) h x _ _ = _
        have hk0 : σ.1 (kI h m) 0 = nI (ki S m) := (H.2.1 m (by omega)).1
        unfold f_X0_openedBesides_b4 f_X0_openedBesides_b49
        rw [hK, if_neg (nI_ge hm (by omega)), h0, if_pos (show nI 5 = 5 from rfl), c_keyAt hh (by omega), bind_s, hk0, nI_1, bind_s]
        by_cases z : ki S m = 0
        · rw [if_pos (by rw [z]; rfl), c_obc H hh I (H.K I (by omega)) (H.R hh I (by omega)), bind_s, mk_or (by omega), bind_s, bind_s]
          have e : (fun l => an (fun j => decide (ki S j = 0) && opc S (ki S j) (ow S j) (cu S j) l) m || opc S (ki S m) (ow S m) (cu S m) l) = (fun l => an (fun j => decide (ki S j = 0) && opc S (ki S j) (ow S j) (cu S j) l) (m + 1)) := by
            funext l
            simp [an, z]
          rw [e]
          exact ih
        · have kle := (I.2.1 m).1
          rw [if_neg (show ¬ nI (ki S m) = 0 from fun e => z (nI_inj (by omega) (by omega) e))]
          have e : (fun l => an (fun j => decide (ki S j = 0) && opc S (ki S j) (ow S j) (cu S j) l) m) = (fun l => an (fun j => decide (ki S j = 0) && opc S (ki S j) (ow S j) (cu S j) l) (m + 1)) := by
            funext l
            simp [an, z]
          rw [e]
          exact ih
    rw [show mk (fun l => an (fun j => decide (ki S j = 0) && opc S (ki S j) (ow S j) (cu S j) l) 0) (nl S) = 0 from mk_0] at h1
    exact h1
  · show f_X0_openedBesides_b4 σ (f_X0_openedBesides_l4 σ 3999) h x 0 0 = _
    have e : mk (bes S k) (nl S) = 0 := by
      rw [← mk_0 (n := nl S)]
      exact mk_c (fun l _ => by simp [bes, q])
    unfold f_X0_openedBesides_b4
    rw [e, h0, if_neg (show ¬ nI k = 5 from fun z => q (nI_inj (by omega) (by omega) z))]
    split <;> rfl
theorem c_oas (H : HC σ h S) (hh : isH h) (I : Inv S) (K : KB σ x k o) (Rw : RB σ r (pl S) (dp S) row) : f_X0_openedAs σ h x r (mk (bes S k) (nl S)) = some (mk (opAs S k o row) (nl S)) := by
  have B := H.B I
  have n8 : nl S ≤ 8 := I.1.2.2.2.2.2.2.2
  unfold f_X0_openedAs
  rw [c_breaks B K Rw, bind_s, ifz]
  cases hb : brk (pl S) (tg S) k o row
  · rw [if_neg Bool.false_ne_true, c_obc H hh I K Rw, bind_s, mk_or (by omega)]
    congr 1
    exact mk_c (fun l _ => by simp [opAs, hb])
  · rw [if_pos rfl]
    congr 1
    rw [← mk_0 (n := nl S)]
    exact mk_c (fun l _ => by simp [opAs, hb])
theorem c_oby (H : HC σ h S) (hh : isH h) (I : Inv S) {j : Nat} (hj : j < 6) : f_X0_openedBy σ h (nI j) = some (mk (op S j) (nl S)) := by
  unfold f_X0_openedBy
  rw [c_keyAt hh hj, bind_s, c_bes H hh I (H.K I hj), bind_s, c_oas H hh I (H.K I hj) (H.R hh I hj)]
  rfl
end HOUSE2
