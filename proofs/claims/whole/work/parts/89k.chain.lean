theorem cnt_m {f g : Nat → Bool} : ∀ {n : Nat}, (∀ i, i < n → f i = true → g i = true) → cnt f n ≤ cnt g n
  | 0, _ => Nat.le_refl _
  | n + 1, h => by
    have h1 := cnt_m (n := n) (fun i hi => h i (by omega))
    have h2 := h n (by omega)
    rw [cnt, cnt]
    revert h2
    cases f n <;> cases g n <;> simp <;> omega
theorem cnt_lt {f g : Nat → Bool} : ∀ {n : Nat}, (∀ i, i < n → f i = true → g i = true) → (∃ i, i < n ∧ g i = true ∧ f i = false) → cnt f n < cnt g n
  | 0, _, ⟨i, hi, _⟩ => absurd hi (Nat.not_lt_zero i)
  | n + 1, h, ⟨i, hi, h1, h2⟩ => by
    rw [cnt, cnt]
    by_cases e : i = n
    · subst e
      have := cnt_m (f := f) (g := g) (n := i) (fun j hj => h j (by omega))
      rw [h1, h2, if_pos rfl, if_neg (by simp)]
      omega
    · have h3 := cnt_lt (f := f) (g := g) (n := n) (fun j hj => h j (by omega)) ⟨i, by omega, h1, h2⟩
      have h4 := h n (by omega)
      revert h4
      cases f n <;> cases g n <;> simp <;> omega
def mxs (f : Nat → Nat) : Nat → Nat
  | 0 => 0
  | n + 1 => max (mxs f n) (f n)
theorem mxs_c {f g : Nat → Nat} : ∀ {n : Nat}, (∀ k, k < n → f k = g k) → mxs f n = mxs g n
  | 0, _ => rfl
  | n + 1, h => by rw [mxs, mxs, mxs_c (fun k hk => h k (by omega)), h n (by omega)]
theorem mxs_le {f : Nat → Nat} {c : Nat} : ∀ {n : Nat}, (∀ k, k < n → f k ≤ c) → mxs f n ≤ c
  | 0, _ => Nat.zero_le _
  | n + 1, h => by
    have h1 := mxs_le (n := n) (fun k hk => h k (by omega))
    have h2 := h n (by omega)
    rw [mxs]
    exact Nat.max_le.mpr ⟨h1, h2⟩
theorem mxs_ge {f : Nat → Nat} : ∀ {n k : Nat}, k < n → f k ≤ mxs f n
  | 0, k, h => absurd h (Nat.not_lt_zero k)
  | n + 1, k, h => by
    rw [mxs]
    by_cases e : k = n
    · subst e; exact Nat.le_max_right _ _
    · exact Nat.le_trans (mxs_ge (n := n) (by omega)) (Nat.le_max_left _ _)
theorem mxs_m {f g : Nat → Nat} : ∀ {n : Nat}, (∀ k, k < n → f k ≤ g k) → mxs f n ≤ mxs g n
  | 0, _ => Nat.le_refl _
  | n + 1, h => by
    have h1 := mxs_m (n := n) (fun k hk => h k (by omega))
    have h2 := h n (by omega)
    rw [mxs, mxs]
    omega
section CHAIN
variable {S : HS}
/-- key j opens less than key k -/
def ltk (S : HS) (j k : Nat) : Bool := decide (¬ mk (op S j) (nl S) = mk (op S k) (nl S)) && sub (op S j) (op S k) (nl S)
theorem ltk_iff (hn : nl S ≤ 32) {j k : Nat} : ltk S j k = true ↔ (∀ l, l < nl S → op S j l = true → op S k l = true) ∧ ∃ l, l < nl S ∧ op S k l = true ∧ op S j l = false := by
  unfold ltk sub
  rw [Bool.and_eq_true, decide_eq_true_eq, al_iff]
  constructor
  · rintro ⟨h1, h2⟩
    have h3 : ∀ l, l < nl S → op S j l = true → op S k l = true := fun l hl => by
      have := h2 l hl
      revert this
      cases op S j l <;> cases op S k l <;> simp
    refine ⟨h3, ?_⟩
    apply Classical.byContradiction
    intro h4
    apply h1
    refine mk_c fun l hl => ?_
    have h5 := h3 l hl
    have h6 : ¬ (op S k l = true ∧ op S j l = false) := fun z => h4 ⟨l, hl, z⟩
    revert h5 h6
    cases op S j l <;> cases op S k l <;> simp
  · rintro ⟨h1, l, hl, h2, h3⟩
    refine ⟨fun e => ?_, fun l hl => ?_⟩
    · have := mk_inj hn e l hl
      rw [h2, h3] at this
      cases this
    · have := h1 l hl
      revert this
      cases op S j l <;> cases op S k l <;> simp
theorem ltk_t (hn : nl S ≤ 32) {i j k : Nat} (h1 : ltk S i j = true) (h2 : ltk S j k = true) : ltk S i k = true := by
  rw [ltk_iff hn] at *
  obtain ⟨a1, l, hl, a2, a3⟩ := h1
  exact ⟨fun l hl z => h2.1 l hl (a1 l hl z), l, hl, h2.1 l hl a2, a3⟩
theorem ltk_r (hn : nl S ≤ 32) (k : Nat) : ltk S k k = false := by
  apply Bool.eq_false_iff.mpr
  intro h
  obtain ⟨-, l, hl, h1, h2⟩ := (ltk_iff hn).mp h
  rw [h1] at h2
  cases h2
/-- how many keys are below -/
def hk (S : HS) (k : Nat) : Nat := cnt (fun j => ltk S j k) (nk S)
theorem hk_lt (hn : nl S ≤ 32) {j k : Nat} (hj : j < nk S) (h : ltk S j k = true) : hk S j < hk S k := cnt_lt (fun i _ hi => ltk_t hn hi h) ⟨j, hj, h, ltk_r hn j⟩
theorem hk_n (hn : nl S ≤ 32) {k : Nat} (hk' : k < nk S) : hk S k < nk S := by
  have : hk S k < cnt (fun _ => true) (nk S) := cnt_lt (fun i _ _ => rfl) ⟨k, hk', rfl, ltk_r hn k⟩
  exact Nat.lt_of_lt_of_le this (cnt_le _ _)
theorem pc_lt (hn : nl S ≤ 32) {j k : Nat} (h : ltk S j k = true) : cnt (op S j) (nl S) < cnt (op S k) (nl S) := by
  obtain ⟨a, b⟩ := (ltk_iff hn).mp h
  exact cnt_lt a b
def Lf (S : HS) : Nat → Nat → Nat
  | 0, _ => 0
  | d + 1, k => 1 + mxs (fun j => if ltk S j k then Lf S d j else 0) (nk S)
theorem Lf_s (hn : nl S ≤ 32) : ∀ d d' k, hk S k < d → hk S k < d' → Lf S d k = Lf S d' k
  | 0, _, _, h, _ => absurd h (Nat.not_lt_zero _)
  | _ + 1, 0, _, _, h => absurd h (Nat.not_lt_zero _)
  | d + 1, d' + 1, k, h, h' => by
    rw [Lf, Lf]
    congr 1
    refine mxs_c fun j hj => ?_
    by_cases e : ltk S j k = true
    · rw [if_pos e, if_pos e]
      have := hk_lt hn hj e
      exact Lf_s hn d d' j (by omega) (by omega)
    · rw [if_neg e, if_neg e]
/-- the longest chain up to a key -/
def Lk (S : HS) (k : Nat) : Nat := Lf S (nk S) k
theorem Lk_e (hn : nl S ≤ 32) {k : Nat} (h : k < nk S) : Lk S k = 1 + mxs (fun j => if ltk S j k then Lk S j else 0) (nk S) := by
  have h1 := hk_n hn h
  unfold Lk
  rw [Lf_s hn (nk S) (nk S + 1) k h1 (by omega)]
  rfl
theorem Lf_le : ∀ d k, Lf S d k ≤ d
  | 0, _ => Nat.le_refl _
  | d + 1, k => by
    rw [Lf]
    have : mxs (fun j => if ltk S j k then Lf S d j else 0) (nk S) ≤ d := mxs_le fun j _ => by
      have := Lf_le d j
      show (if ltk S j k then Lf S d j else 0) ≤ d
      split <;> omega
    omega
theorem Lk_le (k : Nat) : Lk S k ≤ nk S := Lf_le _ _
end CHAIN
theorem ln18 : ln 18 = 6 := by decide +kernel
theorem ln19 : ln 19 = 6 := by decide +kernel
section CHAIN2
variable {σ : St} {S : HS}
/-- what the class has for its chains -/
def ChS (σ : St) (S : HS) (len : Nat → Nat) : Prop := (∀ k, k < nk S → σ.1 18 k = mk (op S k) (nl S)) ∧ (∀ k, k < nk S → σ.1 19 k = nI (len k)) ∧ ∀ k, k < nk S → len k ≤ Lk S k
theorem c_lb {len : Nat → Nat} (H : HC σ 39 S) (I : Inv S) (C : ChS σ S len) {k : Nat} (hk' : k < nk S) : f_X4_longestBelow σ 5 (nI k) = some (nI (mxs (fun j => if ltk S j k then len j else 0) (nk S))) := by
  have n6 := I.1.2.2.2.2.2.2.1
  have n8 := I.1.2.2.2.2.2.2.2
  have h5 := H.1.2.2.2.2.2.1
  have bd : ∀ m, m ≤ nk S → mxs (fun j => if ltk S j k then len j else 0) m ≤ 6 := fun m hm => mxs_le fun j hj => by
    have := C.2.2 j (by omega)
    have := Lk_le (S := S) j
    show (if ltk S j k then len j else 0) ≤ 6
    split <;> omega
  unfold f_X4_longestBelow
  rw [c_at (by rw [ln18]; omega), bind_s, C.1 k hk']
  show f_X4_longestBelow_l14 σ FU 5 (mk (op S k) (nl S)) (nI (mxs (fun j => if ltk S j k then len j else 0) 0)) (nI 0) = _
  refine lp_0 (P := fun n m => f_X4_longestBelow_l14 σ n 5 (mk (op S k) (nl S)) (nI (mxs (fun j => if ltk S j k then len j else 0) m)) (nI m) = some (nI (mxs (fun j => if ltk S j k then len j else 0) (nk S)))) (nk S) (by omega) (fun n => ?_) (fun n m hm ih => ?_)
  · show f_X4_longestBelow_b14 _ (f_X4_longestBelow_l14 _ n) _ _ _ _ = _; unfold f_X4_longestBelow_b14
    simp (disch := omega) only [nle, nlt, neq, neqm, nmeq, nlem, nI_add, pk_mul, nI_1, ne0, nl0, nk0, nt0, nu0, ne1, nl1, nk1, nt1, nu1, ne2, nl2, nk2, nt2, nu2, na2, nb2, ns2, ne3, nl3, nk3, nt3, nu3, na3, nb3, ns3, ne4, nl4, nk4, nt4, nu4, na4, nb4, ns4, ne5, nl5, nk5, nt5, nu5, na5, nb5, nm5, nn5, ns5, ne6, nl6, nk6, nt6, nu6, na6, nb6, ns6, ne7, nl7, nk7, nt7, nu7, na7, nb7, ns7, ne8, nl8, nk8, nt8, nu8, na8, nb8, ns8, ne9, nl9, nk9, nt9, nu9, na9, nb9, ns9, ne10, nl10, nk10, nt10, nu10, na10, nb10, nm10, nn10, ns10, ne16, nl16, nk16, nt16, nu16, na16, nb16, ns16, ne18, nl18, nk18, nt18, nu18, na18, nb18, ns18, ne20, nl20, nk20, nt20, nu20, na20, nb20, ns20, ne30, nl30, nk30, nt30, nu30, na30, nb30, ns30, ne32, nl32, nk32, nt32, nu32, na32, nb32, ns32, ne40, nl40, nk40, nt40, nu40, na40, nb40, nm40, nn40, ns40, ne48, nl48, nk48, nt48, nu48, na48, nb48, ns48, ne56, nl56, nk56, nt56, nu56, na56, nb56, ns56, ne57, nl57, nk57, nt57, nu57, na57, nb57, ns57, ne59, nl59, nk59, nt59, nu59, na59, nb59, ns59, ne96, nl96, nk96, nt96, nu96, na96, nb96, ns96, ne97, nl97, nk97, nt97, nu97, na97, nb97, ns97, ne98, nl98, nk98, nt98, nu98, na98, nb98, ns98, ne99, nl99, nk99, nt99, nu99, na99, nb99, ns99, ne100, nl100, nk100, nt100, nu100, na100, nb100, ns100, ne101, nl101, nk101, nt101, nu101, na101, nb101, ns101, ne102, nl102, nk102, nt102, nu102, na102, nb102, ns102, ne122, nl122, nk122, nt122, nu122, na122, nb122, ns122, ne250, nl250, nk250, nt250, nu250, na250, nb250, ns250, ne255, nl255, nk255, nt255, nu255, na255, nb255, ns255, ne1000, nl1000, nk1000, nt1000, nu1000, na1000, nb1000, ns1000, npred, opt_b, ite_true, ite_false, n10, n01, eq_self, h5, Nat.le_refl]
  · show f_X4_longestBelow_b14 _ (f_X4_longestBelow_l14 _ n) _ _ _ _ = _; unfold f_X4_longestBelow_b14
    unfold f_X4_longestBelow_b66
    have b1 := bd m (by omega)
    have b2 := C.2.2 m hm
    have b3 := Lk_le (S := S) m
    rw [h5, if_neg (nI_ge hm (by omega)), c_at (by rw [ln18]; omega), bind_s, C.1 m hm]
    have e1 : ltk S m k = true ↔ (¬ mk (op S m) (nl S) = mk (op S k) (nl S)) ∧ sub (op S m) (op S k) (nl S) = true := by
      unfold ltk
      rw [Bool.and_eq_true, decide_eq_true_eq]
    by_cases q : mk (op S m) (nl S) = mk (op S k) (nl S)
    · rw [if_pos q, bind_s, nI_1]
      rw [mxs, if_neg (fun z => (e1.mp z).1 q), Nat.max_zero] at ih
      exact ih
    · rw [if_neg q]
      by_cases q2 : sub (op S m) (op S k) (nl S) = true
      · rw [if_pos ((mk_sub (show nl S ≤ 32 by omega)).mpr q2), c_at (by rw [ln19]; omega), bind_s, C.2.1 m hm, bind_s, mx_n (by omega) (by omega), bind_s, nI_1]
        rw [mxs, if_pos (e1.mpr ⟨q, q2⟩)] at ih
        exact ih
      · rw [if_neg (fun z => q2 ((mk_sub (show nl S ≤ 32 by omega)).mp z)), bind_s, nI_1]
        rw [mxs, if_neg (fun z => q2 (e1.mp z).2), Nat.max_zero] at ih
        exact ih
def upN (f : Nat → Nat) (k v : Nat) : Nat → Nat := fun j => if j = k then v else f j
/-- one round over the keys -/
theorem c_round (H0 : HC σ 39 S) (I : Inv S) (K : St → Nat → Int32 → Int32 → Option (Int32 × St)) (r : Nat) (hr : r < nk S) {X : Option (Int32 × St)} (kk : ∀ σ1 len lo, Fr SC σ σ1 → ChS σ1 S len → (∀ k, k < nk S → hk S k < r + 1 → len k = Lk S k) → lo ≤ mxs (Lk S) (nk S) → (∀ k, k < nk S → len k ≤ lo) → ∃ r' σ', K σ1 5 (nI lo) (nI (r + 1)) = some (r', σ') ∧ r' = nI (mxs (Lk S) (nk S)) ∧ Fr SC σ σ') (σ1 : St) (len : Nat → Nat) (lo : Nat) (f1 : Fr SC σ σ1) (C : ChS σ1 S len) (hL : ∀ k, k < nk S → hk S k < r → len k = Lk S k) (hlo : lo ≤ mxs (Lk S) (nk S)) : ∃ r' σ', f_X4_longestChain_l61 K FU σ1 5 (nI lo) (nI r) 0 = some (r', σ') ∧ r' = nI (mxs (Lk S) (nk S)) ∧ Fr SC σ σ' := by
  have n6 := I.1.2.2.2.2.2.2.1
  have n8 := I.1.2.2.2.2.2.2.2
  have M6 : mxs (Lk S) (nk S) ≤ 6 := mxs_le fun k _ => Nat.le_trans (Lk_le k) n6
  have gen := lp_0 (P := fun n m => ∀ σ1 len lo, Fr SC σ σ1 → ChS σ1 S len → (∀ k, k < nk S → hk S k < r → len k = Lk S k) → (∀ k, k < m → hk S k < r + 1 → len k = Lk S k) → lo ≤ mxs (Lk S) (nk S) → (∀ k, k < m → len k ≤ lo) → ∃ r' σ', f_X4_longestChain_l61 K n σ1 5 (nI lo) (nI r) (nI m) = some (r', σ') ∧ r' = nI (mxs (Lk S) (nk S)) ∧ Fr SC σ σ') (nk S) (by omega) (fun n σ1 len lo f1 C hL hR hlo hge => ?_) (fun n m hm ih σ1 len lo f1 C hL hR hlo hge => ?_)
  · exact gen σ1 len lo f1 C hL (fun k hk' => absurd hk' (Nat.not_lt_zero k)) hlo (fun k hk' => absurd hk' (Nat.not_lt_zero k))
  · obtain ⟨r', σ', u1, u2⟩ := kk σ1 len lo f1 C hR hlo hge
    refine ⟨r', σ', ?_, u2⟩
    have h5 : σ1.1 39 5 = nI (nk S) := (H0.cf (f1.w fun _ _ => SC_CF)).1.2.2.2.2.2.1
    show f_X4_longestChain_b61 _ (f_X4_longestChain_l61 _ n) _ _ _ _ _ = _; unfold f_X4_longestChain_b61
    rw [h5, if_pos (nI_le (Nat.le_refl _) (by omega)), bind_s, nI_1]
    exact u1
  · have H1 := H0.cf (f1.w fun _ _ => SC_CF)
    have h5 : σ1.1 39 5 = nI (nk S) := H1.1.2.2.2.2.2.1
    obtain ⟨v, hv⟩ : ∃ v, v = 1 + mxs (fun j => if ltk S j m then len j else 0) (nk S) := ⟨_, rfl⟩
    have hLm := Lk_e (S := S) (show nl S ≤ 32 by omega) hm
    have vle : v ≤ Lk S m := by
      rw [hv, hLm]
      have : mxs (fun j => if ltk S j m then len j else 0) (nk S) ≤ mxs (fun j => if ltk S j m then Lk S j else 0) (nk S) := mxs_m fun j hj => by
        have := C.2.2 j hj
        show (if ltk S j m then len j else 0) ≤ (if ltk S j m then Lk S j else 0)
        split <;> omega
      omega
    have veq : hk S m < r + 1 → v = Lk S m := fun h => by
      rw [hv, hLm]
      congr 1
      refine mxs_c fun j hj => ?_
      by_cases e : ltk S j m = true
      · rw [if_pos e, if_pos e]
        have := hk_lt (S := S) (show nl S ≤ 32 by omega) hj e
        exact hL j hj (by omega)
      · rw [if_neg e, if_neg e]
    have hM := mxs_ge (f := Lk S) hm
    have f2 : Fr SC σ (setI σ1 19 m (nI v)) := f1.t (Fr.i (by unfold SC; omega))
    have C2 : ChS (setI σ1 19 m (nI v)) S (upN len m v) := by
      refine ⟨fun k hk' => by rw [setI_a (by decide)]; exact C.1 k hk', fun k hk' => ?_, fun k hk' => ?_⟩
      · unfold upN
        by_cases e : k = m
        · rw [e, setI_s, if_pos rfl]
        · rw [setI_k e, if_neg e]; exact C.2.1 k hk'
      · unfold upN
        split
        · rename_i e; rw [e]; exact vle
        · exact C.2.2 k hk'
    obtain ⟨r', σ', u1, u2⟩ := ih _ (upN len m v) (max lo v) f2 C2 (fun k hk' h => by
      unfold upN
      split
      · rename_i e
        subst e
        exact veq (by omega)
      · exact hL k hk' h) (fun k hk' h => by
      unfold upN
      split
      · rename_i e
        subst e
        exact veq h
      · exact hR k (by omega) h) (Nat.max_le.mpr ⟨hlo, by omega⟩) (fun k hk' => by
      unfold upN
      split
      · exact Nat.le_max_right _ _
      · exact Nat.le_trans (hge k (by omega)) (Nat.le_max_left _ _))
    refine ⟨r', σ', ?_, u2⟩
    show f_X4_longestChain_b61 _ (f_X4_longestChain_l61 _ n) _ _ _ _ _ = _; unfold f_X4_longestChain_b61
    rw [h5, if_neg (nI_ge hm (by omega)), c_lb H1 I C hm, bind_s, l_1, nI_add, ← hv, c_put (by rw [ln19]; omega), bind_s, c_at (by rw [ln19]; omega), bind_s, setI_s, bind_s, mx_n (by omega) (by omega), bind_s, nI_add]
    exact u1
theorem c_rounds (H0 : HC σ 39 S) (I : Inv S) {σ1 : St} (f1 : Fr SC σ σ1) (C : ChS σ1 S (fun _ => 1)) : ∃ r' σ', f_X4_longestChain_l48 FU σ1 5 0 0 = some (r', σ') ∧ r' = nI (mxs (Lk S) (nk S)) ∧ Fr SC σ σ' := by
  have n6 := I.1.2.2.2.2.2.2.1
  have n8 := I.1.2.2.2.2.2.2.2
  have gen := lp_0 (P := fun n m => ∀ σ1 len lo, Fr SC σ σ1 → ChS σ1 S len → (∀ k, k < nk S → hk S k < m → len k = Lk S k) → lo ≤ mxs (Lk S) (nk S) → (0 < m → ∀ k, k < nk S → len k ≤ lo) → ∃ r' σ', f_X4_longestChain_l48 n σ1 5 (nI lo) (nI m) = some (r', σ') ∧ r' = nI (mxs (Lk S) (nk S)) ∧ Fr SC σ σ') (nk S) (by omega) (fun n σ1 len lo f1 C hL hlo hge => ?_) (fun n m hm ih σ1 len lo f1 C hL hlo hge => ?_)
  · exact gen σ1 (fun _ => 1) 0 f1 C (fun k hk' h => absurd h (Nat.not_lt_zero _)) (Nat.zero_le _) (fun h => absurd h (Nat.lt_irrefl _))
  · refine ⟨nI lo, σ1, ?_, ?_, f1⟩
    · have h5 : σ1.1 39 5 = nI (nk S) := (H0.cf (f1.w fun _ _ => SC_CF)).1.2.2.2.2.2.1
      show f_X4_longestChain_b48 (f_X4_longestChain_l48 n) _ _ _ _ = _; unfold f_X4_longestChain_b48
      rw [h5, if_pos (nI_le (Nat.le_refl _) (by omega))]
    · have : mxs (Lk S) (nk S) ≤ lo := mxs_le fun k hk' => by
        rw [← hL k hk' (hk_n (show nl S ≤ 32 by omega) hk')]
        exact hge (by omega) k hk'
      rw [Nat.le_antisymm hlo this]
  · have h5 : σ1.1 39 5 = nI (nk S) := (H0.cf (f1.w fun _ _ => SC_CF)).1.2.2.2.2.2.1
    obtain ⟨r', σ', u1, u2⟩ := c_round H0 I (f_X4_longestChain_l48 n) m hm (X := none) (fun σ2 len2 lo2 f2 C2 a b c => ih σ2 len2 lo2 f2 C2 a b (fun _ => c)) σ1 len lo f1 C hL hlo
    refine ⟨r', σ', ?_, u2⟩
    show f_X4_longestChain_b48 (f_X4_longestChain_l48 n) _ _ _ _ = _; unfold f_X4_longestChain_b48
    rw [h5, if_neg (nI_ge hm (by omega))]
    exact u1
theorem Lk_1 (hn : nl S ≤ 32) {k : Nat} (h : k < nk S) : 1 ≤ Lk S k := by rw [Lk_e hn h]; omega
theorem c_chain (H : HC σ 39 S) (I : Inv S) : ∃ σ', f_X4_longestChain σ 5 = some (nI (mxs (Lk S) (nk S)), σ') ∧ Fr SC σ σ' := by
  have n6 := I.1.2.2.2.2.2.2.1
  have n8 := I.1.2.2.2.2.2.2.2
  have gen := lp_0 (P := fun n m => ∀ σ1, Fr SC σ σ1 → (∀ k, k < m → σ1.1 18 k = mk (op S k) (nl S) ∧ σ1.1 19 k = nI 1) → ∃ σ', f_X4_longestChain_l2 n σ1 5 (nI m) = some (nI (mxs (Lk S) (nk S)), σ') ∧ Fr SC σ σ') (nk S) (by omega) (fun n σ1 f1 h => ?_) (fun n m hm ih σ1 f1 h => ?_)
  · exact gen σ (Fr.r σ) (fun k hk' => absurd hk' (Nat.not_lt_zero k))
  · obtain ⟨r', σ', u1, u2, u3⟩ := c_rounds H I f1 ⟨fun k hk' => (h k hk').1, fun k hk' => (h k hk').2, fun k hk' => Lk_1 (show nl S ≤ 32 by omega) hk'⟩
    subst u2
    refine ⟨σ', ?_, u3⟩
    have h5 : σ1.1 39 5 = nI (nk S) := (H.cf (f1.w fun _ _ => SC_CF)).1.2.2.2.2.2.1
    show f_X4_longestChain_b2 (f_X4_longestChain_l2 n) _ _ _ = _; unfold f_X4_longestChain_b2
    rw [h5, if_pos (nI_le (Nat.le_refl _) (by omega))]
    exact u1
  · have H1 := H.cf (f1.w fun _ _ => SC_CF)
    have h5 : σ1.1 39 5 = nI (nk S) := H1.1.2.2.2.2.2.1
    obtain ⟨σ', u1, u2⟩ := ih (setI (setI σ1 18 m (mk (op S m) (nl S))) 19 m 1) ((f1.t (Fr.i (by unfold SC; omega))).t (Fr.i (by unfold SC; omega))) (fun k hk' => by
      by_cases e : k = m
      · subst e
        exact ⟨by rw [setI_a (by decide), setI_s], by rw [setI_s]; rfl⟩
      · rw [setI_n (by omega), setI_n (by omega), setI_n (by omega), setI_n (by omega)]
        exact h k (by omega))
    refine ⟨σ', ?_, u2⟩
    show f_X4_longestChain_b2 (f_X4_longestChain_l2 n) _ _ _ = _; unfold f_X4_longestChain_b2
    rw [h5, if_neg (nI_ge hm (by omega)), c_oby H1 isH39 I (by omega), bind_s, c_put (by rw [ln18]; omega), bind_s, c_put (by rw [ln19]; omega), bind_s, bind_s, nI_1]
    exact u1
/-- the model's chains: all keys below c locks are done -/
def ChM (σ : St) (S : HS) (c : Nat) : Prop := ∀ k, k < nk S → cnt (op S k) (nl S) < c → σ.1 109 k = nI (Lk S k)
theorem m_ch1 (H0 : HM σ S) (I : Inv S) (K : St → Nat → Int32 → Int32 → Int32 → Option (Int32 × St)) {k c mo : Nat} (hk' : k < nk S) (hc : cnt (op S k) (nl S) = c) (hmo : mo ≤ 6) {R : Int32 × St → Prop} (kk : ∀ σ1, Fr SC σ σ1 → (∀ j, j ≠ k → σ1.1 109 j = σ.1 109 j) → σ1.1 109 k = nI (Lk S k) → ∃ v, K σ1 93 (nI (max mo (Lk S k))) (nI c) (nI (k + 1)) = some v ∧ R v) (D : ChM σ S c) : ∃ v, f_X6_chain_l47 K FU (setI σ 109 k 1) 93 (nI mo) (nI c) (nI k) 0 = some v ∧ R v := by
  have n6 := I.1.2.2.2.2.2.2.1
  have n8 := I.1.2.2.2.2.2.2.2
  have h32 : nl S ≤ 32 := by omega
  have gen := lp_0 (P := fun n m => ∀ σ1, Fr SC σ σ1 → (∀ j, j ≠ k → σ1.1 109 j = σ.1 109 j) → σ1.1 109 k = nI (1 + mxs (fun j => if ltk S j k then Lk S j else 0) m) → ∃ v, f_X6_chain_l47 K n σ1 93 (nI mo) (nI c) (nI k) (nI m) = some v ∧ R v) (nk S) (by omega) (fun n σ1 f1 g1 g2 => ?_) (fun n m hm ih σ1 f1 g1 g2 => ?_)
  · exact gen _ (Fr.i (by unfold SC; omega)) (fun j hj => setI_k hj) (by rw [setI_s]; rfl)
  · have H1 : HM σ1 S := H0.fr (f1.w fun _ _ => SC_MF)
    rw [← Lk_e h32 hk'] at g2
    obtain ⟨v, u1, u2⟩ := kk σ1 f1 g1 g2
    have := Lk_le (S := S) k
    refine ⟨v, ?_, u2⟩
    show f_X6_chain_b47 _ (f_X6_chain_l47 _ n) _ _ _ _ _ _ = _; unfold f_X6_chain_b47
    unfold f_X6_chain_b128
    rw [H1.1.2.2.2.1, if_pos (nI_le (Nat.le_refl _) (by omega)), ldI_n (by rw [ln109]; omega), bind_s, g2, bind_s, mx_n (by omega) (by omega), bind_s, nI_1]
    exact u1
  · have H1 : HM σ1 S := H0.fr (f1.w fun _ _ => SC_MF)
    have bd : mxs (fun j => if ltk S j k then Lk S j else 0) m ≤ 6 := mxs_le fun j hj => by
      have := Lk_le (S := S) j
      show (if ltk S j k then Lk S j else 0) ≤ 6
      split <;> omega
    have bm := Lk_le (S := S) m
    have e1 : ltk S m k = true ↔ (¬ mk (op S m) (nl S) = mk (op S k) (nl S)) ∧ sub (op S m) (op S k) (nl S) = true := by
      unfold ltk
      rw [Bool.and_eq_true, decide_eq_true_eq]
    by_cases q : mk (op S m) (nl S) = mk (op S k) (nl S)
    · obtain ⟨v, u1, u2⟩ := ih σ1 f1 g1 (by rw [mxs, if_neg (fun z => (e1.mp z).1 q), Nat.max_zero]; exact g2)
      refine ⟨v, ?_, u2⟩
      show f_X6_chain_b47 _ (f_X6_chain_l47 _ n) _ _ _ _ _ _ = _; unfold f_X6_chain_b47
      unfold f_X6_chain_b111
      rw [H1.1.2.2.2.1, if_neg (nI_ge hm (by omega)), m_openedBy H1 I (by omega), bind_s, m_openedBy H1 I (by omega), bind_s, if_pos q, bind_s, nI_1]
      exact u1
    · by_cases q2 : sub (op S m) (op S k) (nl S) = true
      · have lt := e1.mpr ⟨q, q2⟩
        have em : σ1.1 109 m = nI (Lk S m) := by
          rw [g1 m (fun z => by rw [z, ltk_r h32] at lt; cases lt)]
          have := pc_lt h32 lt
          exact D m hm (by omega)
        obtain ⟨v, u1, u2⟩ := ih (setI σ1 109 k (nI (max (1 + mxs (fun j => if ltk S j k then Lk S j else 0) m) (Lk S m + 1)))) (f1.t (Fr.i (by unfold SC; omega))) (fun j hj => by rw [setI_k hj]; exact g1 j hj) (by
          rw [setI_s, mxs, if_pos lt]
          congr 1
          omega)
        refine ⟨v, ?_, u2⟩
        show f_X6_chain_b47 _ (f_X6_chain_l47 _ n) _ _ _ _ _ _ = _; unfold f_X6_chain_b47
        unfold f_X6_chain_b111
        rw [H1.1.2.2.2.1, if_neg (nI_ge hm (by omega)), m_openedBy H1 I (by omega), bind_s, m_openedBy H1 I (by omega), bind_s, if_neg q, bind_s, if_pos ((mk_sub h32).mpr q2), ldI_n (by rw [ln109]; omega), bind_s, ldI_n (by rw [ln109]; omega), bind_s, g2, em, nI_1, mx_n (by omega) (by omega), stI_n (by rw [ln109]; omega), bind_s, bind_s, nI_1]
        exact u1
      · obtain ⟨v, u1, u2⟩ := ih σ1 f1 g1 (by rw [mxs, if_neg (fun z => q2 (e1.mp z).2), Nat.max_zero]; exact g2)
        refine ⟨v, ?_, u2⟩
        show f_X6_chain_b47 _ (f_X6_chain_l47 _ n) _ _ _ _ _ _ = _; unfold f_X6_chain_b47
        unfold f_X6_chain_b111
        rw [H1.1.2.2.2.1, if_neg (nI_ge hm (by omega)), m_openedBy H1 I (by omega), bind_s, m_openedBy H1 I (by omega), bind_s, if_neg q, bind_s, if_neg (fun z => q2 ((mk_sub h32).mp z)), bind_s, nI_1]
        exact u1
theorem m_ch2 (H0 : HM σ S) (I : Inv S) (K : St → Nat → Int32 → Int32 → Option (Int32 × St)) {c : Nat} (hc : c ≤ nl S) {R : Int32 × St → Prop} (kk : ∀ σ1 mo, Fr SC σ σ1 → ChM σ1 S (c + 1) → mo ≤ mxs (Lk S) (nk S) → (∀ k, k < nk S → cnt (op S k) (nl S) < c + 1 → Lk S k ≤ mo) → ∃ v, K σ1 93 (nI mo) (nI (c + 1)) = some v ∧ R v) (σ1 : St) (mo : Nat) (f1 : Fr SC σ σ1) (D : ChM σ1 S c) (hmo : mo ≤ mxs (Lk S) (nk S)) (hge : ∀ k, k < nk S → cnt (op S k) (nl S) < c → Lk S k ≤ mo) : ∃ v, f_X6_chain_l14 K FU σ1 93 (nI mo) (nI c) 0 = some v ∧ R v := by
  have n6 := I.1.2.2.2.2.2.2.1
  have n8 := I.1.2.2.2.2.2.2.2
  have M6 : mxs (Lk S) (nk S) ≤ 6 := mxs_le fun k _ => Nat.le_trans (Lk_le k) n6
  have gen := lp_0 (P := fun n m => ∀ σ1 mo, Fr SC σ σ1 → ChM σ1 S c → (∀ k, k < m → cnt (op S k) (nl S) < c + 1 → σ1.1 109 k = nI (Lk S k) ∧ Lk S k ≤ mo) → mo ≤ mxs (Lk S) (nk S) → (∀ k, k < nk S → cnt (op S k) (nl S) < c → Lk S k ≤ mo) → ∃ v, f_X6_chain_l14 K n σ1 93 (nI mo) (nI c) (nI m) = some v ∧ R v) (nk S) (by omega) (fun n σ1 mo f1 D g hmo hge => ?_) (fun n m hm ih σ1 mo f1 D g hmo hge => ?_)
  · exact gen σ1 mo f1 D (fun k hk' => absurd hk' (Nat.not_lt_zero k)) hmo hge
  · have H1 : HM σ1 S := H0.fr (f1.w fun _ _ => SC_MF)
    obtain ⟨v, u1, u2⟩ := kk σ1 mo f1 (fun k hk' h => (g k hk' h).1) hmo (fun k hk' h => (g k hk' h).2)
    refine ⟨v, ?_, u2⟩
    show f_X6_chain_b14 _ (f_X6_chain_l14 _ n) _ _ _ _ _ = _; unfold f_X6_chain_b14
    rw [H1.1.2.2.2.1, if_pos (nI_le (Nat.le_refl _) (by omega)), bind_s, nI_1]
    exact u1
  · have H1 : HM σ1 S := H0.fr (f1.w fun _ _ => SC_MF)
    have c8 := cnt_le (op S m) (nl S)
    by_cases q : cnt (op S m) (nl S) = c
    · have hM := mxs_ge (f := Lk S) hm
      obtain ⟨v, u1, u2⟩ := m_ch1 H1 I (f_X6_chain_l14 K n) hm q (show mo ≤ 6 by omega) (R := R) (fun σ2 f2 g1 g2 => ih σ2 (max mo (Lk S m)) (f1.t f2) (fun k hk' h => by
        by_cases e : k = m
        · rw [e]; exact g2
        · rw [g1 k e]; exact D k hk' h) (fun k hk' h => by
        by_cases e : k = m
        · subst e; exact ⟨g2, Nat.le_max_right _ _⟩
        · rw [g1 k e]
          have := g k (by omega) h
          exact ⟨this.1, Nat.le_trans this.2 (Nat.le_max_left _ _)⟩) (Nat.max_le.mpr ⟨hmo, hM⟩) (fun k hk' h => Nat.le_trans (hge k hk' h) (Nat.le_max_left _ _))) D
      refine ⟨v, ?_, u2⟩
      show f_X6_chain_b14 _ (f_X6_chain_l14 _ n) _ _ _ _ _ = _; unfold f_X6_chain_b14
      rw [H1.1.2.2.2.1, if_neg (nI_ge hm (by omega)), m_openedBy H1 I (by omega), bind_s, pop_mk _ n8, bind_s, q, if_pos rfl, stI_n (by rw [ln109]; omega), bind_s]
      exact u1
    · obtain ⟨v, u1, u2⟩ := ih σ1 mo f1 D (fun k hk' h => by
        by_cases e : k = m
        · subst e
          exact ⟨D k hm (by omega), hge k hm (by omega)⟩
        · exact g k (by omega) h) hmo hge
      refine ⟨v, ?_, u2⟩
      show f_X6_chain_b14 _ (f_X6_chain_l14 _ n) _ _ _ _ _ = _; unfold f_X6_chain_b14
      unfold f_X6_chain_b128
      rw [H1.1.2.2.2.1, if_neg (nI_ge hm (by omega)), m_openedBy H1 I (by omega), bind_s, pop_mk _ n8, bind_s, if_neg (fun z => q (nI_inj (by omega) (by omega) z)), bind_s, nI_1]
      exact u1
theorem m_chain (H0 : HM σ S) (I : Inv S) : ∃ σ', f_X6_chain σ 93 = some (nI (mxs (Lk S) (nk S)), σ') ∧ Fr SC σ σ' := by
  have n6 := I.1.2.2.2.2.2.2.1
  have n8 := I.1.2.2.2.2.2.2.2
  have gen := lp_0 (P := fun n c => ∀ σ1 mo, Fr SC σ σ1 → ChM σ1 S c → mo ≤ mxs (Lk S) (nk S) → (∀ k, k < nk S → cnt (op S k) (nl S) < c → Lk S k ≤ mo) → ∃ v, f_X6_chain_l4 n σ1 93 (nI mo) (nI c) = some v ∧ (v.1 = nI (mxs (Lk S) (nk S)) ∧ Fr SC σ v.2)) (nl S + 1) (by omega) (fun n σ1 mo f1 D hmo hge => ?_) (fun n c hc ih σ1 mo f1 D hmo hge => ?_)
  · obtain ⟨v, u1, u2, u3⟩ := gen σ 0 (Fr.r σ) (fun k _ h => absurd h (Nat.not_lt_zero _)) (Nat.zero_le _) (fun k _ h => absurd h (Nat.not_lt_zero _))
    obtain ⟨v1, v2⟩ := v
    subst u2
    exact ⟨v2, u1, u3⟩
  · refine ⟨(nI mo, σ1), ?_, ?_, f1⟩
    · have h11 : σ1.1 93 11 = nI (nl S) := (H0.fr (f1.w fun _ _ => SC_MF)).1.2.2.2.2.1
      show f_X6_chain_b4 (f_X6_chain_l4 n) _ _ _ _ = _; unfold f_X6_chain_b4
      rw [h11, if_pos ((nI_ltI (by omega) (by omega)).mpr (Nat.lt_succ_self _))]
    · have : mxs (Lk S) (nk S) ≤ mo := mxs_le fun k hk' => hge k hk' (by have := cnt_le (op S k) (nl S); omega)
      show nI mo = _
      rw [Nat.le_antisymm hmo this]
  · have h11 : σ1.1 93 11 = nI (nl S) := (H0.fr (f1.w fun _ _ => SC_MF)).1.2.2.2.2.1
    obtain ⟨v, u1, u2⟩ := m_ch2 H0 I (f_X6_chain_l4 n) (c := c) (by omega) (R := fun v => v.1 = nI (mxs (Lk S) (nk S)) ∧ Fr SC σ v.2) (fun σ2 mo2 f2 D2 a b => ih σ2 mo2 f2 D2 a b) σ1 mo f1 D hmo hge
    refine ⟨v, ?_, u2⟩
    show f_X6_chain_b4 (f_X6_chain_l4 n) _ _ _ _ = _; unfold f_X6_chain_b4
    rw [h11, if_neg (fun z => by have := (nI_ltI (by omega) (by omega)).mp z; omega)]
    exact u1
theorem op_chain (H : Sm σ S) : Agr (fun s => f_X5_chain s 0) (fun s => f_X6_chain s 93) σ := by
  obtain ⟨hc, hm, I, R⟩ := id H
  obtain ⟨σ1, u1, u2⟩ := c_chain hc I
  refine Agr.q (σ1 := σ1) (r := nI (mxs (Lk S) (nk S))) H ?_ u2 (fun H1 => ?_)
  · show f_X5_chain σ 0 = _
    unfold f_X5_chain
    exact b2_e u1 rfl
  · obtain ⟨σ2, v1, v2⟩ := m_chain H1.2.1 I
    exact ⟨σ2, v1, S, H1.sc v2⟩
end CHAIN2
