/-! PURE ROWS: loops, small numbers, bits (the family bt as the kit gives it to paste), sums, masks -/
def bt (x : Int32) (i : Nat) : Bool := x.toBitVec.getLsbD i
theorem b_ext {x y : Int32} (h : ∀ i, i < 32 → bt x i = bt y i) : x = y := Int32.toBitVec_inj.mp (BitVec.eq_of_getLsbD_eq (fun i hi => h i hi))
theorem b_or (x y : Int32) (i : Nat) : bt (x ||| y) i = (bt x i || bt y i) := by unfold bt; rw [Int32.toBitVec_or, BitVec.getLsbD_or]
theorem b_and (x y : Int32) (i : Nat) : bt (x &&& y) i = (bt x i && bt y i) := by unfold bt; rw [Int32.toBitVec_and, BitVec.getLsbD_and]
theorem b_xor (x y : Int32) (i : Nat) : bt (x ^^^ y) i = (bt x i ^^ bt y i) := by unfold bt; rw [Int32.toBitVec_xor, BitVec.getLsbD_xor]
theorem b_big {x : Int32} {i : Nat} (h : 32 ≤ i) : bt x i = false := BitVec.getLsbD_of_ge _ _ h
theorem b_255 (i : Nat) : bt 255 i = decide (i < 8) := by
  rcases Nat.lt_or_ge i 32 with h | h
  · exact (by decide +kernel : ∀ i, i < 32 → bt 255 i = decide (i < 8)) i h
  · rw [b_big h, decide_eq_false (by omega)]
theorem b_65535 (i : Nat) : bt 65535 i = decide (i < 16) := by
  rcases Nat.lt_or_ge i 32 with h | h
  · exact (by decide +kernel : ∀ i, i < 32 → bt 65535 i = decide (i < 16)) i h
  · rw [b_big h, decide_eq_false (by omega)]
theorem b_m1 : ∀ i, i < 32 → bt (-1) i = true := by decide +kernel
theorem b_0 (i : Nat) : bt 0 i = false := BitVec.getLsbD_zero
theorem s_l : ∀ n, n < 32 → ((nI n &&& 31).toBitVec.smod 32).toNat = n := by decide +kernel
theorem s_u : ∀ n, n < 32 → (((nI n).toUInt32 &&& Int32.toUInt32 31).toBitVec % 32).toNat = n := by decide +kernel
theorem b_shl (n : Nat) (hn : n < 32) (x : Int32) {i : Nat} (hi : i < 32) : bt (x <<< (nI n &&& 31)) i = (decide (n ≤ i) && bt x (i - n)) := by
  unfold bt
  rw [Int32.toBitVec_shiftLeft]
  show (x.toBitVec <<< ((nI n &&& 31).toBitVec.smod 32).toNat).getLsbD i = _
  rw [s_l n hn, BitVec.getLsbD_shiftLeft]
  rcases Nat.lt_or_ge i n with h | h
  · simp [h, Nat.not_le.mpr h]
  · simp [hi, h, Nat.not_lt.mpr h]
theorem b_ushr (n : Nat) (hn : n < 32) (x : Int32) (i : Nat) : bt ((x.toUInt32 >>> ((nI n).toUInt32 &&& Int32.toUInt32 31)).toInt32) i = bt x (n + i) := by
  show (x.toUInt32 >>> ((nI n).toUInt32 &&& Int32.toUInt32 31)).toBitVec.getLsbD i = x.toUInt32.toBitVec.getLsbD (n + i)
  rw [UInt32.toBitVec_shiftRight]
  show (x.toUInt32.toBitVec >>> (((nI n).toUInt32 &&& Int32.toUInt32 31).toBitVec % 32).toNat).getLsbD i = _
  rw [s_u n hn, BitVec.getLsbD_ushiftRight]
theorem b_sshr (n : Nat) (hn : n < 32) (x : Int32) {i : Nat} (hi : i < 32) : bt (x >>> (nI n &&& 31)) i = if n + i < 32 then bt x (n + i) else bt x 31 := by
  unfold bt
  rw [Int32.toBitVec_shiftRight]
  show (x.toBitVec.sshiftRight ((nI n &&& 31).toBitVec.smod 32).toNat).getLsbD i = _
  rw [s_l n hn, BitVec.getLsbD_sshiftRight, BitVec.msb_eq_getLsbD_last]
  simp [hi]
theorem lp_up {P : Nat → Nat → Prop} (N : Nat) (hend : ∀ n, P (n + 1) N) (hstep : ∀ n m, m < N → P n (m + 1) → P (n + 1) m) : ∀ n m, m ≤ N → N - m < n → P n m := by
  intro n
  induction n with
  | zero => intro m _ h; omega
  | succ n ih =>
    intro m hm h
    by_cases e : m = N
    · subst e; exact hend n
    · exact hstep n m (by omega) (ih (m + 1) (by omega) (by omega))
/-- a loop that is begun at 0 with the whole fuel -/
theorem lp_0 {P : Nat → Nat → Prop} (N : Nat) (hN : N < 4000) (hend : ∀ n, P (n + 1) N) (hstep : ∀ n m, m < N → P n (m + 1) → P (n + 1) m) : P FU 0 := lp_up N hend hstep FU 0 (Nat.zero_le _) hN
theorem bind_s {α β : Type} (a : α) (f : α → Option β) : (some a).bind f = f a := rfl
theorem bind_e {α β : Type} {o : Option α} {a : α} {f : α → Option β} {r : Option β} (h : o = some a) (k : f a = r) : o.bind f = r := by rw [h]; exact k
theorem b2_e {α β : Type} {o : Option (α × St)} {a : α} {s : St} {f : α → St → Option β} {r : Option β} (h : o = some (a, s)) (k : f a s = r) : b2 o f = r := by rw [h]; exact k
theorem ln_le (a : Nat) : ln a ≤ 320 := by
  have h : ∀ a, a < 110 → ln a ≤ 320 := by decide +kernel
  by_cases q : a < 110
  · exact h a q
  · unfold ln
    rw [List.getD_eq_getElem?_getD, List.getElem?_eq_none (by show 110 ≤ a; omega)]
    exact Nat.zero_le _
theorem nI_inj {a b : Nat} (ha : a < 2 ^ 31) (hb : b < 2 ^ 31) (h : nI a = nI b) : a = b := (nI_eq ha hb).mp h
theorem nlt_l {j N : Nat} (h : j < N) (hN : N ≤ 320) : ¬ (nI j < 0 ∨ N ≤ (nI j).toNatClampNeg) := nI_in h (by omega)
theorem ldI_n {σ : St} {a j : Nat} (h : j < ln a) : ldI σ a (nI j) = some (σ.1 a j) := by
  unfold ldI
  rw [if_neg (nlt_l h (ln_le a)), nI_clamp (by have := ln_le a; omega)]
theorem ldJ_n {σ : St} {a j : Nat} (h : j < ln a) : ldJ σ a (nI j) = some (σ.2 a j) := by
  unfold ldJ
  rw [if_neg (nlt_l h (ln_le a)), nI_clamp (by have := ln_le a; omega)]
theorem stI_n {σ : St} {a j : Nat} {v : Int32} (h : j < ln a) : stI σ a (nI j) v = some (setI σ a j v) := by
  unfold stI
  rw [if_neg (nlt_l h (ln_le a)), nI_clamp (by have := ln_le a; omega)]
theorem stJ_n {σ : St} {a j : Nat} {v : Int64} (h : j < ln a) : stJ σ a (nI j) v = some (setJ σ a j v) := by
  unfold stJ
  rw [if_neg (nlt_l h (ln_le a)), nI_clamp (by have := ln_le a; omega)]
theorem ldK_n {a j : Nat} (h : j < ln a) : ldK a (nI j) = some (a + 3 + 2 * j) := by
  unfold ldK
  rw [if_neg (nlt_l h (ln_le a)), nI_clamp (by have := ln_le a; omega)]
theorem ldS_n {a j : Nat} (h : j < ln a) : ldS a (nI j) = some (21 + 2 * j) := by
  unfold ldS
  rw [if_neg (nlt_l h (ln_le a)), nI_clamp (by have := ln_le a; omega)]
theorem ldR_n {a j : Nat} (h : j < ln a) : ldR a (nI j) = some (12 + j) := by
  unfold ldR
  rw [if_neg (nlt_l h (ln_le a)), nI_clamp (by have := ln_le a; omega)]
theorem ptI_s (σ : St) (a k : Nat) (v : Int32) : ptI σ a k v = some (setI σ a k v) := rfl
theorem setI_s (σ : St) (a k : Nat) (v : Int32) : (setI σ a k v).1 a k = v := by simp [setI, upd]
theorem setI_a {σ : St} {a b k j : Nat} {v : Int32} (h : b ≠ a) : (setI σ a k v).1 b j = σ.1 b j := by simp [setI, h]
theorem setI_k {σ : St} {a k j : Nat} {v : Int32} (h : j ≠ k) : (setI σ a k v).1 a j = σ.1 a j := by simp [setI, upd, h]
theorem setI_n {σ : St} {a b k j : Nat} {v : Int32} (h : ¬ (b = a ∧ j = k)) : (setI σ a k v).1 b j = σ.1 b j := by
  by_cases e : b = a
  · subst e; exact setI_k (fun z => h ⟨rfl, z⟩)
  · exact setI_a e
theorem setI_2 (σ : St) (a k : Nat) (v : Int32) : (setI σ a k v).2 = σ.2 := rfl
theorem setJ_1 (σ : St) (a k : Nat) (v : Int64) : (setJ σ a k v).1 = σ.1 := rfl
theorem setJ_s (σ : St) (a k : Nat) (v : Int64) : (setJ σ a k v).2 a k = v := by simp [setJ, vp_updL]
theorem setJ_n {σ : St} {a b k j : Nat} {v : Int64} (h : ¬ (b = a ∧ j = k)) : (setJ σ a k v).2 b j = σ.2 b j := by
  by_cases e : b = a
  · subst e
    have : j ≠ k := fun z => h ⟨rfl, z⟩
    simp [setJ, vp_updL, this]
  · simp [setJ, e]
theorem setA_s (σ : St) (a : Nat) (f : Nat → Int32) : (setA σ a f).1 a = f := by simp [setA]
theorem setA_n {σ : St} {a b : Nat} {f : Nat → Int32} (h : b ≠ a) : (setA σ a f).1 b = σ.1 b := by simp [setA, h]
theorem setA_2 (σ : St) (a : Nat) (f : Nat → Int32) : (setA σ a f).2 = σ.2 := rfl
theorem setAJ_1 (σ : St) (a : Nat) (f : Nat → Int64) : (setAJ σ a f).1 = σ.1 := rfl
theorem setAJ_s (σ : St) (a : Nat) (f : Nat → Int64) : (setAJ σ a f).2 a = f := by simp [setAJ]
theorem setAJ_n {σ : St} {a b : Nat} {f : Nat → Int64} (h : b ≠ a) : (setAJ σ a f).2 b = σ.2 b := by simp [setAJ, h]
/-! literals as nI -/
theorem l_0 : (0 : Int32) = nI 0 := rfl
theorem l_1 : (1 : Int32) = nI 1 := rfl
theorem l_2 : (2 : Int32) = nI 2 := rfl
theorem l_3 : (3 : Int32) = nI 3 := rfl
theorem l_4 : (4 : Int32) = nI 4 := rfl
theorem l_5 : (5 : Int32) = nI 5 := rfl
theorem l_6 : (6 : Int32) = nI 6 := rfl
theorem l_7 : (7 : Int32) = nI 7 := rfl
theorem l_8 : (8 : Int32) = nI 8 := rfl
theorem l_9 : (9 : Int32) = nI 9 := rfl
theorem l_10 : (10 : Int32) = nI 10 := rfl
theorem nm1_ne (a : Nat) (h : a < 2 ^ 31) : ¬ nI a = -1 := by
  intro e
  have h1 := congrArg Int32.toInt e
  rw [nI_toInt h] at h1
  have h2 : (-1 : Int32).toInt = -1 := rfl
  omega
theorem nm1_ne' (a : Nat) (h : a < 2 ^ 31) : ¬ -1 = nI a := fun e => nm1_ne a h e.symm
theorem nm1_lt (a : Nat) (h : a < 2 ^ 31) : ¬ nI a ≤ -1 := by
  intro e
  have h1 := Int32.le_iff_toInt_le.mp e
  rw [nI_toInt h] at h1
  have h2 : (-1 : Int32).toInt = -1 := rfl
  omega
/-! sums, all, any -/
def sm (f : Nat → Nat) : Nat → Nat
  | 0 => 0
  | n + 1 => sm f n + f n
theorem sm_c {f g : Nat → Nat} : ∀ {n : Nat}, (∀ k, k < n → f k = g k) → sm f n = sm g n
  | 0, _ => rfl
  | n + 1, h => by rw [sm, sm, sm_c (fun k hk => h k (by omega)), h n (by omega)]
theorem sm_le {f : Nat → Nat} {c : Nat} : ∀ {n : Nat}, (∀ k, k < n → f k ≤ c) → sm f n ≤ n * c
  | 0, _ => Nat.zero_le _
  | n + 1, h => by
    have h1 := sm_le (n := n) (fun k hk => h k (by omega))
    have h2 := h n (by omega)
    rw [sm, Nat.succ_mul]
    omega
theorem sm_mono {f g : Nat → Nat} : ∀ {n : Nat}, (∀ k, k < n → f k ≤ g k) → sm f n ≤ sm g n
  | 0, _ => Nat.le_refl _
  | n + 1, h => by
    have h1 := sm_mono (n := n) (fun k hk => h k (by omega))
    have h2 := h n (by omega)
    rw [sm, sm]
    omega
def al (f : Nat → Bool) : Nat → Bool
  | 0 => true
  | n + 1 => al f n && f n
def an (f : Nat → Bool) : Nat → Bool
  | 0 => false
  | n + 1 => an f n || f n
theorem al_iff {f : Nat → Bool} : ∀ {n : Nat}, al f n = true ↔ ∀ k, k < n → f k = true
  | 0 => ⟨fun _ k h => absurd h (Nat.not_lt_zero k), fun _ => rfl⟩
  | n + 1 => by
    rw [al, Bool.and_eq_true, al_iff]
    exact ⟨fun h k hk => by rcases Nat.lt_or_ge k n with q | q
                            · exact h.1 k q
                            · rw [show k = n by omega]; exact h.2, fun h => ⟨fun k hk => h k (by omega), h n (by omega)⟩⟩
theorem an_iff {f : Nat → Bool} : ∀ {n : Nat}, an f n = true ↔ ∃ k, k < n ∧ f k = true
  | 0 => ⟨fun h => (nomatch (show false = true from h)), fun ⟨k, h, _⟩ => absurd h (Nat.not_lt_zero k)⟩
  | n + 1 => by
    rw [an, Bool.or_eq_true, an_iff]
    constructor
    · rintro (⟨k, h1, h2⟩ | h)
      · exact ⟨k, by omega, h2⟩
      · exact ⟨n, by omega, h⟩
    · rintro ⟨k, h1, h2⟩
      rcases Nat.lt_or_ge k n with q | q
      · exact Or.inl ⟨k, q, h2⟩
      · exact Or.inr (by rw [show n = k by omega]; exact h2)
theorem al_c {f g : Nat → Bool} {n : Nat} (h : ∀ k, k < n → f k = g k) : al f n = al g n := by
  apply Bool.eq_iff_iff.mpr
  rw [al_iff, al_iff]
  exact ⟨fun q k hk => by rw [← h k hk]; exact q k hk, fun q k hk => by rw [h k hk]; exact q k hk⟩
theorem an_c {f g : Nat → Bool} {n : Nat} (h : ∀ k, k < n → f k = g k) : an f n = an g n := by
  apply Bool.eq_iff_iff.mpr
  rw [an_iff, an_iff]
  exact ⟨fun ⟨k, hk, q⟩ => ⟨k, hk, by rw [← h k hk]; exact q⟩, fun ⟨k, hk, q⟩ => ⟨k, hk, by rw [h k hk]; exact q⟩⟩
def cnt (f : Nat → Bool) : Nat → Nat
  | 0 => 0
  | n + 1 => cnt f n + (if f n then 1 else 0)
theorem cnt_c {f g : Nat → Bool} : ∀ {n : Nat}, (∀ k, k < n → f k = g k) → cnt f n = cnt g n
  | 0, _ => rfl
  | n + 1, h => by rw [cnt, cnt, cnt_c (fun k hk => h k (by omega)), h n (by omega)]
theorem cnt_le (f : Nat → Bool) : ∀ n, cnt f n ≤ n
  | 0 => Nat.le_refl _
  | n + 1 => by
    have := cnt_le f n
    rw [cnt]
    split <;> omega
/-! masks -/
def mk (f : Nat → Bool) : Nat → Int32
  | 0 => 0
  | n + 1 => mk f n ||| (if f n then (1 : Int32) <<< (nI n &&& 31) else 0)
theorem bt_1 (i : Nat) : bt 1 i = decide (i = 0) := by
  rcases Nat.lt_or_ge i 32 with h | h
  · exact (by decide +kernel : ∀ i, i < 32 → bt 1 i = decide (i = 0)) i h
  · rw [b_big h, decide_eq_false (by omega)]
theorem bt_sh {n i : Nat} (hn : n < 32) (hi : i < 32) : bt ((1 : Int32) <<< (nI n &&& 31)) i = decide (i = n) := by
  rw [b_shl n hn 1 hi, bt_1]
  by_cases e : i = n
  · subst e; simp
  · simp only [e, decide_false]
    by_cases q : n ≤ i
    · simp [q]; omega
    · simp [q]
theorem bt_mk (f : Nat → Bool) : ∀ {n i : Nat}, n ≤ 32 → i < 32 → bt (mk f n) i = (decide (i < n) && f i)
  | 0, i, _, _ => by rw [mk, b_0]; simp
  | n + 1, i, hn, hi => by
    rw [mk, b_or, bt_mk f (by omega) hi]
    by_cases e : i = n
    · subst e
      cases hf : f i
      · rw [if_neg (by simp), b_0]; simp
      · rw [if_pos (by simp), bt_sh (by omega) hi]; simp
    · have h1 : bt (if f n = true then (1 : Int32) <<< (nI n &&& 31) else 0) i = false := by
        split
        · rw [bt_sh (by omega) hi]; simp [e]
        · exact b_0 i
      rw [h1, Bool.or_false]
      congr 1
      apply Bool.eq_iff_iff.mpr
      simp only [decide_eq_true_eq]
      omega
theorem mk_c {f g : Nat → Bool} : ∀ {n : Nat}, (∀ k, k < n → f k = g k) → mk f n = mk g n
  | 0, _ => rfl
  | n + 1, h => by rw [mk, mk, mk_c (fun k hk => h k (by omega)), h n (by omega)]
theorem mk_inj {f g : Nat → Bool} {n : Nat} (hn : n ≤ 32) (h : mk f n = mk g n) : ∀ k, k < n → f k = g k := fun k hk => by
  have h1 := bt_mk f hn (show k < 32 by omega)
  rw [h, bt_mk g hn (by omega)] at h1
  simpa [hk] using h1.symm
theorem mk_and {f g : Nat → Bool} {n : Nat} (hn : n ≤ 32) : mk f n &&& mk g n = mk (fun k => f k && g k) n := b_ext fun i hi => by
  rw [b_and, bt_mk f hn hi, bt_mk g hn hi, bt_mk _ hn hi]
  cases decide (i < n) <;> simp
theorem mk_or {f g : Nat → Bool} {n : Nat} (hn : n ≤ 32) : mk f n ||| mk g n = mk (fun k => f k || g k) n := b_ext fun i hi => by
  rw [b_or, bt_mk f hn hi, bt_mk g hn hi, bt_mk _ hn hi]
  cases decide (i < n) <;> simp
theorem mk_xor {f g : Nat → Bool} {n : Nat} (hn : n ≤ 32) : mk f n ^^^ mk g n = mk (fun k => f k ^^ g k) n := b_ext fun i hi => by
  rw [b_xor, bt_mk f hn hi, bt_mk g hn hi, bt_mk _ hn hi]
  cases decide (i < n) <;> simp
/-- this, but not that -/
theorem mk_andn {f g : Nat → Bool} {n : Nat} (hn : n ≤ 32) : mk f n &&& (mk g n ^^^ (-1)) = mk (fun k => f k && !g k) n := b_ext fun i hi => by
  rw [b_and, b_xor, bt_mk f hn hi, bt_mk g hn hi, bt_mk _ hn hi, b_m1 i hi]
  cases decide (i < n) <;> simp
theorem mk_0 {n : Nat} : mk (fun _ => false) n = 0 := by
  induction n with
  | zero => rfl
  | succ n ih => rw [mk, ih, if_neg (by simp)]; rfl
theorem mk_up (f : Nat → Bool) {n : Nat} (h : f n = true) : mk f (n + 1) = mk f n ||| (1 : Int32) <<< (nI n &&& 31) := by rw [mk, h]; rfl
theorem mk_un (f : Nat → Bool) {n : Nat} (h : f n = false) : mk f (n + 1) = mk f n := by
  rw [mk, h]
  exact Int32.or_zero
theorem mk_grow (f : Nat → Bool) {n m : Nat} (hn : n ≤ m) (hm : m ≤ 32) (h : ∀ k, n ≤ k → k < m → f k = false) : mk f m = mk f n := b_ext fun i hi => by
  rw [bt_mk f hm hi, bt_mk f (by omega) hi]
  by_cases q : i < n
  · have : i < m := by omega
    simp [q, this]
  · by_cases r : i < m
    · rw [h i (by omega) r]; simp
    · simp [q, r]
theorem first_mk : ∀ n, n ≤ 8 → ((1 : Int32) <<< (nI n &&& 31)) - 1 = mk (fun _ => true) n := by decide +kernel
def mkN (f : Nat → Bool) : Nat → Nat
  | 0 => 0
  | n + 1 => mkN f n + (if f n then 2 ^ n else 0)
theorem mkN_lt (f : Nat → Bool) : ∀ n, mkN f n < 2 ^ n
  | 0 => Nat.one_pos
  | n + 1 => by
    have := mkN_lt f n
    rw [mkN, Nat.pow_succ]
    split <;> omega
theorem nx_or (a b : Nat) : nI a ||| nI b = nI (a ||| b) := by
  apply Int32.toBitVec_inj.1
  show BitVec.ofNat 32 a ||| BitVec.ofNat 32 b = BitVec.ofNat 32 (a ||| b)
  apply BitVec.eq_of_getLsbD_eq
  intro i hi
  simp [hi]
theorem sh_pow : ∀ n, n < 31 → (1 : Int32) <<< (nI n &&& 31) = nI (2 ^ n) := by decide +kernel
theorem mk_N (f : Nat → Bool) : ∀ {n : Nat}, n ≤ 31 → mk f n = nI (mkN f n)
  | 0, _ => rfl
  | n + 1, h => by
    rw [mk, mkN, mk_N f (by omega)]
    split
    · rw [sh_pow n (by omega), nx_or]
      congr 1
      have := Nat.two_pow_add_eq_or_of_lt (mkN_lt f n) 1
      rw [Nat.mul_one] at this
      rw [Nat.or_comm, ← this, Nat.add_comm]
    · rw [show (0 : Int32) = nI 0 from rfl, nx_or, Nat.or_zero, Nat.add_zero]
theorem mkN_256 (f : Nat → Bool) {n : Nat} (h : n ≤ 8) : mkN f n < 256 := by
  have h1 := mkN_lt f n
  have h2 : 2 ^ n ≤ 2 ^ 8 := Nat.pow_le_pow_right (by decide) h
  omega
theorem pop_all : ∀ v, v < 256 → f_J6_bitCount_0f7a4 (nI v) = some (nI (cnt (fun i => bt (nI v) i) 8)) := by decide +kernel
theorem pop_mk (f : Nat → Bool) {n : Nat} (h : n ≤ 8) : f_J6_bitCount_0f7a4 (mk f n) = some (nI (cnt f n)) := by
  have h1 : cnt (fun i => bt (mk f n) i) 8 = cnt f n := by
    have h2 : cnt (fun i => bt (mk f n) i) 8 = cnt (fun i => decide (i < n) && f i) 8 := cnt_c (fun k hk => bt_mk f (by omega) (by omega))
    rw [h2]
    have h3 : ∀ m, n + m ≤ 8 → cnt (fun i => decide (i < n) && f i) (n + m) = cnt f n := by
      intro m
      induction m with
      | zero => intro _; exact cnt_c (fun k hk => by simp [show k < n by omega])
      | succ m ih =>
        intro hm
        rw [← Nat.add_assoc, cnt, ih (by omega), if_neg (by simp; omega)]
        rfl
    have := h3 (8 - n) (by omega)
    rwa [show n + (8 - n) = 8 by omega] at this
  rw [mk_N f (by omega)] at h1 ⊢
  rw [pop_all _ (mkN_256 f h), h1]
/-- one bit of any int, as both sides ask for it -/
theorem bit_1 (x : Int32) {n : Nat} (hn : n < 32) : ((x >>> (nI n &&& 31)) &&& 1) = if bt x n then 1 else 0 := b_ext fun i hi => by
  rw [b_and, b_sshr n hn x hi, bt_1]
  by_cases e : i = 0
  · subst e
    rw [if_pos (by omega), Nat.add_zero]
    cases bt x n <;> simp [bt_1, b_0]
  · simp only [e, decide_false, Bool.and_false]
    cases bt x n <;> simp [bt_1, b_0, e]
theorem ifz {b : Prop} [Decidable b] {α : Type} {x y : α} : (if (if b then (1 : Int32) else 0) = 0 then x else y) = if b then y else x := by
  by_cases h : b
  · rw [if_pos h, if_pos h]; exact if_neg (by decide)
  · rw [if_neg h, if_neg h]; exact if_pos rfl
