/-! draws -/
def nx (x : Int32) : Int32 := x * 1103515245 + 12345
def drI (x : Int32) : Int32 := (Int32.toUInt32 (nx x) >>> (Int32.toUInt32 16 &&& Int32.toUInt32 31)).toInt32
def dr (x : Int32) : Nat := (Int32.toUInt32 (nx x) >>> (Int32.toUInt32 16 &&& Int32.toUInt32 31)).toNat
theorem drI_n (x : Int32) : drI x = nI (dr x) := by
  unfold drI dr
  generalize (Int32.toUInt32 (nx x) >>> (Int32.toUInt32 16 &&& Int32.toUInt32 31)) = u
  apply Int32.toBitVec_inj.mp
  show u.toBitVec = BitVec.ofNat 32 u.toBitVec.toNat
  rw [BitVec.ofNat_toNat, BitVec.setWidth_eq]
theorem dr_lt (x : Int32) : dr x < 65536 := by
  unfold dr
  generalize Int32.toUInt32 (nx x) = y
  have h : (Int32.toUInt32 16 &&& Int32.toUInt32 31) = 16 := by decide
  rw [h, UInt32.toNat_shiftRight]
  have h2 : y.toNat < 2 ^ 32 := y.toNat_lt
  have h3 : (16 : UInt32).toNat % 32 = 16 := by decide
  rw [h3, Nat.shiftRight_eq_div_pow]
  exact Nat.div_lt_of_lt_mul (by omega)
section DRAW
variable {σ : St} {S : HS}
theorem c_draw (H : HC σ 39 S) {b : Nat} (b0 : 0 < b) (b9 : b < 2 ^ 31) : f_X0_draw σ 39 (nI b) = some (nI (dr (se S) % b), setI σ 39 4 (nx (se S))) := by
  have hd := dr_lt (se S)
  unfold f_X0_draw
  rw [ptI_s, bind_s, setI_s, H.1.2.2.2.2.1, if_neg (nI_nle b0 b9)]
  show (rmI (drI (se S)) (nI b)).bind _ = _
  rw [drI_n, rm_n (by omega) b0 b9]
  rfl
theorem m_draw (H : HM σ S) {b : Nat} (b0 : 0 < b) (b9 : b < 2 ^ 31) : f_X6_draw σ 93 (nI b) = some (nI (dr (se S) % b), setI σ 93 15 (nx (se S))) := by
  have hd := dr_lt (se S)
  unfold f_X6_draw
  rw [ptI_s, bind_s, setI_s, H.1.2.2.2.2.2.2]
  show (rmI (drI (se S)) (nI b)).bind _ = _
  rw [drI_n, rm_n (by omega) b0 b9]
  rfl
/-- a key worn by two draws w1, w2, or not; the seeds then are v1, v2 -/
def wearG (S : HS) (k : Nat) (v1 v2 : Int32) (w1 w2 : Nat) : Bool × HS := if w1 % 4 = 0 then (if cu S k (w2 % pl S) < dp S then (true, sCu (sSe (sSe S v1) v2) k (w2 % pl S) (cu S k (w2 % pl S) + 1)) else (false, sSe (sSe S v1) v2)) else (false, sSe S v1)
theorem inv_wear (I : Inv S) {k : Nat} (hk : k < nk S) (v1 v2 : Int32) (w1 w2 : Nat) : Inv (wearG S k v1 v2 w1 w2).2 := by
  have i2 : Inv (sSe (sSe S v1) v2) := I
  have p1 := I.1.1
  unfold wearG
  split
  · split
    · exact inv_sCu i2 hk (Nat.mod_lt _ (by show 0 < pl S; omega)) (by assumption)
    · exact i2
  · exact I
theorem nk_wear (k : Nat) (v1 v2 : Int32) (w1 w2 : Nat) : nk (wearG S k v1 v2 w1 w2).2 = nk S ∧ nl (wearG S k v1 v2 w1 w2).2 = nl S := by
  unfold wearG
  split
  · split <;> exact ⟨rfl, rfl⟩
  · exact ⟨rfl, rfl⟩
theorem c_wear (H : HC σ 39 S) (I : Inv S) {k : Nat} (hk : k < 6) {v1 v2 : Int32} {w1 w2 : Nat} (d1 : f_X0_draw σ 39 4 = some (nI (w1 % 4), setI σ 39 4 v1)) (d2 : ∀ σ', HC σ' 39 (sSe S v1) → f_X0_draw σ' 39 (nI (pl S)) = some (nI (w2 % pl S), setI σ' 39 4 v2)) : ∃ σ', f_X0_wear σ 39 (kI 39 k) = some (if (wearG S k v1 v2 w1 w2).1 then 1 else 0, σ') ∧ HC σ' 39 (wearG S k v1 v2 w1 w2).2 ∧ Fr HF σ σ' := by
  have p5 := I.1.2.1
  have p1 := I.1.1
  have h1 : HC (setI σ 39 4 v1) 39 (sSe S v1) := c_sSe H _
  have f1 : Fr HF σ (setI σ 39 4 v1) := Fr.i (by unfold HF; omega)
  have hm4 := Nat.mod_lt w1 (show 0 < 4 by decide)
  unfold f_X0_wear wearG
  by_cases q : w1 % 4 = 0
  · have h2 : HC (setI (setI σ 39 4 v1) 39 4 v2) 39 (sSe (sSe S v1) v2) := c_sSe h1 _
    have f2 : Fr HF σ (setI (setI σ 39 4 v1) 39 4 v2) := f1.t (Fr.i (by unfold HF; omega))
    have hmp := Nat.mod_lt w2 (show 0 < pl S by omega)
    have i2 : Inv (sSe (sSe S v1) v2) := I
    have dd := c_deepen h2 i2 (k := k) (p := w2 % pl S) hk hmp
    rw [if_pos q]
    by_cases c : cu S k (w2 % pl S) < dp S
    · rw [if_pos c]
      rw [if_pos (show cu (sSe (sSe S v1) v2) k (w2 % pl S) < dp (sSe (sSe S v1) v2) from c)] at dd
      refine ⟨_, ?_, c_sCu h2 k _ _, f2.t (Fr.i (by unfold HF kI; omega))⟩
      refine b2_e d1 ?_
      rw [q, if_pos (show nI 0 = 0 from rfl), h1.1.1]
      refine b2_e (d2 _ h1) (b2_e dd ?_)
      rw [if_neg (by decide)]
      rfl
    · rw [if_neg c]
      rw [if_neg (show ¬ cu (sSe (sSe S v1) v2) k (w2 % pl S) < dp (sSe (sSe S v1) v2) from c)] at dd
      refine ⟨_, ?_, h2, f2⟩
      refine b2_e d1 ?_
      rw [q, if_pos (show nI 0 = 0 from rfl), h1.1.1]
      refine b2_e (d2 _ h1) (b2_e dd ?_)
      rw [if_pos rfl]
      rfl
  · rw [if_neg q]
    refine ⟨_, ?_, h1, f1⟩
    refine b2_e d1 ?_
    rw [if_neg (fun z => q (nI_inj (by omega) (by decide) (z.trans l_0)))]
    rfl
theorem m_wear (H : HM σ S) (I : Inv S) {k : Nat} (hk : k < 6) {v1 v2 : Int32} {w1 w2 : Nat} (d1 : f_X6_draw σ 93 4 = some (nI (w1 % 4), setI σ 93 15 v1)) (d2 : ∀ σ', HM σ' (sSe S v1) → f_X6_draw σ' 93 (nI (pl S)) = some (nI (w2 % pl S), setI σ' 93 15 v2)) : ∃ σ', f_X6_wears σ 93 (nI k) = some (if (wearG S k v1 v2 w1 w2).1 then 1 else 0, σ') ∧ HM σ' (wearG S k v1 v2 w1 w2).2 ∧ Fr XF σ σ' := by
  have p5 := I.1.2.1
  have p1 := I.1.1
  have d4 := I.1.2.2.2.1
  have h1 : HM (setI σ 93 15 v1) (sSe S v1) := m_sSe H _
  have f1 : Fr XF σ (setI σ 93 15 v1) := Fr.i (by unfold XF; omega)
  have hm4 := Nat.mod_lt w1 (show 0 < 4 by decide)
  unfold f_X6_wears wearG
  by_cases q : w1 % 4 = 0
  · have h2 : HM (setI (setI σ 93 15 v1) 93 15 v2) (sSe (sSe S v1) v2) := m_sSe h1 _
    have f2 : Fr XF σ (setI (setI σ 93 15 v1) 93 15 v2) := f1.t (Fr.i (by unfold XF; omega))
    have hmp := Nat.mod_lt w2 (show 0 < pl S by omega)
    have c4 : cu S k (w2 % pl S) ≤ dp S := ((I.2.1 k).2.2 _).1
    have ld2 : ldI (setI (setI σ 93 15 v1) 93 15 v2) 100 (5 * nI k + nI (w2 % pl S)) = some (nI (cu S k (w2 % pl S))) := by
      rw [l_5, pk_mul, nI_add]
      exact h2.c hk (show w2 % pl S < 5 by omega)
    have e4 : (setI (setI σ 93 15 v1) 93 15 v2).1 93 4 = nI (dp S) := h2.1.2.1
    have e3 : (setI σ 93 15 v1).1 93 3 = nI (pl S) := h1.1.1
    have dq := d2 _ h1
    rw [if_pos q]
    by_cases c : cu S k (w2 % pl S) < dp S
    · rw [if_pos c]
      refine ⟨_, ?_, m_sCu h2 k _ (cu S k (w2 % pl S) + 1) (by omega), f2.t (Fr.i (by unfold XF; omega))⟩
      refine b2_e d1 ?_
      rw [q, if_pos (show nI 0 = 0 from rfl), e3]
      refine b2_e dq (bind_e ld2 ?_)
      rw [e4, if_neg (fun z => by have := nI_inj (by omega) (by omega) z; omega)]
      refine bind_e ld2 ?_
      rw [l_5, pk_mul, nI_add, nI_1]
      exact bind_e (stI_n (by rw [ln100]; omega)) rfl
    · rw [if_neg c]
      refine ⟨_, ?_, h2, f2⟩
      refine b2_e d1 ?_
      rw [q, if_pos (show nI 0 = 0 from rfl), e3]
      refine b2_e dq (bind_e ld2 ?_)
      rw [e4, show cu S k (w2 % pl S) = dp S by omega, if_pos rfl]
      rfl
  · rw [if_neg q]
    refine ⟨_, ?_, h1, f1⟩
    refine b2_e d1 ?_
    rw [if_neg (fun z => q (nI_inj (by omega) (by decide) (z.trans l_0)))]
    rfl
end DRAW
