section DAYS
variable {σ : St} {S : HS}
theorem op_se (S : HS) (v : Int32) (k l : Nat) : op (sSe S v) k l = op S k l := rfl
theorem day_c {S2 S1 : HS} {v1 v2 : Int32} {k l n m : Nat} (H : HC σ 39 S) (h1 : HC (setI σ 39 4 v1) 39 S1) (h2 : HC (setI (setI σ 39 4 v1) 39 4 v2) 39 S2) (I2 : Inv S2) (d1 : f_X0_draw σ 39 (nI (nk S)) = some (nI k, setI σ 39 4 v1)) (d2 : f_X0_draw (setI σ 39 4 v1) 39 (nI (nl S1)) = some (nI l, setI (setI σ 39 4 v1) 39 4 v2)) (hk : k < 6) (hl : l < nl S2) (hn : nl S2 ≤ 8) {r : Option (Int32 × St)} (hr : (if op S2 k l = true then b2 (f_X0_wear (setI (setI σ 39 4 v1) 39 4 v2) 39 (kI 39 k)) (fun _ s => some ((1 : Int32), s)) else some (0, setI (setI σ 39 4 v1) 39 4 v2)) = r) : f_X0_passDay σ 39 = r := by
  have e6 : (setI σ 39 4 v1).1 39 6 = nI (nl S1) := h1.1.2.2.2.2.2.2.1
  unfold f_X0_passDay
  rw [H.1.2.2.2.2.2.1, d1, b2_s, e6, d2, b2_s, c_oby h2 isH39 I2 hk, bind_s, hb (by omega), bind_s, bt_m _ hl (by omega), ifz, c_keyAt isH39 hk, bind_s]
  exact hr
theorem day_m {S2 S1 : HS} {v1 v2 : Int32} {k l d : Nat} {c m : Int32} {K : St → Nat → Int32 → Int32 → Int32 → Option (Int32 × St)} (hd : ¬ nI d ≤ m) (H : HM σ S) (h1 : HM (setI σ 93 15 v1) S1) (h2 : HM (setI (setI σ 93 15 v1) 93 15 v2) S2) (I2 : Inv S2) (d1 : f_X6_draw σ 93 (nI (nk S)) = some (nI k, setI σ 93 15 v1)) (d2 : f_X6_draw (setI σ 93 15 v1) 93 (nI (nl S1)) = some (nI l, setI (setI σ 93 15 v1) 93 15 v2)) (hk : k < 6) (hl : l < 8) {r : Option (Int32 × St)} (hr : (if op S2 k l = true then b2 (f_X6_wears (setI (setI σ 93 15 v1) 93 15 v2) 93 (nI k)) (fun _ s => K s 93 (nI d) (c + 1) (m + 1)) else K (setI (setI σ 93 15 v1) 93 15 v2) 93 (nI d) c (m + 1)) = r) : f_X6_days_b42 K σ 93 (nI d) c m = r := by
  have e6 : (setI σ 93 15 v1).1 93 11 = nI (nl S1) := h1.1.2.2.2.2.1
  unfold f_X6_days_b42 f_X6_days_b91
  rw [if_neg hd, H.1.2.2.2.1, d1, b2_s, e6, d2, b2_s, m_opensIt h2 I2 hk hl, bind_s, ifz]
  simp only [opt_b]
  exact hr
theorem day_ex (I : Inv S) (k0 : 0 < nk S) (l0 : 0 < nl S) : ∃ (u : Bool) (S' : HS), Inv S' ∧ nk S' = nk S ∧ nl S' = nl S ∧ (∀ σ, HC σ 39 S → ∃ σ', f_X0_passDay σ 39 = some (if u then 1 else 0, σ') ∧ HC σ' 39 S' ∧ Fr HF σ σ') ∧ (∀ σ K d c m, HM σ S → ¬ nI d ≤ m → ∃ σ', f_X6_days_b42 K σ 93 (nI d) c m = K σ' 93 (nI d) (if u then c + 1 else c) (m + 1) ∧ HM σ' S' ∧ Fr XF σ σ') := by
  have n6 := I.1.2.2.2.2.2.2.1
  have n8 := I.1.2.2.2.2.2.2.2
  obtain ⟨v1, w1, c1, m1⟩ := draw_ex S
  obtain ⟨v2, w2, c2, m2⟩ := draw_ex (sSe S v1)
  have I2 : Inv (sSe (sSe S v1) v2) := I
  have hk := Nat.mod_lt w1 k0
  have hl := Nat.mod_lt w2 l0
  have hk2 : w1 % nk S < nk (sSe (sSe S v1) v2) := hk
  have hl2 : w2 % nl S < nl (sSe (sSe S v1) v2) := hl
  have hn2 : nl (sSe (sSe S v1) v2) ≤ 8 := n8
  have c2' : ∀ σ', HC σ' 39 (sSe S v1) → f_X0_draw σ' 39 (nI (nl (sSe S v1))) = some (nI (w2 % nl S), setI σ' 39 4 v2) := fun σ' h => c2 (nl S) l0 (by omega) σ' h
  have m2' : ∀ σ', HM σ' (sSe S v1) → f_X6_draw σ' 93 (nI (nl (sSe S v1))) = some (nI (w2 % nl S), setI σ' 93 15 v2) := fun σ' h => m2 (nl S) l0 (by omega) σ' h
  have fc : ∀ σ, Fr HF σ (setI (setI σ 39 4 v1) 39 4 v2) := fun σ => (Fr.i (by unfold HF; omega)).t (Fr.i (by unfold HF; omega))
  have fm : ∀ σ, Fr XF σ (setI (setI σ 93 15 v1) 93 15 v2) := fun σ => (Fr.i (by unfold XF; omega)).t (Fr.i (by unfold XF; omega))
  by_cases o : op (sSe (sSe S v1) v2) (w1 % nk S) (w2 % nl S) = true
  · obtain ⟨u, S', I', k', l', c, m⟩ := wear_ex I2 hk2
    refine ⟨true, S', I', k', l', fun σ H => ?_, fun σ K d cn mn H hd => ?_⟩
    · obtain ⟨σ3, e1, e2, e3⟩ := c _ (c_sSe (c_sSe H v1) v2)
      refine ⟨σ3, day_c (k := w1 % nk S) (l := w2 % nl S) (n := 0) (m := 0) H (c_sSe H v1) (c_sSe (c_sSe H v1) v2) I2 (c1 (nk S) k0 (by omega) σ H) (c2' _ (c_sSe H v1)) (by omega) hl2 hn2 ?_, e2, (fc σ).t e3⟩
      rw [if_pos o, if_pos rfl, e1, b2_s]
    · obtain ⟨σ3, e1, e2, e3⟩ := m _ (m_sSe (m_sSe H v1) v2)
      refine ⟨σ3, day_m (k := w1 % nk S) (l := w2 % nl S) hd H (m_sSe H v1) (m_sSe (m_sSe H v1) v2) I2 (m1 (nk S) k0 (by omega) σ H) (m2' _ (m_sSe H v1)) (by omega) (by omega) ?_, e2, (fm σ).t e3⟩
      rw [if_pos o, if_pos rfl, e1, b2_s]
  · refine ⟨false, sSe (sSe S v1) v2, I2, rfl, rfl, fun σ H => ?_, fun σ K d cn mn H hd => ?_⟩
    · refine ⟨_, day_c (k := w1 % nk S) (l := w2 % nl S) (n := 0) (m := 0) H (c_sSe H v1) (c_sSe (c_sSe H v1) v2) I2 (c1 (nk S) k0 (by omega) σ H) (c2' _ (c_sSe H v1)) (by omega) hl2 hn2 ?_, c_sSe (c_sSe H v1) v2, fc σ⟩
      rw [if_neg o, if_neg Bool.false_ne_true]
    · refine ⟨_, day_m (k := w1 % nk S) (l := w2 % nl S) hd H (m_sSe H v1) (m_sSe (m_sSe H v1) v2) I2 (m1 (nk S) k0 (by omega) σ H) (m2' _ (m_sSe H v1)) (by omega) (by omega) ?_, m_sSe (m_sSe H v1) v2, fm σ⟩
      rw [if_neg o, if_neg Bool.false_ne_true]
end DAYS
