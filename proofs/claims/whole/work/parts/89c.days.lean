section DAYS
variable {σ : St} {S : HS}
theorem op_se (S : HS) (v : Int32) (k l : Nat) : op (sSe S v) k l = op S k l := rfl
theorem day_c {S2 S1 : HS} {v1 v2 : Int32} {k l n m : Nat} (H : HC σ 39 S) (h1 : HC (setI σ 39 4 v1) 39 S1) (h2 : HC (setI (setI σ 39 4 v1) 39 4 v2) 39 S2) (I2 : Inv S2) (d1 : f_X0_draw σ 39 (nI (nk S)) = some (nI k, setI σ 39 4 v1)) (d2 : f_X0_draw (setI σ 39 4 v1) 39 (nI (nl S1)) = some (nI l, setI (setI σ 39 4 v1) 39 4 v2)) (hk : k < 6) (hl : l < nl S2) (hn : nl S2 ≤ 8) {r : Option (Int32 × St)} (hr : (if op S2 k l = true then b2 (f_X0_wear (setI (setI σ 39 4 v1) 39 4 v2) 39 (kI 39 k)) (fun _ s => some ((1 : Int32), s)) else some (0, setI (setI σ 39 4 v1) 39 4 v2)) = r) : f_X0_passDay σ 39 = r := by
  have e6 : (setI σ 39 4 v1).1 39 6 = nI (nl S1) := h1.1.2.2.2.2.2.2.1
  unfold f_X0_passDay
  rw [H.1.2.2.2.2.2.1, d1, b2_s, e6, d2, b2_s, c_oby h2 isH39 I2 hk, bind_s, hb (by omega), bind_s, bt_m _ hl (by omega), ifz, c_keyAt isH39 hk, bind_s]
  exact hr
theorem day_m {S2 S1 : HS} {v1 v2 : Int32} {k l d : Nat} {c m : Int32} {K : St → Nat → Int32 → Int32 → Int32 → Option (Int32 × St)} (hd : ¬ nI d ≤ m) (H : HM σ S) (h1 : HM (setI σ 93 15 v1) S1) (h2 : HM (setI (setI σ 93 15 v1) 93 15 v2) S2) (I2 : Inv S2) (d1 : f_X6_draw σ 93 (nI (nk S)) = some (nI k, setI σ 93 15 v1)) (d2 : f_X6_draw (setI σ 93 15 v1) 93 (nI (nl S1)) = some (nI l, setI (setI σ 93 15 v1) 93 15 v2)) (hk : k < 6) (hl : l < 8) {r : Option (Int32 × St)} (hr : (if op S2 k l = true then b2 (f_X6_wears (setI (setI σ 93 15 v1) 93 15 v2) 93 (nI k)) (fun _ s => K s 93 (nI d) (c + 1) (m + 1)) else K (setI (setI σ 93 15 v1) 93 15 v2) 93 (nI d) c (m + 1)) = r) : f_X6_days_b42 K σ 93 (nI d) c m = r := by
  have e6 : (setI σ 93 15 v1).1 93 11 = nI (nl S1) := h1.1.2.2.2.2.1
  unfold f_X6_days_b42 f_X6_days_b91
  rw [if_neg hd, H.1.2.2.2.1, d1, b2_s, e6, d2, b2_s, m_opensIt h2 I2 hk hl, bind_s, ifz]
  simp only [opt_b]
  exact hr
end DAYS
