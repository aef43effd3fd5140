/-! THE LAW: every round leaves both alike, so it ends with 1 -/
def S0 : HS := (3, 3, 12, 0, 0, 0, 1, fun _ => 0, fun _ => 0, fun _ => 0, fun _ _ => 0, fun _ => false, fun _ _ => 0)
theorem inv0 : Inv S0 := ⟨⟨by decide, by decide, by decide, by decide, by decide, by decide, by decide, by decide⟩, fun _ => ⟨Nat.zero_le _, Nat.zero_le _, fun _ => ⟨Nat.zero_le _, fun _ => rfl⟩⟩, fun _ _ => ⟨rfl, rfl, rfl, fun _ => rfl⟩, fun _ _ => ⟨Nat.zero_le _, fun _ => rfl⟩, fun _ _ => ⟨rfl, fun _ => rfl⟩⟩
theorem hc0 : HC s0 39 S0 := by
  refine ⟨⟨?_, ?_, ?_, ?_, ?_, ?_, ?_, ?_⟩, ?_, ?_, ?_, ?_, ?_⟩ <;> decide +kernel
theorem hm0 : HM s0 S0 := by
  refine ⟨⟨?_, ?_, ?_, ?_, ?_, ?_, ?_⟩, ?_, ?_, ?_, ?_⟩ <;> decide +kernel
theorem shv0 : ∀ s, s < 8 → s0.1 (21 + 2 * s) 0 = s0.1 94 s ∧ s0.1 (21 + 2 * s) 1 = s0.1 95 s ∧ s0.1 94 s = -1 ∧ s0.1 95 s = nI 0 := by decide +kernel
theorem tap0 : ∀ i, i < 250 → s0.1 4 i = s0.1 103 i ∧ s0.1 103 i = nI 0 := by decide +kernel
theorem ref0 : ∀ i, i < 5 → s0.1 1 i = s0.1 104 (i + 2) := by decide +kernel
theorem six0 : ∀ j, j < 5 → s0.1 6 j = 0 := by decide +kernel
theorem sim0 : Sim s0 := by
  refine ⟨S0, hc0, hm0, inv0, ref0, fun s hs => ?_, ⟨by decide +kernel, by decide +kernel, by decide +kernel, by decide +kernel, by decide +kernel, six0⟩, ⟨0, by decide, by decide +kernel, by decide +kernel⟩, fun i hi => ⟨(tap0 i hi).1, 0, by decide, (tap0 i hi).2⟩, Or.inl ⟨by decide +kernel, by decide +kernel⟩⟩
  obtain ⟨a, b, c, d⟩ := shv0 s hs
  exact ⟨a, b, Or.inl c, ⟨0, by decide, d⟩, fun _ _ => rfl⟩
theorem ldx (L : Nat) (xs : Nat → Int32) (i j : Nat) (h : i + j < L) (hL : L ≤ 3072) : ldX L xs (nI i + nI j) = some (xs (i + j)) := by
  unfold ldX
  rw [nI_add, nI_clamp (by omega), if_neg]
  rintro (z | z)
  · exact absurd z (nI_pos (by omega))
  · omega
theorem cmp_s (x : Int64) : lg_cmp x x = 0 := by
  unfold lg_cmp
  rw [if_neg (fun h : x > x => absurd h (Int64.lt_irrefl)), if_pos rfl]
theorem ex_ite {c : Prop} [Decidable c] {a b : Option (Int32 × St)} (ha : ∃ σ', a = some (1, σ')) (hb : ∃ σ', b = some (1, σ')) : ∃ σ', (if c then a else b) = some (1, σ') := by
  split
  · exact ha
  · exact hb
section LAW
variable {L : Nat} {xs : Nat → Int32} {k : St → Nat → Nat → Int32 → Option (Int32 × St)} {i : Nat} {σ : St} {S : HS}
theorem g_248 (hi : i + 6 ≤ L) (hL : L ≤ 3072) (hk : ∀ σ, Sim σ → ∃ σ', f_L_law_b1621 L xs k σ 0 93 (nI i) = some (1, σ')) (H : Sm σ S) : ∃ σ', f_L_law_b248 L xs k σ 0 93 (nI i) = some (1, σ') := by
  have l1 : ldX L xs (nI i + 1) = some (xs (i + 1)) := ldx L xs i 1 (by omega) hL
  have l2 : ldX L xs (nI i + 2) = some (xs (i + 2)) := ldx L xs i 2 (by omega) hL
  have l3 : ldX L xs (nI i + 3) = some (xs (i + 3)) := ldx L xs i 3 (by omega) hL
  obtain ⟨r, σ1, σ2, h1, h2, h3⟩ := op_row H (xs (i + 1)) (xs (i + 2)) (xs (i + 3))
  obtain ⟨σ', hs⟩ := hk σ2 h3
  refine ⟨σ', ?_⟩
  unfold f_L_law_b248
  exact bind_e l1 (bind_e l2 (bind_e l3 (b2_e h1 (bind_e l1 (bind_e l2 (bind_e l3 (b2_e h2 ((if_pos rfl).trans hs))))))))
theorem g_291 (hi : i + 6 ≤ L) (hL : L ≤ 3072) (hk : ∀ σ, Sim σ → ∃ σ', f_L_law_b1621 L xs k σ 0 93 (nI i) = some (1, σ')) (H : Sm σ S) : ∃ σ', f_L_law_b291 L xs k σ 0 93 (nI i) = some (1, σ') := by
  have l1 : ldX L xs (nI i + 1) = some (xs (i + 1)) := ldx L xs i 1 (by omega) hL
  have l2 : ldX L xs (nI i + 2) = some (xs (i + 2)) := ldx L xs i 2 (by omega) hL
  have l3 : ldX L xs (nI i + 3) = some (xs (i + 3)) := ldx L xs i 3 (by omega) hL
  have l4 : ldX L xs (nI i + 4) = some (xs (i + 4)) := ldx L xs i 4 (by omega) hL
  obtain ⟨r, σ1, σ2, h1, h2, h3⟩ := op_set H (xs (i + 1)) (xs (i + 2)) (((Int32.toInt64 (xs (i + 3))) <<< (Int32.toInt64 32 &&& 63)) ||| ((Int32.toInt64 (xs (i + 4))) &&& 4294967295))
  obtain ⟨σ', hs⟩ := hk σ2 h3
  refine ⟨σ', ?_⟩
  unfold f_L_law_b291
  exact bind_e l1 (bind_e l2 (bind_e l3 (bind_e l4 (b2_e h1 (bind_e l1 (bind_e l2 (bind_e l3 (bind_e l4 (b2_e h2 ((if_pos rfl).trans hs))))))))))
theorem g_364 (hi : i + 6 ≤ L) (hL : L ≤ 3072) (hk : ∀ σ, Sim σ → ∃ σ', f_L_law_b1621 L xs k σ 0 93 (nI i) = some (1, σ')) (H : Sm σ S) : ∃ σ', f_L_law_b364 L xs k σ 0 93 (nI i) = some (1, σ') := by
  have l1 : ldX L xs (nI i + 1) = some (xs (i + 1)) := ldx L xs i 1 (by omega) hL
  have l2 : ldX L xs (nI i + 2) = some (xs (i + 2)) := ldx L xs i 2 (by omega) hL
  have l3 : ldX L xs (nI i + 3) = some (xs (i + 3)) := ldx L xs i 3 (by omega) hL
  have l4 : ldX L xs (nI i + 4) = some (xs (i + 4)) := ldx L xs i 4 (by omega) hL
  have l5 : ldX L xs (nI i + 5) = some (xs (i + 5)) := ldx L xs i 5 (by omega) hL
  obtain ⟨r, σ1, σ2, h1, h2, h3⟩ := op_copy H (xs (i + 1)) (xs (i + 2)) (xs (i + 3)) (xs (i + 4)) (xs (i + 5))
  obtain ⟨σ', hs⟩ := hk σ2 h3
  refine ⟨σ', ?_⟩
  unfold f_L_law_b364
  exact bind_e l1 (bind_e l2 (bind_e l3 (bind_e l4 (bind_e l5 (b2_e h1 (bind_e l1 (bind_e l2 (bind_e l3 (bind_e l4 (bind_e l5 (b2_e h2 ((if_pos rfl).trans hs))))))))))))
theorem g_427 (hi : i + 6 ≤ L) (hL : L ≤ 3072) (hk : ∀ σ, Sim σ → ∃ σ', f_L_law_b1621 L xs k σ 0 93 (nI i) = some (1, σ')) (H : Sm σ S) : ∃ σ', f_L_law_b427 L xs k σ 0 93 (nI i) = some (1, σ') := by
  have l1 : ldX L xs (nI i + 1) = some (xs (i + 1)) := ldx L xs i 1 (by omega) hL
  have l2 : ldX L xs (nI i + 2) = some (xs (i + 2)) := ldx L xs i 2 (by omega) hL
  obtain ⟨r, h1, h2⟩ := op_element H (xs (i + 1)) (xs (i + 2))
  obtain ⟨σ', hs⟩ := hk σ ⟨S, H⟩
  refine ⟨σ', ?_⟩
  unfold f_L_law_b427
  exact bind_e l1 (bind_e l2 (bind_e h1 (bind_e l1 (bind_e l2 (bind_e h2 ((if_pos (cmp_s r)).trans hs))))))
theorem g_461 (hi : i + 6 ≤ L) (hL : L ≤ 3072) (hk : ∀ σ, Sim σ → ∃ σ', f_L_law_b1621 L xs k σ 0 93 (nI i) = some (1, σ')) (H : Sm σ S) : ∃ σ', f_L_law_b461 L xs k σ 0 93 (nI i) = some (1, σ') := by
  have l1 : ldX L xs (nI i + 1) = some (xs (i + 1)) := ldx L xs i 1 (by omega) hL
  obtain ⟨r, h1, h2⟩ := op_holds H (xs (i + 1))
  obtain ⟨σ', hs⟩ := hk σ ⟨S, H⟩
  refine ⟨σ', ?_⟩
  unfold f_L_law_b461
  exact bind_e l1 (bind_e h1 (bind_e l1 (bind_e h2 ((if_pos rfl).trans hs))))
theorem g_484 (hi : i + 6 ≤ L) (hL : L ≤ 3072) (hk : ∀ σ, Sim σ → ∃ σ', f_L_law_b1621 L xs k σ 0 93 (nI i) = some (1, σ')) (H : Sm σ S) : ∃ σ', f_L_law_b484 L xs k σ 0 93 (nI i) = some (1, σ') := by
  have l1 : ldX L xs (nI i + 1) = some (xs (i + 1)) := ldx L xs i 1 (by omega) hL
  have l2 : ldX L xs (nI i + 2) = some (xs (i + 2)) := ldx L xs i 2 (by omega) hL
  obtain ⟨r, σ1, σ2, h1, h2, h3⟩ := op_show H (xs (i + 1)) (xs (i + 2))
  obtain ⟨σ', hs⟩ := hk σ2 h3
  refine ⟨σ', ?_⟩
  unfold f_L_law_b484
  exact bind_e l1 (bind_e l2 (b2_e h1 (bind_e l1 (bind_e l2 (b2_e h2 ((if_pos rfl).trans hs))))))
theorem g_517 (hi : i + 6 ≤ L) (hL : L ≤ 3072) (hk : ∀ σ, Sim σ → ∃ σ', f_L_law_b1621 L xs k σ 0 93 (nI i) = some (1, σ')) (H : Sm σ S) : ∃ σ', f_L_law_b517 L xs k σ 0 93 (nI i) = some (1, σ') := by
  have l1 : ldX L xs (nI i + 1) = some (xs (i + 1)) := ldx L xs i 1 (by omega) hL
  have l2 : ldX L xs (nI i + 2) = some (xs (i + 2)) := ldx L xs i 2 (by omega) hL
  obtain ⟨r, σ1, σ2, h1, h2, h3⟩ := op_says H (xs (i + 1)) (xs (i + 2))
  obtain ⟨σ', hs⟩ := hk σ2 h3
  refine ⟨σ', ?_⟩
  unfold f_L_law_b517
  exact bind_e l1 (bind_e l2 (b2_e h1 (bind_e l1 (bind_e l2 (b2_e h2 ((if_pos rfl).trans hs))))))
theorem g_550 (hi : i + 6 ≤ L) (hL : L ≤ 3072) (hk : ∀ σ, Sim σ → ∃ σ', f_L_law_b1621 L xs k σ 0 93 (nI i) = some (1, σ')) (H : Sm σ S) : ∃ σ', f_L_law_b550 L xs k σ 0 93 (nI i) = some (1, σ') := by
  have l1 : ldX L xs (nI i + 1) = some (xs (i + 1)) := ldx L xs i 1 (by omega) hL
  have l2 : ldX L xs (nI i + 2) = some (xs (i + 2)) := ldx L xs i 2 (by omega) hL
  obtain ⟨r, σ1, σ2, h1, h2, h3⟩ := op_ask H (xs (i + 1)) (xs (i + 2))
  obtain ⟨σ', hs⟩ := hk σ2 h3
  refine ⟨σ', ?_⟩
  unfold f_L_law_b550
  exact bind_e l1 (bind_e l2 (b2_e h1 (bind_e l1 (bind_e l2 (b2_e h2 ((if_pos rfl).trans hs))))))
theorem g_583 (hi : i + 6 ≤ L) (hL : L ≤ 3072) (hk : ∀ σ, Sim σ → ∃ σ', f_L_law_b1621 L xs k σ 0 93 (nI i) = some (1, σ')) (H : Sm σ S) : ∃ σ', f_L_law_b583 L xs k σ 0 93 (nI i) = some (1, σ') := by
  have l1 : ldX L xs (nI i + 1) = some (xs (i + 1)) := ldx L xs i 1 (by omega) hL
  have l2 : ldX L xs (nI i + 2) = some (xs (i + 2)) := ldx L xs i 2 (by omega) hL
  obtain ⟨r, σ1, σ2, h1, h2, h3⟩ := op_key H (xs (i + 1)) (xs (i + 2))
  obtain ⟨σ', hs⟩ := hk σ2 h3
  refine ⟨σ', ?_⟩
  unfold f_L_law_b583
  exact bind_e l1 (bind_e l2 (b2_e h1 (bind_e l1 (bind_e l2 (b2_e h2 ((if_pos rfl).trans hs))))))
theorem g_616 (hi : i + 6 ≤ L) (hL : L ≤ 3072) (hk : ∀ σ, Sim σ → ∃ σ', f_L_law_b1621 L xs k σ 0 93 (nI i) = some (1, σ')) (H : Sm σ S) : ∃ σ', f_L_law_b616 L xs k σ 0 93 (nI i) = some (1, σ') := by
  have l1 : ldX L xs (nI i + 1) = some (xs (i + 1)) := ldx L xs i 1 (by omega) hL
  by_cases q : xs (i + 1) = 0
  · obtain ⟨r, σ1, σ2, h1, h2, h3⟩ := op_lock H false
    obtain ⟨σ', hs⟩ := hk σ2 h3
    refine ⟨σ', ?_⟩
    unfold f_L_law_b616 f_L_law_b630 f_L_law_b647
    exact bind_e l1 ((if_pos q).trans (b2_e h1 (bind_e l1 ((if_pos q).trans (b2_e h2 ((if_pos rfl).trans hs))))))
  · obtain ⟨r, σ1, σ2, h1, h2, h3⟩ := op_lock H true
    obtain ⟨σ', hs⟩ := hk σ2 h3
    refine ⟨σ', ?_⟩
    unfold f_L_law_b616 f_L_law_b630 f_L_law_b647
    exact bind_e l1 ((if_neg q).trans (b2_e h1 (bind_e l1 ((if_neg q).trans (b2_e h2 ((if_pos rfl).trans hs))))))
theorem g_655 (hi : i + 6 ≤ L) (hL : L ≤ 3072) (hk : ∀ σ, Sim σ → ∃ σ', f_L_law_b1621 L xs k σ 0 93 (nI i) = some (1, σ')) (H : Sm σ S) : ∃ σ', f_L_law_b655 L xs k σ 0 93 (nI i) = some (1, σ') := by
  have l1 : ldX L xs (nI i + 1) = some (xs (i + 1)) := ldx L xs i 1 (by omega) hL
  have l2 : ldX L xs (nI i + 2) = some (xs (i + 2)) := ldx L xs i 2 (by omega) hL
  have l3 : ldX L xs (nI i + 3) = some (xs (i + 3)) := ldx L xs i 3 (by omega) hL
  obtain ⟨r, σ1, σ2, h1, h2, h3⟩ := op_asks H (xs (i + 1)) (xs (i + 2)) (xs (i + 3))
  obtain ⟨σ', hs⟩ := hk σ2 h3
  refine ⟨σ', ?_⟩
  unfold f_L_law_b655
  exact bind_e l1 (bind_e l2 (bind_e l3 (b2_e h1 (bind_e l1 (bind_e l2 (bind_e l3 (b2_e h2 ((if_pos rfl).trans hs))))))))
theorem g_698 (hi : i + 6 ≤ L) (hL : L ≤ 3072) (hk : ∀ σ, Sim σ → ∃ σ', f_L_law_b1621 L xs k σ 0 93 (nI i) = some (1, σ')) (H : Sm σ S) : ∃ σ', f_L_law_b698 L xs k σ 0 93 (nI i) = some (1, σ') := by
  have l1 : ldX L xs (nI i + 1) = some (xs (i + 1)) := ldx L xs i 1 (by omega) hL
  have l2 : ldX L xs (nI i + 2) = some (xs (i + 2)) := ldx L xs i 2 (by omega) hL
  have l3 : ldX L xs (nI i + 3) = some (xs (i + 3)) := ldx L xs i 3 (by omega) hL
  by_cases q : xs (i + 3) = 0
  · obtain ⟨r, σ1, σ2, h1, h2, h3⟩ := op_may H (xs (i + 1)) (xs (i + 2)) false
    obtain ⟨σ', hs⟩ := hk σ2 h3
    refine ⟨σ', ?_⟩
    unfold f_L_law_b698 f_L_law_b722 f_L_law_b749
    exact bind_e l1 (bind_e l2 (bind_e l3 ((if_pos q).trans (b2_e h1 (bind_e l1 (bind_e l2 (bind_e l3 ((if_pos q).trans (b2_e h2 ((if_pos rfl).trans hs))))))))))
  · obtain ⟨r, σ1, σ2, h1, h2, h3⟩ := op_may H (xs (i + 1)) (xs (i + 2)) true
    obtain ⟨σ', hs⟩ := hk σ2 h3
    refine ⟨σ', ?_⟩
    unfold f_L_law_b698 f_L_law_b722 f_L_law_b749
    exact bind_e l1 (bind_e l2 (bind_e l3 ((if_neg q).trans (b2_e h1 (bind_e l1 (bind_e l2 (bind_e l3 ((if_neg q).trans (b2_e h2 ((if_pos rfl).trans hs))))))))))
theorem g_757 (hi : i + 6 ≤ L) (hL : L ≤ 3072) (hk : ∀ σ, Sim σ → ∃ σ', f_L_law_b1621 L xs k σ 0 93 (nI i) = some (1, σ')) (H : Sm σ S) : ∃ σ', f_L_law_b757 L xs k σ 0 93 (nI i) = some (1, σ') := by
  have l1 : ldX L xs (nI i + 1) = some (xs (i + 1)) := ldx L xs i 1 (by omega) hL
  have l2 : ldX L xs (nI i + 2) = some (xs (i + 2)) := ldx L xs i 2 (by omega) hL
  obtain ⟨r, σ1, σ2, h1, h2, h3⟩ := op_file H (xs (i + 1)) (xs (i + 2))
  obtain ⟨σ', hs⟩ := hk σ2 h3
  refine ⟨σ', ?_⟩
  unfold f_L_law_b757
  exact bind_e l1 (bind_e l2 (b2_e h1 (bind_e l1 (bind_e l2 (b2_e h2 ((if_pos rfl).trans hs))))))
theorem g_790 (hi : i + 6 ≤ L) (hL : L ≤ 3072) (hk : ∀ σ, Sim σ → ∃ σ', f_L_law_b1621 L xs k σ 0 93 (nI i) = some (1, σ')) (H : Sm σ S) : ∃ σ', f_L_law_b790 L xs k σ 0 93 (nI i) = some (1, σ') := by
  have l1 : ldX L xs (nI i + 1) = some (xs (i + 1)) := ldx L xs i 1 (by omega) hL
  obtain ⟨r, σ1, σ2, h1, h2, h3⟩ := op_feed H (xs (i + 1))
  obtain ⟨σ', hs⟩ := hk σ2 h3
  refine ⟨σ', ?_⟩
  unfold f_L_law_b790
  exact bind_e l1 (b2_e h1 (bind_e l1 (b2_e h2 ((if_pos rfl).trans hs))))
theorem g_813 (hi : i + 6 ≤ L) (hL : L ≤ 3072) (hk : ∀ σ, Sim σ → ∃ σ', f_L_law_b1621 L xs k σ 0 93 (nI i) = some (1, σ')) (H : Sm σ S) : ∃ σ', f_L_law_b813 L xs k σ 0 93 (nI i) = some (1, σ') := by
  obtain ⟨r, σ1, σ2, h1, h2, h3⟩ := op_wipe H 
  obtain ⟨σ', hs⟩ := hk σ2 h3
  refine ⟨σ', ?_⟩
  unfold f_L_law_b813
  exact b2_e h1 (b2_e h2 ((if_pos rfl).trans hs))
theorem g_826 (hi : i + 6 ≤ L) (hL : L ≤ 3072) (hk : ∀ σ, Sim σ → ∃ σ', f_L_law_b1621 L xs k σ 0 93 (nI i) = some (1, σ')) (H : Sm σ S) : ∃ σ', f_L_law_b826 L xs k σ 0 93 (nI i) = some (1, σ') := by
  obtain ⟨r, σ1, σ2, h1, h2, h3⟩ := op_house H 
  obtain ⟨σ', hs⟩ := hk σ2 h3
  refine ⟨σ', ?_⟩
  unfold f_L_law_b826
  exact b2_e h1 (b2_e h2 ((if_pos rfl).trans hs))
theorem g_839 (hi : i + 6 ≤ L) (hL : L ≤ 3072) (hk : ∀ σ, Sim σ → ∃ σ', f_L_law_b1621 L xs k σ 0 93 (nI i) = some (1, σ')) (H : Sm σ S) : ∃ σ', f_L_law_b839 L xs k σ 0 93 (nI i) = some (1, σ') := by
  have l1 : ldX L xs (nI i + 1) = some (xs (i + 1)) := ldx L xs i 1 (by omega) hL
  have l2 : ldX L xs (nI i + 2) = some (xs (i + 2)) := ldx L xs i 2 (by omega) hL
  obtain ⟨r, σ1, σ2, h1, h2, h3⟩ := op_keyOf H (xs (i + 1)) (xs (i + 2))
  obtain ⟨σ', hs⟩ := hk σ2 h3
  refine ⟨σ', ?_⟩
  unfold f_L_law_b839
  exact bind_e l1 (bind_e l2 (b2_e h1 (bind_e l1 (bind_e l2 (b2_e h2 ((if_pos rfl).trans hs))))))
theorem g_872 (hi : i + 6 ≤ L) (hL : L ≤ 3072) (hk : ∀ σ, Sim σ → ∃ σ', f_L_law_b1621 L xs k σ 0 93 (nI i) = some (1, σ')) (H : Sm σ S) : ∃ σ', f_L_law_b872 L xs k σ 0 93 (nI i) = some (1, σ') := by
  have l1 : ldX L xs (nI i + 1) = some (xs (i + 1)) := ldx L xs i 1 (by omega) hL
  have l2 : ldX L xs (nI i + 2) = some (xs (i + 2)) := ldx L xs i 2 (by omega) hL
  obtain ⟨r, σ1, σ2, h1, h2, h3⟩ := op_lockOf H (xs (i + 1)) (xs (i + 2))
  obtain ⟨σ', hs⟩ := hk σ2 h3
  refine ⟨σ', ?_⟩
  unfold f_L_law_b872
  exact bind_e l1 (bind_e l2 (b2_e h1 (bind_e l1 (bind_e l2 (b2_e h2 ((if_pos rfl).trans hs))))))
theorem g_905 (hi : i + 6 ≤ L) (hL : L ≤ 3072) (hk : ∀ σ, Sim σ → ∃ σ', f_L_law_b1621 L xs k σ 0 93 (nI i) = some (1, σ')) (H : Sm σ S) : ∃ σ', f_L_law_b905 L xs k σ 0 93 (nI i) = some (1, σ') := by
  have l1 : ldX L xs (nI i + 1) = some (xs (i + 1)) := ldx L xs i 1 (by omega) hL
  have l2 : ldX L xs (nI i + 2) = some (xs (i + 2)) := ldx L xs i 2 (by omega) hL
  have l3 : ldX L xs (nI i + 3) = some (xs (i + 3)) := ldx L xs i 3 (by omega) hL
  obtain ⟨r, σ1, σ2, h1, h2, h3⟩ := op_opens H (xs (i + 1)) (xs (i + 2)) (xs (i + 3))
  obtain ⟨σ', hs⟩ := hk σ2 h3
  refine ⟨σ', ?_⟩
  unfold f_L_law_b905
  exact bind_e l1 (bind_e l2 (bind_e l3 (b2_e h1 (bind_e l1 (bind_e l2 (bind_e l3 (b2_e h2 ((if_pos rfl).trans hs))))))))
theorem g_948 (hi : i + 6 ≤ L) (hL : L ≤ 3072) (hk : ∀ σ, Sim σ → ∃ σ', f_L_law_b1621 L xs k σ 0 93 (nI i) = some (1, σ')) (H : Sm σ S) : ∃ σ', f_L_law_b948 L xs k σ 0 93 (nI i) = some (1, σ') := by
  have l1 : ldX L xs (nI i + 1) = some (xs (i + 1)) := ldx L xs i 1 (by omega) hL
  obtain ⟨r, σ1, σ2, h1, h2, h3⟩ := op_opened H (xs (i + 1))
  obtain ⟨σ', hs⟩ := hk σ2 h3
  refine ⟨σ', ?_⟩
  unfold f_L_law_b948
  exact bind_e l1 (b2_e h1 (bind_e l1 (b2_e h2 ((if_pos rfl).trans hs))))
theorem g_971 (hi : i + 6 ≤ L) (hL : L ≤ 3072) (hk : ∀ σ, Sim σ → ∃ σ', f_L_law_b1621 L xs k σ 0 93 (nI i) = some (1, σ')) (H : Sm σ S) : ∃ σ', f_L_law_b971 L xs k σ 0 93 (nI i) = some (1, σ') := by
  have l1 : ldX L xs (nI i + 1) = some (xs (i + 1)) := ldx L xs i 1 (by omega) hL
  obtain ⟨r, σ1, σ2, h1, h2, h3⟩ := op_who H (xs (i + 1))
  obtain ⟨σ', hs⟩ := hk σ2 h3
  refine ⟨σ', ?_⟩
  unfold f_L_law_b971
  exact bind_e l1 (b2_e h1 (bind_e l1 (b2_e h2 ((if_pos rfl).trans hs))))
theorem g_994 (hi : i + 6 ≤ L) (hL : L ≤ 3072) (hk : ∀ σ, Sim σ → ∃ σ', f_L_law_b1621 L xs k σ 0 93 (nI i) = some (1, σ')) (H : Sm σ S) : ∃ σ', f_L_law_b994 L xs k σ 0 93 (nI i) = some (1, σ') := by
  obtain ⟨r, h1, h2⟩ := op_wrong H 
  obtain ⟨σ', hs⟩ := hk σ ⟨S, H⟩
  refine ⟨σ', ?_⟩
  unfold f_L_law_b994
  exact bind_e h1 (bind_e h2 ((if_pos rfl).trans hs))
theorem g_1007 (hi : i + 6 ≤ L) (hL : L ≤ 3072) (hk : ∀ σ, Sim σ → ∃ σ', f_L_law_b1621 L xs k σ 0 93 (nI i) = some (1, σ')) (H : Sm σ S) : ∃ σ', f_L_law_b1007 L xs k σ 0 93 (nI i) = some (1, σ') := by
  obtain ⟨r, h1, h2⟩ := op_wrongs H 
  obtain ⟨σ', hs⟩ := hk σ ⟨S, H⟩
  refine ⟨σ', ?_⟩
  unfold f_L_law_b1007
  exact bind_e h1 (bind_e h2 ((if_pos rfl).trans hs))
theorem g_1020 (hi : i + 6 ≤ L) (hL : L ≤ 3072) (hk : ∀ σ, Sim σ → ∃ σ', f_L_law_b1621 L xs k σ 0 93 (nI i) = some (1, σ')) (H : Sm σ S) : ∃ σ', f_L_law_b1020 L xs k σ 0 93 (nI i) = some (1, σ') := by
  have l1 : ldX L xs (nI i + 1) = some (xs (i + 1)) := ldx L xs i 1 (by omega) hL
  obtain ⟨r, σ1, σ2, h1, h2, h3⟩ := op_judge H (xs (i + 1))
  obtain ⟨σ', hs⟩ := hk σ2 h3
  refine ⟨σ', ?_⟩
  unfold f_L_law_b1020
  exact bind_e l1 (b2_e h1 (bind_e l1 (b2_e h2 ((if_pos rfl).trans hs))))
theorem g_1043 (hi : i + 6 ≤ L) (hL : L ≤ 3072) (hk : ∀ σ, Sim σ → ∃ σ', f_L_law_b1621 L xs k σ 0 93 (nI i) = some (1, σ')) (H : Sm σ S) : ∃ σ', f_L_law_b1043 L xs k σ 0 93 (nI i) = some (1, σ') := by
  have l1 : ldX L xs (nI i + 1) = some (xs (i + 1)) := ldx L xs i 1 (by omega) hL
  obtain ⟨r, σ1, σ2, h1, h2, h3⟩ := op_list H (xs (i + 1))
  obtain ⟨σ', hs⟩ := hk σ2 h3
  refine ⟨σ', ?_⟩
  unfold f_L_law_b1043
  exact bind_e l1 (b2_e h1 (bind_e l1 (b2_e h2 ((if_pos rfl).trans hs))))
theorem g_1066 (hi : i + 6 ≤ L) (hL : L ≤ 3072) (hk : ∀ σ, Sim σ → ∃ σ', f_L_law_b1621 L xs k σ 0 93 (nI i) = some (1, σ')) (H : Sm σ S) : ∃ σ', f_L_law_b1066 L xs k σ 0 93 (nI i) = some (1, σ') := by
  have l1 : ldX L xs (nI i + 1) = some (xs (i + 1)) := ldx L xs i 1 (by omega) hL
  have l2 : ldX L xs (nI i + 2) = some (xs (i + 2)) := ldx L xs i 2 (by omega) hL
  obtain ⟨r, σ1, σ2, h1, h2, h3⟩ := op_cuts H (xs (i + 1)) (xs (i + 2))
  obtain ⟨σ', hs⟩ := hk σ2 h3
  refine ⟨σ', ?_⟩
  unfold f_L_law_b1066
  exact bind_e l1 (bind_e l2 (b2_e h1 (bind_e l1 (bind_e l2 (b2_e h2 ((if_pos rfl).trans hs))))))
theorem g_1099 (hi : i + 6 ≤ L) (hL : L ≤ 3072) (hk : ∀ σ, Sim σ → ∃ σ', f_L_law_b1621 L xs k σ 0 93 (nI i) = some (1, σ')) (H : Sm σ S) : ∃ σ', f_L_law_b1099 L xs k σ 0 93 (nI i) = some (1, σ') := by
  have l1 : ldX L xs (nI i + 1) = some (xs (i + 1)) := ldx L xs i 1 (by omega) hL
  have l2 : ldX L xs (nI i + 2) = some (xs (i + 2)) := ldx L xs i 2 (by omega) hL
  obtain ⟨r, σ1, σ2, h1, h2, h3⟩ := op_asked H (xs (i + 1)) (xs (i + 2))
  obtain ⟨σ', hs⟩ := hk σ2 h3
  refine ⟨σ', ?_⟩
  unfold f_L_law_b1099
  exact bind_e l1 (bind_e l2 (b2_e h1 (bind_e l1 (bind_e l2 (b2_e h2 ((if_pos rfl).trans hs))))))
theorem g_1132 (hi : i + 6 ≤ L) (hL : L ≤ 3072) (hk : ∀ σ, Sim σ → ∃ σ', f_L_law_b1621 L xs k σ 0 93 (nI i) = some (1, σ')) (H : Sm σ S) : ∃ σ', f_L_law_b1132 L xs k σ 0 93 (nI i) = some (1, σ') := by
  have l1 : ldX L xs (nI i + 1) = some (xs (i + 1)) := ldx L xs i 1 (by omega) hL
  have l2 : ldX L xs (nI i + 2) = some (xs (i + 2)) := ldx L xs i 2 (by omega) hL
  obtain ⟨r, σ1, σ2, h1, h2, h3⟩ := op_toOpen H (xs (i + 1)) (xs (i + 2))
  obtain ⟨σ', hs⟩ := hk σ2 h3
  refine ⟨σ', ?_⟩
  unfold f_L_law_b1132
  exact bind_e l1 (bind_e l2 (b2_e h1 (bind_e l1 (bind_e l2 (b2_e h2 ((if_pos rfl).trans hs))))))
theorem g_1165 (hi : i + 6 ≤ L) (hL : L ≤ 3072) (hk : ∀ σ, Sim σ → ∃ σ', f_L_law_b1621 L xs k σ 0 93 (nI i) = some (1, σ')) (H : Sm σ S) : ∃ σ', f_L_law_b1165 L xs k σ 0 93 (nI i) = some (1, σ') := by
  have l1 : ldX L xs (nI i + 1) = some (xs (i + 1)) := ldx L xs i 1 (by omega) hL
  obtain ⟨r, σ1, σ2, h1, h2, h3⟩ := op_safe H (xs (i + 1))
  obtain ⟨σ', hs⟩ := hk σ2 h3
  refine ⟨σ', ?_⟩
  unfold f_L_law_b1165
  exact bind_e l1 (b2_e h1 (bind_e l1 (b2_e h2 ((if_pos rfl).trans hs))))
theorem g_1188 (hi : i + 6 ≤ L) (hL : L ≤ 3072) (hk : ∀ σ, Sim σ → ∃ σ', f_L_law_b1621 L xs k σ 0 93 (nI i) = some (1, σ')) (H : Sm σ S) : ∃ σ', f_L_law_b1188 L xs k σ 0 93 (nI i) = some (1, σ') := by
  obtain ⟨r, σ1, σ2, h1, h2, h3⟩ := op_safest H 
  obtain ⟨σ', hs⟩ := hk σ2 h3
  refine ⟨σ', ?_⟩
  unfold f_L_law_b1188
  exact b2_e h1 (b2_e h2 ((if_pos rfl).trans hs))
theorem g_1201 (hi : i + 6 ≤ L) (hL : L ≤ 3072) (hk : ∀ σ, Sim σ → ∃ σ', f_L_law_b1621 L xs k σ 0 93 (nI i) = some (1, σ')) (H : Sm σ S) : ∃ σ', f_L_law_b1201 L xs k σ 0 93 (nI i) = some (1, σ') := by
  have l1 : ldX L xs (nI i + 1) = some (xs (i + 1)) := ldx L xs i 1 (by omega) hL
  obtain ⟨r, σ1, σ2, h1, h2, h3⟩ := op_mended H (xs (i + 1))
  obtain ⟨σ', hs⟩ := hk σ2 h3
  refine ⟨σ', ?_⟩
  unfold f_L_law_b1201
  exact bind_e l1 (b2_e h1 (bind_e l1 (b2_e h2 ((if_pos rfl).trans hs))))
theorem g_1224 (hi : i + 6 ≤ L) (hL : L ≤ 3072) (hk : ∀ σ, Sim σ → ∃ σ', f_L_law_b1621 L xs k σ 0 93 (nI i) = some (1, σ')) (H : Sm σ S) : ∃ σ', f_L_law_b1224 L xs k σ 0 93 (nI i) = some (1, σ') := by
  have l1 : ldX L xs (nI i + 1) = some (xs (i + 1)) := ldx L xs i 1 (by omega) hL
  obtain ⟨r, σ1, σ2, h1, h2, h3⟩ := op_left H (xs (i + 1))
  obtain ⟨σ', hs⟩ := hk σ2 h3
  refine ⟨σ', ?_⟩
  unfold f_L_law_b1224
  exact bind_e l1 (b2_e h1 (bind_e l1 (b2_e h2 ((if_pos rfl).trans hs))))
theorem g_1247 (hi : i + 6 ≤ L) (hL : L ≤ 3072) (hk : ∀ σ, Sim σ → ∃ σ', f_L_law_b1621 L xs k σ 0 93 (nI i) = some (1, σ')) (H : Sm σ S) : ∃ σ', f_L_law_b1247 L xs k σ 0 93 (nI i) = some (1, σ') := by
  have l1 : ldX L xs (nI i + 1) = some (xs (i + 1)) := ldx L xs i 1 (by omega) hL
  obtain ⟨r, σ1, σ2, h1, h2, h3⟩ := op_idle H (xs (i + 1))
  obtain ⟨σ', hs⟩ := hk σ2 h3
  refine ⟨σ', ?_⟩
  unfold f_L_law_b1247
  exact bind_e l1 (b2_e h1 (bind_e l1 (b2_e h2 ((if_pos rfl).trans hs))))
theorem g_1270 (hi : i + 6 ≤ L) (hL : L ≤ 3072) (hk : ∀ σ, Sim σ → ∃ σ', f_L_law_b1621 L xs k σ 0 93 (nI i) = some (1, σ')) (H : Sm σ S) : ∃ σ', f_L_law_b1270 L xs k σ 0 93 (nI i) = some (1, σ') := by
  have l1 : ldX L xs (nI i + 1) = some (xs (i + 1)) := ldx L xs i 1 (by omega) hL
  have l2 : ldX L xs (nI i + 2) = some (xs (i + 2)) := ldx L xs i 2 (by omega) hL
  obtain ⟨r, σ1, σ2, h1, h2, h3⟩ := op_together H (xs (i + 1)) (xs (i + 2))
  obtain ⟨σ', hs⟩ := hk σ2 h3
  refine ⟨σ', ?_⟩
  unfold f_L_law_b1270
  exact bind_e l1 (bind_e l2 (b2_e h1 (bind_e l1 (bind_e l2 (b2_e h2 ((if_pos rfl).trans hs))))))
theorem g_1303 (hi : i + 6 ≤ L) (hL : L ≤ 3072) (hk : ∀ σ, Sim σ → ∃ σ', f_L_law_b1621 L xs k σ 0 93 (nI i) = some (1, σ')) (H : Sm σ S) : ∃ σ', f_L_law_b1303 L xs k σ 0 93 (nI i) = some (1, σ') := by
  obtain ⟨r, σ1, σ2, h1, h2, h3⟩ := op_pair H 
  obtain ⟨σ', hs⟩ := hk σ2 h3
  refine ⟨σ', ?_⟩
  unfold f_L_law_b1303
  exact b2_e h1 (b2_e h2 ((if_pos rfl).trans hs))
theorem g_1316 (hi : i + 6 ≤ L) (hL : L ≤ 3072) (hk : ∀ σ, Sim σ → ∃ σ', f_L_law_b1621 L xs k σ 0 93 (nI i) = some (1, σ')) (H : Sm σ S) : ∃ σ', f_L_law_b1316 L xs k σ 0 93 (nI i) = some (1, σ') := by
  obtain ⟨r, σ1, σ2, h1, h2, h3⟩ := op_unlike H
  have h4 : f_X6_unlike σ1 93 = some r ∧ σ1 = σ2 := by
    have h2' : (f_X6_unlike σ1 93).bind (fun v => some (v, σ1)) = some (r, σ2) := h2
    cases e : f_X6_unlike σ1 93 with
    | none => rw [e] at h2'; cases h2'
    | some v => rw [e] at h2'; cases h2'; exact ⟨rfl, rfl⟩
  obtain ⟨σ', hs⟩ := hk σ1 (h4.2 ▸ h3)
  refine ⟨σ', ?_⟩
  unfold f_L_law_b1316
  exact b2_e h1 (bind_e h4.1 ((if_pos rfl).trans hs))
theorem g_1329 (hi : i + 6 ≤ L) (hL : L ≤ 3072) (hk : ∀ σ, Sim σ → ∃ σ', f_L_law_b1621 L xs k σ 0 93 (nI i) = some (1, σ')) (H : Sm σ S) : ∃ σ', f_L_law_b1329 L xs k σ 0 93 (nI i) = some (1, σ') := by
  obtain ⟨r, h1, h2⟩ := op_alike H 
  obtain ⟨σ', hs⟩ := hk σ ⟨S, H⟩
  refine ⟨σ', ?_⟩
  unfold f_L_law_b1329
  exact bind_e h1 (bind_e h2 ((if_pos rfl).trans hs))
theorem g_1342 (hi : i + 6 ≤ L) (hL : L ≤ 3072) (hk : ∀ σ, Sim σ → ∃ σ', f_L_law_b1621 L xs k σ 0 93 (nI i) = some (1, σ')) (H : Sm σ S) : ∃ σ', f_L_law_b1342 L xs k σ 0 93 (nI i) = some (1, σ') := by
  have l1 : ldX L xs (nI i + 1) = some (xs (i + 1)) := ldx L xs i 1 (by omega) hL
  obtain ⟨r, σ1, σ2, h1, h2, h3⟩ := op_over H (xs (i + 1))
  obtain ⟨σ', hs⟩ := hk σ2 h3
  refine ⟨σ', ?_⟩
  unfold f_L_law_b1342
  exact bind_e l1 (b2_e h1 (bind_e l1 (b2_e h2 ((if_pos rfl).trans hs))))
theorem g_1365 (hi : i + 6 ≤ L) (hL : L ≤ 3072) (hk : ∀ σ, Sim σ → ∃ σ', f_L_law_b1621 L xs k σ 0 93 (nI i) = some (1, σ')) (H : Sm σ S) : ∃ σ', f_L_law_b1365 L xs k σ 0 93 (nI i) = some (1, σ') := by
  obtain ⟨r, σ1, σ2, h1, h2, h3⟩ := op_chain H 
  obtain ⟨σ', hs⟩ := hk σ2 h3
  refine ⟨σ', ?_⟩
  unfold f_L_law_b1365
  exact b2_e h1 (b2_e h2 ((if_pos rfl).trans hs))
theorem g_1378 (hi : i + 6 ≤ L) (hL : L ≤ 3072) (hk : ∀ σ, Sim σ → ∃ σ', f_L_law_b1621 L xs k σ 0 93 (nI i) = some (1, σ')) (H : Sm σ S) : ∃ σ', f_L_law_b1378 L xs k σ 0 93 (nI i) = some (1, σ') := by
  have l1 : ldX L xs (nI i + 1) = some (xs (i + 1)) := ldx L xs i 1 (by omega) hL
  obtain ⟨r, σ1, σ2, h1, h2, h3⟩ := op_ward H (xs (i + 1))
  obtain ⟨σ', hs⟩ := hk σ2 h3
  refine ⟨σ', ?_⟩
  unfold f_L_law_b1378
  exact bind_e l1 (b2_e h1 (bind_e l1 (b2_e h2 ((if_pos rfl).trans hs))))
theorem g_1401 (hi : i + 6 ≤ L) (hL : L ≤ 3072) (hk : ∀ σ, Sim σ → ∃ σ', f_L_law_b1621 L xs k σ 0 93 (nI i) = some (1, σ')) (H : Sm σ S) : ∃ σ', f_L_law_b1401 L xs k σ 0 93 (nI i) = some (1, σ') := by
  have l1 : ldX L xs (nI i + 1) = some (xs (i + 1)) := ldx L xs i 1 (by omega) hL
  have l2 : ldX L xs (nI i + 2) = some (xs (i + 2)) := ldx L xs i 2 (by omega) hL
  obtain ⟨r, σ1, σ2, h1, h2, h3⟩ := op_found H (xs (i + 1)) (xs (i + 2))
  obtain ⟨σ', hs⟩ := hk σ2 h3
  refine ⟨σ', ?_⟩
  unfold f_L_law_b1401
  exact bind_e l1 (bind_e l2 (b2_e h1 (bind_e l1 (bind_e l2 (b2_e h2 ((if_pos rfl).trans hs))))))
theorem g_1434 (hi : i + 6 ≤ L) (hL : L ≤ 3072) (hk : ∀ σ, Sim σ → ∃ σ', f_L_law_b1621 L xs k σ 0 93 (nI i) = some (1, σ')) (H : Sm σ S) : ∃ σ', f_L_law_b1434 L xs k σ 0 93 (nI i) = some (1, σ') := by
  have l1 : ldX L xs (nI i + 1) = some (xs (i + 1)) := ldx L xs i 1 (by omega) hL
  obtain ⟨r, σ1, σ2, h1, h2, h3⟩ := op_many H (xs (i + 1))
  obtain ⟨σ', hs⟩ := hk σ2 h3
  refine ⟨σ', ?_⟩
  unfold f_L_law_b1434
  exact bind_e l1 (b2_e h1 (bind_e l1 (b2_e h2 ((if_pos rfl).trans hs))))
theorem g_1457 (hi : i + 6 ≤ L) (hL : L ≤ 3072) (hk : ∀ σ, Sim σ → ∃ σ', f_L_law_b1621 L xs k σ 0 93 (nI i) = some (1, σ')) (H : Sm σ S) : ∃ σ', f_L_law_b1457 L xs k σ 0 93 (nI i) = some (1, σ') := by
  have l1 : ldX L xs (nI i + 1) = some (xs (i + 1)) := ldx L xs i 1 (by omega) hL
  have l2 : ldX L xs (nI i + 2) = some (xs (i + 2)) := ldx L xs i 2 (by omega) hL
  obtain ⟨r, σ1, σ2, h1, h2, h3⟩ := op_use H (xs (i + 1)) (xs (i + 2))
  obtain ⟨σ', hs⟩ := hk σ2 h3
  refine ⟨σ', ?_⟩
  unfold f_L_law_b1457
  exact bind_e l1 (bind_e l2 (b2_e h1 (bind_e l1 (bind_e l2 (b2_e h2 ((if_pos rfl).trans hs))))))
theorem g_1490 (hi : i + 6 ≤ L) (hL : L ≤ 3072) (hk : ∀ σ, Sim σ → ∃ σ', f_L_law_b1621 L xs k σ 0 93 (nI i) = some (1, σ')) (H : Sm σ S) : ∃ σ', f_L_law_b1490 L xs k σ 0 93 (nI i) = some (1, σ') := by
  have l1 : ldX L xs (nI i + 1) = some (xs (i + 1)) := ldx L xs i 1 (by omega) hL
  obtain ⟨r, σ1, σ2, h1, h2, h3⟩ := op_days H (xs (i + 1))
  obtain ⟨σ', hs⟩ := hk σ2 h3
  refine ⟨σ', ?_⟩
  unfold f_L_law_b1490
  exact bind_e l1 (b2_e h1 (bind_e l1 (b2_e h2 ((if_pos rfl).trans hs))))
theorem g_1513 (hi : i + 6 ≤ L) (hL : L ≤ 3072) (hk : ∀ σ, Sim σ → ∃ σ', f_L_law_b1621 L xs k σ 0 93 (nI i) = some (1, σ')) (H : Sm σ S) : ∃ σ', f_L_law_b1513 L xs k σ 0 93 (nI i) = some (1, σ') := by
  have l1 : ldX L xs (nI i + 1) = some (xs (i + 1)) := ldx L xs i 1 (by omega) hL
  obtain ⟨r, σ1, σ2, h1, h2, h3⟩ := op_renew H (xs (i + 1))
  obtain ⟨σ', hs⟩ := hk σ2 h3
  refine ⟨σ', ?_⟩
  unfold f_L_law_b1513
  exact bind_e l1 (b2_e h1 (bind_e l1 (b2_e h2 ((if_pos rfl).trans hs))))
theorem g_1536 (hi : i + 6 ≤ L) (hL : L ≤ 3072) (hk : ∀ σ, Sim σ → ∃ σ', f_L_law_b1621 L xs k σ 0 93 (nI i) = some (1, σ')) (H : Sm σ S) : ∃ σ', f_L_law_b1536 L xs k σ 0 93 (nI i) = some (1, σ') := by
  obtain ⟨r, σ1, σ2, h1, h2, h3⟩ := op_mend H 
  obtain ⟨σ', hs⟩ := hk σ2 h3
  refine ⟨σ', ?_⟩
  unfold f_L_law_b1536
  exact b2_e h1 (b2_e h2 ((if_pos rfl).trans hs))
theorem g_1549 (hi : i + 6 ≤ L) (hL : L ≤ 3072) (hk : ∀ σ, Sim σ → ∃ σ', f_L_law_b1621 L xs k σ 0 93 (nI i) = some (1, σ')) (H : Sm σ S) : ∃ σ', f_L_law_b1549 L xs k σ 0 93 (nI i) = some (1, σ') := by
  have l1 : ldX L xs (nI i + 1) = some (xs (i + 1)) := ldx L xs i 1 (by omega) hL
  obtain ⟨r, σ1, σ2, h1, h2, h3⟩ := op_seed H (xs (i + 1))
  obtain ⟨σ', hs⟩ := hk σ2 h3
  refine ⟨σ', ?_⟩
  unfold f_L_law_b1549
  exact bind_e l1 (b2_e h1 (bind_e l1 (b2_e h2 ((if_pos rfl).trans hs))))
theorem g_1572 (hi : i + 6 ≤ L) (hL : L ≤ 3072) (hk : ∀ σ, Sim σ → ∃ σ', f_L_law_b1621 L xs k σ 0 93 (nI i) = some (1, σ')) (H : Sm σ S) : ∃ σ', f_L_law_b1572 L xs k σ 0 93 (nI i) = some (1, σ') := by
  obtain ⟨r, σ1, σ2, h1, h2, h3⟩ := op_image H 
  obtain ⟨σ', hs⟩ := hk σ2 h3
  refine ⟨σ', ?_⟩
  unfold f_L_law_b1572
  exact b2_e h1 (b2_e h2 ((if_pos rfl).trans hs))
theorem g_1585 (hi : i + 6 ≤ L) (hL : L ≤ 3072) (hk : ∀ σ, Sim σ → ∃ σ', f_L_law_b1621 L xs k σ 0 93 (nI i) = some (1, σ')) (H : Sm σ S) : ∃ σ', f_L_law_b1585 L xs k σ 0 93 (nI i) = some (1, σ') := by
  obtain ⟨r, σ1, σ2, h1, h2, h3⟩ := op_back H 
  obtain ⟨σ', hs⟩ := hk σ2 h3
  refine ⟨σ', ?_⟩
  unfold f_L_law_b1585
  exact b2_e h1 (b2_e h2 ((if_pos rfl).trans hs))
theorem g_1598 (hi : i + 6 ≤ L) (hL : L ≤ 3072) (hk : ∀ σ, Sim σ → ∃ σ', f_L_law_b1621 L xs k σ 0 93 (nI i) = some (1, σ')) (H : Sm σ S) : ∃ σ', f_L_law_b1598 L xs k σ 0 93 (nI i) = some (1, σ') := by
  have l1 : ldX L xs (nI i + 1) = some (xs (i + 1)) := ldx L xs i 1 (by omega) hL
  obtain ⟨r, h1, h2⟩ := op_status H (xs (i + 1))
  obtain ⟨σ', hs⟩ := hk σ ⟨S, H⟩
  refine ⟨σ', ?_⟩
  unfold f_L_law_b1598
  exact bind_e l1 (bind_e h1 (bind_e l1 (bind_e h2 ((if_pos rfl).trans hs))))
theorem g_18 (hL : L ≤ 3072) (hk : ∀ σ, Sim σ → ∃ σ', f_L_law_b1621 L xs k σ 0 93 (nI i) = some (1, σ')) (H : Sm σ S) (hq : ¬ nI L - 6 < nI i) (hi : i + 6 ≤ L) : ∃ σ', f_L_law_b18 L xs k σ 0 93 (nI i) = some (1, σ') := by
  have l0 : ldX L xs (nI i) = some (xs i) := by
    unfold ldX
    rw [nI_clamp (by omega), if_neg]
    rintro (z | z)
    · exact absurd z (nI_pos (by omega))
    · omega
  unfold f_L_law_b18
  rw [if_neg hq, l0, bind_s]
  refine ex_ite (g_248 hi hL hk H) ?_
  refine ex_ite (g_291 hi hL hk H) ?_
  refine ex_ite (g_364 hi hL hk H) ?_
  refine ex_ite (g_427 hi hL hk H) ?_
  refine ex_ite (g_461 hi hL hk H) ?_
  refine ex_ite (g_484 hi hL hk H) ?_
  refine ex_ite (g_517 hi hL hk H) ?_
  refine ex_ite (g_550 hi hL hk H) ?_
  refine ex_ite (g_583 hi hL hk H) ?_
  refine ex_ite (g_616 hi hL hk H) ?_
  refine ex_ite (g_655 hi hL hk H) ?_
  refine ex_ite (g_698 hi hL hk H) ?_
  refine ex_ite (g_757 hi hL hk H) ?_
  refine ex_ite (g_790 hi hL hk H) ?_
  refine ex_ite (g_813 hi hL hk H) ?_
  refine ex_ite (g_826 hi hL hk H) ?_
  refine ex_ite (g_839 hi hL hk H) ?_
  refine ex_ite (g_872 hi hL hk H) ?_
  refine ex_ite (g_905 hi hL hk H) ?_
  refine ex_ite (g_948 hi hL hk H) ?_
  refine ex_ite (g_971 hi hL hk H) ?_
  refine ex_ite (g_994 hi hL hk H) ?_
  refine ex_ite (g_1007 hi hL hk H) ?_
  refine ex_ite (g_1020 hi hL hk H) ?_
  refine ex_ite (g_1043 hi hL hk H) ?_
  refine ex_ite (g_1066 hi hL hk H) ?_
  refine ex_ite (g_1099 hi hL hk H) ?_
  refine ex_ite (g_1132 hi hL hk H) ?_
  refine ex_ite (g_1165 hi hL hk H) ?_
  refine ex_ite (g_1188 hi hL hk H) ?_
  refine ex_ite (g_1201 hi hL hk H) ?_
  refine ex_ite (g_1224 hi hL hk H) ?_
  refine ex_ite (g_1247 hi hL hk H) ?_
  refine ex_ite (g_1270 hi hL hk H) ?_
  refine ex_ite (g_1303 hi hL hk H) ?_
  refine ex_ite (g_1316 hi hL hk H) ?_
  refine ex_ite (g_1329 hi hL hk H) ?_
  refine ex_ite (g_1342 hi hL hk H) ?_
  refine ex_ite (g_1365 hi hL hk H) ?_
  refine ex_ite (g_1378 hi hL hk H) ?_
  refine ex_ite (g_1401 hi hL hk H) ?_
  refine ex_ite (g_1434 hi hL hk H) ?_
  refine ex_ite (g_1457 hi hL hk H) ?_
  refine ex_ite (g_1490 hi hL hk H) ?_
  refine ex_ite (g_1513 hi hL hk H) ?_
  refine ex_ite (g_1536 hi hL hk H) ?_
  refine ex_ite (g_1549 hi hL hk H) ?_
  refine ex_ite (g_1572 hi hL hk H) ?_
  refine ex_ite (g_1585 hi hL hk H) ?_
  refine ex_ite (g_1598 hi hL hk H) ?_
  exact hk σ ⟨S, H⟩
theorem neg6a : ∀ L, L < 6 → nI L - 6 < 0 := by decide +kernel
theorem neg6 (L : Nat) (h : L < 6) (i : Nat) (hi : i < 3200) : nI L - 6 < nI i := by
  have h1 := Int32.lt_iff_toInt_lt.mp (neg6a L h)
  have h2 := Int32.le_iff_toInt_le.mp (show (0 : Int32) ≤ nI i from nI_le (a := 0) (b := i) (Nat.zero_le _) (by omega))
  exact Int32.lt_iff_toInt_lt.mpr (Int.lt_of_lt_of_le h1 h2)
theorem law_e (hL : L ≤ 3072) (h : nI L - 6 < nI i ∨ i + 6 ≤ L) : nI L - 6 < nI i ∨ (¬ nI L - 6 < nI i ∧ i + 6 ≤ L) := by
  by_cases q : nI L - 6 < nI i
  · exact Or.inl q
  · exact Or.inr ⟨q, h.resolve_left q⟩
theorem law_d (hL : L ≤ 3072) (hi : i < 3200) : nI L - 6 < nI i ∨ i + 6 ≤ L := by
  by_cases q : L < 6
  · exact Or.inl (neg6 L q i hi)
  · by_cases w : i + 6 ≤ L
    · exact Or.inr w
    · refine Or.inl ?_
      rw [show (6 : Int32) = nI 6 from rfl, pk_sub (by omega)]
      exact (nI_ltI (a := L - 6) (b := i) (by omega) (by omega)).mpr (by omega)
theorem law_l (hL : L ≤ 3072) : ∀ f i σ, i ≤ L + 6 → L + 12 ≤ i + 6 * f → Sim σ → ∃ σ', f_L_law_l18 L xs f σ 0 93 (nI i) = some (1, σ')
  | 0, i, σ, h1, h2, _ => by omega
  | f + 1, i, σ, h1, h2, ⟨S, H⟩ => by
    show ∃ σ', f_L_law_b18 L xs (f_L_law_l18 L xs f) σ 0 93 (nI i) = some (1, σ')
    rcases law_e hL (law_d (L := L) (i := i) hL (by omega)) with q | ⟨q, hi⟩
    · unfold f_L_law_b18
      exact ⟨σ, if_pos q⟩
    · refine g_18 hL (fun σ2 h => ?_) H q hi
      obtain ⟨σ', hs⟩ := law_l hL f (i + 6) σ2 (by omega) (by omega) h
      refine ⟨σ', ?_⟩
      unfold f_L_law_b1621
      refine bind_e (a := nI (i + 6)) ?_ hs
      rw [show (6 : Int32) = nI 6 from rfl, nI_add]
end LAW
theorem law_pure (L : Nat) (hL : L ≤ 3072) (xs : Nat → Int32) : ∃ σ', f_L_law_l18 L xs FU s0 0 93 0 = some (1, σ') := law_l (xs := xs) hL FU 0 s0 (by omega) (by show L + 12 ≤ 0 + 6 * 4000; omega) sim0
