/-! numbers: what simp reads (their side conditions by omega) -/
theorem nle {a b : Nat} (ha : a < 2 ^ 31) (hb : b < 2 ^ 31) : (nI a ≤ nI b) = (a ≤ b) := propext ⟨fun h => Nat.le_of_not_lt fun q => nI_ge q ha h, fun h => nI_le h hb⟩
theorem nlt {a b : Nat} (ha : a < 2 ^ 31) (hb : b < 2 ^ 31) : (nI a < nI b) = (a < b) := propext (nI_ltI ha hb)
theorem neq {a b : Nat} (ha : a < 2 ^ 31) (hb : b < 2 ^ 31) : (nI a = nI b) = (a = b) := propext (nI_eq ha hb)
theorem neqm {a : Nat} (ha : a < 2 ^ 31) : (nI a = -1) = False := propext ⟨fun h => nm1_ne a ha h, False.elim⟩
theorem nmeq {a : Nat} (ha : a < 2 ^ 31) : (-1 = nI a) = False := propext ⟨fun h => nm1_ne a ha h.symm, False.elim⟩
theorem nlem {a : Nat} (ha : a < 2 ^ 31) : (nI a ≤ -1) = False := propext ⟨fun h => nm1_lt a ha h, False.elim⟩
theorem npred {a : Nat} (h : 1 ≤ a) : nI a - 1 = nI (a - 1) := pk_sub h
theorem i_ge {x y : Int32} : x ≥ y ↔ y ≤ x := Iff.rfl
theorem ne0 {a : Nat} (ha : a < 2 ^ 31) : (nI a = 0) = (a = 0) := neq ha (Nat.lt_of_lt_of_le (show 0 < 1024 by decide) (by decide))
theorem nl0 {a : Nat} (ha : a < 2 ^ 31) : (nI a ≤ 0) = (a ≤ 0) := nle ha (Nat.lt_of_lt_of_le (show 0 < 1024 by decide) (by decide))
theorem nk0 {a : Nat} (ha : a < 2 ^ 31) : (0 ≤ nI a) = (0 ≤ a) := nle (Nat.lt_of_lt_of_le (show 0 < 1024 by decide) (by decide)) ha
theorem nt0 {a : Nat} (ha : a < 2 ^ 31) : (nI a < 0) = (a < 0) := nlt ha (Nat.lt_of_lt_of_le (show 0 < 1024 by decide) (by decide))
theorem nu0 {a : Nat} (ha : a < 2 ^ 31) : (0 < nI a) = (0 < a) := nlt (Nat.lt_of_lt_of_le (show 0 < 1024 by decide) (by decide)) ha
theorem ne1 {a : Nat} (ha : a < 2 ^ 31) : (nI a = 1) = (a = 1) := neq ha (Nat.lt_of_lt_of_le (show 1 < 1024 by decide) (by decide))
theorem nl1 {a : Nat} (ha : a < 2 ^ 31) : (nI a ≤ 1) = (a ≤ 1) := nle ha (Nat.lt_of_lt_of_le (show 1 < 1024 by decide) (by decide))
theorem nk1 {a : Nat} (ha : a < 2 ^ 31) : (1 ≤ nI a) = (1 ≤ a) := nle (Nat.lt_of_lt_of_le (show 1 < 1024 by decide) (by decide)) ha
theorem nt1 {a : Nat} (ha : a < 2 ^ 31) : (nI a < 1) = (a < 1) := nlt ha (Nat.lt_of_lt_of_le (show 1 < 1024 by decide) (by decide))
theorem nu1 {a : Nat} (ha : a < 2 ^ 31) : (1 < nI a) = (1 < a) := nlt (Nat.lt_of_lt_of_le (show 1 < 1024 by decide) (by decide)) ha
theorem ne2 {a : Nat} (ha : a < 2 ^ 31) : (nI a = 2) = (a = 2) := neq ha (Nat.lt_of_lt_of_le (show 2 < 1024 by decide) (by decide))
theorem nl2 {a : Nat} (ha : a < 2 ^ 31) : (nI a ≤ 2) = (a ≤ 2) := nle ha (Nat.lt_of_lt_of_le (show 2 < 1024 by decide) (by decide))
theorem nk2 {a : Nat} (ha : a < 2 ^ 31) : (2 ≤ nI a) = (2 ≤ a) := nle (Nat.lt_of_lt_of_le (show 2 < 1024 by decide) (by decide)) ha
theorem nt2 {a : Nat} (ha : a < 2 ^ 31) : (nI a < 2) = (a < 2) := nlt ha (Nat.lt_of_lt_of_le (show 2 < 1024 by decide) (by decide))
theorem nu2 {a : Nat} (ha : a < 2 ^ 31) : (2 < nI a) = (2 < a) := nlt (Nat.lt_of_lt_of_le (show 2 < 1024 by decide) (by decide)) ha
theorem na2 (a : Nat) : nI a + 2 = nI (a + 2) := nI_add a 2
theorem nb2 (a : Nat) : 2 + nI a = nI (2 + a) := nI_add 2 a
theorem ns2 {a : Nat} (h : 2 ≤ a) : nI a - 2 = nI (a - 2) := pk_sub h
theorem ne3 {a : Nat} (ha : a < 2 ^ 31) : (nI a = 3) = (a = 3) := neq ha (Nat.lt_of_lt_of_le (show 3 < 1024 by decide) (by decide))
theorem nl3 {a : Nat} (ha : a < 2 ^ 31) : (nI a ≤ 3) = (a ≤ 3) := nle ha (Nat.lt_of_lt_of_le (show 3 < 1024 by decide) (by decide))
theorem nk3 {a : Nat} (ha : a < 2 ^ 31) : (3 ≤ nI a) = (3 ≤ a) := nle (Nat.lt_of_lt_of_le (show 3 < 1024 by decide) (by decide)) ha
theorem nt3 {a : Nat} (ha : a < 2 ^ 31) : (nI a < 3) = (a < 3) := nlt ha (Nat.lt_of_lt_of_le (show 3 < 1024 by decide) (by decide))
theorem nu3 {a : Nat} (ha : a < 2 ^ 31) : (3 < nI a) = (3 < a) := nlt (Nat.lt_of_lt_of_le (show 3 < 1024 by decide) (by decide)) ha
theorem na3 (a : Nat) : nI a + 3 = nI (a + 3) := nI_add a 3
theorem nb3 (a : Nat) : 3 + nI a = nI (3 + a) := nI_add 3 a
theorem ns3 {a : Nat} (h : 3 ≤ a) : nI a - 3 = nI (a - 3) := pk_sub h
theorem ne4 {a : Nat} (ha : a < 2 ^ 31) : (nI a = 4) = (a = 4) := neq ha (Nat.lt_of_lt_of_le (show 4 < 1024 by decide) (by decide))
theorem nl4 {a : Nat} (ha : a < 2 ^ 31) : (nI a ≤ 4) = (a ≤ 4) := nle ha (Nat.lt_of_lt_of_le (show 4 < 1024 by decide) (by decide))
theorem nk4 {a : Nat} (ha : a < 2 ^ 31) : (4 ≤ nI a) = (4 ≤ a) := nle (Nat.lt_of_lt_of_le (show 4 < 1024 by decide) (by decide)) ha
theorem nt4 {a : Nat} (ha : a < 2 ^ 31) : (nI a < 4) = (a < 4) := nlt ha (Nat.lt_of_lt_of_le (show 4 < 1024 by decide) (by decide))
theorem nu4 {a : Nat} (ha : a < 2 ^ 31) : (4 < nI a) = (4 < a) := nlt (Nat.lt_of_lt_of_le (show 4 < 1024 by decide) (by decide)) ha
theorem na4 (a : Nat) : nI a + 4 = nI (a + 4) := nI_add a 4
theorem nb4 (a : Nat) : 4 + nI a = nI (4 + a) := nI_add 4 a
theorem ns4 {a : Nat} (h : 4 ≤ a) : nI a - 4 = nI (a - 4) := pk_sub h
theorem ne5 {a : Nat} (ha : a < 2 ^ 31) : (nI a = 5) = (a = 5) := neq ha (Nat.lt_of_lt_of_le (show 5 < 1024 by decide) (by decide))
theorem nl5 {a : Nat} (ha : a < 2 ^ 31) : (nI a ≤ 5) = (a ≤ 5) := nle ha (Nat.lt_of_lt_of_le (show 5 < 1024 by decide) (by decide))
theorem nk5 {a : Nat} (ha : a < 2 ^ 31) : (5 ≤ nI a) = (5 ≤ a) := nle (Nat.lt_of_lt_of_le (show 5 < 1024 by decide) (by decide)) ha
theorem nt5 {a : Nat} (ha : a < 2 ^ 31) : (nI a < 5) = (a < 5) := nlt ha (Nat.lt_of_lt_of_le (show 5 < 1024 by decide) (by decide))
theorem nu5 {a : Nat} (ha : a < 2 ^ 31) : (5 < nI a) = (5 < a) := nlt (Nat.lt_of_lt_of_le (show 5 < 1024 by decide) (by decide)) ha
theorem na5 (a : Nat) : nI a + 5 = nI (a + 5) := nI_add a 5
theorem nb5 (a : Nat) : 5 + nI a = nI (5 + a) := nI_add 5 a
theorem nm5 (a : Nat) : nI a * 5 = nI (a * 5) := pk_mul a 5
theorem nn5 (a : Nat) : 5 * nI a = nI (5 * a) := pk_mul 5 a
theorem ns5 {a : Nat} (h : 5 ≤ a) : nI a - 5 = nI (a - 5) := pk_sub h
theorem ne6 {a : Nat} (ha : a < 2 ^ 31) : (nI a = 6) = (a = 6) := neq ha (Nat.lt_of_lt_of_le (show 6 < 1024 by decide) (by decide))
theorem nl6 {a : Nat} (ha : a < 2 ^ 31) : (nI a ≤ 6) = (a ≤ 6) := nle ha (Nat.lt_of_lt_of_le (show 6 < 1024 by decide) (by decide))
theorem nk6 {a : Nat} (ha : a < 2 ^ 31) : (6 ≤ nI a) = (6 ≤ a) := nle (Nat.lt_of_lt_of_le (show 6 < 1024 by decide) (by decide)) ha
theorem nt6 {a : Nat} (ha : a < 2 ^ 31) : (nI a < 6) = (a < 6) := nlt ha (Nat.lt_of_lt_of_le (show 6 < 1024 by decide) (by decide))
theorem nu6 {a : Nat} (ha : a < 2 ^ 31) : (6 < nI a) = (6 < a) := nlt (Nat.lt_of_lt_of_le (show 6 < 1024 by decide) (by decide)) ha
theorem na6 (a : Nat) : nI a + 6 = nI (a + 6) := nI_add a 6
theorem nb6 (a : Nat) : 6 + nI a = nI (6 + a) := nI_add 6 a
theorem ns6 {a : Nat} (h : 6 ≤ a) : nI a - 6 = nI (a - 6) := pk_sub h
theorem ne7 {a : Nat} (ha : a < 2 ^ 31) : (nI a = 7) = (a = 7) := neq ha (Nat.lt_of_lt_of_le (show 7 < 1024 by decide) (by decide))
theorem nl7 {a : Nat} (ha : a < 2 ^ 31) : (nI a ≤ 7) = (a ≤ 7) := nle ha (Nat.lt_of_lt_of_le (show 7 < 1024 by decide) (by decide))
theorem nk7 {a : Nat} (ha : a < 2 ^ 31) : (7 ≤ nI a) = (7 ≤ a) := nle (Nat.lt_of_lt_of_le (show 7 < 1024 by decide) (by decide)) ha
theorem nt7 {a : Nat} (ha : a < 2 ^ 31) : (nI a < 7) = (a < 7) := nlt ha (Nat.lt_of_lt_of_le (show 7 < 1024 by decide) (by decide))
theorem nu7 {a : Nat} (ha : a < 2 ^ 31) : (7 < nI a) = (7 < a) := nlt (Nat.lt_of_lt_of_le (show 7 < 1024 by decide) (by decide)) ha
theorem na7 (a : Nat) : nI a + 7 = nI (a + 7) := nI_add a 7
theorem nb7 (a : Nat) : 7 + nI a = nI (7 + a) := nI_add 7 a
theorem ns7 {a : Nat} (h : 7 ≤ a) : nI a - 7 = nI (a - 7) := pk_sub h
theorem ne8 {a : Nat} (ha : a < 2 ^ 31) : (nI a = 8) = (a = 8) := neq ha (Nat.lt_of_lt_of_le (show 8 < 1024 by decide) (by decide))
theorem nl8 {a : Nat} (ha : a < 2 ^ 31) : (nI a ≤ 8) = (a ≤ 8) := nle ha (Nat.lt_of_lt_of_le (show 8 < 1024 by decide) (by decide))
theorem nk8 {a : Nat} (ha : a < 2 ^ 31) : (8 ≤ nI a) = (8 ≤ a) := nle (Nat.lt_of_lt_of_le (show 8 < 1024 by decide) (by decide)) ha
theorem nt8 {a : Nat} (ha : a < 2 ^ 31) : (nI a < 8) = (a < 8) := nlt ha (Nat.lt_of_lt_of_le (show 8 < 1024 by decide) (by decide))
theorem nu8 {a : Nat} (ha : a < 2 ^ 31) : (8 < nI a) = (8 < a) := nlt (Nat.lt_of_lt_of_le (show 8 < 1024 by decide) (by decide)) ha
theorem na8 (a : Nat) : nI a + 8 = nI (a + 8) := nI_add a 8
theorem nb8 (a : Nat) : 8 + nI a = nI (8 + a) := nI_add 8 a
theorem ns8 {a : Nat} (h : 8 ≤ a) : nI a - 8 = nI (a - 8) := pk_sub h
theorem ne9 {a : Nat} (ha : a < 2 ^ 31) : (nI a = 9) = (a = 9) := neq ha (Nat.lt_of_lt_of_le (show 9 < 1024 by decide) (by decide))
theorem nl9 {a : Nat} (ha : a < 2 ^ 31) : (nI a ≤ 9) = (a ≤ 9) := nle ha (Nat.lt_of_lt_of_le (show 9 < 1024 by decide) (by decide))
theorem nk9 {a : Nat} (ha : a < 2 ^ 31) : (9 ≤ nI a) = (9 ≤ a) := nle (Nat.lt_of_lt_of_le (show 9 < 1024 by decide) (by decide)) ha
theorem nt9 {a : Nat} (ha : a < 2 ^ 31) : (nI a < 9) = (a < 9) := nlt ha (Nat.lt_of_lt_of_le (show 9 < 1024 by decide) (by decide))
theorem nu9 {a : Nat} (ha : a < 2 ^ 31) : (9 < nI a) = (9 < a) := nlt (Nat.lt_of_lt_of_le (show 9 < 1024 by decide) (by decide)) ha
theorem na9 (a : Nat) : nI a + 9 = nI (a + 9) := nI_add a 9
theorem nb9 (a : Nat) : 9 + nI a = nI (9 + a) := nI_add 9 a
theorem ns9 {a : Nat} (h : 9 ≤ a) : nI a - 9 = nI (a - 9) := pk_sub h
theorem ne10 {a : Nat} (ha : a < 2 ^ 31) : (nI a = 10) = (a = 10) := neq ha (Nat.lt_of_lt_of_le (show 10 < 1024 by decide) (by decide))
theorem nl10 {a : Nat} (ha : a < 2 ^ 31) : (nI a ≤ 10) = (a ≤ 10) := nle ha (Nat.lt_of_lt_of_le (show 10 < 1024 by decide) (by decide))
theorem nk10 {a : Nat} (ha : a < 2 ^ 31) : (10 ≤ nI a) = (10 ≤ a) := nle (Nat.lt_of_lt_of_le (show 10 < 1024 by decide) (by decide)) ha
theorem nt10 {a : Nat} (ha : a < 2 ^ 31) : (nI a < 10) = (a < 10) := nlt ha (Nat.lt_of_lt_of_le (show 10 < 1024 by decide) (by decide))
theorem nu10 {a : Nat} (ha : a < 2 ^ 31) : (10 < nI a) = (10 < a) := nlt (Nat.lt_of_lt_of_le (show 10 < 1024 by decide) (by decide)) ha
theorem na10 (a : Nat) : nI a + 10 = nI (a + 10) := nI_add a 10
theorem nb10 (a : Nat) : 10 + nI a = nI (10 + a) := nI_add 10 a
theorem nm10 (a : Nat) : nI a * 10 = nI (a * 10) := pk_mul a 10
theorem nn10 (a : Nat) : 10 * nI a = nI (10 * a) := pk_mul 10 a
theorem ns10 {a : Nat} (h : 10 ≤ a) : nI a - 10 = nI (a - 10) := pk_sub h
theorem ne16 {a : Nat} (ha : a < 2 ^ 31) : (nI a = 16) = (a = 16) := neq ha (Nat.lt_of_lt_of_le (show 16 < 1024 by decide) (by decide))
theorem nl16 {a : Nat} (ha : a < 2 ^ 31) : (nI a ≤ 16) = (a ≤ 16) := nle ha (Nat.lt_of_lt_of_le (show 16 < 1024 by decide) (by decide))
theorem nk16 {a : Nat} (ha : a < 2 ^ 31) : (16 ≤ nI a) = (16 ≤ a) := nle (Nat.lt_of_lt_of_le (show 16 < 1024 by decide) (by decide)) ha
theorem nt16 {a : Nat} (ha : a < 2 ^ 31) : (nI a < 16) = (a < 16) := nlt ha (Nat.lt_of_lt_of_le (show 16 < 1024 by decide) (by decide))
theorem nu16 {a : Nat} (ha : a < 2 ^ 31) : (16 < nI a) = (16 < a) := nlt (Nat.lt_of_lt_of_le (show 16 < 1024 by decide) (by decide)) ha
theorem na16 (a : Nat) : nI a + 16 = nI (a + 16) := nI_add a 16
theorem nb16 (a : Nat) : 16 + nI a = nI (16 + a) := nI_add 16 a
theorem ns16 {a : Nat} (h : 16 ≤ a) : nI a - 16 = nI (a - 16) := pk_sub h
theorem ne18 {a : Nat} (ha : a < 2 ^ 31) : (nI a = 18) = (a = 18) := neq ha (Nat.lt_of_lt_of_le (show 18 < 1024 by decide) (by decide))
theorem nl18 {a : Nat} (ha : a < 2 ^ 31) : (nI a ≤ 18) = (a ≤ 18) := nle ha (Nat.lt_of_lt_of_le (show 18 < 1024 by decide) (by decide))
theorem nk18 {a : Nat} (ha : a < 2 ^ 31) : (18 ≤ nI a) = (18 ≤ a) := nle (Nat.lt_of_lt_of_le (show 18 < 1024 by decide) (by decide)) ha
theorem nt18 {a : Nat} (ha : a < 2 ^ 31) : (nI a < 18) = (a < 18) := nlt ha (Nat.lt_of_lt_of_le (show 18 < 1024 by decide) (by decide))
theorem nu18 {a : Nat} (ha : a < 2 ^ 31) : (18 < nI a) = (18 < a) := nlt (Nat.lt_of_lt_of_le (show 18 < 1024 by decide) (by decide)) ha
theorem na18 (a : Nat) : nI a + 18 = nI (a + 18) := nI_add a 18
theorem nb18 (a : Nat) : 18 + nI a = nI (18 + a) := nI_add 18 a
theorem ns18 {a : Nat} (h : 18 ≤ a) : nI a - 18 = nI (a - 18) := pk_sub h
theorem ne20 {a : Nat} (ha : a < 2 ^ 31) : (nI a = 20) = (a = 20) := neq ha (Nat.lt_of_lt_of_le (show 20 < 1024 by decide) (by decide))
theorem nl20 {a : Nat} (ha : a < 2 ^ 31) : (nI a ≤ 20) = (a ≤ 20) := nle ha (Nat.lt_of_lt_of_le (show 20 < 1024 by decide) (by decide))
theorem nk20 {a : Nat} (ha : a < 2 ^ 31) : (20 ≤ nI a) = (20 ≤ a) := nle (Nat.lt_of_lt_of_le (show 20 < 1024 by decide) (by decide)) ha
theorem nt20 {a : Nat} (ha : a < 2 ^ 31) : (nI a < 20) = (a < 20) := nlt ha (Nat.lt_of_lt_of_le (show 20 < 1024 by decide) (by decide))
theorem nu20 {a : Nat} (ha : a < 2 ^ 31) : (20 < nI a) = (20 < a) := nlt (Nat.lt_of_lt_of_le (show 20 < 1024 by decide) (by decide)) ha
theorem na20 (a : Nat) : nI a + 20 = nI (a + 20) := nI_add a 20
theorem nb20 (a : Nat) : 20 + nI a = nI (20 + a) := nI_add 20 a
theorem ns20 {a : Nat} (h : 20 ≤ a) : nI a - 20 = nI (a - 20) := pk_sub h
theorem ne30 {a : Nat} (ha : a < 2 ^ 31) : (nI a = 30) = (a = 30) := neq ha (Nat.lt_of_lt_of_le (show 30 < 1024 by decide) (by decide))
theorem nl30 {a : Nat} (ha : a < 2 ^ 31) : (nI a ≤ 30) = (a ≤ 30) := nle ha (Nat.lt_of_lt_of_le (show 30 < 1024 by decide) (by decide))
theorem nk30 {a : Nat} (ha : a < 2 ^ 31) : (30 ≤ nI a) = (30 ≤ a) := nle (Nat.lt_of_lt_of_le (show 30 < 1024 by decide) (by decide)) ha
theorem nt30 {a : Nat} (ha : a < 2 ^ 31) : (nI a < 30) = (a < 30) := nlt ha (Nat.lt_of_lt_of_le (show 30 < 1024 by decide) (by decide))
theorem nu30 {a : Nat} (ha : a < 2 ^ 31) : (30 < nI a) = (30 < a) := nlt (Nat.lt_of_lt_of_le (show 30 < 1024 by decide) (by decide)) ha
theorem na30 (a : Nat) : nI a + 30 = nI (a + 30) := nI_add a 30
theorem nb30 (a : Nat) : 30 + nI a = nI (30 + a) := nI_add 30 a
theorem ns30 {a : Nat} (h : 30 ≤ a) : nI a - 30 = nI (a - 30) := pk_sub h
theorem ne32 {a : Nat} (ha : a < 2 ^ 31) : (nI a = 32) = (a = 32) := neq ha (Nat.lt_of_lt_of_le (show 32 < 1024 by decide) (by decide))
theorem nl32 {a : Nat} (ha : a < 2 ^ 31) : (nI a ≤ 32) = (a ≤ 32) := nle ha (Nat.lt_of_lt_of_le (show 32 < 1024 by decide) (by decide))
theorem nk32 {a : Nat} (ha : a < 2 ^ 31) : (32 ≤ nI a) = (32 ≤ a) := nle (Nat.lt_of_lt_of_le (show 32 < 1024 by decide) (by decide)) ha
theorem nt32 {a : Nat} (ha : a < 2 ^ 31) : (nI a < 32) = (a < 32) := nlt ha (Nat.lt_of_lt_of_le (show 32 < 1024 by decide) (by decide))
theorem nu32 {a : Nat} (ha : a < 2 ^ 31) : (32 < nI a) = (32 < a) := nlt (Nat.lt_of_lt_of_le (show 32 < 1024 by decide) (by decide)) ha
theorem na32 (a : Nat) : nI a + 32 = nI (a + 32) := nI_add a 32
theorem nb32 (a : Nat) : 32 + nI a = nI (32 + a) := nI_add 32 a
theorem ns32 {a : Nat} (h : 32 ≤ a) : nI a - 32 = nI (a - 32) := pk_sub h
theorem ne40 {a : Nat} (ha : a < 2 ^ 31) : (nI a = 40) = (a = 40) := neq ha (Nat.lt_of_lt_of_le (show 40 < 1024 by decide) (by decide))
theorem nl40 {a : Nat} (ha : a < 2 ^ 31) : (nI a ≤ 40) = (a ≤ 40) := nle ha (Nat.lt_of_lt_of_le (show 40 < 1024 by decide) (by decide))
theorem nk40 {a : Nat} (ha : a < 2 ^ 31) : (40 ≤ nI a) = (40 ≤ a) := nle (Nat.lt_of_lt_of_le (show 40 < 1024 by decide) (by decide)) ha
theorem nt40 {a : Nat} (ha : a < 2 ^ 31) : (nI a < 40) = (a < 40) := nlt ha (Nat.lt_of_lt_of_le (show 40 < 1024 by decide) (by decide))
theorem nu40 {a : Nat} (ha : a < 2 ^ 31) : (40 < nI a) = (40 < a) := nlt (Nat.lt_of_lt_of_le (show 40 < 1024 by decide) (by decide)) ha
theorem na40 (a : Nat) : nI a + 40 = nI (a + 40) := nI_add a 40
theorem nb40 (a : Nat) : 40 + nI a = nI (40 + a) := nI_add 40 a
theorem nm40 (a : Nat) : nI a * 40 = nI (a * 40) := pk_mul a 40
theorem nn40 (a : Nat) : 40 * nI a = nI (40 * a) := pk_mul 40 a
theorem ns40 {a : Nat} (h : 40 ≤ a) : nI a - 40 = nI (a - 40) := pk_sub h
theorem ne48 {a : Nat} (ha : a < 2 ^ 31) : (nI a = 48) = (a = 48) := neq ha (Nat.lt_of_lt_of_le (show 48 < 1024 by decide) (by decide))
theorem nl48 {a : Nat} (ha : a < 2 ^ 31) : (nI a ≤ 48) = (a ≤ 48) := nle ha (Nat.lt_of_lt_of_le (show 48 < 1024 by decide) (by decide))
theorem nk48 {a : Nat} (ha : a < 2 ^ 31) : (48 ≤ nI a) = (48 ≤ a) := nle (Nat.lt_of_lt_of_le (show 48 < 1024 by decide) (by decide)) ha
theorem nt48 {a : Nat} (ha : a < 2 ^ 31) : (nI a < 48) = (a < 48) := nlt ha (Nat.lt_of_lt_of_le (show 48 < 1024 by decide) (by decide))
theorem nu48 {a : Nat} (ha : a < 2 ^ 31) : (48 < nI a) = (48 < a) := nlt (Nat.lt_of_lt_of_le (show 48 < 1024 by decide) (by decide)) ha
theorem na48 (a : Nat) : nI a + 48 = nI (a + 48) := nI_add a 48
theorem nb48 (a : Nat) : 48 + nI a = nI (48 + a) := nI_add 48 a
theorem ns48 {a : Nat} (h : 48 ≤ a) : nI a - 48 = nI (a - 48) := pk_sub h
theorem ne56 {a : Nat} (ha : a < 2 ^ 31) : (nI a = 56) = (a = 56) := neq ha (Nat.lt_of_lt_of_le (show 56 < 1024 by decide) (by decide))
theorem nl56 {a : Nat} (ha : a < 2 ^ 31) : (nI a ≤ 56) = (a ≤ 56) := nle ha (Nat.lt_of_lt_of_le (show 56 < 1024 by decide) (by decide))
theorem nk56 {a : Nat} (ha : a < 2 ^ 31) : (56 ≤ nI a) = (56 ≤ a) := nle (Nat.lt_of_lt_of_le (show 56 < 1024 by decide) (by decide)) ha
theorem nt56 {a : Nat} (ha : a < 2 ^ 31) : (nI a < 56) = (a < 56) := nlt ha (Nat.lt_of_lt_of_le (show 56 < 1024 by decide) (by decide))
theorem nu56 {a : Nat} (ha : a < 2 ^ 31) : (56 < nI a) = (56 < a) := nlt (Nat.lt_of_lt_of_le (show 56 < 1024 by decide) (by decide)) ha
theorem na56 (a : Nat) : nI a + 56 = nI (a + 56) := nI_add a 56
theorem nb56 (a : Nat) : 56 + nI a = nI (56 + a) := nI_add 56 a
theorem ns56 {a : Nat} (h : 56 ≤ a) : nI a - 56 = nI (a - 56) := pk_sub h
theorem ne57 {a : Nat} (ha : a < 2 ^ 31) : (nI a = 57) = (a = 57) := neq ha (Nat.lt_of_lt_of_le (show 57 < 1024 by decide) (by decide))
theorem nl57 {a : Nat} (ha : a < 2 ^ 31) : (nI a ≤ 57) = (a ≤ 57) := nle ha (Nat.lt_of_lt_of_le (show 57 < 1024 by decide) (by decide))
theorem nk57 {a : Nat} (ha : a < 2 ^ 31) : (57 ≤ nI a) = (57 ≤ a) := nle (Nat.lt_of_lt_of_le (show 57 < 1024 by decide) (by decide)) ha
theorem nt57 {a : Nat} (ha : a < 2 ^ 31) : (nI a < 57) = (a < 57) := nlt ha (Nat.lt_of_lt_of_le (show 57 < 1024 by decide) (by decide))
theorem nu57 {a : Nat} (ha : a < 2 ^ 31) : (57 < nI a) = (57 < a) := nlt (Nat.lt_of_lt_of_le (show 57 < 1024 by decide) (by decide)) ha
theorem na57 (a : Nat) : nI a + 57 = nI (a + 57) := nI_add a 57
theorem nb57 (a : Nat) : 57 + nI a = nI (57 + a) := nI_add 57 a
theorem ns57 {a : Nat} (h : 57 ≤ a) : nI a - 57 = nI (a - 57) := pk_sub h
theorem ne59 {a : Nat} (ha : a < 2 ^ 31) : (nI a = 59) = (a = 59) := neq ha (Nat.lt_of_lt_of_le (show 59 < 1024 by decide) (by decide))
theorem nl59 {a : Nat} (ha : a < 2 ^ 31) : (nI a ≤ 59) = (a ≤ 59) := nle ha (Nat.lt_of_lt_of_le (show 59 < 1024 by decide) (by decide))
theorem nk59 {a : Nat} (ha : a < 2 ^ 31) : (59 ≤ nI a) = (59 ≤ a) := nle (Nat.lt_of_lt_of_le (show 59 < 1024 by decide) (by decide)) ha
theorem nt59 {a : Nat} (ha : a < 2 ^ 31) : (nI a < 59) = (a < 59) := nlt ha (Nat.lt_of_lt_of_le (show 59 < 1024 by decide) (by decide))
theorem nu59 {a : Nat} (ha : a < 2 ^ 31) : (59 < nI a) = (59 < a) := nlt (Nat.lt_of_lt_of_le (show 59 < 1024 by decide) (by decide)) ha
theorem na59 (a : Nat) : nI a + 59 = nI (a + 59) := nI_add a 59
theorem nb59 (a : Nat) : 59 + nI a = nI (59 + a) := nI_add 59 a
theorem ns59 {a : Nat} (h : 59 ≤ a) : nI a - 59 = nI (a - 59) := pk_sub h
theorem ne96 {a : Nat} (ha : a < 2 ^ 31) : (nI a = 96) = (a = 96) := neq ha (Nat.lt_of_lt_of_le (show 96 < 1024 by decide) (by decide))
theorem nl96 {a : Nat} (ha : a < 2 ^ 31) : (nI a ≤ 96) = (a ≤ 96) := nle ha (Nat.lt_of_lt_of_le (show 96 < 1024 by decide) (by decide))
theorem nk96 {a : Nat} (ha : a < 2 ^ 31) : (96 ≤ nI a) = (96 ≤ a) := nle (Nat.lt_of_lt_of_le (show 96 < 1024 by decide) (by decide)) ha
theorem nt96 {a : Nat} (ha : a < 2 ^ 31) : (nI a < 96) = (a < 96) := nlt ha (Nat.lt_of_lt_of_le (show 96 < 1024 by decide) (by decide))
theorem nu96 {a : Nat} (ha : a < 2 ^ 31) : (96 < nI a) = (96 < a) := nlt (Nat.lt_of_lt_of_le (show 96 < 1024 by decide) (by decide)) ha
theorem na96 (a : Nat) : nI a + 96 = nI (a + 96) := nI_add a 96
theorem nb96 (a : Nat) : 96 + nI a = nI (96 + a) := nI_add 96 a
theorem ns96 {a : Nat} (h : 96 ≤ a) : nI a - 96 = nI (a - 96) := pk_sub h
theorem ne97 {a : Nat} (ha : a < 2 ^ 31) : (nI a = 97) = (a = 97) := neq ha (Nat.lt_of_lt_of_le (show 97 < 1024 by decide) (by decide))
theorem nl97 {a : Nat} (ha : a < 2 ^ 31) : (nI a ≤ 97) = (a ≤ 97) := nle ha (Nat.lt_of_lt_of_le (show 97 < 1024 by decide) (by decide))
theorem nk97 {a : Nat} (ha : a < 2 ^ 31) : (97 ≤ nI a) = (97 ≤ a) := nle (Nat.lt_of_lt_of_le (show 97 < 1024 by decide) (by decide)) ha
theorem nt97 {a : Nat} (ha : a < 2 ^ 31) : (nI a < 97) = (a < 97) := nlt ha (Nat.lt_of_lt_of_le (show 97 < 1024 by decide) (by decide))
theorem nu97 {a : Nat} (ha : a < 2 ^ 31) : (97 < nI a) = (97 < a) := nlt (Nat.lt_of_lt_of_le (show 97 < 1024 by decide) (by decide)) ha
theorem na97 (a : Nat) : nI a + 97 = nI (a + 97) := nI_add a 97
theorem nb97 (a : Nat) : 97 + nI a = nI (97 + a) := nI_add 97 a
theorem ns97 {a : Nat} (h : 97 ≤ a) : nI a - 97 = nI (a - 97) := pk_sub h
theorem ne98 {a : Nat} (ha : a < 2 ^ 31) : (nI a = 98) = (a = 98) := neq ha (Nat.lt_of_lt_of_le (show 98 < 1024 by decide) (by decide))
theorem nl98 {a : Nat} (ha : a < 2 ^ 31) : (nI a ≤ 98) = (a ≤ 98) := nle ha (Nat.lt_of_lt_of_le (show 98 < 1024 by decide) (by decide))
theorem nk98 {a : Nat} (ha : a < 2 ^ 31) : (98 ≤ nI a) = (98 ≤ a) := nle (Nat.lt_of_lt_of_le (show 98 < 1024 by decide) (by decide)) ha
theorem nt98 {a : Nat} (ha : a < 2 ^ 31) : (nI a < 98) = (a < 98) := nlt ha (Nat.lt_of_lt_of_le (show 98 < 1024 by decide) (by decide))
theorem nu98 {a : Nat} (ha : a < 2 ^ 31) : (98 < nI a) = (98 < a) := nlt (Nat.lt_of_lt_of_le (show 98 < 1024 by decide) (by decide)) ha
theorem na98 (a : Nat) : nI a + 98 = nI (a + 98) := nI_add a 98
theorem nb98 (a : Nat) : 98 + nI a = nI (98 + a) := nI_add 98 a
theorem ns98 {a : Nat} (h : 98 ≤ a) : nI a - 98 = nI (a - 98) := pk_sub h
theorem ne99 {a : Nat} (ha : a < 2 ^ 31) : (nI a = 99) = (a = 99) := neq ha (Nat.lt_of_lt_of_le (show 99 < 1024 by decide) (by decide))
theorem nl99 {a : Nat} (ha : a < 2 ^ 31) : (nI a ≤ 99) = (a ≤ 99) := nle ha (Nat.lt_of_lt_of_le (show 99 < 1024 by decide) (by decide))
theorem nk99 {a : Nat} (ha : a < 2 ^ 31) : (99 ≤ nI a) = (99 ≤ a) := nle (Nat.lt_of_lt_of_le (show 99 < 1024 by decide) (by decide)) ha
theorem nt99 {a : Nat} (ha : a < 2 ^ 31) : (nI a < 99) = (a < 99) := nlt ha (Nat.lt_of_lt_of_le (show 99 < 1024 by decide) (by decide))
theorem nu99 {a : Nat} (ha : a < 2 ^ 31) : (99 < nI a) = (99 < a) := nlt (Nat.lt_of_lt_of_le (show 99 < 1024 by decide) (by decide)) ha
theorem na99 (a : Nat) : nI a + 99 = nI (a + 99) := nI_add a 99
theorem nb99 (a : Nat) : 99 + nI a = nI (99 + a) := nI_add 99 a
theorem ns99 {a : Nat} (h : 99 ≤ a) : nI a - 99 = nI (a - 99) := pk_sub h
theorem ne100 {a : Nat} (ha : a < 2 ^ 31) : (nI a = 100) = (a = 100) := neq ha (Nat.lt_of_lt_of_le (show 100 < 1024 by decide) (by decide))
theorem nl100 {a : Nat} (ha : a < 2 ^ 31) : (nI a ≤ 100) = (a ≤ 100) := nle ha (Nat.lt_of_lt_of_le (show 100 < 1024 by decide) (by decide))
theorem nk100 {a : Nat} (ha : a < 2 ^ 31) : (100 ≤ nI a) = (100 ≤ a) := nle (Nat.lt_of_lt_of_le (show 100 < 1024 by decide) (by decide)) ha
theorem nt100 {a : Nat} (ha : a < 2 ^ 31) : (nI a < 100) = (a < 100) := nlt ha (Nat.lt_of_lt_of_le (show 100 < 1024 by decide) (by decide))
theorem nu100 {a : Nat} (ha : a < 2 ^ 31) : (100 < nI a) = (100 < a) := nlt (Nat.lt_of_lt_of_le (show 100 < 1024 by decide) (by decide)) ha
theorem na100 (a : Nat) : nI a + 100 = nI (a + 100) := nI_add a 100
theorem nb100 (a : Nat) : 100 + nI a = nI (100 + a) := nI_add 100 a
theorem ns100 {a : Nat} (h : 100 ≤ a) : nI a - 100 = nI (a - 100) := pk_sub h
theorem ne101 {a : Nat} (ha : a < 2 ^ 31) : (nI a = 101) = (a = 101) := neq ha (Nat.lt_of_lt_of_le (show 101 < 1024 by decide) (by decide))
theorem nl101 {a : Nat} (ha : a < 2 ^ 31) : (nI a ≤ 101) = (a ≤ 101) := nle ha (Nat.lt_of_lt_of_le (show 101 < 1024 by decide) (by decide))
theorem nk101 {a : Nat} (ha : a < 2 ^ 31) : (101 ≤ nI a) = (101 ≤ a) := nle (Nat.lt_of_lt_of_le (show 101 < 1024 by decide) (by decide)) ha
theorem nt101 {a : Nat} (ha : a < 2 ^ 31) : (nI a < 101) = (a < 101) := nlt ha (Nat.lt_of_lt_of_le (show 101 < 1024 by decide) (by decide))
theorem nu101 {a : Nat} (ha : a < 2 ^ 31) : (101 < nI a) = (101 < a) := nlt (Nat.lt_of_lt_of_le (show 101 < 1024 by decide) (by decide)) ha
theorem na101 (a : Nat) : nI a + 101 = nI (a + 101) := nI_add a 101
theorem nb101 (a : Nat) : 101 + nI a = nI (101 + a) := nI_add 101 a
theorem ns101 {a : Nat} (h : 101 ≤ a) : nI a - 101 = nI (a - 101) := pk_sub h
theorem ne102 {a : Nat} (ha : a < 2 ^ 31) : (nI a = 102) = (a = 102) := neq ha (Nat.lt_of_lt_of_le (show 102 < 1024 by decide) (by decide))
theorem nl102 {a : Nat} (ha : a < 2 ^ 31) : (nI a ≤ 102) = (a ≤ 102) := nle ha (Nat.lt_of_lt_of_le (show 102 < 1024 by decide) (by decide))
theorem nk102 {a : Nat} (ha : a < 2 ^ 31) : (102 ≤ nI a) = (102 ≤ a) := nle (Nat.lt_of_lt_of_le (show 102 < 1024 by decide) (by decide)) ha
theorem nt102 {a : Nat} (ha : a < 2 ^ 31) : (nI a < 102) = (a < 102) := nlt ha (Nat.lt_of_lt_of_le (show 102 < 1024 by decide) (by decide))
theorem nu102 {a : Nat} (ha : a < 2 ^ 31) : (102 < nI a) = (102 < a) := nlt (Nat.lt_of_lt_of_le (show 102 < 1024 by decide) (by decide)) ha
theorem na102 (a : Nat) : nI a + 102 = nI (a + 102) := nI_add a 102
theorem nb102 (a : Nat) : 102 + nI a = nI (102 + a) := nI_add 102 a
theorem ns102 {a : Nat} (h : 102 ≤ a) : nI a - 102 = nI (a - 102) := pk_sub h
theorem ne122 {a : Nat} (ha : a < 2 ^ 31) : (nI a = 122) = (a = 122) := neq ha (Nat.lt_of_lt_of_le (show 122 < 1024 by decide) (by decide))
theorem nl122 {a : Nat} (ha : a < 2 ^ 31) : (nI a ≤ 122) = (a ≤ 122) := nle ha (Nat.lt_of_lt_of_le (show 122 < 1024 by decide) (by decide))
theorem nk122 {a : Nat} (ha : a < 2 ^ 31) : (122 ≤ nI a) = (122 ≤ a) := nle (Nat.lt_of_lt_of_le (show 122 < 1024 by decide) (by decide)) ha
theorem nt122 {a : Nat} (ha : a < 2 ^ 31) : (nI a < 122) = (a < 122) := nlt ha (Nat.lt_of_lt_of_le (show 122 < 1024 by decide) (by decide))
theorem nu122 {a : Nat} (ha : a < 2 ^ 31) : (122 < nI a) = (122 < a) := nlt (Nat.lt_of_lt_of_le (show 122 < 1024 by decide) (by decide)) ha
theorem na122 (a : Nat) : nI a + 122 = nI (a + 122) := nI_add a 122
theorem nb122 (a : Nat) : 122 + nI a = nI (122 + a) := nI_add 122 a
theorem ns122 {a : Nat} (h : 122 ≤ a) : nI a - 122 = nI (a - 122) := pk_sub h
theorem ne250 {a : Nat} (ha : a < 2 ^ 31) : (nI a = 250) = (a = 250) := neq ha (Nat.lt_of_lt_of_le (show 250 < 1024 by decide) (by decide))
theorem nl250 {a : Nat} (ha : a < 2 ^ 31) : (nI a ≤ 250) = (a ≤ 250) := nle ha (Nat.lt_of_lt_of_le (show 250 < 1024 by decide) (by decide))
theorem nk250 {a : Nat} (ha : a < 2 ^ 31) : (250 ≤ nI a) = (250 ≤ a) := nle (Nat.lt_of_lt_of_le (show 250 < 1024 by decide) (by decide)) ha
theorem nt250 {a : Nat} (ha : a < 2 ^ 31) : (nI a < 250) = (a < 250) := nlt ha (Nat.lt_of_lt_of_le (show 250 < 1024 by decide) (by decide))
theorem nu250 {a : Nat} (ha : a < 2 ^ 31) : (250 < nI a) = (250 < a) := nlt (Nat.lt_of_lt_of_le (show 250 < 1024 by decide) (by decide)) ha
theorem na250 (a : Nat) : nI a + 250 = nI (a + 250) := nI_add a 250
theorem nb250 (a : Nat) : 250 + nI a = nI (250 + a) := nI_add 250 a
theorem ns250 {a : Nat} (h : 250 ≤ a) : nI a - 250 = nI (a - 250) := pk_sub h
theorem ne255 {a : Nat} (ha : a < 2 ^ 31) : (nI a = 255) = (a = 255) := neq ha (Nat.lt_of_lt_of_le (show 255 < 1024 by decide) (by decide))
theorem nl255 {a : Nat} (ha : a < 2 ^ 31) : (nI a ≤ 255) = (a ≤ 255) := nle ha (Nat.lt_of_lt_of_le (show 255 < 1024 by decide) (by decide))
theorem nk255 {a : Nat} (ha : a < 2 ^ 31) : (255 ≤ nI a) = (255 ≤ a) := nle (Nat.lt_of_lt_of_le (show 255 < 1024 by decide) (by decide)) ha
theorem nt255 {a : Nat} (ha : a < 2 ^ 31) : (nI a < 255) = (a < 255) := nlt ha (Nat.lt_of_lt_of_le (show 255 < 1024 by decide) (by decide))
theorem nu255 {a : Nat} (ha : a < 2 ^ 31) : (255 < nI a) = (255 < a) := nlt (Nat.lt_of_lt_of_le (show 255 < 1024 by decide) (by decide)) ha
theorem na255 (a : Nat) : nI a + 255 = nI (a + 255) := nI_add a 255
theorem nb255 (a : Nat) : 255 + nI a = nI (255 + a) := nI_add 255 a
theorem ns255 {a : Nat} (h : 255 ≤ a) : nI a - 255 = nI (a - 255) := pk_sub h
theorem ne1000 {a : Nat} (ha : a < 2 ^ 31) : (nI a = 1000) = (a = 1000) := neq ha (Nat.lt_of_lt_of_le (show 1000 < 1024 by decide) (by decide))
theorem nl1000 {a : Nat} (ha : a < 2 ^ 31) : (nI a ≤ 1000) = (a ≤ 1000) := nle ha (Nat.lt_of_lt_of_le (show 1000 < 1024 by decide) (by decide))
theorem nk1000 {a : Nat} (ha : a < 2 ^ 31) : (1000 ≤ nI a) = (1000 ≤ a) := nle (Nat.lt_of_lt_of_le (show 1000 < 1024 by decide) (by decide)) ha
theorem nt1000 {a : Nat} (ha : a < 2 ^ 31) : (nI a < 1000) = (a < 1000) := nlt ha (Nat.lt_of_lt_of_le (show 1000 < 1024 by decide) (by decide))
theorem nu1000 {a : Nat} (ha : a < 2 ^ 31) : (1000 < nI a) = (1000 < a) := nlt (Nat.lt_of_lt_of_le (show 1000 < 1024 by decide) (by decide)) ha
theorem na1000 (a : Nat) : nI a + 1000 = nI (a + 1000) := nI_add a 1000
theorem nb1000 (a : Nat) : 1000 + nI a = nI (1000 + a) := nI_add 1000 a
theorem ns1000 {a : Nat} (h : 1000 ≤ a) : nI a - 1000 = nI (a - 1000) := pk_sub h
theorem opt_b {α β : Type} (a : α) (f : α → Option β) : (some a).bind f = f a := Eq.trans rfl rfl
theorem n10 : ((1 : Int32) = 0) = False := eq_false (by decide)
theorem n01 : ((0 : Int32) = 1) = False := eq_false (by decide)
theorem nmm (a : Nat) : 0 + a = a := Nat.zero_add a
theorem lp_m {P : Nat → Nat → Prop} (N : Nat) (hN : N < 4000) (hend : ∀ n, P (n + 1) N) (hstep : ∀ n m, m < N → P n (m + 1) → P (n + 1) m) {m : Nat} (hm : m ≤ N) : P FU m := lp_up N hend hstep FU m hm (Nat.lt_of_le_of_lt (Nat.sub_le N m) hN)
