theorem q_16 : Cond.classLink RL 7 RX5 ∈ TB := tb_t 16 (by decide +kernel) rfl
theorem q_17 : Cond.instantiable RX5 9 ∈ TB := tb_t 17 (by decide +kernel) rfl
theorem q_18 : Cond.methodLink RL 9 yX5_init ∈ TB := tb_t 18 (by decide +kernel) rfl
theorem q_983 : Cond.classLink RL 10 RX6 ∈ TB := tb_t 983 (by decide +kernel) rfl
theorem q_984 : Cond.instantiable RX6 29 ∈ TB := tb_t 984 (by decide +kernel) rfl
theorem q_985 : Cond.methodLink RL 12 yX6_init ∈ TB := tb_t 985 (by decide +kernel) rfl
/-! WHAT THE STATEMENT GIVES OF THE START -/
def sI : List Nat := [65, 70, 75, 83, 120, 88, 141, 146, 93]
def mI : List Nat := [166, 174, 175, 176, 178, 179, 181, 183, 184]
def tS (i : Nat) : Term := .string "CutDeeper$Tape" (sI.getD i 0)
def tM (i : Nat) : Term := .string "CutDeeperModel" (mI.getD i 0)
def giv : List Cond := flatC (Jvm.Cond.and given_1 narrow_1)
theorem gv_ex : ∀ i, i < 9 → Cond.exactly (tS i) "java/lang/String" ∈ giv := by decide +kernel
theorem gv_co : ∀ i, i < 9 → Cond.eq (.field (tS i) "java/lang/String" "coder" "B") (.int 0) ∈ giv := by decide +kernel
theorem gv_ar : ∀ i, i < 9 → Cond.arrayOf (.field (tS i) "java/lang/String" "value" "[B") .byte ∈ giv := by decide +kernel
theorem gv_le : ∀ i, i < 9 → Cond.eq (.length (.field (tS i) "java/lang/String" "value" "[B")) (.int (Int32.ofNat ((sBytes.map List.length).getD i 0))) ∈ giv := by decide +kernel
theorem gv_sm : ∀ i, i < 9 → Cond.eq (tS i) (tM i) ∈ giv := by decide +kernel
theorem gv_el : ∀ i, i < 9 → ∀ j, j < (sBytes.map List.length).getD i 0 → Cond.eq (.elem (.field (tS i) "java/lang/String" "value" "[B") (.int (Int32.ofNat j))) (.int ((sBytes.getD i []).getD j 0)) ∈ giv := by decide +kernel
theorem gv_ne : ∀ i, i < 9 → ∀ j, j < 9 → i ≠ j → Cond.not (Cond.eq (tS i) (tS j)) ∈ giv ∨ Cond.not (Cond.eq (tS j) (tS i)) ∈ giv := by decide +kernel
theorem gv_cs : Cond.eq (.static "java/lang/String" "COMPACT_STRINGS" "Z") (.int 1) ∈ giv := by decide +kernel
theorem gv_si : Cond.isRef (.static "jdk/internal/util/Preconditions" "SIOOBE_FORMATTER" "Ljava/util/function/BiFunction;") ∈ giv := by decide +kernel
theorem gv_ss : ∀ q ∈ sRefs, Cond.stringRef q.1 q.2.1 q.2.2.1 ∈ tables_1 := by decide +kernel
theorem gv_rf : ∀ q ∈ sRefs, q.2.2.2 < 9 ∧ (Term.string q.1 q.2.1 = tS q.2.2.2 ∨ Term.string q.1 q.2.1 = tM q.2.2.2) := by decide +kernel
theorem gv_ns : ∀ q ∈ nests, Cond.methodLinkNest q.1 q.2.1 q.2.2.1 q.2.2.2 ∈ tables_1 := by decide +kernel
theorem gv_ao : Cond.arrayOver (.object "CutDeeper$Key") ∈ tables_1 ∧ Cond.arrayOver (.object "CutDeeper$Shelf") ∈ tables_1 ∧ Cond.arrayOver (.array .int) ∈ tables_1 ∧ Cond.arrayClass .int ∈ tables_1 ∧ Cond.arrayClass .long ∈ tables_1 := by decide +kernel
theorem gv_ls : Cond.laysStatic "java/lang/String" "COMPACT_STRINGS" "Z" ∈ tables_1 ∧ Cond.laysStatic "jdk/internal/util/Preconditions" "SIOOBE_FORMATTER" "Ljava/util/function/BiFunction;" ∈ tables_1 ∧ Cond.initialized "java/lang/String" ∈ tables_1 ∧ Cond.initialized "jdk/internal/util/Preconditions" ∈ tables_1 := by decide +kernel
theorem in_lw {w : Cond} (h : w ∈ tables_1) : w ∈ lw_tbl := List.mem_append_right _ h
theorem arr_one {s : State} {args : Array Value} {t : FieldType} (ht : t = .int ∨ t = .long) (h : (Cond.arrayClass t).before args s = true) : ∃ c, ArrOfT s c t ∧ va_RA s c t := by
  obtain ⟨c, k, comp, h1, h2, h3⟩ := Cond.arrayClass_spec h
  refine ⟨c, fun n z => ⟨fun q hq => (by cases hq), k, h2, comp, h3⟩, ?_⟩
  rcases ht with rfl | rfl <;> exact h1
theorem arr_obj {s : State} {args : Array Value} {C : String} (h : (Cond.arrayOver (.object C)).before args s = true) : ∃ c, ArrOfT s c (.object C) ∧ va_RA s c (.object C) := by
  obtain ⟨comp, c, k, h1, h2, h3, h4, h5⟩ := Cond.arrayOver_spec h
  exact ⟨c, fun n z => ⟨fun q hq => (by cases hq), k, h3, comp, h4⟩, k, comp, h3, h4, h1, h5⟩
theorem arr_arr {s : State} {args : Array Value} (h : (Cond.arrayOver (.array .int)).before args s = true) : ∃ c, ArrOfT s c (.array .int) ∧ va_RA s c (.array .int) := by
  obtain ⟨comp, c, k, h1, h2, h3, h4, h5⟩ := arrayOverA_spec h
  exact ⟨c, fun n z => ⟨fun q hq => (by cases hq), k, h3, comp, h4⟩, h5⟩
theorem start_K {s : State} {args : Array Value} (hts : ∀ w ∈ lw_tbl, w.before args s = true) (aK aV : Nat → Nat) : ∃ (D : va_G) (cA : Nat → ClassId), va_K D vwCl (tysOf (fun _ => 0, D, cA, aK, aV)) s := by
  have hTB : ∀ w ∈ TB, w.before args s = true := fun w h => hts w (List.mem_filter.mp h).1
  obtain ⟨c0, iS0, hK0⟩ := u_known (C := RX0) (T := TX0) (N := 12) (n := 12) hTB i_X0 (hTB _ q_25)
  obtain ⟨c1, iS1, hK1⟩ := u_known (C := RX1) (T := TX1) (N := 4) (n := 4) hTB i_X1 (hTB _ q_32)
  obtain ⟨c2, iS2, hK2⟩ := u_known (C := RX2) (T := TX2) (N := 3) (n := 3) hTB i_X2 (hTB _ q_184)
  obtain ⟨c3, iS3, hK3⟩ := u_known (C := RX3) (T := TX3) (N := 5) (n := 5) hTB i_X3 (hTB _ q_159)
  obtain ⟨c4, iS4, hK4⟩ := u_known (C := RX4) (T := TX4) (N := 10) (n := 10) hTB i_X4 (hTB _ q_120)
  obtain ⟨c5, iS5, hK5⟩ := u_known (C := RX5) (T := TX5) (N := 9) (n := 9) hTB i_X5 (hTB _ q_17)
  obtain ⟨c6, iS6, hK6⟩ := u_known (C := RX6) (T := TX6) (N := 29) (n := 29) hTB i_X6 (hTB _ q_984)
  obtain ⟨a0, b0, d0⟩ := arr_one (Or.inl rfl) (hts _ (in_lw gv_ao.2.2.2.1))
  obtain ⟨a1, b1, d1⟩ := arr_one (Or.inr rfl) (hts _ (in_lw gv_ao.2.2.2.2))
  obtain ⟨a2, b2, d2⟩ := arr_obj (hts _ (in_lw gv_ao.1))
  obtain ⟨a3, b3, d3⟩ := arr_obj (hts _ (in_lw gv_ao.2.1))
  obtain ⟨a4, b4, d4⟩ := arr_arr (hts _ (in_lw gv_ao.2.2.1))
  refine ⟨(fun k => match k with | 0 => c0 | 1 => c1 | 2 => c2 | 3 => c3 | 4 => c4 | 5 => c5 | _ => c6, fun k => match k with | 0 => iS0 | 1 => iS1 | 2 => iS2 | 3 => iS3 | 4 => iS4 | 5 => iS5 | _ => iS6), (fun k => match k with | 0 => a0 | 1 => a1 | 2 => a2 | 3 => a3 | _ => a4), fun k q hq => ?_, fun k q hq => ?_⟩
  · match k, hq with
    | 0, hq => cases hq; exact hK0
    | 1, hq => cases hq; exact hK1
    | 2, hq => cases hq; exact hK2
    | 3, hq => cases hq; exact hK3
    | 4, hq => cases hq; exact hK4
    | 5, hq => cases hq; exact hK5
    | 6, hq => cases hq; exact hK6
    | k + 7, hq => simp [vwCl] at hq
  · match k, hq with
    | 0, hq => cases hq; exact ⟨b0, d0⟩
    | 1, hq => cases hq; exact ⟨b1, d1⟩
    | 2, hq => cases hq; exact ⟨b2, d2⟩
    | 3, hq => cases hq; exact ⟨b3, d3⟩
    | 4, hq => cases hq; exact ⟨b4, d4⟩
    | k + 5, hq => simp [tysOf] at hq
/-- the texts, the statics, the nest mates, for any part A of the heap that is new -/
theorem start_S {s : State} {args : Array Value} (hts : ∀ w ∈ lw_tbl, w.before args s = true) (hgv : (Jvm.Cond.and given_1 narrow_1).before args s = true) : ∃ aK aV : Nat → Nat, ∀ (A : Nat → Prop), (∀ a, a < s.heap.size → ¬ A a) →
    vk_S 9 (sBytes.map List.length) sBytes aK aV A s s.heap ∧ va_Z "java/lang/String" "COMPACT_STRINGS" "Z" (.int 1) A s s.heap ∧ va_Zq "jdk/internal/util/Preconditions" "SIOOBE_FORMATTER" "Ljava/util/function/BiFunction;" A s s.heap ∧ (∀ q ∈ sRefs, vk_R q.1 q.2.1 q.2.2.1 (aK q.2.2.2) s) ∧ ∀ q ∈ nests, va_Nw (.methodLinkNest q.1 q.2.1 q.2.2.1 q.2.2.2) s := by
  have hs : ∀ c ∈ giv, c.before args s = true := flat_of_before _ hgv
  have hlen : ∀ i : Nat, i < 9 → (sBytes.map List.length).getD i 0 < 2 ^ 31 := by decide +kernel
  have hfree : ∀ a : Nat, a < s.heap.size → ¬ (fun q : Nat => s.heap.size ≤ q) a := fun a h => Nat.not_le.mpr h
  obtain ⟨aK, aV, hS, hR⟩ := vk_Sof (args := args) (s := s) (N := 9) (tm := tS) (len := sBytes.map List.length) (byt := sBytes) (A := fun q : Nat => s.heap.size ≤ q) hlen (fun i hi => hs _ (gv_ex i hi)) (fun i hi => hs _ (gv_co i hi)) (fun i hi => hs _ (gv_ar i hi)) (fun i hi => hs _ (gv_le i hi)) (fun i hi j hj => hs _ (gv_el i hi j hj)) (fun i j hi hj hij => (gv_ne i hi j hj hij).imp (fun h => hs _ h) (fun h => hs _ h)) hfree
  refine ⟨aK, aV, fun A hA => ⟨?_, va_Zof (hts _ (in_lw gv_ls.1)) (hts _ (in_lw gv_ls.2.2.1)) (va_eqt (hs _ gv_cs)) hA, va_Zqof (hts _ (in_lw gv_ls.2.1)) (hts _ (in_lw gv_ls.2.2.2)) (hs _ gv_si) hA, fun q hq => ?_, fun q hq => va_Nw.of rfl (hts _ (in_lw (gv_ns q hq)))⟩⟩
  · exact hS.narrow (fun q hq => Nat.not_lt.mp fun z => hA q z hq)
  · obtain ⟨h9, he⟩ := gv_rf q hq
    have hm : (Term.string q.1 q.2.1).eval args s none [] s = some (.ref (aK q.2.2.2)) := by
      rcases he with e | e
      · rw [e]; exact hR _ h9
      · rw [e]; exact va_eqR (hs _ (gv_sm _ h9)) (hR _ h9)
    exact vk_R.of (A := args) (hts _ (in_lw (gv_ss q hq))) hm
