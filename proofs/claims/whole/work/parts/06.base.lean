/-! names for what the definitions use -/
def FU : Nat := 4000
def ptI (σ : St) (a k : Nat) (v : Int32) : Option St := some (setI σ a k v)
def b2 {α β : Type} (o : Option (α × St)) (f : α → St → Option β) : Option β := o.bind fun q => f q.1 q.2
theorem bs2 {α β : Type} {o : Option (α × St)} {f : α → St → Option β} {r : β} (h : b2 o f = some r) : ∃ v s, o = some (v, s) ∧ f v s = some r := by
  obtain ⟨⟨v, s⟩, h1, h2⟩ := bs h
  exact ⟨v, s, h1, h2⟩
theorem r_topI {X : CX} {σ : St} {pc : Nat} {lv : List (Nat × Value)} {st : List Value} {x y : Int32} (e : x = y) (k : V X σ pc lv (.int y :: st)) : V X σ pc lv (.int x :: st) := by rw [e]; exact k
theorem r_topJ {X : CX} {σ : St} {pc : Nat} {lv : List (Nat × Value)} {st : List Value} {x y : Int64} (e : x = y) (k : V X σ pc lv (.long y :: st)) : V X σ pc lv (.long x :: st) := by rw [e]; exact k
theorem tab_out {x : Int32} {n : Nat} (h : ∀ k, k < n → ¬ x = nI k) (hn : n ≤ 64) : x.toInt < 0 ∨ ((n : Int) - 1) < x.toInt := by
  by_cases h0 : x.toInt < 0
  · exact Or.inl h0
  · refine Or.inr (Int.not_le.mp fun h1 => ?_)
    have h2 : x.toInt.toNat < n := by omega
    refine h _ h2 (Int32.toInt_inj.mp ?_)
    rw [nI_toInt (by omega)]
    omega
theorem kdK : ∀ a, a < 110 → kd a = 10 → ∀ j, j < ln a → kd (a + 3 + 2 * j) = 2 := by decide +kernel
theorem kdS : ∀ a, a < 110 → kd a = 11 → ∀ j, j < ln a → kd (21 + 2 * j) = 3 := by decide +kernel
theorem kdR : ∀ a, a < 110 → kd a = 12 → ∀ j, j < ln a → kd (12 + j) = 8 := by decide +kernel
theorem kK {a r : Nat} {i : Int32} (h : kd a = 10) (e : ldK a i = some r) : kd r = 2 := by
  obtain ⟨g, rfl⟩ := grd e
  exact kdK a (kd_lt h) h _ (Nat.not_le.mp fun z => g (Or.inr z))
theorem kS {a r : Nat} {i : Int32} (h : kd a = 11) (e : ldS a i = some r) : kd r = 3 := by
  obtain ⟨g, rfl⟩ := grd e
  exact kdS a (kd_lt h) h _ (Nat.not_le.mp fun z => g (Or.inr z))
theorem kR {a r : Nat} {i : Int32} (h : kd a = 12) (e : ldR a i = some r) : kd r = 8 := by
  obtain ⟨g, rfl⟩ := grd e
  exact kdR a (kd_lt h) h _ (Nat.not_le.mp fun z => g (Or.inr z))
/-! texts -/
def chA (w : Nat) (i : Int32) : Option Int32 := if i < 0 ∨ sLen w ≤ i.toNatClampNeg then none else some (sCh w i.toNatClampNeg &&& 255)
section HT
variable {X : CX} {own : String} {cc : ByteArray} {nL fr lo : Nat} {σ : St} {pc q : Nat} {lv : List (Nat × Value)} {st : List Value}
theorem r_tcoder (C : Cok X own cc nL fr lo) {w idx : Nat} (d : decode cc pc = .ok (.getfield idx, 3)) (hw : w < 9) (hl0 : Cond.fieldLink own idx "java/lang/String" "coder" "B" ∈ TB) (hq : pc + 3 = q) (k : V X σ q lv (.int 0 :: st)) : V X σ pc lv (.ref ((xG X).2.2.2.1 w) :: st) := by
  subst hq
  exact fun H locs ls hP hS hl => vk_getf C.1 C.2.1 (C.2.2.2.2.2.2.2.2.1.1.1 w hw).2.1 hS C.2.2.2.2.1 (C.2.2.2.2.2.1 _ hl0) (fun _ h => h) d (k H locs ls hP hS hl)
theorem r_tvalue (C : Cok X own cc nL fr lo) {w idx : Nat} (d : decode cc pc = .ok (.getfield idx, 3)) (hw : w < 9) (hl0 : Cond.fieldLink own idx "java/lang/String" "value" "[B" ∈ TB) (hq : pc + 3 = q) (k : V X σ q lv (.ref ((xG X).2.2.2.2 w) :: st)) : V X σ pc lv (.ref ((xG X).2.2.2.1 w) :: st) := by
  subst hq
  exact fun H locs ls hP hS hl => vk_getf C.1 C.2.1 (C.2.2.2.2.2.2.2.2.1.1.1 w hw).2.2.1 hS C.2.2.2.2.1 (C.2.2.2.2.2.1 _ hl0) (fun _ h => h) d (k H locs ls hP hS hl)
theorem r_compact (C : Cok X own cc nL fr lo) {idx : Nat} (d : decode cc pc = .ok (.getstatic idx, 3)) (hl0 : Cond.fieldLink own idx "java/lang/String" "COMPACT_STRINGS" "Z" ∈ TB) (hq : pc + 3 = q) (k : V X σ q lv (.int 1 :: st)) : V X σ pc lv st := by
  subst hq
  exact fun H locs ls hP hS hl => va_gets C.1 C.2.1 C.2.2.2.2.2.2.2.2.1.2.1 hS C.2.2.2.2.1 (C.2.2.2.2.2.1 _ hl0) (fun _ h => h) d (k H locs ls hP hS hl)
theorem r_sioobe (C : Cok X own cc nL fr lo) {idx : Nat} (d : decode cc pc = .ok (.getstatic idx, 3)) (hl0 : Cond.fieldLink own idx "jdk/internal/util/Preconditions" "SIOOBE_FORMATTER" "Ljava/util/function/BiFunction;" ∈ TB) (hq : pc + 3 = q) (k : ∀ r : Option Nat, V X σ q lv (va_rf r :: st)) : V X σ pc lv st := by
  subst hq
  intro H locs ls hP hS hl
  rcases C.2.2.2.2.2.2.2.2.1.2.2.1 with hz | ⟨t, hz⟩
  · exact va_gets C.1 C.2.1 hz hS C.2.2.2.2.1 (C.2.2.2.2.2.1 _ hl0) (fun _ h => h) d (k none H locs ls hP hS hl)
  · exact va_gets C.1 C.2.1 hz hS C.2.2.2.2.1 (C.2.2.2.2.2.1 _ hl0) (fun _ h => h) d (k (some t) H locs ls hP hS hl)
theorem r_tlen (C : Cok X own cc nL fr lo) {w : Nat} (d : decode cc pc = .ok (.arraylength, 1)) (hw : w < 9) (hq : pc + 1 = q) (k : V X σ q lv (.int (nI (sLen w)) :: st)) : V X σ pc lv (.ref ((xG X).2.2.2.2 w) :: st) := by
  subst hq
  exact fun H locs ls hP hS hl => va_tlen C.1 C.2.1 (C.2.2.2.2.2.2.2.2.1.1.1 w hw).2.2.2 hS rfl d (k H locs ls hP hS hl)
theorem r_tbald (C : Cok X own cc nL fr lo) {w : Nat} {i : Int32} (d : decode cc pc = .ok (.baload, 1)) (hw : w < 9) (hi : ¬ (i < 0 ∨ sLen w ≤ i.toNatClampNeg)) (hq : pc + 1 = q) (k : V X σ q lv (.int (sCh w i.toNatClampNeg) :: st)) : V X σ pc lv (.int i :: .ref ((xG X).2.2.2.2 w) :: st) := by
  subst hq
  exact fun H locs ls hP hS hl => va_tb C.1 C.2.1 (C.2.2.2.2.2.2.2.2.1.1.1 w hw).2.2.2 hS hi rfl d (k H locs ls hP hS hl)
theorem r_i2c (C : Cok X own cc nL fr lo) {x v : Int32} (d : decode cc pc = .ok (.i2c, 1)) (hv : (x.toUInt32 % 65536).toInt32 = v) (hq : pc + 1 = q) (k : V X σ q lv (.int v :: st)) : V X σ pc lv (.int x :: st) := by
  subst hq
  exact fun H locs ls hP hS hl => lv_i2c C.1 C.2.1 d hv (k H locs ls hP hS hl)
theorem r_callT (C : Cok X own cc nL fr lo) {y : MethodName} {cc2 : ByteArray} {nL2 fr2 lo2 n w idx : Nat} {ret2 : Option FieldType} {avs st0 st2 : List Value} {v : Option Value} {P : Prop} {σ1 : St} (hM : Ctr (xG X) (xl X) y cc2 nL2 ret2 fr2 lo2 (.ref ((xG X).2.2.2.1 w) :: avs) σ v P σ1) (ok : MokV y cc2 nL2 ret2 n) (hw : w < 9) (hcls : y.cls = "java/lang/String") (hl0 : Cond.methodLink own idx y ∈ TB) (hn : avs.length = n) (hR : fr2 + 1 ≤ fr ∧ 8 + (nL2 + 11) + lo2 ≤ lo) (hst : st0 = avs.reverse ++ .ref ((xG X).2.2.2.1 w) :: st) (hst2 : v.toList ++ st = st2) (hc8 : (st.map fun v => v.category).sum ≤ 8) (d : decode cc pc = .ok (.invokevirtual idx, 3)) (hq : pc + 3 = q) (k : P → V X σ1 q lv st2) : V X σ pc lv st0 := by
  subst hq
  subst hst2
  have hw1 := C.2.2.2.2.2.1
  obtain ⟨o1, o2, o3, o4, o5⟩ := ok
  intro H locs ls hP hS hl
  have hrecv := vk_recv C.2.2.2.2.2.2.2.2.1.1 hw hS
  rw [← hcls] at hrecv
  refine r_after (va_runV (As := avs) (rest := st) (mc := 0) (ms := 0) ⟨C.1, C.2.1, C.2.2.1.trans C.2.2.2.1.symm, C.2.2.2.2.1, hw1⟩ hM ⟨callB_of n hw1 (tb_in o4) rfl rfl rfl (hw1 _ o3) (hw1 _ hl0) o5 ⟨by rw [C.2.2.2.2.2.2.2.2.2.1]; exact hR.1, by rw [C.2.2.2.2.2.2.2.2.2.2.1]; exact hR.2⟩, hw1 _ o1, hw1 _ o2⟩ ⟨Wld.blind, hrecv, fun U hU hW => ⟨rfl, cok_pre C hP hS hU hW⟩⟩ rfl hn hl.1 hst (lv_room (rest := st0) hc8) d ⟨C.2.2.2.2.2.2.2.2.2.2.2.1, C.2.2.2.2.2.2.2.2.2.2.2.2⟩) hS (fun hp H1 locs1 hP1 hS1 => k hp H1 locs1 ls hP1 hS1 hl)
end HT
section HN
variable {G : Gm} {l : Launch} {y : MethodName} {cc : ByteArray} {nL fr lo : Nat} {avs : List Value} {σ σ' : St}
theorem Ctr.n {r : Int32} {ty : FieldType} (hn : narrow ty (.int r) = .int r) (hy : plainName y.cls = true) (hlv : (lg_sl avs).length ≤ nL) (h : ∀ X : CX, xG X = G → Cok X y.cls cc nL fr lo → RtI X cc r σ' → V X σ 0 (lv_args 0 avs) []) : Ctr G l y cc nL (some ty) fr lo avs σ (some (.int r)) True σ' := by
  refine Met.ofW (cc := cc) (maxL := nL) (ret := some ty) hy rfl ?_
  intro p e s m args below meth c s₁ B hml hv
  obtain ⟨rfl, hP, hK, hI, hG⟩ := hv
  have hts := atoms_spec (ws := Cond.code y cc nL (some ty) :: TB) B.pre
  have hl := lv_entry avs hlv
  rw [lg_entry_eq]
  generalize (lg_sl avs ++ List.replicate (nL - (lg_sl avs).length) Slot.unset).toArray = ls at hl ⊢
  have hlocks := B.notSynchronized
  exact h (G, p, l, e, (headSpec (Cond.code y cc nL (some ty) :: TB) { frames := fr, cells := 0, slots := 0, locals := lo }).room, s, m, avs.toArray, below, meth, c, nL, 0, 0, MQ below (Qx G (some (.int r)) True σ') avs.toArray s 0 0 (dom G)) rfl ⟨B.exec, B.bytes, hml, rfl, findClass_of_methodNamed B.named, fun w hw => hts w (List.mem_cons_of_mem _ hw), hK, hI, hG, rfl, rfl, Nat.zero_le _, Nat.zero_le _⟩
    (fun pc lv hd H locs ls hP1 hS1 hl1 => W.zret B.exec B.bytes B.returns hn (fun t ht hW => ⟨⟨rfl, trivial, by rw [ht]; exact hP1⟩, hS1.F ht⟩) hS1.2.2 hd) s.heap [] ls hP va_S.rf hl
end HN
theorem m_coder (G : Gm) (l : Launch) {σ : St} {w : Nat} (hw : w < 9) : Ctr G l yJ0_coder_7d493 cJ0_coder_7d493 1 (some .byte) 0 0 [.ref (G.2.2.2.1 w)] σ (some (.int 0)) True σ := by
  refine Ctr.n rfl (by decide) (Nat.le_of_ble_eq_true rfl) ?_
  intro X hG C hr
  subst hG
  refine r_compact C (q := 3) dJ0_coder_7d493_0 q_539 rfl ?_
  refine r_if_eq C (tgt := 13) (q := 6) dJ0_coder_7d493_3 (by decide) rfl (fun c => absurd c (by decide)) (fun _ => ?_)
  refine r_aload_n C 0 (q := 7) dJ0_coder_7d493_6 rfl rfl ?_
  refine r_tcoder C (q := 10) dJ0_coder_7d493_7 hw q_1459 rfl ?_
  refine r_goto C (tgt := 14) dJ0_coder_7d493_10 (by decide) ?_
  exact hr _ _ dJ0_coder_7d493_14
theorem m_isLatin1 (G : Gm) (l : Launch) {σ : St} {w : Nat} (hw : w < 9) : Ctr G l yJ0_isLatin1_aae02 cJ0_isLatin1_aae02 1 (some .boolean) 0 0 [.ref (G.2.2.2.1 w)] σ (some (.int 1)) True σ := by
  refine Ctr.n rfl (by decide) (Nat.le_of_ble_eq_true rfl) ?_
  intro X hG C hr
  subst hG
  refine r_compact C (q := 3) dJ0_isLatin1_aae02_0 q_539 rfl ?_
  refine r_if_eq C (tgt := 17) (q := 6) dJ0_isLatin1_aae02_3 (by decide) rfl (fun c => absurd c (by decide)) (fun _ => ?_)
  refine r_aload_n C 0 (q := 7) dJ0_isLatin1_aae02_6 rfl rfl ?_
  refine r_tcoder C (q := 10) dJ0_isLatin1_aae02_7 hw q_1459 rfl ?_
  refine r_if_ne C (tgt := 17) (q := 13) dJ0_isLatin1_aae02_10 (by decide) rfl (fun c => absurd rfl c) (fun _ => ?_)
  refine r_iconst C (v := 1) (q := 14) dJ0_isLatin1_aae02_13 (by decide) rfl ?_
  refine r_goto C (tgt := 18) dJ0_isLatin1_aae02_14 (by decide) ?_
  exact hr _ _ dJ0_isLatin1_aae02_18
theorem ok_coder : MokV yJ0_coder_7d493 cJ0_coder_7d493 1 (some .byte) 0 := ⟨q_536, q_537, q_12, q_538, by decide +kernel⟩
theorem ok_isLatin1 : MokV yJ0_isLatin1_aae02 cJ0_isLatin1_aae02 1 (some .boolean) 0 := ⟨q_546, q_547, q_12, q_548, by decide +kernel⟩
theorem ok_length : MokV yJ0_length_8abf5 cJ0_length_8abf5 1 (some .int) 0 := ⟨q_532, q_533, q_12, q_534, by decide +kernel⟩
theorem ok_charAt0 : MokV yJ0_charAt_5068e cJ0_charAt_5068e 2 (some .char) 1 := ⟨q_542, q_543, q_12, q_544, by decide +kernel⟩
theorem ok_checkIndex3 : MokS yJ3_checkIndex_8e157 cJ3_checkIndex_8e157 3 (some .int) 3 := ⟨q_558, q_14, q_559, by decide +kernel⟩
theorem ok_checkIndex0 : MokS yJ0_checkIndex_df160 cJ0_checkIndex_df160 2 none 2 := ⟨q_553, q_12, q_554, by decide +kernel⟩
theorem ok_charAt1 : MokS yJ1_charAt_3b067 cJ1_charAt_3b067 2 (some .char) 2 := ⟨q_550, q_13, q_551, by decide +kernel⟩
theorem m_length (G : Gm) (l : Launch) {σ : St} {w : Nat} (hw : w < 9) : Ctr G l yJ0_length_8abf5 cJ0_length_8abf5 1 (some .int) 1 20 [.ref (G.2.2.2.1 w)] σ (some (.int (nI (sLen w)))) True σ := by
  refine Ctr.i (by decide) (Nat.le_of_ble_eq_true rfl) ?_
  intro X hG C hr
  subst hG
  refine r_aload_n C 0 (q := 1) dJ0_length_8abf5_0 rfl rfl ?_
  refine r_tvalue C (q := 4) dJ0_length_8abf5_1 hw q_1458 rfl ?_
  refine r_tlen C (q := 5) dJ0_length_8abf5_4 hw rfl ?_
  refine r_aload_n C 0 (q := 6) dJ0_length_8abf5_5 rfl rfl ?_
  refine r_callT C (st := [.int (nI (sLen w))]) (st2 := [.int 0, .int (nI (sLen w))]) (q := 9) (m_coder (xG X) (xl X) hw) ok_coder hw rfl q_535 rfl ⟨Nat.le_of_ble_eq_true rfl, Nat.le_of_ble_eq_true rfl⟩ rfl rfl (Nat.le_of_ble_eq_true rfl) dJ0_length_8abf5_6 rfl (fun _ => ?_)
  refine r_ishr C (q := 10) dJ0_length_8abf5_9 rfl ?_
  refine r_topI (sb_shr0 _) ?_
  exact hr _ _ dJ0_length_8abf5_10
theorem m_checkIndex3 (G : Gm) (l : Launch) {σ : St} {i n : Int32} (r : Option Nat) (h0 : ¬ i < 0) (h1 : i < n) : Ctr G l yJ3_checkIndex_8e157 cJ3_checkIndex_8e157 3 (some .int) 0 0 [.int i, .int n, va_rf r] σ (some (.int i)) True σ := by
  refine Ctr.i (by decide) (by cases r <;> exact Nat.le_of_ble_eq_true rfl) ?_
  intro X hG C hr
  subst hG
  have e : lv_args 0 [.int i, .int n, va_rf r] = [(0, .int i), (1, .int n), (2, va_rf r)] := by cases r <;> rfl
  rw [e]
  refine r_iload_n C 0 (q := 1) dJ3_checkIndex_8e157_0 rfl rfl ?_
  refine r_if_lt C (tgt := 9) (q := 4) dJ3_checkIndex_8e157_1 (by decide) rfl (fun c => absurd c h0) (fun _ => ?_)
  refine r_iload_n C 0 (q := 5) dJ3_checkIndex_8e157_4 rfl rfl ?_
  refine r_iload_n C 1 (q := 6) dJ3_checkIndex_8e157_5 rfl rfl ?_
  refine r_icmp_lt C (tgt := 16) (q := 9) dJ3_checkIndex_8e157_6 (by decide) rfl (fun _ => ?_) (fun c => absurd h1 c)
  refine r_iload_n C 0 (q := 17) dJ3_checkIndex_8e157_16 rfl rfl ?_
  exact hr _ _ dJ3_checkIndex_8e157_17
theorem m_checkIndex0 (G : Gm) (l : Launch) {σ : St} {i n : Int32} (h0 : ¬ i < 0) (h1 : i < n) : Ctr G l yJ0_checkIndex_df160 cJ0_checkIndex_df160 2 none 1 22 [.int i, .int n] σ none True σ := by
  refine Ctr.v (by decide) (Nat.le_of_ble_eq_true rfl) ?_
  intro X hG C hr
  subst hG
  refine r_iload_n C 0 (q := 1) dJ0_checkIndex_df160_0 rfl rfl ?_
  refine r_iload_n C 1 (q := 2) dJ0_checkIndex_df160_1 rfl rfl ?_
  refine r_sioobe C (q := 5) dJ0_checkIndex_df160_2 q_555 rfl (fun r => ?_)
  refine r_callS C (st := []) (st2 := [.int i]) (q := 8) (m_checkIndex3 (xG X) (xl X) r h0 h1) ok_checkIndex3 q_557 rfl ⟨Nat.le_of_ble_eq_true rfl, Nat.le_of_ble_eq_true rfl⟩ rfl rfl (Nat.le_of_ble_eq_true rfl) dJ0_checkIndex_df160_5 rfl (fun _ => ?_)
  refine r_pop C (q := 9) dJ0_checkIndex_df160_8 rfl rfl ?_
  exact hr _ _ dJ0_checkIndex_df160_9
theorem m_charAt1 (G : Gm) (l : Launch) {σ : St} {w : Nat} {i : Int32} (hw : w < 9) (hi : ¬ (i < 0 ∨ sLen w ≤ i.toNatClampNeg)) : Ctr G l yJ1_charAt_3b067 cJ1_charAt_3b067 2 (some .char) 2 43 [.ref (G.2.2.2.2 w), .int i] σ (some (.int (sCh w i.toNatClampNeg &&& 255))) True σ := by
  refine Ctr.n (sc_nar _) (by decide) (Nat.le_of_ble_eq_true rfl) ?_
  intro X hG C hr
  subst hG
  have hs : sLen w < 2 ^ 31 := by
    have : ∀ w, w < 9 → sLen w < 2 ^ 31 := by decide +kernel
    exact this w hw
  have h0 : ¬ i < 0 := fun z => hi (Or.inl z)
  have h1 : i < nI (sLen w) := by
    obtain ⟨j, hj, rfl⟩ := nI_of h0
    refine nI_lt (Nat.not_le.mp fun z => hi (Or.inr ?_)) hs
    rw [nI_clamp hj]; exact z
  refine r_iload_n C 1 (q := 1) dJ1_charAt_3b067_0 rfl rfl ?_
  refine r_aload_n C 0 (q := 2) dJ1_charAt_3b067_1 rfl rfl ?_
  refine r_tlen C (q := 3) dJ1_charAt_3b067_2 hw rfl ?_
  refine r_callS C (st := []) (st2 := []) (q := 6) (m_checkIndex0 (xG X) (xl X) h0 h1) ok_checkIndex0 q_552 rfl ⟨Nat.le_of_ble_eq_true rfl, Nat.le_of_ble_eq_true rfl⟩ rfl rfl (Nat.le_of_ble_eq_true rfl) dJ1_charAt_3b067_3 rfl (fun _ => ?_)
  refine r_aload_n C 0 (q := 7) dJ1_charAt_3b067_6 rfl rfl ?_
  refine r_iload_n C 1 (q := 8) dJ1_charAt_3b067_7 rfl rfl ?_
  refine r_tbald C (q := 9) dJ1_charAt_3b067_8 hw hi rfl ?_
  refine r_sipush C (v := 255) (q := 12) dJ1_charAt_3b067_9 (by decide) rfl ?_
  refine r_iand C (q := 13) dJ1_charAt_3b067_12 rfl ?_
  refine r_i2c C (q := 14) dJ1_charAt_3b067_13 (sc_c2 _) rfl ?_
  exact hr _ _ dJ1_charAt_3b067_14
theorem m_charAt0 (G : Gm) (l : Launch) {σ : St} {w : Nat} {i : Int32} (hw : w < 9) (hi : ¬ (i < 0 ∨ sLen w ≤ i.toNatClampNeg)) : Ctr G l yJ0_charAt_5068e cJ0_charAt_5068e 2 (some .char) 3 64 [.ref (G.2.2.2.1 w), .int i] σ (some (.int (sCh w i.toNatClampNeg &&& 255))) True σ := by
  refine Ctr.n (sc_nar _) (by decide) (Nat.le_of_ble_eq_true rfl) ?_
  intro X hG C hr
  subst hG
  refine r_aload_n C 0 (q := 1) dJ0_charAt_5068e_0 rfl rfl ?_
  refine r_callT C (st := []) (st2 := [.int 1]) (q := 4) (m_isLatin1 (xG X) (xl X) hw) ok_isLatin1 hw rfl q_545 rfl ⟨Nat.le_of_ble_eq_true rfl, Nat.le_of_ble_eq_true rfl⟩ rfl rfl (Nat.le_of_ble_eq_true rfl) dJ0_charAt_5068e_1 rfl (fun _ => ?_)
  refine r_if_eq C (tgt := 16) (q := 7) dJ0_charAt_5068e_4 (by decide) rfl (fun c => absurd c (by decide)) (fun _ => ?_)
  refine r_aload_n C 0 (q := 8) dJ0_charAt_5068e_7 rfl rfl ?_
  refine r_tvalue C (q := 11) dJ0_charAt_5068e_8 hw q_1458 rfl ?_
  refine r_iload_n C 1 (q := 12) dJ0_charAt_5068e_11 rfl rfl ?_
  refine r_callS C (st := []) (st2 := [.int (sCh w i.toNatClampNeg &&& 255)]) (q := 15) (m_charAt1 (xG X) (xl X) hw hi) ok_charAt1 q_549 rfl ⟨Nat.le_of_ble_eq_true rfl, Nat.le_of_ble_eq_true rfl⟩ rfl rfl (Nat.le_of_ble_eq_true rfl) dJ0_charAt_5068e_12 rfl (fun _ => ?_)
  exact hr _ _ dJ0_charAt_5068e_15
section HU
variable {X : CX} {own : String} {cc : ByteArray} {nL fr lo : Nat} {σ : St} {pc q : Nat} {lv : List (Nat × Value)} {st : List Value}
theorem r_slen (C : Cok X own cc nL fr lo) {idx w : Nat} (d : decode cc pc = .ok (.invokevirtual idx, 3)) (hl0 : Cond.methodLink own idx yJ0_length_8abf5 ∈ TB) (hw : w < 9) (hR : 1 + 1 ≤ fr ∧ 8 + (1 + 11) + 20 ≤ lo) (hc8 : (st.map fun v => v.category).sum ≤ 8) (hq : pc + 3 = q) (k : V X σ q lv (.int (nI (sLen w)) :: st)) : V X σ pc lv (.ref ((xG X).2.2.2.1 w) :: st) :=
  r_callT C (st := st) (q := q) (m_length (xG X) (xl X) hw) ok_length hw rfl hl0 rfl hR rfl rfl hc8 d hq (fun _ => k)
theorem r_schar (C : Cok X own cc nL fr lo) {idx w : Nat} {i v : Int32} (d : decode cc pc = .ok (.invokevirtual idx, 3)) (hl0 : Cond.methodLink own idx yJ0_charAt_5068e ∈ TB) (hw : w < 9) (hv : chA w i = some v) (hR : 3 + 1 ≤ fr ∧ 8 + (2 + 11) + 64 ≤ lo) (hc8 : (st.map fun v => v.category).sum ≤ 8) (hq : pc + 3 = q) (k : V X σ q lv (.int v :: st)) : V X σ pc lv (.int i :: .ref ((xG X).2.2.2.1 w) :: st) := by
  obtain ⟨h, rfl⟩ := grd hv
  exact r_callT C (st := st) (q := q) (m_charAt0 (xG X) (xl X) hw h) ok_charAt0 hw rfl hl0 rfl hR rfl rfl hc8 d hq (fun _ => k)
end HU
theorem i_X0 : ∀ w ∈ u_ws RX0 TX0 12, w ∈ TB := by
  show ∀ w ∈ ([u_lay RX0 TX0 0, u_lay RX0 TX0 1, u_lay RX0 TX0 2, u_lay RX0 TX0 3, u_lay RX0 TX0 4, u_lay RX0 TX0 5, u_lay RX0 TX0 6, u_lay RX0 TX0 7, u_lay RX0 TX0 8, u_lay RX0 TX0 9, u_lay RX0 TX0 10, u_lay RX0 TX0 11] : List Cond), w ∈ TB
  exact List.forall_mem_cons.mpr ⟨q_94, List.forall_mem_cons.mpr ⟨q_96, List.forall_mem_cons.mpr ⟨q_98, List.forall_mem_cons.mpr ⟨q_100, List.forall_mem_cons.mpr ⟨q_102, List.forall_mem_cons.mpr ⟨q_104, List.forall_mem_cons.mpr ⟨q_106, List.forall_mem_cons.mpr ⟨q_108, List.forall_mem_cons.mpr ⟨q_110, List.forall_mem_cons.mpr ⟨q_112, List.forall_mem_cons.mpr ⟨q_114, List.forall_mem_cons.mpr ⟨q_116, fun _ h => absurd h List.not_mem_nil⟩⟩⟩⟩⟩⟩⟩⟩⟩⟩⟩⟩
theorem g_X0_0 {X : CX} {own : String} {cc : ByteArray} {nL fr lo : Nat} {σ : St} {pc q a idx : Nat} {lv : List (Nat × Value)} {st : List Value} (C : Cok X own cc nL fr lo) (d : decode cc pc = .ok (.getfield idx, 3)) (hw : Cond.fieldLink own idx "CutDeeper$House" "places" "I" ∈ TB) (hk : kd a = 1) (hq : pc + 3 = q) (k : V X σ q lv (.int (σ.1 a 0) :: st)) : V X σ pc lv (.ref ((xG X).1 a) :: st) :=
  r_get C (ci := 0) (fk := 0) (T := TX0) (N := 12) (Cn := RX0) rfl i_X0 rfl (Nat.le_of_ble_eq_true rfl) hk rfl rfl hw d hq k
theorem p_X0_0 {X : CX} {own : String} {cc : ByteArray} {nL fr lo : Nat} {σ : St} {pc q a idx : Nat} {lv : List (Nat × Value)} {st : List Value} (C : Cok X own cc nL fr lo) {v : Int32} {σ1 : St} (d : decode cc pc = .ok (.putfield idx, 3)) (hw : Cond.fieldLink own idx "CutDeeper$House" "places" "I" ∈ TB) (hk : kd a = 1) (hv : ptI σ a 0 v = some σ1) (hq : pc + 3 = q) (k : V X σ1 q lv st) : V X σ pc lv (.int v :: .ref ((xG X).1 a) :: st) := by
  obtain rfl := Option.some.inj hv
  exact r_put C (ci := 0) (fk := 0) (T := TX0) (N := 12) (Cn := RX0) (ty0 := tyX0) (ty := .int) rfl i_X0 tyX0_ok nmX0 rfl (Nat.le_of_ble_eq_true rfl) hk rfl rfl rfl rfl rfl (Nat.le_of_ble_eq_true rfl) (by simp [entK, setI, upd]) (fun b hb => setI_o hb) hw d hq k
theorem g_X0_1 {X : CX} {own : String} {cc : ByteArray} {nL fr lo : Nat} {σ : St} {pc q a idx : Nat} {lv : List (Nat × Value)} {st : List Value} (C : Cok X own cc nL fr lo) (d : decode cc pc = .ok (.getfield idx, 3)) (hw : Cond.fieldLink own idx "CutDeeper$House" "deep" "I" ∈ TB) (hk : kd a = 1) (hq : pc + 3 = q) (k : V X σ q lv (.int (σ.1 a 1) :: st)) : V X σ pc lv (.ref ((xG X).1 a) :: st) :=
  r_get C (ci := 0) (fk := 1) (T := TX0) (N := 12) (Cn := RX0) rfl i_X0 rfl (Nat.le_of_ble_eq_true rfl) hk rfl rfl hw d hq k
theorem p_X0_1 {X : CX} {own : String} {cc : ByteArray} {nL fr lo : Nat} {σ : St} {pc q a idx : Nat} {lv : List (Nat × Value)} {st : List Value} (C : Cok X own cc nL fr lo) {v : Int32} {σ1 : St} (d : decode cc pc = .ok (.putfield idx, 3)) (hw : Cond.fieldLink own idx "CutDeeper$House" "deep" "I" ∈ TB) (hk : kd a = 1) (hv : ptI σ a 1 v = some σ1) (hq : pc + 3 = q) (k : V X σ1 q lv st) : V X σ pc lv (.int v :: .ref ((xG X).1 a) :: st) := by
  obtain rfl := Option.some.inj hv
  exact r_put C (ci := 0) (fk := 1) (T := TX0) (N := 12) (Cn := RX0) (ty0 := tyX0) (ty := .int) rfl i_X0 tyX0_ok nmX0 rfl (Nat.le_of_ble_eq_true rfl) hk rfl rfl rfl rfl rfl (Nat.le_of_ble_eq_true rfl) (by simp [entK, setI, upd]) (fun b hb => setI_o hb) hw d hq k
theorem g_X0_2 {X : CX} {own : String} {cc : ByteArray} {nL fr lo : Nat} {σ : St} {pc q a idx : Nat} {lv : List (Nat × Value)} {st : List Value} (C : Cok X own cc nL fr lo) (d : decode cc pc = .ok (.getfield idx, 3)) (hw : Cond.fieldLink own idx "CutDeeper$House" "strength" "I" ∈ TB) (hk : kd a = 1) (hq : pc + 3 = q) (k : V X σ q lv (.int (σ.1 a 2) :: st)) : V X σ pc lv (.ref ((xG X).1 a) :: st) :=
  r_get C (ci := 0) (fk := 2) (T := TX0) (N := 12) (Cn := RX0) rfl i_X0 rfl (Nat.le_of_ble_eq_true rfl) hk rfl rfl hw d hq k
theorem p_X0_2 {X : CX} {own : String} {cc : ByteArray} {nL fr lo : Nat} {σ : St} {pc q a idx : Nat} {lv : List (Nat × Value)} {st : List Value} (C : Cok X own cc nL fr lo) {v : Int32} {σ1 : St} (d : decode cc pc = .ok (.putfield idx, 3)) (hw : Cond.fieldLink own idx "CutDeeper$House" "strength" "I" ∈ TB) (hk : kd a = 1) (hv : ptI σ a 2 v = some σ1) (hq : pc + 3 = q) (k : V X σ1 q lv st) : V X σ pc lv (.int v :: .ref ((xG X).1 a) :: st) := by
  obtain rfl := Option.some.inj hv
  exact r_put C (ci := 0) (fk := 2) (T := TX0) (N := 12) (Cn := RX0) (ty0 := tyX0) (ty := .int) rfl i_X0 tyX0_ok nmX0 rfl (Nat.le_of_ble_eq_true rfl) hk rfl rfl rfl rfl rfl (Nat.le_of_ble_eq_true rfl) (by simp [entK, setI, upd]) (fun b hb => setI_o hb) hw d hq k
theorem g_X0_3 {X : CX} {own : String} {cc : ByteArray} {nL fr lo : Nat} {σ : St} {pc q a idx : Nat} {lv : List (Nat × Value)} {st : List Value} (C : Cok X own cc nL fr lo) (d : decode cc pc = .ok (.getfield idx, 3)) (hw : Cond.fieldLink own idx "CutDeeper$House" "coins" "I" ∈ TB) (hk : kd a = 1) (hq : pc + 3 = q) (k : V X σ q lv (.int (σ.1 a 3) :: st)) : V X σ pc lv (.ref ((xG X).1 a) :: st) :=
  r_get C (ci := 0) (fk := 3) (T := TX0) (N := 12) (Cn := RX0) rfl i_X0 rfl (Nat.le_of_ble_eq_true rfl) hk rfl rfl hw d hq k
theorem p_X0_3 {X : CX} {own : String} {cc : ByteArray} {nL fr lo : Nat} {σ : St} {pc q a idx : Nat} {lv : List (Nat × Value)} {st : List Value} (C : Cok X own cc nL fr lo) {v : Int32} {σ1 : St} (d : decode cc pc = .ok (.putfield idx, 3)) (hw : Cond.fieldLink own idx "CutDeeper$House" "coins" "I" ∈ TB) (hk : kd a = 1) (hv : ptI σ a 3 v = some σ1) (hq : pc + 3 = q) (k : V X σ1 q lv st) : V X σ pc lv (.int v :: .ref ((xG X).1 a) :: st) := by
  obtain rfl := Option.some.inj hv
  exact r_put C (ci := 0) (fk := 3) (T := TX0) (N := 12) (Cn := RX0) (ty0 := tyX0) (ty := .int) rfl i_X0 tyX0_ok nmX0 rfl (Nat.le_of_ble_eq_true rfl) hk rfl rfl rfl rfl rfl (Nat.le_of_ble_eq_true rfl) (by simp [entK, setI, upd]) (fun b hb => setI_o hb) hw d hq k
theorem g_X0_4 {X : CX} {own : String} {cc : ByteArray} {nL fr lo : Nat} {σ : St} {pc q a idx : Nat} {lv : List (Nat × Value)} {st : List Value} (C : Cok X own cc nL fr lo) (d : decode cc pc = .ok (.getfield idx, 3)) (hw : Cond.fieldLink own idx "CutDeeper$House" "seed" "I" ∈ TB) (hk : kd a = 1) (hq : pc + 3 = q) (k : V X σ q lv (.int (σ.1 a 4) :: st)) : V X σ pc lv (.ref ((xG X).1 a) :: st) :=
  r_get C (ci := 0) (fk := 4) (T := TX0) (N := 12) (Cn := RX0) rfl i_X0 rfl (Nat.le_of_ble_eq_true rfl) hk rfl rfl hw d hq k
theorem p_X0_4 {X : CX} {own : String} {cc : ByteArray} {nL fr lo : Nat} {σ : St} {pc q a idx : Nat} {lv : List (Nat × Value)} {st : List Value} (C : Cok X own cc nL fr lo) {v : Int32} {σ1 : St} (d : decode cc pc = .ok (.putfield idx, 3)) (hw : Cond.fieldLink own idx "CutDeeper$House" "seed" "I" ∈ TB) (hk : kd a = 1) (hv : ptI σ a 4 v = some σ1) (hq : pc + 3 = q) (k : V X σ1 q lv st) : V X σ pc lv (.int v :: .ref ((xG X).1 a) :: st) := by
  obtain rfl := Option.some.inj hv
  exact r_put C (ci := 0) (fk := 4) (T := TX0) (N := 12) (Cn := RX0) (ty0 := tyX0) (ty := .int) rfl i_X0 tyX0_ok nmX0 rfl (Nat.le_of_ble_eq_true rfl) hk rfl rfl rfl rfl rfl (Nat.le_of_ble_eq_true rfl) (by simp [entK, setI, upd]) (fun b hb => setI_o hb) hw d hq k
theorem g_X0_5 {X : CX} {own : String} {cc : ByteArray} {nL fr lo : Nat} {σ : St} {pc q a idx : Nat} {lv : List (Nat × Value)} {st : List Value} (C : Cok X own cc nL fr lo) (d : decode cc pc = .ok (.getfield idx, 3)) (hw : Cond.fieldLink own idx "CutDeeper$House" "keyCount" "I" ∈ TB) (hk : kd a = 1) (hq : pc + 3 = q) (k : V X σ q lv (.int (σ.1 a 5) :: st)) : V X σ pc lv (.ref ((xG X).1 a) :: st) :=
  r_get C (ci := 0) (fk := 5) (T := TX0) (N := 12) (Cn := RX0) rfl i_X0 rfl (Nat.le_of_ble_eq_true rfl) hk rfl rfl hw d hq k
theorem p_X0_5 {X : CX} {own : String} {cc : ByteArray} {nL fr lo : Nat} {σ : St} {pc q a idx : Nat} {lv : List (Nat × Value)} {st : List Value} (C : Cok X own cc nL fr lo) {v : Int32} {σ1 : St} (d : decode cc pc = .ok (.putfield idx, 3)) (hw : Cond.fieldLink own idx "CutDeeper$House" "keyCount" "I" ∈ TB) (hk : kd a = 1) (hv : ptI σ a 5 v = some σ1) (hq : pc + 3 = q) (k : V X σ1 q lv st) : V X σ pc lv (.int v :: .ref ((xG X).1 a) :: st) := by
  obtain rfl := Option.some.inj hv
  exact r_put C (ci := 0) (fk := 5) (T := TX0) (N := 12) (Cn := RX0) (ty0 := tyX0) (ty := .int) rfl i_X0 tyX0_ok nmX0 rfl (Nat.le_of_ble_eq_true rfl) hk rfl rfl rfl rfl rfl (Nat.le_of_ble_eq_true rfl) (by simp [entK, setI, upd]) (fun b hb => setI_o hb) hw d hq k
theorem g_X0_6 {X : CX} {own : String} {cc : ByteArray} {nL fr lo : Nat} {σ : St} {pc q a idx : Nat} {lv : List (Nat × Value)} {st : List Value} (C : Cok X own cc nL fr lo) (d : decode cc pc = .ok (.getfield idx, 3)) (hw : Cond.fieldLink own idx "CutDeeper$House" "lockCount" "I" ∈ TB) (hk : kd a = 1) (hq : pc + 3 = q) (k : V X σ q lv (.int (σ.1 a 6) :: st)) : V X σ pc lv (.ref ((xG X).1 a) :: st) :=
  r_get C (ci := 0) (fk := 6) (T := TX0) (N := 12) (Cn := RX0) rfl i_X0 rfl (Nat.le_of_ble_eq_true rfl) hk rfl rfl hw d hq k
theorem p_X0_6 {X : CX} {own : String} {cc : ByteArray} {nL fr lo : Nat} {σ : St} {pc q a idx : Nat} {lv : List (Nat × Value)} {st : List Value} (C : Cok X own cc nL fr lo) {v : Int32} {σ1 : St} (d : decode cc pc = .ok (.putfield idx, 3)) (hw : Cond.fieldLink own idx "CutDeeper$House" "lockCount" "I" ∈ TB) (hk : kd a = 1) (hv : ptI σ a 6 v = some σ1) (hq : pc + 3 = q) (k : V X σ1 q lv st) : V X σ pc lv (.int v :: .ref ((xG X).1 a) :: st) := by
  obtain rfl := Option.some.inj hv
  exact r_put C (ci := 0) (fk := 6) (T := TX0) (N := 12) (Cn := RX0) (ty0 := tyX0) (ty := .int) rfl i_X0 tyX0_ok nmX0 rfl (Nat.le_of_ble_eq_true rfl) hk rfl rfl rfl rfl rfl (Nat.le_of_ble_eq_true rfl) (by simp [entK, setI, upd]) (fun b hb => setI_o hb) hw d hq k
theorem g_X0_7 {X : CX} {own : String} {cc : ByteArray} {nL fr lo : Nat} {σ : St} {pc q a idx : Nat} {lv : List (Nat × Value)} {st : List Value} (C : Cok X own cc nL fr lo) (d : decode cc pc = .ok (.getfield idx, 3)) (hw : Cond.fieldLink own idx "CutDeeper$House" "wards" "I" ∈ TB) (hk : kd a = 1) (hq : pc + 3 = q) (k : V X σ q lv (.int (σ.1 a 7) :: st)) : V X σ pc lv (.ref ((xG X).1 a) :: st) :=
  r_get C (ci := 0) (fk := 7) (T := TX0) (N := 12) (Cn := RX0) rfl i_X0 rfl (Nat.le_of_ble_eq_true rfl) hk rfl rfl hw d hq k
theorem p_X0_7 {X : CX} {own : String} {cc : ByteArray} {nL fr lo : Nat} {σ : St} {pc q a idx : Nat} {lv : List (Nat × Value)} {st : List Value} (C : Cok X own cc nL fr lo) {v : Int32} {σ1 : St} (d : decode cc pc = .ok (.putfield idx, 3)) (hw : Cond.fieldLink own idx "CutDeeper$House" "wards" "I" ∈ TB) (hk : kd a = 1) (hv : ptI σ a 7 v = some σ1) (hq : pc + 3 = q) (k : V X σ1 q lv st) : V X σ pc lv (.int v :: .ref ((xG X).1 a) :: st) := by
  obtain rfl := Option.some.inj hv
  exact r_put C (ci := 0) (fk := 7) (T := TX0) (N := 12) (Cn := RX0) (ty0 := tyX0) (ty := .int) rfl i_X0 tyX0_ok nmX0 rfl (Nat.le_of_ble_eq_true rfl) hk rfl rfl rfl rfl rfl (Nat.le_of_ble_eq_true rfl) (by simp [entK, setI, upd]) (fun b hb => setI_o hb) hw d hq k
theorem kf_X0_8_all : ∀ a, a < 110 → kd a = 1 → kd (a + 1) = 10 := by decide +kernel
theorem kf_X0_8 {a : Nat} (h : kd a = 1) : kd (a + 1) = 10 := kf_X0_8_all a (kd_lt h) h
theorem g_X0_8 {X : CX} {own : String} {cc : ByteArray} {nL fr lo : Nat} {σ : St} {pc q a idx : Nat} {lv : List (Nat × Value)} {st : List Value} (C : Cok X own cc nL fr lo) (d : decode cc pc = .ok (.getfield idx, 3)) (hw : Cond.fieldLink own idx "CutDeeper$House" "keys" "[LCutDeeper$Key;" ∈ TB) (hk : kd a = 1) (hq : pc + 3 = q) (k : V X σ q lv (.ref ((xG X).1 (a + 1)) :: st)) : V X σ pc lv (.ref ((xG X).1 a) :: st) :=
  r_get C (ci := 0) (fk := 8) (T := TX0) (N := 12) (Cn := RX0) rfl i_X0 rfl (Nat.le_of_ble_eq_true rfl) hk rfl rfl hw d hq k
theorem kf_X0_9_all : ∀ a, a < 110 → kd a = 1 → kd (a + 16) = 2 := by decide +kernel
theorem kf_X0_9 {a : Nat} (h : kd a = 1) : kd (a + 16) = 2 := kf_X0_9_all a (kd_lt h) h
theorem g_X0_9 {X : CX} {own : String} {cc : ByteArray} {nL fr lo : Nat} {σ : St} {pc q a idx : Nat} {lv : List (Nat × Value)} {st : List Value} (C : Cok X own cc nL fr lo) (d : decode cc pc = .ok (.getfield idx, 3)) (hw : Cond.fieldLink own idx "CutDeeper$House" "noKey" "LCutDeeper$Key;" ∈ TB) (hk : kd a = 1) (hq : pc + 3 = q) (k : V X σ q lv (.ref ((xG X).1 (a + 16)) :: st)) : V X σ pc lv (.ref ((xG X).1 a) :: st) :=
  r_get C (ci := 0) (fk := 9) (T := TX0) (N := 12) (Cn := RX0) rfl i_X0 rfl (Nat.le_of_ble_eq_true rfl) hk rfl rfl hw d hq k
theorem kf_X0_10_all : ∀ a, a < 110 → kd a = 1 → kd (a + 2) = 8 := by decide +kernel
theorem kf_X0_10 {a : Nat} (h : kd a = 1) : kd (a + 2) = 8 := kf_X0_10_all a (kd_lt h) h
theorem g_X0_10 {X : CX} {own : String} {cc : ByteArray} {nL fr lo : Nat} {σ : St} {pc q a idx : Nat} {lv : List (Nat × Value)} {st : List Value} (C : Cok X own cc nL fr lo) (d : decode cc pc = .ok (.getfield idx, 3)) (hw : Cond.fieldLink own idx "CutDeeper$House" "askRows" "[I" ∈ TB) (hk : kd a = 1) (hq : pc + 3 = q) (k : V X σ q lv (.ref ((xG X).1 (a + 2)) :: st)) : V X σ pc lv (.ref ((xG X).1 a) :: st) :=
  r_get C (ci := 0) (fk := 10) (T := TX0) (N := 12) (Cn := RX0) rfl i_X0 rfl (Nat.le_of_ble_eq_true rfl) hk rfl rfl hw d hq k
theorem kf_X0_11_all : ∀ a, a < 110 → kd a = 1 → kd (a + 3) = 8 := by decide +kernel
theorem kf_X0_11 {a : Nat} (h : kd a = 1) : kd (a + 3) = 8 := kf_X0_11_all a (kd_lt h) h
theorem g_X0_11 {X : CX} {own : String} {cc : ByteArray} {nL fr lo : Nat} {σ : St} {pc q a idx : Nat} {lv : List (Nat × Value)} {st : List Value} (C : Cok X own cc nL fr lo) (d : decode cc pc = .ok (.getfield idx, 3)) (hw : Cond.fieldLink own idx "CutDeeper$House" "within" "[I" ∈ TB) (hk : kd a = 1) (hq : pc + 3 = q) (k : V X σ q lv (.ref ((xG X).1 (a + 3)) :: st)) : V X σ pc lv (.ref ((xG X).1 a) :: st) :=
  r_get C (ci := 0) (fk := 11) (T := TX0) (N := 12) (Cn := RX0) rfl i_X0 rfl (Nat.le_of_ble_eq_true rfl) hk rfl rfl hw d hq k
theorem i_X1 : ∀ w ∈ u_ws RX1 TX1 4, w ∈ TB := by
  show ∀ w ∈ ([u_lay RX1 TX1 0, u_lay RX1 TX1 1, u_lay RX1 TX1 2, u_lay RX1 TX1 3] : List Cond), w ∈ TB
  exact List.forall_mem_cons.mpr ⟨q_52, List.forall_mem_cons.mpr ⟨q_54, List.forall_mem_cons.mpr ⟨q_56, List.forall_mem_cons.mpr ⟨q_58, fun _ h => absurd h List.not_mem_nil⟩⟩⟩⟩
theorem g_X1_0 {X : CX} {own : String} {cc : ByteArray} {nL fr lo : Nat} {σ : St} {pc q a idx : Nat} {lv : List (Nat × Value)} {st : List Value} (C : Cok X own cc nL fr lo) (d : decode cc pc = .ok (.getfield idx, 3)) (hw : Cond.fieldLink own idx "CutDeeper$Key" "kind" "I" ∈ TB) (hk : kd a = 2) (hq : pc + 3 = q) (k : V X σ q lv (.int (σ.1 a 0) :: st)) : V X σ pc lv (.ref ((xG X).1 a) :: st) :=
  r_get C (ci := 1) (fk := 0) (T := TX1) (N := 4) (Cn := RX1) rfl i_X1 rfl (Nat.le_of_ble_eq_true rfl) hk rfl rfl hw d hq k
theorem p_X1_0 {X : CX} {own : String} {cc : ByteArray} {nL fr lo : Nat} {σ : St} {pc q a idx : Nat} {lv : List (Nat × Value)} {st : List Value} (C : Cok X own cc nL fr lo) {v : Int32} {σ1 : St} (d : decode cc pc = .ok (.putfield idx, 3)) (hw : Cond.fieldLink own idx "CutDeeper$Key" "kind" "I" ∈ TB) (hk : kd a = 2) (hv : ptI σ a 0 v = some σ1) (hq : pc + 3 = q) (k : V X σ1 q lv st) : V X σ pc lv (.int v :: .ref ((xG X).1 a) :: st) := by
  obtain rfl := Option.some.inj hv
  exact r_put C (ci := 1) (fk := 0) (T := TX1) (N := 4) (Cn := RX1) (ty0 := tyX1) (ty := .int) rfl i_X1 tyX1_ok nmX1 rfl (Nat.le_of_ble_eq_true rfl) hk rfl rfl rfl rfl rfl (Nat.le_of_ble_eq_true rfl) (by simp [entK, setI, upd]) (fun b hb => setI_o hb) hw d hq k
theorem g_X1_1 {X : CX} {own : String} {cc : ByteArray} {nL fr lo : Nat} {σ : St} {pc q a idx : Nat} {lv : List (Nat × Value)} {st : List Value} (C : Cok X own cc nL fr lo) (d : decode cc pc = .ok (.getfield idx, 3)) (hw : Cond.fieldLink own idx "CutDeeper$Key" "a" "I" ∈ TB) (hk : kd a = 2) (hq : pc + 3 = q) (k : V X σ q lv (.int (σ.1 a 1) :: st)) : V X σ pc lv (.ref ((xG X).1 a) :: st) :=
  r_get C (ci := 1) (fk := 1) (T := TX1) (N := 4) (Cn := RX1) rfl i_X1 rfl (Nat.le_of_ble_eq_true rfl) hk rfl rfl hw d hq k
theorem p_X1_1 {X : CX} {own : String} {cc : ByteArray} {nL fr lo : Nat} {σ : St} {pc q a idx : Nat} {lv : List (Nat × Value)} {st : List Value} (C : Cok X own cc nL fr lo) {v : Int32} {σ1 : St} (d : decode cc pc = .ok (.putfield idx, 3)) (hw : Cond.fieldLink own idx "CutDeeper$Key" "a" "I" ∈ TB) (hk : kd a = 2) (hv : ptI σ a 1 v = some σ1) (hq : pc + 3 = q) (k : V X σ1 q lv st) : V X σ pc lv (.int v :: .ref ((xG X).1 a) :: st) := by
  obtain rfl := Option.some.inj hv
  exact r_put C (ci := 1) (fk := 1) (T := TX1) (N := 4) (Cn := RX1) (ty0 := tyX1) (ty := .int) rfl i_X1 tyX1_ok nmX1 rfl (Nat.le_of_ble_eq_true rfl) hk rfl rfl rfl rfl rfl (Nat.le_of_ble_eq_true rfl) (by simp [entK, setI, upd]) (fun b hb => setI_o hb) hw d hq k
theorem g_X1_2 {X : CX} {own : String} {cc : ByteArray} {nL fr lo : Nat} {σ : St} {pc q a idx : Nat} {lv : List (Nat × Value)} {st : List Value} (C : Cok X own cc nL fr lo) (d : decode cc pc = .ok (.getfield idx, 3)) (hw : Cond.fieldLink own idx "CutDeeper$Key" "may" "I" ∈ TB) (hk : kd a = 2) (hq : pc + 3 = q) (k : V X σ q lv (.int (σ.1 a 2) :: st)) : V X σ pc lv (.ref ((xG X).1 a) :: st) :=
  r_get C (ci := 1) (fk := 2) (T := TX1) (N := 4) (Cn := RX1) rfl i_X1 rfl (Nat.le_of_ble_eq_true rfl) hk rfl rfl hw d hq k
theorem p_X1_2 {X : CX} {own : String} {cc : ByteArray} {nL fr lo : Nat} {σ : St} {pc q a idx : Nat} {lv : List (Nat × Value)} {st : List Value} (C : Cok X own cc nL fr lo) {v : Int32} {σ1 : St} (d : decode cc pc = .ok (.putfield idx, 3)) (hw : Cond.fieldLink own idx "CutDeeper$Key" "may" "I" ∈ TB) (hk : kd a = 2) (hv : ptI σ a 2 v = some σ1) (hq : pc + 3 = q) (k : V X σ1 q lv st) : V X σ pc lv (.int v :: .ref ((xG X).1 a) :: st) := by
  obtain rfl := Option.some.inj hv
  exact r_put C (ci := 1) (fk := 2) (T := TX1) (N := 4) (Cn := RX1) (ty0 := tyX1) (ty := .int) rfl i_X1 tyX1_ok nmX1 rfl (Nat.le_of_ble_eq_true rfl) hk rfl rfl rfl rfl rfl (Nat.le_of_ble_eq_true rfl) (by simp [entK, setI, upd]) (fun b hb => setI_o hb) hw d hq k
theorem kf_X1_3_all : ∀ a, a < 110 → kd a = 2 → kd (a + 1) = 8 := by decide +kernel
theorem kf_X1_3 {a : Nat} (h : kd a = 2) : kd (a + 1) = 8 := kf_X1_3_all a (kd_lt h) h
theorem g_X1_3 {X : CX} {own : String} {cc : ByteArray} {nL fr lo : Nat} {σ : St} {pc q a idx : Nat} {lv : List (Nat × Value)} {st : List Value} (C : Cok X own cc nL fr lo) (d : decode cc pc = .ok (.getfield idx, 3)) (hw : Cond.fieldLink own idx "CutDeeper$Key" "cut" "[I" ∈ TB) (hk : kd a = 2) (hq : pc + 3 = q) (k : V X σ q lv (.ref ((xG X).1 (a + 1)) :: st)) : V X σ pc lv (.ref ((xG X).1 a) :: st) :=
  r_get C (ci := 1) (fk := 3) (T := TX1) (N := 4) (Cn := RX1) rfl i_X1 rfl (Nat.le_of_ble_eq_true rfl) hk rfl rfl hw d hq k
theorem i_X2 : ∀ w ∈ u_ws RX2 TX2 3, w ∈ TB := by
  show ∀ w ∈ ([u_lay RX2 TX2 0, u_lay RX2 TX2 1, u_lay RX2 TX2 2] : List Cond), w ∈ TB
  exact List.forall_mem_cons.mpr ⟨q_195, List.forall_mem_cons.mpr ⟨q_197, List.forall_mem_cons.mpr ⟨q_199, fun _ h => absurd h List.not_mem_nil⟩⟩⟩
theorem g_X2_0 {X : CX} {own : String} {cc : ByteArray} {nL fr lo : Nat} {σ : St} {pc q a idx : Nat} {lv : List (Nat × Value)} {st : List Value} (C : Cok X own cc nL fr lo) (d : decode cc pc = .ok (.getfield idx, 3)) (hw : Cond.fieldLink own idx "CutDeeper$Shelf" "holding" "I" ∈ TB) (hk : kd a = 3) (hq : pc + 3 = q) (k : V X σ q lv (.int (σ.1 a 0) :: st)) : V X σ pc lv (.ref ((xG X).1 a) :: st) :=
  r_get C (ci := 2) (fk := 0) (T := TX2) (N := 3) (Cn := RX2) rfl i_X2 rfl (Nat.le_of_ble_eq_true rfl) hk rfl rfl hw d hq k
theorem p_X2_0 {X : CX} {own : String} {cc : ByteArray} {nL fr lo : Nat} {σ : St} {pc q a idx : Nat} {lv : List (Nat × Value)} {st : List Value} (C : Cok X own cc nL fr lo) {v : Int32} {σ1 : St} (d : decode cc pc = .ok (.putfield idx, 3)) (hw : Cond.fieldLink own idx "CutDeeper$Shelf" "holding" "I" ∈ TB) (hk : kd a = 3) (hv : ptI σ a 0 v = some σ1) (hq : pc + 3 = q) (k : V X σ1 q lv st) : V X σ pc lv (.int v :: .ref ((xG X).1 a) :: st) := by
  obtain rfl := Option.some.inj hv
  exact r_put C (ci := 2) (fk := 0) (T := TX2) (N := 3) (Cn := RX2) (ty0 := tyX2) (ty := .int) rfl i_X2 tyX2_ok nmX2 rfl (Nat.le_of_ble_eq_true rfl) hk rfl rfl rfl rfl rfl (Nat.le_of_ble_eq_true rfl) (by simp [entK, setI, upd]) (fun b hb => setI_o hb) hw d hq k
theorem g_X2_1 {X : CX} {own : String} {cc : ByteArray} {nL fr lo : Nat} {σ : St} {pc q a idx : Nat} {lv : List (Nat × Value)} {st : List Value} (C : Cok X own cc nL fr lo) (d : decode cc pc = .ok (.getfield idx, 3)) (hw : Cond.fieldLink own idx "CutDeeper$Shelf" "size" "I" ∈ TB) (hk : kd a = 3) (hq : pc + 3 = q) (k : V X σ q lv (.int (σ.1 a 1) :: st)) : V X σ pc lv (.ref ((xG X).1 a) :: st) :=
  r_get C (ci := 2) (fk := 1) (T := TX2) (N := 3) (Cn := RX2) rfl i_X2 rfl (Nat.le_of_ble_eq_true rfl) hk rfl rfl hw d hq k
theorem p_X2_1 {X : CX} {own : String} {cc : ByteArray} {nL fr lo : Nat} {σ : St} {pc q a idx : Nat} {lv : List (Nat × Value)} {st : List Value} (C : Cok X own cc nL fr lo) {v : Int32} {σ1 : St} (d : decode cc pc = .ok (.putfield idx, 3)) (hw : Cond.fieldLink own idx "CutDeeper$Shelf" "size" "I" ∈ TB) (hk : kd a = 3) (hv : ptI σ a 1 v = some σ1) (hq : pc + 3 = q) (k : V X σ1 q lv st) : V X σ pc lv (.int v :: .ref ((xG X).1 a) :: st) := by
  obtain rfl := Option.some.inj hv
  exact r_put C (ci := 2) (fk := 1) (T := TX2) (N := 3) (Cn := RX2) (ty0 := tyX2) (ty := .int) rfl i_X2 tyX2_ok nmX2 rfl (Nat.le_of_ble_eq_true rfl) hk rfl rfl rfl rfl rfl (Nat.le_of_ble_eq_true rfl) (by simp [entK, setI, upd]) (fun b hb => setI_o hb) hw d hq k
theorem kf_X2_2_all : ∀ a, a < 110 → kd a = 3 → kd (a + 1) = 9 := by decide +kernel
theorem kf_X2_2 {a : Nat} (h : kd a = 3) : kd (a + 1) = 9 := kf_X2_2_all a (kd_lt h) h
theorem g_X2_2 {X : CX} {own : String} {cc : ByteArray} {nL fr lo : Nat} {σ : St} {pc q a idx : Nat} {lv : List (Nat × Value)} {st : List Value} (C : Cok X own cc nL fr lo) (d : decode cc pc = .ok (.getfield idx, 3)) (hw : Cond.fieldLink own idx "CutDeeper$Shelf" "elements" "[J" ∈ TB) (hk : kd a = 3) (hq : pc + 3 = q) (k : V X σ q lv (.ref ((xG X).1 (a + 1)) :: st)) : V X σ pc lv (.ref ((xG X).1 a) :: st) :=
  r_get C (ci := 2) (fk := 2) (T := TX2) (N := 3) (Cn := RX2) rfl i_X2 rfl (Nat.le_of_ble_eq_true rfl) hk rfl rfl hw d hq k
theorem i_X3 : ∀ w ∈ u_ws RX3 TX3 5, w ∈ TB := by
  show ∀ w ∈ ([u_lay RX3 TX3 0, u_lay RX3 TX3 1, u_lay RX3 TX3 2, u_lay RX3 TX3 3, u_lay RX3 TX3 4] : List Cond), w ∈ TB
  exact List.forall_mem_cons.mpr ⟨q_171, List.forall_mem_cons.mpr ⟨q_173, List.forall_mem_cons.mpr ⟨q_175, List.forall_mem_cons.mpr ⟨q_177, List.forall_mem_cons.mpr ⟨q_179, fun _ h => absurd h List.not_mem_nil⟩⟩⟩⟩⟩
theorem kf_X3_0_all : ∀ a, a < 110 → kd a = 4 → kd (4) = 8 := by decide +kernel
theorem kf_X3_0 {a : Nat} (h : kd a = 4) : kd (4) = 8 := kf_X3_0_all a (kd_lt h) h
theorem g_X3_0 {X : CX} {own : String} {cc : ByteArray} {nL fr lo : Nat} {σ : St} {pc q a idx : Nat} {lv : List (Nat × Value)} {st : List Value} (C : Cok X own cc nL fr lo) (d : decode cc pc = .ok (.getfield idx, 3)) (hw : Cond.fieldLink own idx "CutDeeper$Tape" "letters" "[I" ∈ TB) (hk : kd a = 4) (hq : pc + 3 = q) (k : V X σ q lv (.ref ((xG X).1 4) :: st)) : V X σ pc lv (.ref ((xG X).1 a) :: st) :=
  r_get C (ci := 3) (fk := 0) (T := TX3) (N := 5) (Cn := RX3) rfl i_X3 rfl (Nat.le_of_ble_eq_true rfl) hk rfl rfl hw d hq k
theorem g_X3_1 {X : CX} {own : String} {cc : ByteArray} {nL fr lo : Nat} {σ : St} {pc q a idx : Nat} {lv : List (Nat × Value)} {st : List Value} (C : Cok X own cc nL fr lo) (d : decode cc pc = .ok (.getfield idx, 3)) (hw : Cond.fieldLink own idx "CutDeeper$Tape" "size" "I" ∈ TB) (hk : kd a = 4) (hq : pc + 3 = q) (k : V X σ q lv (.int (σ.1 a 1) :: st)) : V X σ pc lv (.ref ((xG X).1 a) :: st) :=
  r_get C (ci := 3) (fk := 1) (T := TX3) (N := 5) (Cn := RX3) rfl i_X3 rfl (Nat.le_of_ble_eq_true rfl) hk rfl rfl hw d hq k
theorem p_X3_1 {X : CX} {own : String} {cc : ByteArray} {nL fr lo : Nat} {σ : St} {pc q a idx : Nat} {lv : List (Nat × Value)} {st : List Value} (C : Cok X own cc nL fr lo) {v : Int32} {σ1 : St} (d : decode cc pc = .ok (.putfield idx, 3)) (hw : Cond.fieldLink own idx "CutDeeper$Tape" "size" "I" ∈ TB) (hk : kd a = 4) (hv : ptI σ a 1 v = some σ1) (hq : pc + 3 = q) (k : V X σ1 q lv st) : V X σ pc lv (.int v :: .ref ((xG X).1 a) :: st) := by
  obtain rfl := Option.some.inj hv
  exact r_put C (ci := 3) (fk := 1) (T := TX3) (N := 5) (Cn := RX3) (ty0 := tyX3) (ty := .int) rfl i_X3 tyX3_ok nmX3 rfl (Nat.le_of_ble_eq_true rfl) hk rfl rfl rfl rfl rfl (Nat.le_of_ble_eq_true rfl) (by simp [entK, setI, upd]) (fun b hb => setI_o hb) hw d hq k
theorem g_X3_2 {X : CX} {own : String} {cc : ByteArray} {nL fr lo : Nat} {σ : St} {pc q a idx : Nat} {lv : List (Nat × Value)} {st : List Value} (C : Cok X own cc nL fr lo) (d : decode cc pc = .ok (.getfield idx, 3)) (hw : Cond.fieldLink own idx "CutDeeper$Tape" "token" "I" ∈ TB) (hk : kd a = 4) (hq : pc + 3 = q) (k : V X σ q lv (.int (σ.1 a 2) :: st)) : V X σ pc lv (.ref ((xG X).1 a) :: st) :=
  r_get C (ci := 3) (fk := 2) (T := TX3) (N := 5) (Cn := RX3) rfl i_X3 rfl (Nat.le_of_ble_eq_true rfl) hk rfl rfl hw d hq k
theorem p_X3_2 {X : CX} {own : String} {cc : ByteArray} {nL fr lo : Nat} {σ : St} {pc q a idx : Nat} {lv : List (Nat × Value)} {st : List Value} (C : Cok X own cc nL fr lo) {v : Int32} {σ1 : St} (d : decode cc pc = .ok (.putfield idx, 3)) (hw : Cond.fieldLink own idx "CutDeeper$Tape" "token" "I" ∈ TB) (hk : kd a = 4) (hv : ptI σ a 2 v = some σ1) (hq : pc + 3 = q) (k : V X σ1 q lv st) : V X σ pc lv (.int v :: .ref ((xG X).1 a) :: st) := by
  obtain rfl := Option.some.inj hv
  exact r_put C (ci := 3) (fk := 2) (T := TX3) (N := 5) (Cn := RX3) (ty0 := tyX3) (ty := .int) rfl i_X3 tyX3_ok nmX3 rfl (Nat.le_of_ble_eq_true rfl) hk rfl rfl rfl rfl rfl (Nat.le_of_ble_eq_true rfl) (by simp [entK, setI, upd]) (fun b hb => setI_o hb) hw d hq k
theorem g_X3_3 {X : CX} {own : String} {cc : ByteArray} {nL fr lo : Nat} {σ : St} {pc q a idx : Nat} {lv : List (Nat × Value)} {st : List Value} (C : Cok X own cc nL fr lo) (d : decode cc pc = .ok (.getfield idx, 3)) (hw : Cond.fieldLink own idx "CutDeeper$Tape" "start" "I" ∈ TB) (hk : kd a = 4) (hq : pc + 3 = q) (k : V X σ q lv (.int (σ.1 a 3) :: st)) : V X σ pc lv (.ref ((xG X).1 a) :: st) :=
  r_get C (ci := 3) (fk := 3) (T := TX3) (N := 5) (Cn := RX3) rfl i_X3 rfl (Nat.le_of_ble_eq_true rfl) hk rfl rfl hw d hq k
theorem p_X3_3 {X : CX} {own : String} {cc : ByteArray} {nL fr lo : Nat} {σ : St} {pc q a idx : Nat} {lv : List (Nat × Value)} {st : List Value} (C : Cok X own cc nL fr lo) {v : Int32} {σ1 : St} (d : decode cc pc = .ok (.putfield idx, 3)) (hw : Cond.fieldLink own idx "CutDeeper$Tape" "start" "I" ∈ TB) (hk : kd a = 4) (hv : ptI σ a 3 v = some σ1) (hq : pc + 3 = q) (k : V X σ1 q lv st) : V X σ pc lv (.int v :: .ref ((xG X).1 a) :: st) := by
  obtain rfl := Option.some.inj hv
  exact r_put C (ci := 3) (fk := 3) (T := TX3) (N := 5) (Cn := RX3) (ty0 := tyX3) (ty := .int) rfl i_X3 tyX3_ok nmX3 rfl (Nat.le_of_ble_eq_true rfl) hk rfl rfl rfl rfl rfl (Nat.le_of_ble_eq_true rfl) (by simp [entK, setI, upd]) (fun b hb => setI_o hb) hw d hq k
theorem g_X3_4 {X : CX} {own : String} {cc : ByteArray} {nL fr lo : Nat} {σ : St} {pc q a idx : Nat} {lv : List (Nat × Value)} {st : List Value} (C : Cok X own cc nL fr lo) (d : decode cc pc = .ok (.getfield idx, 3)) (hw : Cond.fieldLink own idx "CutDeeper$Tape" "end" "I" ∈ TB) (hk : kd a = 4) (hq : pc + 3 = q) (k : V X σ q lv (.int (σ.1 a 4) :: st)) : V X σ pc lv (.ref ((xG X).1 a) :: st) :=
  r_get C (ci := 3) (fk := 4) (T := TX3) (N := 5) (Cn := RX3) rfl i_X3 rfl (Nat.le_of_ble_eq_true rfl) hk rfl rfl hw d hq k
theorem p_X3_4 {X : CX} {own : String} {cc : ByteArray} {nL fr lo : Nat} {σ : St} {pc q a idx : Nat} {lv : List (Nat × Value)} {st : List Value} (C : Cok X own cc nL fr lo) {v : Int32} {σ1 : St} (d : decode cc pc = .ok (.putfield idx, 3)) (hw : Cond.fieldLink own idx "CutDeeper$Tape" "end" "I" ∈ TB) (hk : kd a = 4) (hv : ptI σ a 4 v = some σ1) (hq : pc + 3 = q) (k : V X σ1 q lv st) : V X σ pc lv (.int v :: .ref ((xG X).1 a) :: st) := by
  obtain rfl := Option.some.inj hv
  exact r_put C (ci := 3) (fk := 4) (T := TX3) (N := 5) (Cn := RX3) (ty0 := tyX3) (ty := .int) rfl i_X3 tyX3_ok nmX3 rfl (Nat.le_of_ble_eq_true rfl) hk rfl rfl rfl rfl rfl (Nat.le_of_ble_eq_true rfl) (by simp [entK, setI, upd]) (fun b hb => setI_o hb) hw d hq k
theorem i_X4 : ∀ w ∈ u_ws RX4 TX4 10, w ∈ TB := by
  show ∀ w ∈ ([u_lay RX4 TX4 0, u_lay RX4 TX4 1, u_lay RX4 TX4 2, u_lay RX4 TX4 3, u_lay RX4 TX4 4, u_lay RX4 TX4 5, u_lay RX4 TX4 6, u_lay RX4 TX4 7, u_lay RX4 TX4 8, u_lay RX4 TX4 9] : List Cond), w ∈ TB
  exact List.forall_mem_cons.mpr ⟨q_137, List.forall_mem_cons.mpr ⟨q_139, List.forall_mem_cons.mpr ⟨q_141, List.forall_mem_cons.mpr ⟨q_143, List.forall_mem_cons.mpr ⟨q_145, List.forall_mem_cons.mpr ⟨q_147, List.forall_mem_cons.mpr ⟨q_149, List.forall_mem_cons.mpr ⟨q_151, List.forall_mem_cons.mpr ⟨q_153, List.forall_mem_cons.mpr ⟨q_155, fun _ h => absurd h List.not_mem_nil⟩⟩⟩⟩⟩⟩⟩⟩⟩⟩
theorem kf_X4_0_all : ∀ a, a < 110 → kd a = 5 → kd (39) = 1 := by decide +kernel
theorem kf_X4_0 {a : Nat} (h : kd a = 5) : kd (39) = 1 := kf_X4_0_all a (kd_lt h) h
theorem g_X4_0 {X : CX} {own : String} {cc : ByteArray} {nL fr lo : Nat} {σ : St} {pc q a idx : Nat} {lv : List (Nat × Value)} {st : List Value} (C : Cok X own cc nL fr lo) (d : decode cc pc = .ok (.getfield idx, 3)) (hw : Cond.fieldLink own idx "CutDeeper$Thought" "house" "LCutDeeper$House;" ∈ TB) (hk : kd a = 5) (hq : pc + 3 = q) (k : V X σ q lv (.ref ((xG X).1 39) :: st)) : V X σ pc lv (.ref ((xG X).1 a) :: st) :=
  r_get C (ci := 4) (fk := 0) (T := TX4) (N := 10) (Cn := RX4) rfl i_X4 rfl (Nat.le_of_ble_eq_true rfl) hk rfl rfl hw d hq k
theorem kf_X4_1_all : ∀ a, a < 110 → kd a = 5 → kd (6) = 8 := by decide +kernel
theorem kf_X4_1 {a : Nat} (h : kd a = 5) : kd (6) = 8 := kf_X4_1_all a (kd_lt h) h
theorem g_X4_1 {X : CX} {own : String} {cc : ByteArray} {nL fr lo : Nat} {σ : St} {pc q a idx : Nat} {lv : List (Nat × Value)} {st : List Value} (C : Cok X own cc nL fr lo) (d : decode cc pc = .ok (.getfield idx, 3)) (hw : Cond.fieldLink own idx "CutDeeper$Thought" "zeros" "[I" ∈ TB) (hk : kd a = 5) (hq : pc + 3 = q) (k : V X σ q lv (.ref ((xG X).1 6) :: st)) : V X σ pc lv (.ref ((xG X).1 a) :: st) :=
  r_get C (ci := 4) (fk := 1) (T := TX4) (N := 10) (Cn := RX4) rfl i_X4 rfl (Nat.le_of_ble_eq_true rfl) hk rfl rfl hw d hq k
theorem kf_X4_2_all : ∀ a, a < 110 → kd a = 5 → kd (7) = 8 := by decide +kernel
theorem kf_X4_2 {a : Nat} (h : kd a = 5) : kd (7) = 8 := kf_X4_2_all a (kd_lt h) h
theorem g_X4_2 {X : CX} {own : String} {cc : ByteArray} {nL fr lo : Nat} {σ : St} {pc q a idx : Nat} {lv : List (Nat × Value)} {st : List Value} (C : Cok X own cc nL fr lo) (d : decode cc pc = .ok (.getfield idx, 3)) (hw : Cond.fieldLink own idx "CutDeeper$Thought" "row" "[I" ∈ TB) (hk : kd a = 5) (hq : pc + 3 = q) (k : V X σ q lv (.ref ((xG X).1 7) :: st)) : V X σ pc lv (.ref ((xG X).1 a) :: st) :=
  r_get C (ci := 4) (fk := 2) (T := TX4) (N := 10) (Cn := RX4) rfl i_X4 rfl (Nat.le_of_ble_eq_true rfl) hk rfl rfl hw d hq k
theorem kf_X4_3_all : ∀ a, a < 110 → kd a = 5 → kd (8) = 8 := by decide +kernel
theorem kf_X4_3 {a : Nat} (h : kd a = 5) : kd (8) = 8 := kf_X4_3_all a (kd_lt h) h
theorem g_X4_3 {X : CX} {own : String} {cc : ByteArray} {nL fr lo : Nat} {σ : St} {pc q a idx : Nat} {lv : List (Nat × Value)} {st : List Value} (C : Cok X own cc nL fr lo) (d : decode cc pc = .ok (.getfield idx, 3)) (hw : Cond.fieldLink own idx "CutDeeper$Thought" "least" "[I" ∈ TB) (hk : kd a = 5) (hq : pc + 3 = q) (k : V X σ q lv (.ref ((xG X).1 8) :: st)) : V X σ pc lv (.ref ((xG X).1 a) :: st) :=
  r_get C (ci := 4) (fk := 3) (T := TX4) (N := 10) (Cn := RX4) rfl i_X4 rfl (Nat.le_of_ble_eq_true rfl) hk rfl rfl hw d hq k
theorem kf_X4_4_all : ∀ a, a < 110 → kd a = 5 → kd (9) = 8 := by decide +kernel
theorem kf_X4_4 {a : Nat} (h : kd a = 5) : kd (9) = 8 := kf_X4_4_all a (kd_lt h) h
theorem g_X4_4 {X : CX} {own : String} {cc : ByteArray} {nL fr lo : Nat} {σ : St} {pc q a idx : Nat} {lv : List (Nat × Value)} {st : List Value} (C : Cok X own cc nL fr lo) (d : decode cc pc = .ok (.getfield idx, 3)) (hw : Cond.fieldLink own idx "CutDeeper$Thought" "keysWithin" "[I" ∈ TB) (hk : kd a = 5) (hq : pc + 3 = q) (k : V X σ q lv (.ref ((xG X).1 9) :: st)) : V X σ pc lv (.ref ((xG X).1 a) :: st) :=
  r_get C (ci := 4) (fk := 4) (T := TX4) (N := 10) (Cn := RX4) rfl i_X4 rfl (Nat.le_of_ble_eq_true rfl) hk rfl rfl hw d hq k
theorem kf_X4_5_all : ∀ a, a < 110 → kd a = 5 → kd (10) = 8 := by decide +kernel
theorem kf_X4_5 {a : Nat} (h : kd a = 5) : kd (10) = 8 := kf_X4_5_all a (kd_lt h) h
theorem g_X4_5 {X : CX} {own : String} {cc : ByteArray} {nL fr lo : Nat} {σ : St} {pc q a idx : Nat} {lv : List (Nat × Value)} {st : List Value} (C : Cok X own cc nL fr lo) (d : decode cc pc = .ok (.getfield idx, 3)) (hw : Cond.fieldLink own idx "CutDeeper$Thought" "mendCosts" "[I" ∈ TB) (hk : kd a = 5) (hq : pc + 3 = q) (k : V X σ q lv (.ref ((xG X).1 10) :: st)) : V X σ pc lv (.ref ((xG X).1 a) :: st) :=
  r_get C (ci := 4) (fk := 5) (T := TX4) (N := 10) (Cn := RX4) rfl i_X4 rfl (Nat.le_of_ble_eq_true rfl) hk rfl rfl hw d hq k
theorem kf_X4_6_all : ∀ a, a < 110 → kd a = 5 → kd (11) = 12 := by decide +kernel
theorem kf_X4_6 {a : Nat} (h : kd a = 5) : kd (11) = 12 := kf_X4_6_all a (kd_lt h) h
theorem g_X4_6 {X : CX} {own : String} {cc : ByteArray} {nL fr lo : Nat} {σ : St} {pc q a idx : Nat} {lv : List (Nat × Value)} {st : List Value} (C : Cok X own cc nL fr lo) (d : decode cc pc = .ok (.getfield idx, 3)) (hw : Cond.fieldLink own idx "CutDeeper$Thought" "mendedCuts" "[[I" ∈ TB) (hk : kd a = 5) (hq : pc + 3 = q) (k : V X σ q lv (.ref ((xG X).1 11) :: st)) : V X σ pc lv (.ref ((xG X).1 a) :: st) :=
  r_get C (ci := 4) (fk := 6) (T := TX4) (N := 10) (Cn := RX4) rfl i_X4 rfl (Nat.le_of_ble_eq_true rfl) hk rfl rfl hw d hq k
theorem kf_X4_7_all : ∀ a, a < 110 → kd a = 5 → kd (18) = 8 := by decide +kernel
theorem kf_X4_7 {a : Nat} (h : kd a = 5) : kd (18) = 8 := kf_X4_7_all a (kd_lt h) h
theorem g_X4_7 {X : CX} {own : String} {cc : ByteArray} {nL fr lo : Nat} {σ : St} {pc q a idx : Nat} {lv : List (Nat × Value)} {st : List Value} (C : Cok X own cc nL fr lo) (d : decode cc pc = .ok (.getfield idx, 3)) (hw : Cond.fieldLink own idx "CutDeeper$Thought" "openedSets" "[I" ∈ TB) (hk : kd a = 5) (hq : pc + 3 = q) (k : V X σ q lv (.ref ((xG X).1 18) :: st)) : V X σ pc lv (.ref ((xG X).1 a) :: st) :=
  r_get C (ci := 4) (fk := 7) (T := TX4) (N := 10) (Cn := RX4) rfl i_X4 rfl (Nat.le_of_ble_eq_true rfl) hk rfl rfl hw d hq k
theorem kf_X4_8_all : ∀ a, a < 110 → kd a = 5 → kd (19) = 8 := by decide +kernel
theorem kf_X4_8 {a : Nat} (h : kd a = 5) : kd (19) = 8 := kf_X4_8_all a (kd_lt h) h
theorem g_X4_8 {X : CX} {own : String} {cc : ByteArray} {nL fr lo : Nat} {σ : St} {pc q a idx : Nat} {lv : List (Nat × Value)} {st : List Value} (C : Cok X own cc nL fr lo) (d : decode cc pc = .ok (.getfield idx, 3)) (hw : Cond.fieldLink own idx "CutDeeper$Thought" "lengths" "[I" ∈ TB) (hk : kd a = 5) (hq : pc + 3 = q) (k : V X σ q lv (.ref ((xG X).1 19) :: st)) : V X σ pc lv (.ref ((xG X).1 a) :: st) :=
  r_get C (ci := 4) (fk := 8) (T := TX4) (N := 10) (Cn := RX4) rfl i_X4 rfl (Nat.le_of_ble_eq_true rfl) hk rfl rfl hw d hq k
theorem kf_X4_9_all : ∀ a, a < 110 → kd a = 5 → kd (20) = 8 := by decide +kernel
theorem kf_X4_9 {a : Nat} (h : kd a = 5) : kd (20) = 8 := kf_X4_9_all a (kd_lt h) h
theorem g_X4_9 {X : CX} {own : String} {cc : ByteArray} {nL fr lo : Nat} {σ : St} {pc q a idx : Nat} {lv : List (Nat × Value)} {st : List Value} (C : Cok X own cc nL fr lo) (d : decode cc pc = .ok (.getfield idx, 3)) (hw : Cond.fieldLink own idx "CutDeeper$Thought" "ways" "[I" ∈ TB) (hk : kd a = 5) (hq : pc + 3 = q) (k : V X σ q lv (.ref ((xG X).1 20) :: st)) : V X σ pc lv (.ref ((xG X).1 a) :: st) :=
  r_get C (ci := 4) (fk := 9) (T := TX4) (N := 10) (Cn := RX4) rfl i_X4 rfl (Nat.le_of_ble_eq_true rfl) hk rfl rfl hw d hq k
theorem i_X5 : ∀ w ∈ u_ws RX5 TX5 9, w ∈ TB := by
  show ∀ w ∈ ([u_lay RX5 TX5 0, u_lay RX5 TX5 1, u_lay RX5 TX5 2, u_lay RX5 TX5 3, u_lay RX5 TX5 4, u_lay RX5 TX5 5, u_lay RX5 TX5 6, u_lay RX5 TX5 7, u_lay RX5 TX5 8] : List Cond), w ∈ TB
  exact List.forall_mem_cons.mpr ⟨q_212, List.forall_mem_cons.mpr ⟨q_214, List.forall_mem_cons.mpr ⟨q_216, List.forall_mem_cons.mpr ⟨q_218, List.forall_mem_cons.mpr ⟨q_220, List.forall_mem_cons.mpr ⟨q_222, List.forall_mem_cons.mpr ⟨q_224, List.forall_mem_cons.mpr ⟨q_226, List.forall_mem_cons.mpr ⟨q_228, fun _ h => absurd h List.not_mem_nil⟩⟩⟩⟩⟩⟩⟩⟩⟩
theorem kf_X5_0_all : ∀ a, a < 110 → kd a = 6 → kd (39) = 1 := by decide +kernel
theorem kf_X5_0 {a : Nat} (h : kd a = 6) : kd (39) = 1 := kf_X5_0_all a (kd_lt h) h
theorem g_X5_0 {X : CX} {own : String} {cc : ByteArray} {nL fr lo : Nat} {σ : St} {pc q a idx : Nat} {lv : List (Nat × Value)} {st : List Value} (C : Cok X own cc nL fr lo) (d : decode cc pc = .ok (.getfield idx, 3)) (hw : Cond.fieldLink own idx "CutDeeper" "house" "LCutDeeper$House;" ∈ TB) (hk : kd a = 6) (hq : pc + 3 = q) (k : V X σ q lv (.ref ((xG X).1 39) :: st)) : V X σ pc lv (.ref ((xG X).1 a) :: st) :=
  r_get C (ci := 5) (fk := 0) (T := TX5) (N := 9) (Cn := RX5) rfl i_X5 rfl (Nat.le_of_ble_eq_true rfl) hk rfl rfl hw d hq k
theorem kf_X5_1_all : ∀ a, a < 110 → kd a = 6 → kd (57) = 1 := by decide +kernel
theorem kf_X5_1 {a : Nat} (h : kd a = 6) : kd (57) = 1 := kf_X5_1_all a (kd_lt h) h
theorem g_X5_1 {X : CX} {own : String} {cc : ByteArray} {nL fr lo : Nat} {σ : St} {pc q a idx : Nat} {lv : List (Nat × Value)} {st : List Value} (C : Cok X own cc nL fr lo) (d : decode cc pc = .ok (.getfield idx, 3)) (hw : Cond.fieldLink own idx "CutDeeper" "kept" "LCutDeeper$House;" ∈ TB) (hk : kd a = 6) (hq : pc + 3 = q) (k : V X σ q lv (.ref ((xG X).1 57) :: st)) : V X σ pc lv (.ref ((xG X).1 a) :: st) :=
  r_get C (ci := 5) (fk := 1) (T := TX5) (N := 9) (Cn := RX5) rfl i_X5 rfl (Nat.le_of_ble_eq_true rfl) hk rfl rfl hw d hq k
theorem kf_X5_2_all : ∀ a, a < 110 → kd a = 6 → kd (75) = 1 := by decide +kernel
theorem kf_X5_2 {a : Nat} (h : kd a = 6) : kd (75) = 1 := kf_X5_2_all a (kd_lt h) h
theorem g_X5_2 {X : CX} {own : String} {cc : ByteArray} {nL fr lo : Nat} {σ : St} {pc q a idx : Nat} {lv : List (Nat × Value)} {st : List Value} (C : Cok X own cc nL fr lo) (d : decode cc pc = .ok (.getfield idx, 3)) (hw : Cond.fieldLink own idx "CutDeeper" "draft" "LCutDeeper$House;" ∈ TB) (hk : kd a = 6) (hq : pc + 3 = q) (k : V X σ q lv (.ref ((xG X).1 75) :: st)) : V X σ pc lv (.ref ((xG X).1 a) :: st) :=
  r_get C (ci := 5) (fk := 2) (T := TX5) (N := 9) (Cn := RX5) rfl i_X5 rfl (Nat.le_of_ble_eq_true rfl) hk rfl rfl hw d hq k
theorem kf_X5_3_all : ∀ a, a < 110 → kd a = 6 → kd (5) = 5 := by decide +kernel
theorem kf_X5_3 {a : Nat} (h : kd a = 6) : kd (5) = 5 := kf_X5_3_all a (kd_lt h) h
theorem g_X5_3 {X : CX} {own : String} {cc : ByteArray} {nL fr lo : Nat} {σ : St} {pc q a idx : Nat} {lv : List (Nat × Value)} {st : List Value} (C : Cok X own cc nL fr lo) (d : decode cc pc = .ok (.getfield idx, 3)) (hw : Cond.fieldLink own idx "CutDeeper" "thought" "LCutDeeper$Thought;" ∈ TB) (hk : kd a = 6) (hq : pc + 3 = q) (k : V X σ q lv (.ref ((xG X).1 5) :: st)) : V X σ pc lv (.ref ((xG X).1 a) :: st) :=
  r_get C (ci := 5) (fk := 3) (T := TX5) (N := 9) (Cn := RX5) rfl i_X5 rfl (Nat.le_of_ble_eq_true rfl) hk rfl rfl hw d hq k
theorem kf_X5_4_all : ∀ a, a < 110 → kd a = 6 → kd (3) = 4 := by decide +kernel
theorem kf_X5_4 {a : Nat} (h : kd a = 6) : kd (3) = 4 := kf_X5_4_all a (kd_lt h) h
theorem g_X5_4 {X : CX} {own : String} {cc : ByteArray} {nL fr lo : Nat} {σ : St} {pc q a idx : Nat} {lv : List (Nat × Value)} {st : List Value} (C : Cok X own cc nL fr lo) (d : decode cc pc = .ok (.getfield idx, 3)) (hw : Cond.fieldLink own idx "CutDeeper" "tape" "LCutDeeper$Tape;" ∈ TB) (hk : kd a = 6) (hq : pc + 3 = q) (k : V X σ q lv (.ref ((xG X).1 3) :: st)) : V X σ pc lv (.ref ((xG X).1 a) :: st) :=
  r_get C (ci := 5) (fk := 4) (T := TX5) (N := 9) (Cn := RX5) rfl i_X5 rfl (Nat.le_of_ble_eq_true rfl) hk rfl rfl hw d hq k
theorem kf_X5_5_all : ∀ a, a < 110 → kd a = 6 → kd (2) = 11 := by decide +kernel
theorem kf_X5_5 {a : Nat} (h : kd a = 6) : kd (2) = 11 := kf_X5_5_all a (kd_lt h) h
theorem g_X5_5 {X : CX} {own : String} {cc : ByteArray} {nL fr lo : Nat} {σ : St} {pc q a idx : Nat} {lv : List (Nat × Value)} {st : List Value} (C : Cok X own cc nL fr lo) (d : decode cc pc = .ok (.getfield idx, 3)) (hw : Cond.fieldLink own idx "CutDeeper" "shelves" "[LCutDeeper$Shelf;" ∈ TB) (hk : kd a = 6) (hq : pc + 3 = q) (k : V X σ q lv (.ref ((xG X).1 2) :: st)) : V X σ pc lv (.ref ((xG X).1 a) :: st) :=
  r_get C (ci := 5) (fk := 5) (T := TX5) (N := 9) (Cn := RX5) rfl i_X5 rfl (Nat.le_of_ble_eq_true rfl) hk rfl rfl hw d hq k
theorem kf_X5_6_all : ∀ a, a < 110 → kd a = 6 → kd (37) = 3 := by decide +kernel
theorem kf_X5_6 {a : Nat} (h : kd a = 6) : kd (37) = 3 := kf_X5_6_all a (kd_lt h) h
theorem g_X5_6 {X : CX} {own : String} {cc : ByteArray} {nL fr lo : Nat} {σ : St} {pc q a idx : Nat} {lv : List (Nat × Value)} {st : List Value} (C : Cok X own cc nL fr lo) (d : decode cc pc = .ok (.getfield idx, 3)) (hw : Cond.fieldLink own idx "CutDeeper" "noShelf" "LCutDeeper$Shelf;" ∈ TB) (hk : kd a = 6) (hq : pc + 3 = q) (k : V X σ q lv (.ref ((xG X).1 37) :: st)) : V X σ pc lv (.ref ((xG X).1 a) :: st) :=
  r_get C (ci := 5) (fk := 6) (T := TX5) (N := 9) (Cn := RX5) rfl i_X5 rfl (Nat.le_of_ble_eq_true rfl) hk rfl rfl hw d hq k
theorem kf_X5_7_all : ∀ a, a < 110 → kd a = 6 → kd (1) = 8 := by decide +kernel
theorem kf_X5_7 {a : Nat} (h : kd a = 6) : kd (1) = 8 := kf_X5_7_all a (kd_lt h) h
theorem g_X5_7 {X : CX} {own : String} {cc : ByteArray} {nL fr lo : Nat} {σ : St} {pc q a idx : Nat} {lv : List (Nat × Value)} {st : List Value} (C : Cok X own cc nL fr lo) (d : decode cc pc = .ok (.getfield idx, 3)) (hw : Cond.fieldLink own idx "CutDeeper" "refusals" "[I" ∈ TB) (hk : kd a = 6) (hq : pc + 3 = q) (k : V X σ q lv (.ref ((xG X).1 1) :: st)) : V X σ pc lv (.ref ((xG X).1 a) :: st) :=
  r_get C (ci := 5) (fk := 7) (T := TX5) (N := 9) (Cn := RX5) rfl i_X5 rfl (Nat.le_of_ble_eq_true rfl) hk rfl rfl hw d hq k
theorem g_X5_8 {X : CX} {own : String} {cc : ByteArray} {nL fr lo : Nat} {σ : St} {pc q a idx : Nat} {lv : List (Nat × Value)} {st : List Value} (C : Cok X own cc nL fr lo) (d : decode cc pc = .ok (.getfield idx, 3)) (hw : Cond.fieldLink own idx "CutDeeper" "isKept" "Z" ∈ TB) (hk : kd a = 6) (hq : pc + 3 = q) (k : V X σ q lv (.int (σ.1 a 8) :: st)) : V X σ pc lv (.ref ((xG X).1 a) :: st) :=
  r_get C (ci := 5) (fk := 8) (T := TX5) (N := 9) (Cn := RX5) rfl i_X5 rfl (Nat.le_of_ble_eq_true rfl) hk rfl rfl hw d hq k
theorem p_X5_8 {X : CX} {own : String} {cc : ByteArray} {nL fr lo : Nat} {σ : St} {pc q a idx : Nat} {lv : List (Nat × Value)} {st : List Value} (C : Cok X own cc nL fr lo) {v : Int32} {σ1 : St} (d : decode cc pc = .ok (.putfield idx, 3)) (hw : Cond.fieldLink own idx "CutDeeper" "isKept" "Z" ∈ TB) (hk : kd a = 6) (hv : ptI σ a 8 v = some σ1) (hz : v = 0 ∨ v = 1) (hq : pc + 3 = q) (k : V X σ1 q lv st) : V X σ pc lv (.int v :: .ref ((xG X).1 a) :: st) := by
  obtain rfl := Option.some.inj hv
  exact r_put C (ci := 5) (fk := 8) (T := TX5) (N := 9) (Cn := RX5) (ty0 := tyX5) (ty := .boolean) rfl i_X5 tyX5_ok nmX5 rfl (Nat.le_of_ble_eq_true rfl) hk rfl rfl rfl (by rcases hz with rfl | rfl <;> rfl) (by rcases hz with rfl | rfl <;> rfl) (Nat.le_of_ble_eq_true rfl) (by simp [entK, setI, upd]) (fun b hb => setI_o hb) hw d hq k
theorem i_X6 : ∀ w ∈ u_ws RX6 TX6 29, w ∈ TB := by
  show ∀ w ∈ ([u_lay RX6 TX6 0, u_lay RX6 TX6 1, u_lay RX6 TX6 2, u_lay RX6 TX6 3, u_lay RX6 TX6 4, u_lay RX6 TX6 5, u_lay RX6 TX6 6, u_lay RX6 TX6 7, u_lay RX6 TX6 8, u_lay RX6 TX6 9, u_lay RX6 TX6 10, u_lay RX6 TX6 11, u_lay RX6 TX6 12, u_lay RX6 TX6 13, u_lay RX6 TX6 14, u_lay RX6 TX6 15, u_lay RX6 TX6 16, u_lay RX6 TX6 17, u_lay RX6 TX6 18, u_lay RX6 TX6 19, u_lay RX6 TX6 20, u_lay RX6 TX6 21, u_lay RX6 TX6 22, u_lay RX6 TX6 23, u_lay RX6 TX6 24, u_lay RX6 TX6 25, u_lay RX6 TX6 26, u_lay RX6 TX6 27, u_lay RX6 TX6 28] : List Cond), w ∈ TB
  exact List.forall_mem_cons.mpr ⟨q_1018, List.forall_mem_cons.mpr ⟨q_1020, List.forall_mem_cons.mpr ⟨q_1022, List.forall_mem_cons.mpr ⟨q_1024, List.forall_mem_cons.mpr ⟨q_1026, List.forall_mem_cons.mpr ⟨q_1028, List.forall_mem_cons.mpr ⟨q_1030, List.forall_mem_cons.mpr ⟨q_1032, List.forall_mem_cons.mpr ⟨q_1034, List.forall_mem_cons.mpr ⟨q_1036, List.forall_mem_cons.mpr ⟨q_1038, List.forall_mem_cons.mpr ⟨q_1040, List.forall_mem_cons.mpr ⟨q_1042, List.forall_mem_cons.mpr ⟨q_1044, List.forall_mem_cons.mpr ⟨q_1046, List.forall_mem_cons.mpr ⟨q_1048, List.forall_mem_cons.mpr ⟨q_1050, List.forall_mem_cons.mpr ⟨q_1052, List.forall_mem_cons.mpr ⟨q_1054, List.forall_mem_cons.mpr ⟨q_1056, List.forall_mem_cons.mpr ⟨q_1058, List.forall_mem_cons.mpr ⟨q_1060, List.forall_mem_cons.mpr ⟨q_1062, List.forall_mem_cons.mpr ⟨q_1064, List.forall_mem_cons.mpr ⟨q_1066, List.forall_mem_cons.mpr ⟨q_1068, List.forall_mem_cons.mpr ⟨q_1070, List.forall_mem_cons.mpr ⟨q_1072, List.forall_mem_cons.mpr ⟨q_1074, fun _ h => absurd h List.not_mem_nil⟩⟩⟩⟩⟩⟩⟩⟩⟩⟩⟩⟩⟩⟩⟩⟩⟩⟩⟩⟩⟩⟩⟩⟩⟩⟩⟩⟩⟩
theorem kf_X6_0_all : ∀ a, a < 110 → kd a = 7 → kd (94) = 8 := by decide +kernel
theorem kf_X6_0 {a : Nat} (h : kd a = 7) : kd (94) = 8 := kf_X6_0_all a (kd_lt h) h
theorem g_X6_0 {X : CX} {own : String} {cc : ByteArray} {nL fr lo : Nat} {σ : St} {pc q a idx : Nat} {lv : List (Nat × Value)} {st : List Value} (C : Cok X own cc nL fr lo) (d : decode cc pc = .ok (.getfield idx, 3)) (hw : Cond.fieldLink own idx "CutDeeperModel" "holding" "[I" ∈ TB) (hk : kd a = 7) (hq : pc + 3 = q) (k : V X σ q lv (.ref ((xG X).1 94) :: st)) : V X σ pc lv (.ref ((xG X).1 a) :: st) :=
  r_get C (ci := 6) (fk := 0) (T := TX6) (N := 29) (Cn := RX6) rfl i_X6 rfl (Nat.le_of_ble_eq_true rfl) hk rfl rfl hw d hq k
theorem kf_X6_1_all : ∀ a, a < 110 → kd a = 7 → kd (95) = 8 := by decide +kernel
theorem kf_X6_1 {a : Nat} (h : kd a = 7) : kd (95) = 8 := kf_X6_1_all a (kd_lt h) h
theorem g_X6_1 {X : CX} {own : String} {cc : ByteArray} {nL fr lo : Nat} {σ : St} {pc q a idx : Nat} {lv : List (Nat × Value)} {st : List Value} (C : Cok X own cc nL fr lo) (d : decode cc pc = .ok (.getfield idx, 3)) (hw : Cond.fieldLink own idx "CutDeeperModel" "rowLength" "[I" ∈ TB) (hk : kd a = 7) (hq : pc + 3 = q) (k : V X σ q lv (.ref ((xG X).1 95) :: st)) : V X σ pc lv (.ref ((xG X).1 a) :: st) :=
  r_get C (ci := 6) (fk := 1) (T := TX6) (N := 29) (Cn := RX6) rfl i_X6 rfl (Nat.le_of_ble_eq_true rfl) hk rfl rfl hw d hq k
theorem kf_X6_2_all : ∀ a, a < 110 → kd a = 7 → kd (96) = 9 := by decide +kernel
theorem kf_X6_2 {a : Nat} (h : kd a = 7) : kd (96) = 9 := kf_X6_2_all a (kd_lt h) h
theorem g_X6_2 {X : CX} {own : String} {cc : ByteArray} {nL fr lo : Nat} {σ : St} {pc q a idx : Nat} {lv : List (Nat × Value)} {st : List Value} (C : Cok X own cc nL fr lo) (d : decode cc pc = .ok (.getfield idx, 3)) (hw : Cond.fieldLink own idx "CutDeeperModel" "rowOf" "[J" ∈ TB) (hk : kd a = 7) (hq : pc + 3 = q) (k : V X σ q lv (.ref ((xG X).1 96) :: st)) : V X σ pc lv (.ref ((xG X).1 a) :: st) :=
  r_get C (ci := 6) (fk := 2) (T := TX6) (N := 29) (Cn := RX6) rfl i_X6 rfl (Nat.le_of_ble_eq_true rfl) hk rfl rfl hw d hq k
theorem g_X6_3 {X : CX} {own : String} {cc : ByteArray} {nL fr lo : Nat} {σ : St} {pc q a idx : Nat} {lv : List (Nat × Value)} {st : List Value} (C : Cok X own cc nL fr lo) (d : decode cc pc = .ok (.getfield idx, 3)) (hw : Cond.fieldLink own idx "CutDeeperModel" "places" "I" ∈ TB) (hk : kd a = 7) (hq : pc + 3 = q) (k : V X σ q lv (.int (σ.1 a 3) :: st)) : V X σ pc lv (.ref ((xG X).1 a) :: st) :=
  r_get C (ci := 6) (fk := 3) (T := TX6) (N := 29) (Cn := RX6) rfl i_X6 rfl (Nat.le_of_ble_eq_true rfl) hk rfl rfl hw d hq k
theorem p_X6_3 {X : CX} {own : String} {cc : ByteArray} {nL fr lo : Nat} {σ : St} {pc q a idx : Nat} {lv : List (Nat × Value)} {st : List Value} (C : Cok X own cc nL fr lo) {v : Int32} {σ1 : St} (d : decode cc pc = .ok (.putfield idx, 3)) (hw : Cond.fieldLink own idx "CutDeeperModel" "places" "I" ∈ TB) (hk : kd a = 7) (hv : ptI σ a 3 v = some σ1) (hq : pc + 3 = q) (k : V X σ1 q lv st) : V X σ pc lv (.int v :: .ref ((xG X).1 a) :: st) := by
  obtain rfl := Option.some.inj hv
  exact r_put C (ci := 6) (fk := 3) (T := TX6) (N := 29) (Cn := RX6) (ty0 := tyX6) (ty := .int) rfl i_X6 tyX6_ok nmX6 rfl (Nat.le_of_ble_eq_true rfl) hk rfl rfl rfl rfl rfl (Nat.le_of_ble_eq_true rfl) (by simp [entK, setI, upd]) (fun b hb => setI_o hb) hw d hq k
theorem g_X6_4 {X : CX} {own : String} {cc : ByteArray} {nL fr lo : Nat} {σ : St} {pc q a idx : Nat} {lv : List (Nat × Value)} {st : List Value} (C : Cok X own cc nL fr lo) (d : decode cc pc = .ok (.getfield idx, 3)) (hw : Cond.fieldLink own idx "CutDeeperModel" "deep" "I" ∈ TB) (hk : kd a = 7) (hq : pc + 3 = q) (k : V X σ q lv (.int (σ.1 a 4) :: st)) : V X σ pc lv (.ref ((xG X).1 a) :: st) :=
  r_get C (ci := 6) (fk := 4) (T := TX6) (N := 29) (Cn := RX6) rfl i_X6 rfl (Nat.le_of_ble_eq_true rfl) hk rfl rfl hw d hq k
theorem p_X6_4 {X : CX} {own : String} {cc : ByteArray} {nL fr lo : Nat} {σ : St} {pc q a idx : Nat} {lv : List (Nat × Value)} {st : List Value} (C : Cok X own cc nL fr lo) {v : Int32} {σ1 : St} (d : decode cc pc = .ok (.putfield idx, 3)) (hw : Cond.fieldLink own idx "CutDeeperModel" "deep" "I" ∈ TB) (hk : kd a = 7) (hv : ptI σ a 4 v = some σ1) (hq : pc + 3 = q) (k : V X σ1 q lv st) : V X σ pc lv (.int v :: .ref ((xG X).1 a) :: st) := by
  obtain rfl := Option.some.inj hv
  exact r_put C (ci := 6) (fk := 4) (T := TX6) (N := 29) (Cn := RX6) (ty0 := tyX6) (ty := .int) rfl i_X6 tyX6_ok nmX6 rfl (Nat.le_of_ble_eq_true rfl) hk rfl rfl rfl rfl rfl (Nat.le_of_ble_eq_true rfl) (by simp [entK, setI, upd]) (fun b hb => setI_o hb) hw d hq k
theorem g_X6_5 {X : CX} {own : String} {cc : ByteArray} {nL fr lo : Nat} {σ : St} {pc q a idx : Nat} {lv : List (Nat × Value)} {st : List Value} (C : Cok X own cc nL fr lo) (d : decode cc pc = .ok (.getfield idx, 3)) (hw : Cond.fieldLink own idx "CutDeeperModel" "strength" "I" ∈ TB) (hk : kd a = 7) (hq : pc + 3 = q) (k : V X σ q lv (.int (σ.1 a 5) :: st)) : V X σ pc lv (.ref ((xG X).1 a) :: st) :=
  r_get C (ci := 6) (fk := 5) (T := TX6) (N := 29) (Cn := RX6) rfl i_X6 rfl (Nat.le_of_ble_eq_true rfl) hk rfl rfl hw d hq k
theorem p_X6_5 {X : CX} {own : String} {cc : ByteArray} {nL fr lo : Nat} {σ : St} {pc q a idx : Nat} {lv : List (Nat × Value)} {st : List Value} (C : Cok X own cc nL fr lo) {v : Int32} {σ1 : St} (d : decode cc pc = .ok (.putfield idx, 3)) (hw : Cond.fieldLink own idx "CutDeeperModel" "strength" "I" ∈ TB) (hk : kd a = 7) (hv : ptI σ a 5 v = some σ1) (hq : pc + 3 = q) (k : V X σ1 q lv st) : V X σ pc lv (.int v :: .ref ((xG X).1 a) :: st) := by
  obtain rfl := Option.some.inj hv
  exact r_put C (ci := 6) (fk := 5) (T := TX6) (N := 29) (Cn := RX6) (ty0 := tyX6) (ty := .int) rfl i_X6 tyX6_ok nmX6 rfl (Nat.le_of_ble_eq_true rfl) hk rfl rfl rfl rfl rfl (Nat.le_of_ble_eq_true rfl) (by simp [entK, setI, upd]) (fun b hb => setI_o hb) hw d hq k
theorem g_X6_6 {X : CX} {own : String} {cc : ByteArray} {nL fr lo : Nat} {σ : St} {pc q a idx : Nat} {lv : List (Nat × Value)} {st : List Value} (C : Cok X own cc nL fr lo) (d : decode cc pc = .ok (.getfield idx, 3)) (hw : Cond.fieldLink own idx "CutDeeperModel" "keys" "I" ∈ TB) (hk : kd a = 7) (hq : pc + 3 = q) (k : V X σ q lv (.int (σ.1 a 6) :: st)) : V X σ pc lv (.ref ((xG X).1 a) :: st) :=
  r_get C (ci := 6) (fk := 6) (T := TX6) (N := 29) (Cn := RX6) rfl i_X6 rfl (Nat.le_of_ble_eq_true rfl) hk rfl rfl hw d hq k
theorem p_X6_6 {X : CX} {own : String} {cc : ByteArray} {nL fr lo : Nat} {σ : St} {pc q a idx : Nat} {lv : List (Nat × Value)} {st : List Value} (C : Cok X own cc nL fr lo) {v : Int32} {σ1 : St} (d : decode cc pc = .ok (.putfield idx, 3)) (hw : Cond.fieldLink own idx "CutDeeperModel" "keys" "I" ∈ TB) (hk : kd a = 7) (hv : ptI σ a 6 v = some σ1) (hq : pc + 3 = q) (k : V X σ1 q lv st) : V X σ pc lv (.int v :: .ref ((xG X).1 a) :: st) := by
  obtain rfl := Option.some.inj hv
  exact r_put C (ci := 6) (fk := 6) (T := TX6) (N := 29) (Cn := RX6) (ty0 := tyX6) (ty := .int) rfl i_X6 tyX6_ok nmX6 rfl (Nat.le_of_ble_eq_true rfl) hk rfl rfl rfl rfl rfl (Nat.le_of_ble_eq_true rfl) (by simp [entK, setI, upd]) (fun b hb => setI_o hb) hw d hq k
theorem kf_X6_7_all : ∀ a, a < 110 → kd a = 7 → kd (97) = 8 := by decide +kernel
theorem kf_X6_7 {a : Nat} (h : kd a = 7) : kd (97) = 8 := kf_X6_7_all a (kd_lt h) h
theorem g_X6_7 {X : CX} {own : String} {cc : ByteArray} {nL fr lo : Nat} {σ : St} {pc q a idx : Nat} {lv : List (Nat × Value)} {st : List Value} (C : Cok X own cc nL fr lo) (d : decode cc pc = .ok (.getfield idx, 3)) (hw : Cond.fieldLink own idx "CutDeeperModel" "kind" "[I" ∈ TB) (hk : kd a = 7) (hq : pc + 3 = q) (k : V X σ q lv (.ref ((xG X).1 97) :: st)) : V X σ pc lv (.ref ((xG X).1 a) :: st) :=
  r_get C (ci := 6) (fk := 7) (T := TX6) (N := 29) (Cn := RX6) rfl i_X6 rfl (Nat.le_of_ble_eq_true rfl) hk rfl rfl hw d hq k
theorem kf_X6_8_all : ∀ a, a < 110 → kd a = 7 → kd (98) = 8 := by decide +kernel
theorem kf_X6_8 {a : Nat} (h : kd a = 7) : kd (98) = 8 := kf_X6_8_all a (kd_lt h) h
theorem g_X6_8 {X : CX} {own : String} {cc : ByteArray} {nL fr lo : Nat} {σ : St} {pc q a idx : Nat} {lv : List (Nat × Value)} {st : List Value} (C : Cok X own cc nL fr lo) (d : decode cc pc = .ok (.getfield idx, 3)) (hw : Cond.fieldLink own idx "CutDeeperModel" "own" "[I" ∈ TB) (hk : kd a = 7) (hq : pc + 3 = q) (k : V X σ q lv (.ref ((xG X).1 98) :: st)) : V X σ pc lv (.ref ((xG X).1 a) :: st) :=
  r_get C (ci := 6) (fk := 8) (T := TX6) (N := 29) (Cn := RX6) rfl i_X6 rfl (Nat.le_of_ble_eq_true rfl) hk rfl rfl hw d hq k
theorem kf_X6_9_all : ∀ a, a < 110 → kd a = 7 → kd (99) = 8 := by decide +kernel
theorem kf_X6_9 {a : Nat} (h : kd a = 7) : kd (99) = 8 := kf_X6_9_all a (kd_lt h) h
theorem g_X6_9 {X : CX} {own : String} {cc : ByteArray} {nL fr lo : Nat} {σ : St} {pc q a idx : Nat} {lv : List (Nat × Value)} {st : List Value} (C : Cok X own cc nL fr lo) (d : decode cc pc = .ok (.getfield idx, 3)) (hw : Cond.fieldLink own idx "CutDeeperModel" "may" "[I" ∈ TB) (hk : kd a = 7) (hq : pc + 3 = q) (k : V X σ q lv (.ref ((xG X).1 99) :: st)) : V X σ pc lv (.ref ((xG X).1 a) :: st) :=
  r_get C (ci := 6) (fk := 9) (T := TX6) (N := 29) (Cn := RX6) rfl i_X6 rfl (Nat.le_of_ble_eq_true rfl) hk rfl rfl hw d hq k
theorem kf_X6_10_all : ∀ a, a < 110 → kd a = 7 → kd (100) = 8 := by decide +kernel
theorem kf_X6_10 {a : Nat} (h : kd a = 7) : kd (100) = 8 := kf_X6_10_all a (kd_lt h) h
theorem g_X6_10 {X : CX} {own : String} {cc : ByteArray} {nL fr lo : Nat} {σ : St} {pc q a idx : Nat} {lv : List (Nat × Value)} {st : List Value} (C : Cok X own cc nL fr lo) (d : decode cc pc = .ok (.getfield idx, 3)) (hw : Cond.fieldLink own idx "CutDeeperModel" "cut" "[I" ∈ TB) (hk : kd a = 7) (hq : pc + 3 = q) (k : V X σ q lv (.ref ((xG X).1 100) :: st)) : V X σ pc lv (.ref ((xG X).1 a) :: st) :=
  r_get C (ci := 6) (fk := 10) (T := TX6) (N := 29) (Cn := RX6) rfl i_X6 rfl (Nat.le_of_ble_eq_true rfl) hk rfl rfl hw d hq k
theorem g_X6_11 {X : CX} {own : String} {cc : ByteArray} {nL fr lo : Nat} {σ : St} {pc q a idx : Nat} {lv : List (Nat × Value)} {st : List Value} (C : Cok X own cc nL fr lo) (d : decode cc pc = .ok (.getfield idx, 3)) (hw : Cond.fieldLink own idx "CutDeeperModel" "locks" "I" ∈ TB) (hk : kd a = 7) (hq : pc + 3 = q) (k : V X σ q lv (.int (σ.1 a 11) :: st)) : V X σ pc lv (.ref ((xG X).1 a) :: st) :=
  r_get C (ci := 6) (fk := 11) (T := TX6) (N := 29) (Cn := RX6) rfl i_X6 rfl (Nat.le_of_ble_eq_true rfl) hk rfl rfl hw d hq k
theorem p_X6_11 {X : CX} {own : String} {cc : ByteArray} {nL fr lo : Nat} {σ : St} {pc q a idx : Nat} {lv : List (Nat × Value)} {st : List Value} (C : Cok X own cc nL fr lo) {v : Int32} {σ1 : St} (d : decode cc pc = .ok (.putfield idx, 3)) (hw : Cond.fieldLink own idx "CutDeeperModel" "locks" "I" ∈ TB) (hk : kd a = 7) (hv : ptI σ a 11 v = some σ1) (hq : pc + 3 = q) (k : V X σ1 q lv st) : V X σ pc lv (.int v :: .ref ((xG X).1 a) :: st) := by
  obtain rfl := Option.some.inj hv
  exact r_put C (ci := 6) (fk := 11) (T := TX6) (N := 29) (Cn := RX6) (ty0 := tyX6) (ty := .int) rfl i_X6 tyX6_ok nmX6 rfl (Nat.le_of_ble_eq_true rfl) hk rfl rfl rfl rfl rfl (Nat.le_of_ble_eq_true rfl) (by simp [entK, setI, upd]) (fun b hb => setI_o hb) hw d hq k
theorem kf_X6_12_all : ∀ a, a < 110 → kd a = 7 → kd (101) = 8 := by decide +kernel
theorem kf_X6_12 {a : Nat} (h : kd a = 7) : kd (101) = 8 := kf_X6_12_all a (kd_lt h) h
theorem g_X6_12 {X : CX} {own : String} {cc : ByteArray} {nL fr lo : Nat} {σ : St} {pc q a idx : Nat} {lv : List (Nat × Value)} {st : List Value} (C : Cok X own cc nL fr lo) (d : decode cc pc = .ok (.getfield idx, 3)) (hw : Cond.fieldLink own idx "CutDeeperModel" "ward" "[I" ∈ TB) (hk : kd a = 7) (hq : pc + 3 = q) (k : V X σ q lv (.ref ((xG X).1 101) :: st)) : V X σ pc lv (.ref ((xG X).1 a) :: st) :=
  r_get C (ci := 6) (fk := 12) (T := TX6) (N := 29) (Cn := RX6) rfl i_X6 rfl (Nat.le_of_ble_eq_true rfl) hk rfl rfl hw d hq k
theorem kf_X6_13_all : ∀ a, a < 110 → kd a = 7 → kd (102) = 8 := by decide +kernel
theorem kf_X6_13 {a : Nat} (h : kd a = 7) : kd (102) = 8 := kf_X6_13_all a (kd_lt h) h
theorem g_X6_13 {X : CX} {own : String} {cc : ByteArray} {nL fr lo : Nat} {σ : St} {pc q a idx : Nat} {lv : List (Nat × Value)} {st : List Value} (C : Cok X own cc nL fr lo) (d : decode cc pc = .ok (.getfield idx, 3)) (hw : Cond.fieldLink own idx "CutDeeperModel" "ask" "[I" ∈ TB) (hk : kd a = 7) (hq : pc + 3 = q) (k : V X σ q lv (.ref ((xG X).1 102) :: st)) : V X σ pc lv (.ref ((xG X).1 a) :: st) :=
  r_get C (ci := 6) (fk := 13) (T := TX6) (N := 29) (Cn := RX6) rfl i_X6 rfl (Nat.le_of_ble_eq_true rfl) hk rfl rfl hw d hq k
theorem g_X6_14 {X : CX} {own : String} {cc : ByteArray} {nL fr lo : Nat} {σ : St} {pc q a idx : Nat} {lv : List (Nat × Value)} {st : List Value} (C : Cok X own cc nL fr lo) (d : decode cc pc = .ok (.getfield idx, 3)) (hw : Cond.fieldLink own idx "CutDeeperModel" "coins" "I" ∈ TB) (hk : kd a = 7) (hq : pc + 3 = q) (k : V X σ q lv (.int (σ.1 a 14) :: st)) : V X σ pc lv (.ref ((xG X).1 a) :: st) :=
  r_get C (ci := 6) (fk := 14) (T := TX6) (N := 29) (Cn := RX6) rfl i_X6 rfl (Nat.le_of_ble_eq_true rfl) hk rfl rfl hw d hq k
theorem p_X6_14 {X : CX} {own : String} {cc : ByteArray} {nL fr lo : Nat} {σ : St} {pc q a idx : Nat} {lv : List (Nat × Value)} {st : List Value} (C : Cok X own cc nL fr lo) {v : Int32} {σ1 : St} (d : decode cc pc = .ok (.putfield idx, 3)) (hw : Cond.fieldLink own idx "CutDeeperModel" "coins" "I" ∈ TB) (hk : kd a = 7) (hv : ptI σ a 14 v = some σ1) (hq : pc + 3 = q) (k : V X σ1 q lv st) : V X σ pc lv (.int v :: .ref ((xG X).1 a) :: st) := by
  obtain rfl := Option.some.inj hv
  exact r_put C (ci := 6) (fk := 14) (T := TX6) (N := 29) (Cn := RX6) (ty0 := tyX6) (ty := .int) rfl i_X6 tyX6_ok nmX6 rfl (Nat.le_of_ble_eq_true rfl) hk rfl rfl rfl rfl rfl (Nat.le_of_ble_eq_true rfl) (by simp [entK, setI, upd]) (fun b hb => setI_o hb) hw d hq k
theorem g_X6_15 {X : CX} {own : String} {cc : ByteArray} {nL fr lo : Nat} {σ : St} {pc q a idx : Nat} {lv : List (Nat × Value)} {st : List Value} (C : Cok X own cc nL fr lo) (d : decode cc pc = .ok (.getfield idx, 3)) (hw : Cond.fieldLink own idx "CutDeeperModel" "seed" "I" ∈ TB) (hk : kd a = 7) (hq : pc + 3 = q) (k : V X σ q lv (.int (σ.1 a 15) :: st)) : V X σ pc lv (.ref ((xG X).1 a) :: st) :=
  r_get C (ci := 6) (fk := 15) (T := TX6) (N := 29) (Cn := RX6) rfl i_X6 rfl (Nat.le_of_ble_eq_true rfl) hk rfl rfl hw d hq k
theorem p_X6_15 {X : CX} {own : String} {cc : ByteArray} {nL fr lo : Nat} {σ : St} {pc q a idx : Nat} {lv : List (Nat × Value)} {st : List Value} (C : Cok X own cc nL fr lo) {v : Int32} {σ1 : St} (d : decode cc pc = .ok (.putfield idx, 3)) (hw : Cond.fieldLink own idx "CutDeeperModel" "seed" "I" ∈ TB) (hk : kd a = 7) (hv : ptI σ a 15 v = some σ1) (hq : pc + 3 = q) (k : V X σ1 q lv st) : V X σ pc lv (.int v :: .ref ((xG X).1 a) :: st) := by
  obtain rfl := Option.some.inj hv
  exact r_put C (ci := 6) (fk := 15) (T := TX6) (N := 29) (Cn := RX6) (ty0 := tyX6) (ty := .int) rfl i_X6 tyX6_ok nmX6 rfl (Nat.le_of_ble_eq_true rfl) hk rfl rfl rfl rfl rfl (Nat.le_of_ble_eq_true rfl) (by simp [entK, setI, upd]) (fun b hb => setI_o hb) hw d hq k
theorem g_X6_16 {X : CX} {own : String} {cc : ByteArray} {nL fr lo : Nat} {σ : St} {pc q a idx : Nat} {lv : List (Nat × Value)} {st : List Value} (C : Cok X own cc nL fr lo) (d : decode cc pc = .ok (.getfield idx, 3)) (hw : Cond.fieldLink own idx "CutDeeperModel" "taped" "I" ∈ TB) (hk : kd a = 7) (hq : pc + 3 = q) (k : V X σ q lv (.int (σ.1 a 16) :: st)) : V X σ pc lv (.ref ((xG X).1 a) :: st) :=
  r_get C (ci := 6) (fk := 16) (T := TX6) (N := 29) (Cn := RX6) rfl i_X6 rfl (Nat.le_of_ble_eq_true rfl) hk rfl rfl hw d hq k
theorem p_X6_16 {X : CX} {own : String} {cc : ByteArray} {nL fr lo : Nat} {σ : St} {pc q a idx : Nat} {lv : List (Nat × Value)} {st : List Value} (C : Cok X own cc nL fr lo) {v : Int32} {σ1 : St} (d : decode cc pc = .ok (.putfield idx, 3)) (hw : Cond.fieldLink own idx "CutDeeperModel" "taped" "I" ∈ TB) (hk : kd a = 7) (hv : ptI σ a 16 v = some σ1) (hq : pc + 3 = q) (k : V X σ1 q lv st) : V X σ pc lv (.int v :: .ref ((xG X).1 a) :: st) := by
  obtain rfl := Option.some.inj hv
  exact r_put C (ci := 6) (fk := 16) (T := TX6) (N := 29) (Cn := RX6) (ty0 := tyX6) (ty := .int) rfl i_X6 tyX6_ok nmX6 rfl (Nat.le_of_ble_eq_true rfl) hk rfl rfl rfl rfl rfl (Nat.le_of_ble_eq_true rfl) (by simp [entK, setI, upd]) (fun b hb => setI_o hb) hw d hq k
theorem kf_X6_17_all : ∀ a, a < 110 → kd a = 7 → kd (103) = 8 := by decide +kernel
theorem kf_X6_17 {a : Nat} (h : kd a = 7) : kd (103) = 8 := kf_X6_17_all a (kd_lt h) h
theorem g_X6_17 {X : CX} {own : String} {cc : ByteArray} {nL fr lo : Nat} {σ : St} {pc q a idx : Nat} {lv : List (Nat × Value)} {st : List Value} (C : Cok X own cc nL fr lo) (d : decode cc pc = .ok (.getfield idx, 3)) (hw : Cond.fieldLink own idx "CutDeeperModel" "tape" "[I" ∈ TB) (hk : kd a = 7) (hq : pc + 3 = q) (k : V X σ q lv (.ref ((xG X).1 103) :: st)) : V X σ pc lv (.ref ((xG X).1 a) :: st) :=
  r_get C (ci := 6) (fk := 17) (T := TX6) (N := 29) (Cn := RX6) rfl i_X6 rfl (Nat.le_of_ble_eq_true rfl) hk rfl rfl hw d hq k
theorem g_X6_18 {X : CX} {own : String} {cc : ByteArray} {nL fr lo : Nat} {σ : St} {pc q a idx : Nat} {lv : List (Nat × Value)} {st : List Value} (C : Cok X own cc nL fr lo) (d : decode cc pc = .ok (.getfield idx, 3)) (hw : Cond.fieldLink own idx "CutDeeperModel" "at" "I" ∈ TB) (hk : kd a = 7) (hq : pc + 3 = q) (k : V X σ q lv (.int (σ.1 a 18) :: st)) : V X σ pc lv (.ref ((xG X).1 a) :: st) :=
  r_get C (ci := 6) (fk := 18) (T := TX6) (N := 29) (Cn := RX6) rfl i_X6 rfl (Nat.le_of_ble_eq_true rfl) hk rfl rfl hw d hq k
theorem p_X6_18 {X : CX} {own : String} {cc : ByteArray} {nL fr lo : Nat} {σ : St} {pc q a idx : Nat} {lv : List (Nat × Value)} {st : List Value} (C : Cok X own cc nL fr lo) {v : Int32} {σ1 : St} (d : decode cc pc = .ok (.putfield idx, 3)) (hw : Cond.fieldLink own idx "CutDeeperModel" "at" "I" ∈ TB) (hk : kd a = 7) (hv : ptI σ a 18 v = some σ1) (hq : pc + 3 = q) (k : V X σ1 q lv st) : V X σ pc lv (.int v :: .ref ((xG X).1 a) :: st) := by
  obtain rfl := Option.some.inj hv
  exact r_put C (ci := 6) (fk := 18) (T := TX6) (N := 29) (Cn := RX6) (ty0 := tyX6) (ty := .int) rfl i_X6 tyX6_ok nmX6 rfl (Nat.le_of_ble_eq_true rfl) hk rfl rfl rfl rfl rfl (Nat.le_of_ble_eq_true rfl) (by simp [entK, setI, upd]) (fun b hb => setI_o hb) hw d hq k
theorem g_X6_19 {X : CX} {own : String} {cc : ByteArray} {nL fr lo : Nat} {σ : St} {pc q a idx : Nat} {lv : List (Nat × Value)} {st : List Value} (C : Cok X own cc nL fr lo) (d : decode cc pc = .ok (.getfield idx, 3)) (hw : Cond.fieldLink own idx "CutDeeperModel" "token" "I" ∈ TB) (hk : kd a = 7) (hq : pc + 3 = q) (k : V X σ q lv (.int (σ.1 a 19) :: st)) : V X σ pc lv (.ref ((xG X).1 a) :: st) :=
  r_get C (ci := 6) (fk := 19) (T := TX6) (N := 29) (Cn := RX6) rfl i_X6 rfl (Nat.le_of_ble_eq_true rfl) hk rfl rfl hw d hq k
theorem p_X6_19 {X : CX} {own : String} {cc : ByteArray} {nL fr lo : Nat} {σ : St} {pc q a idx : Nat} {lv : List (Nat × Value)} {st : List Value} (C : Cok X own cc nL fr lo) {v : Int32} {σ1 : St} (d : decode cc pc = .ok (.putfield idx, 3)) (hw : Cond.fieldLink own idx "CutDeeperModel" "token" "I" ∈ TB) (hk : kd a = 7) (hv : ptI σ a 19 v = some σ1) (hq : pc + 3 = q) (k : V X σ1 q lv st) : V X σ pc lv (.int v :: .ref ((xG X).1 a) :: st) := by
  obtain rfl := Option.some.inj hv
  exact r_put C (ci := 6) (fk := 19) (T := TX6) (N := 29) (Cn := RX6) (ty0 := tyX6) (ty := .int) rfl i_X6 tyX6_ok nmX6 rfl (Nat.le_of_ble_eq_true rfl) hk rfl rfl rfl rfl rfl (Nat.le_of_ble_eq_true rfl) (by simp [entK, setI, upd]) (fun b hb => setI_o hb) hw d hq k
theorem g_X6_20 {X : CX} {own : String} {cc : ByteArray} {nL fr lo : Nat} {σ : St} {pc q a idx : Nat} {lv : List (Nat × Value)} {st : List Value} (C : Cok X own cc nL fr lo) (d : decode cc pc = .ok (.getfield idx, 3)) (hw : Cond.fieldLink own idx "CutDeeperModel" "sort" "I" ∈ TB) (hk : kd a = 7) (hq : pc + 3 = q) (k : V X σ q lv (.int (σ.1 a 20) :: st)) : V X σ pc lv (.ref ((xG X).1 a) :: st) :=
  r_get C (ci := 6) (fk := 20) (T := TX6) (N := 29) (Cn := RX6) rfl i_X6 rfl (Nat.le_of_ble_eq_true rfl) hk rfl rfl hw d hq k
theorem p_X6_20 {X : CX} {own : String} {cc : ByteArray} {nL fr lo : Nat} {σ : St} {pc q a idx : Nat} {lv : List (Nat × Value)} {st : List Value} (C : Cok X own cc nL fr lo) {v : Int32} {σ1 : St} (d : decode cc pc = .ok (.putfield idx, 3)) (hw : Cond.fieldLink own idx "CutDeeperModel" "sort" "I" ∈ TB) (hk : kd a = 7) (hv : ptI σ a 20 v = some σ1) (hq : pc + 3 = q) (k : V X σ1 q lv st) : V X σ pc lv (.int v :: .ref ((xG X).1 a) :: st) := by
  obtain rfl := Option.some.inj hv
  exact r_put C (ci := 6) (fk := 20) (T := TX6) (N := 29) (Cn := RX6) (ty0 := tyX6) (ty := .int) rfl i_X6 tyX6_ok nmX6 rfl (Nat.le_of_ble_eq_true rfl) hk rfl rfl rfl rfl rfl (Nat.le_of_ble_eq_true rfl) (by simp [entK, setI, upd]) (fun b hb => setI_o hb) hw d hq k
theorem g_X6_21 {X : CX} {own : String} {cc : ByteArray} {nL fr lo : Nat} {σ : St} {pc q a idx : Nat} {lv : List (Nat × Value)} {st : List Value} (C : Cok X own cc nL fr lo) (d : decode cc pc = .ok (.getfield idx, 3)) (hw : Cond.fieldLink own idx "CutDeeperModel" "value" "I" ∈ TB) (hk : kd a = 7) (hq : pc + 3 = q) (k : V X σ q lv (.int (σ.1 a 21) :: st)) : V X σ pc lv (.ref ((xG X).1 a) :: st) :=
  r_get C (ci := 6) (fk := 21) (T := TX6) (N := 29) (Cn := RX6) rfl i_X6 rfl (Nat.le_of_ble_eq_true rfl) hk rfl rfl hw d hq k
theorem p_X6_21 {X : CX} {own : String} {cc : ByteArray} {nL fr lo : Nat} {σ : St} {pc q a idx : Nat} {lv : List (Nat × Value)} {st : List Value} (C : Cok X own cc nL fr lo) {v : Int32} {σ1 : St} (d : decode cc pc = .ok (.putfield idx, 3)) (hw : Cond.fieldLink own idx "CutDeeperModel" "value" "I" ∈ TB) (hk : kd a = 7) (hv : ptI σ a 21 v = some σ1) (hq : pc + 3 = q) (k : V X σ1 q lv st) : V X σ pc lv (.int v :: .ref ((xG X).1 a) :: st) := by
  obtain rfl := Option.some.inj hv
  exact r_put C (ci := 6) (fk := 21) (T := TX6) (N := 29) (Cn := RX6) (ty0 := tyX6) (ty := .int) rfl i_X6 tyX6_ok nmX6 rfl (Nat.le_of_ble_eq_true rfl) hk rfl rfl rfl rfl rfl (Nat.le_of_ble_eq_true rfl) (by simp [entK, setI, upd]) (fun b hb => setI_o hb) hw d hq k
theorem kf_X6_22_all : ∀ a, a < 110 → kd a = 7 → kd (104) = 8 := by decide +kernel
theorem kf_X6_22 {a : Nat} (h : kd a = 7) : kd (104) = 8 := kf_X6_22_all a (kd_lt h) h
theorem g_X6_22 {X : CX} {own : String} {cc : ByteArray} {nL fr lo : Nat} {σ : St} {pc q a idx : Nat} {lv : List (Nat × Value)} {st : List Value} (C : Cok X own cc nL fr lo) (d : decode cc pc = .ok (.getfield idx, 3)) (hw : Cond.fieldLink own idx "CutDeeperModel" "refusals" "[I" ∈ TB) (hk : kd a = 7) (hq : pc + 3 = q) (k : V X σ q lv (.ref ((xG X).1 104) :: st)) : V X σ pc lv (.ref ((xG X).1 a) :: st) :=
  r_get C (ci := 6) (fk := 22) (T := TX6) (N := 29) (Cn := RX6) rfl i_X6 rfl (Nat.le_of_ble_eq_true rfl) hk rfl rfl hw d hq k
theorem g_X6_23 {X : CX} {own : String} {cc : ByteArray} {nL fr lo : Nat} {σ : St} {pc q a idx : Nat} {lv : List (Nat × Value)} {st : List Value} (C : Cok X own cc nL fr lo) (d : decode cc pc = .ok (.getfield idx, 3)) (hw : Cond.fieldLink own idx "CutDeeperModel" "imaged" "Z" ∈ TB) (hk : kd a = 7) (hq : pc + 3 = q) (k : V X σ q lv (.int (σ.1 a 23) :: st)) : V X σ pc lv (.ref ((xG X).1 a) :: st) :=
  r_get C (ci := 6) (fk := 23) (T := TX6) (N := 29) (Cn := RX6) rfl i_X6 rfl (Nat.le_of_ble_eq_true rfl) hk rfl rfl hw d hq k
theorem p_X6_23 {X : CX} {own : String} {cc : ByteArray} {nL fr lo : Nat} {σ : St} {pc q a idx : Nat} {lv : List (Nat × Value)} {st : List Value} (C : Cok X own cc nL fr lo) {v : Int32} {σ1 : St} (d : decode cc pc = .ok (.putfield idx, 3)) (hw : Cond.fieldLink own idx "CutDeeperModel" "imaged" "Z" ∈ TB) (hk : kd a = 7) (hv : ptI σ a 23 v = some σ1) (hz : v = 0 ∨ v = 1) (hq : pc + 3 = q) (k : V X σ1 q lv st) : V X σ pc lv (.int v :: .ref ((xG X).1 a) :: st) := by
  obtain rfl := Option.some.inj hv
  exact r_put C (ci := 6) (fk := 23) (T := TX6) (N := 29) (Cn := RX6) (ty0 := tyX6) (ty := .boolean) rfl i_X6 tyX6_ok nmX6 rfl (Nat.le_of_ble_eq_true rfl) hk rfl rfl rfl (by rcases hz with rfl | rfl <;> rfl) (by rcases hz with rfl | rfl <;> rfl) (Nat.le_of_ble_eq_true rfl) (by simp [entK, setI, upd]) (fun b hb => setI_o hb) hw d hq k
theorem kf_X6_24_all : ∀ a, a < 110 → kd a = 7 → kd (105) = 8 := by decide +kernel
theorem kf_X6_24 {a : Nat} (h : kd a = 7) : kd (105) = 8 := kf_X6_24_all a (kd_lt h) h
theorem g_X6_24 {X : CX} {own : String} {cc : ByteArray} {nL fr lo : Nat} {σ : St} {pc q a idx : Nat} {lv : List (Nat × Value)} {st : List Value} (C : Cok X own cc nL fr lo) (d : decode cc pc = .ok (.getfield idx, 3)) (hw : Cond.fieldLink own idx "CutDeeperModel" "old" "[I" ∈ TB) (hk : kd a = 7) (hq : pc + 3 = q) (k : V X σ q lv (.ref ((xG X).1 105) :: st)) : V X σ pc lv (.ref ((xG X).1 a) :: st) :=
  r_get C (ci := 6) (fk := 24) (T := TX6) (N := 29) (Cn := RX6) rfl i_X6 rfl (Nat.le_of_ble_eq_true rfl) hk rfl rfl hw d hq k
theorem kf_X6_25_all : ∀ a, a < 110 → kd a = 7 → kd (106) = 8 := by decide +kernel
theorem kf_X6_25 {a : Nat} (h : kd a = 7) : kd (106) = 8 := kf_X6_25_all a (kd_lt h) h
theorem g_X6_25 {X : CX} {own : String} {cc : ByteArray} {nL fr lo : Nat} {σ : St} {pc q a idx : Nat} {lv : List (Nat × Value)} {st : List Value} (C : Cok X own cc nL fr lo) (d : decode cc pc = .ok (.getfield idx, 3)) (hw : Cond.fieldLink own idx "CutDeeperModel" "ahead" "[I" ∈ TB) (hk : kd a = 7) (hq : pc + 3 = q) (k : V X σ q lv (.ref ((xG X).1 106) :: st)) : V X σ pc lv (.ref ((xG X).1 a) :: st) :=
  r_get C (ci := 6) (fk := 25) (T := TX6) (N := 29) (Cn := RX6) rfl i_X6 rfl (Nat.le_of_ble_eq_true rfl) hk rfl rfl hw d hq k
theorem kf_X6_26_all : ∀ a, a < 110 → kd a = 7 → kd (107) = 8 := by decide +kernel
theorem kf_X6_26 {a : Nat} (h : kd a = 7) : kd (107) = 8 := kf_X6_26_all a (kd_lt h) h
theorem g_X6_26 {X : CX} {own : String} {cc : ByteArray} {nL fr lo : Nat} {σ : St} {pc q a idx : Nat} {lv : List (Nat × Value)} {st : List Value} (C : Cok X own cc nL fr lo) (d : decode cc pc = .ok (.getfield idx, 3)) (hw : Cond.fieldLink own idx "CutDeeperModel" "was" "[I" ∈ TB) (hk : kd a = 7) (hq : pc + 3 = q) (k : V X σ q lv (.ref ((xG X).1 107) :: st)) : V X σ pc lv (.ref ((xG X).1 a) :: st) :=
  r_get C (ci := 6) (fk := 26) (T := TX6) (N := 29) (Cn := RX6) rfl i_X6 rfl (Nat.le_of_ble_eq_true rfl) hk rfl rfl hw d hq k
theorem kf_X6_27_all : ∀ a, a < 110 → kd a = 7 → kd (108) = 8 := by decide +kernel
theorem kf_X6_27 {a : Nat} (h : kd a = 7) : kd (108) = 8 := kf_X6_27_all a (kd_lt h) h
theorem g_X6_27 {X : CX} {own : String} {cc : ByteArray} {nL fr lo : Nat} {σ : St} {pc q a idx : Nat} {lv : List (Nat × Value)} {st : List Value} (C : Cok X own cc nL fr lo) (d : decode cc pc = .ok (.getfield idx, 3)) (hw : Cond.fieldLink own idx "CutDeeperModel" "best" "[I" ∈ TB) (hk : kd a = 7) (hq : pc + 3 = q) (k : V X σ q lv (.ref ((xG X).1 108) :: st)) : V X σ pc lv (.ref ((xG X).1 a) :: st) :=
  r_get C (ci := 6) (fk := 27) (T := TX6) (N := 29) (Cn := RX6) rfl i_X6 rfl (Nat.le_of_ble_eq_true rfl) hk rfl rfl hw d hq k
theorem kf_X6_28_all : ∀ a, a < 110 → kd a = 7 → kd (109) = 8 := by decide +kernel
theorem kf_X6_28 {a : Nat} (h : kd a = 7) : kd (109) = 8 := kf_X6_28_all a (kd_lt h) h
theorem g_X6_28 {X : CX} {own : String} {cc : ByteArray} {nL fr lo : Nat} {σ : St} {pc q a idx : Nat} {lv : List (Nat × Value)} {st : List Value} (C : Cok X own cc nL fr lo) (d : decode cc pc = .ok (.getfield idx, 3)) (hw : Cond.fieldLink own idx "CutDeeperModel" "first" "[I" ∈ TB) (hk : kd a = 7) (hq : pc + 3 = q) (k : V X σ q lv (.ref ((xG X).1 109) :: st)) : V X σ pc lv (.ref ((xG X).1 a) :: st) :=
  r_get C (ci := 6) (fk := 28) (T := TX6) (N := 29) (Cn := RX6) rfl i_X6 rfl (Nat.le_of_ble_eq_true rfl) hk rfl rfl hw d hq k
theorem ok_X0_take : MokV yX0_take cX0_take 3 none 1 := ⟨q_500, q_501, q_2, q_502, by decide +kernel⟩
theorem ok_X0_isEmpty : MokV yX0_isEmpty cX0_isEmpty 1 (some .boolean) 0 := ⟨q_406, q_407, q_2, q_408, by decide +kernel⟩
theorem ok_X0_keyAt : MokV yX0_keyAt cX0_keyAt 2 (some (.object "CutDeeper$Key")) 1 := ⟨q_330, q_331, q_2, q_332, by decide +kernel⟩
theorem ok_X0_addKey : MokV yX0_addKey cX0_addKey 3 (some .int) 2 := ⟨q_422, q_423, q_2, q_424, by decide +kernel⟩
theorem ok_X0_addLock : MokV yX0_addLock cX0_addLock 4 (some .int) 1 := ⟨q_437, q_438, q_2, q_439, by decide +kernel⟩
theorem ok_X0_hasWard : MokV yX0_hasWard cX0_hasWard 2 (some .boolean) 1 := ⟨q_649, q_650, q_2, q_651, by decide +kernel⟩
theorem ok_X0_asksAt : MokV yX0_asksAt cX0_asksAt 3 (some .int) 2 := ⟨q_462, q_463, q_2, q_464, by decide +kernel⟩
theorem ok_X0_putAsks : MokV yX0_putAsks cX0_putAsks 7 none 3 := ⟨q_441, q_442, q_2, q_443, by decide +kernel⟩
theorem ok_X0_locksWithin : MokV yX0_locksWithin cX0_locksWithin 3 (some .int) 2 := ⟨q_446, q_447, q_2, q_448, by decide +kernel⟩
theorem ok_X0_asksTogether : MokV yX0_asksTogether cX0_asksTogether 4 (some .int) 1 := ⟨q_656, q_657, q_2, q_658, by decide +kernel⟩
theorem ok_X0_asksAsMuch : MokV yX0_asksAsMuch cX0_asksAsMuch 4 (some .boolean) 2 := ⟨q_859, q_860, q_2, q_861, by decide +kernel⟩
theorem ok_X0_sum : MokV yX0_sum cX0_sum 4 (some .int) 1 := ⟨q_342, q_343, q_2, q_344, by decide +kernel⟩
theorem ok_X0_bears : MokV yX0_bears cX0_bears 2 (some .int) 1 := ⟨q_368, q_369, q_2, q_370, by decide +kernel⟩
theorem ok_X0_breaks : MokV yX0_breaks cX0_breaks 3 (some .boolean) 2 := ⟨q_363, q_364, q_2, q_365, by decide +kernel⟩
theorem ok_X0_wornPlace : MokV yX0_wornPlace cX0_wornPlace 2 (some .int) 1 := ⟨q_346, q_347, q_2, q_348, by decide +kernel⟩
theorem ok_X0_depth : MokV yX0_depth cX0_depth 5 (some .int) 3 := ⟨q_640, q_641, q_2, q_642, by decide +kernel⟩
theorem ok_X0_fitted : MokV yX0_fitted cX0_fitted 8 (some .int) 2 := ⟨q_372, q_373, q_2, q_374, by decide +kernel⟩
theorem ok_X0_openedByCuts : MokV yX0_openedByCuts cX0_openedByCuts 4 (some .int) 2 := ⟨q_359, q_360, q_2, q_361, by decide +kernel⟩
theorem ok_X0_openedBesides : MokV yX0_openedBesides cX0_openedBesides 5 (some .int) 1 := ⟨q_355, q_356, q_2, q_357, by decide +kernel⟩
theorem ok_X0_openedAs : MokV yX0_openedAs cX0_openedAs 4 (some .int) 3 := ⟨q_382, q_383, q_2, q_384, by decide +kernel⟩
theorem ok_X0_openedBy : MokV yX0_openedBy cX0_openedBy 3 (some .int) 1 := ⟨q_350, q_351, q_2, q_352, by decide +kernel⟩
theorem ok_X0_openersOf : MokV yX0_openersOf cX0_openersOf 4 (some .int) 1 := ⟨q_675, q_676, q_2, q_677, by decide +kernel⟩
theorem ok_X0_brokenKeys : MokV yX0_brokenKeys cX0_brokenKeys 3 (some .int) 0 := ⟨q_976, q_977, q_2, q_978, by decide +kernel⟩
theorem ok_X0_deepen : MokV yX0_deepen cX0_deepen 4 (some .boolean) 2 := ⟨q_479, q_480, q_2, q_481, by decide +kernel⟩
theorem ok_X0_cost : MokV yX0_cost cX0_cost 6 (some .int) 2 := ⟨q_772, q_773, q_2, q_774, by decide +kernel⟩
theorem ok_X0_advance : MokV yX0_advance cX0_advance 4 (some .boolean) 2 := ⟨q_730, q_731, q_2, q_732, by decide +kernel⟩
theorem ok_X0_draw : MokV yX0_draw cX0_draw 2 (some .int) 1 := ⟨q_928, q_929, q_2, q_930, by decide +kernel⟩
theorem ok_X0_wear : MokV yX0_wear cX0_wear 2 (some .boolean) 1 := ⟨q_924, q_925, q_2, q_926, by decide +kernel⟩
theorem ok_X0_passDay : MokV yX0_passDay cX0_passDay 3 (some .boolean) 0 := ⟨q_938, q_939, q_2, q_940, by decide +kernel⟩
theorem ok_X1_begin : MokV yX1_begin cX1_begin 3 none 2 := ⟨q_426, q_427, q_3, q_428, by decide +kernel⟩
theorem ok_X1_take : MokV yX1_take cX1_take 2 none 1 := ⟨q_504, q_505, q_3, q_506, by decide +kernel⟩
theorem ok_X1_isOfKind : MokV yX1_isOfKind cX1_isOfKind 2 (some .boolean) 1 := ⟨q_334, q_335, q_3, q_336, by decide +kernel⟩
theorem ok_X1_allow : MokV yX1_allow cX1_allow 5 (some .boolean) 2 := ⟨q_471, q_472, q_3, q_473, by decide +kernel⟩
theorem ok_X2_isKey : MokV yX2_isKey cX2_isKey 1 (some .boolean) 0 := ⟨q_277, q_278, q_6, q_279, by decide +kernel⟩
theorem ok_X2_isRow : MokV yX2_isRow cX2_isRow 1 (some .boolean) 0 := ⟨q_268, q_269, q_6, q_270, by decide +kernel⟩
theorem ok_X2_whyNoRow : MokV yX2_whyNoRow cX2_whyNoRow 1 (some .int) 0 := ⟨q_273, q_274, q_6, q_275, by decide +kernel⟩
theorem ok_X2_beginRow : MokV yX2_beginRow cX2_beginRow 3 none 2 := ⟨q_257, q_258, q_6, q_259, by decide +kernel⟩
theorem ok_X2_hasElement : MokV yX2_hasElement cX2_hasElement 2 (some .boolean) 1 := ⟨q_285, q_286, q_6, q_287, by decide +kernel⟩
theorem ok_X2_elementAt : MokV yX2_elementAt cX2_elementAt 2 (some .long) 1 := ⟨q_310, q_311, q_6, q_312, by decide +kernel⟩
theorem ok_X2_putElement : MokV yX2_putElement cX2_putElement 4 none 2 := ⟨q_281, q_282, q_6, q_283, by decide +kernel⟩
theorem ok_X2_narrowed : MokV yX2_narrowed cX2_narrowed 3 (some .long) 1 := ⟨q_290, q_291, q_6, q_292, by decide +kernel⟩
theorem ok_X2_hasPart : MokV yX2_hasPart cX2_hasPart 3 (some .boolean) 2 := ⟨q_299, q_300, q_6, q_301, by decide +kernel⟩
theorem ok_X2_dropKeysFrom : MokV yX2_dropKeysFrom cX2_dropKeysFrom 2 none 1 := ⟨q_968, q_969, q_6, q_970, by decide +kernel⟩
theorem ok_X3_add : MokV yX3_add cX3_add 2 (some .boolean) 1 := ⟨q_487, q_488, q_5, q_489, by decide +kernel⟩
theorem ok_X3_readInto : MokV yX3_readInto cX3_readInto 3 (some .int) 1 := ⟨q_510, q_511, q_5, q_512, by decide +kernel⟩
theorem ok_X3_toNextToken : MokV yX3_toNextToken cX3_toNextToken 1 none 0 := ⟨q_514, q_515, q_5, q_516, by decide +kernel⟩
theorem ok_X3_sortOf : MokV yX3_sortOf cX3_sortOf 2 (some .int) 1 := ⟨q_519, q_520, q_5, q_521, by decide +kernel⟩
theorem ok_X3_isWord : MokV yX3_isWord cX3_isWord 3 (some .boolean) 1 := ⟨q_528, q_529, q_5, q_530, by decide +kernel⟩
theorem ok_X3_readWord : MokV yX3_readWord cX3_readWord 2 (some .boolean) 1 := ⟨q_596, q_597, q_5, q_598, by decide +kernel⟩
theorem ok_X3_readNumber : MokV yX3_readNumber cX3_readNumber 5 (some .int) 2 := ⟨q_585, q_586, q_5, q_587, by decide +kernel⟩
theorem ok_X3_readStatement : MokV yX3_readStatement cX3_readStatement 2 (some .boolean) 1 := ⟨q_523, q_524, q_5, q_525, by decide +kernel⟩
theorem ok_X3_readPlaces : MokV yX3_readPlaces cX3_readPlaces 3 (some .boolean) 1 := ⟨q_580, q_581, q_5, q_582, by decide +kernel⟩
theorem ok_X3_readDeep : MokV yX3_readDeep cX3_readDeep 3 (some .boolean) 1 := ⟨q_591, q_592, q_5, q_593, by decide +kernel⟩
theorem ok_X3_readStrength : MokV yX3_readStrength cX3_readStrength 3 (some .boolean) 1 := ⟨q_600, q_601, q_5, q_602, by decide +kernel⟩
theorem ok_X3_readKey : MokV yX3_readKey cX3_readKey 5 (some .boolean) 1 := ⟨q_605, q_606, q_5, q_607, by decide +kernel⟩
theorem ok_X3_readCuts : MokV yX3_readCuts cX3_readCuts 5 (some .boolean) 2 := ⟨q_611, q_612, q_5, q_613, by decide +kernel⟩
theorem ok_X3_readLock : MokV yX3_readLock cX3_readLock 3 (some .boolean) 1 := ⟨q_617, q_618, q_5, q_619, by decide +kernel⟩
theorem ok_X3_readAsks : MokV yX3_readAsks cX3_readAsks 5 (some .boolean) 2 := ⟨q_623, q_624, q_5, q_625, by decide +kernel⟩
theorem ok_X3_readMay : MokV yX3_readMay cX3_readMay 4 (some .boolean) 1 := ⟨q_630, q_631, q_5, q_632, by decide +kernel⟩
theorem ok_X4_foundAt : MokV yX4_foundAt cX4_foundAt 2 (some .int) 1 := ⟨q_734, q_735, q_4, q_736, by decide +kernel⟩
theorem ok_X4_leastCuts : MokV yX4_leastCuts cX4_leastCuts 2 (some .int) 1 := ⟨q_713, q_714, q_4, q_715, by decide +kernel⟩
theorem ok_X4_leastAsks : MokV yX4_leastAsks cX4_leastAsks 4 (some .int) 1 := ⟨q_746, q_747, q_4, q_748, by decide +kernel⟩
theorem ok_X4_keysOfDepth : MokV yX4_keysOfDepth cX4_keysOfDepth 6 (some .int) 2 := ⟨q_750, q_751, q_4, q_752, by decide +kernel⟩
theorem ok_X4_leastRow : MokV yX4_leastRow cX4_leastRow 7 (some .int) 3 := ⟨q_718, q_719, q_4, q_720, by decide +kernel⟩
theorem ok_X4_fittingRow : MokV yX4_fittingRow cX4_fittingRow 5 (some .int) 2 := ⟨q_724, q_725, q_4, q_726, by decide +kernel⟩
theorem ok_X4_rowsFor : MokV yX4_rowsFor cX4_rowsFor 5 (some .int) 1 := ⟨q_916, q_917, q_4, q_918, by decide +kernel⟩
theorem ok_X4_coinsToOpen : MokV yX4_coinsToOpen cX4_coinsToOpen 7 (some .int) 2 := ⟨q_761, q_762, q_4, q_763, by decide +kernel⟩
theorem ok_X4_safeFrom : MokV yX4_safeFrom cX4_safeFrom 4 (some .int) 1 := ⟨q_780, q_781, q_4, q_782, by decide +kernel⟩
theorem ok_X4_planMending : MokV yX4_planMending cX4_planMending 2 none 0 := ⟨q_793, q_794, q_4, q_795, by decide +kernel⟩
theorem ok_X4_planMendingOf : MokV yX4_planMendingOf cX4_planMendingOf 7 (some .int) 1 := ⟨q_797, q_798, q_4, q_799, by decide +kernel⟩
theorem ok_X4_mendedAt : MokV yX4_mendedAt cX4_mendedAt 2 (some (.array .int)) 1 := ⟨q_803, q_804, q_4, q_805, by decide +kernel⟩
theorem ok_X4_mendingCoins : MokV yX4_mendingCoins cX4_mendingCoins 3 (some .int) 0 := ⟨q_807, q_808, q_4, q_809, by decide +kernel⟩
theorem ok_X4_pastMending : MokV yX4_pastMending cX4_pastMending 3 (some .int) 0 := ⟨q_811, q_812, q_4, q_813, by decide +kernel⟩
theorem ok_X4_doMending : MokV yX4_doMending cX4_doMending 2 none 0 := ⟨q_952, q_953, q_4, q_954, by decide +kernel⟩
theorem ok_X4_openedTogether : MokV yX4_openedTogether cX4_openedTogether 5 (some .int) 2 := ⟨q_829, q_830, q_4, q_831, by decide +kernel⟩
theorem ok_X4_bestPair : MokV yX4_bestPair cX4_bestPair 6 (some .int) 0 := ⟨q_837, q_838, q_4, q_839, by decide +kernel⟩
theorem ok_X4_rowsOfHalf : MokV yX4_rowsOfHalf cX4_rowsOfHalf 4 (some .int) 0 := ⟨q_847, q_848, q_4, q_849, by decide +kernel⟩
theorem ok_X4_waysWithOneMore : MokV yX4_waysWithOneMore cX4_waysWithOneMore 4 (some .int) 1 := ⟨q_851, q_852, q_4, q_853, by decide +kernel⟩
theorem ok_X4_keysOver : MokV yX4_keysOver cX4_keysOver 5 (some .int) 1 := ⟨q_867, q_868, q_4, q_869, by decide +kernel⟩
theorem ok_X4_countBelow : MokV yX4_countBelow cX4_countBelow 5 (some .int) 1 := ⟨q_392, q_393, q_4, q_394, by decide +kernel⟩
theorem ok_X4_longestChain : MokV yX4_longestChain cX4_longestChain 4 (some .int) 0 := ⟨q_875, q_876, q_4, q_877, by decide +kernel⟩
theorem ok_X4_longestBelow : MokV yX4_longestBelow cX4_longestBelow 6 (some .int) 1 := ⟨q_879, q_880, q_4, q_881, by decide +kernel⟩
theorem ok_X4_lostByWard : MokV yX4_lostByWard cX4_lostByWard 6 (some .int) 1 := ⟨q_887, q_888, q_4, q_889, by decide +kernel⟩
theorem ok_X4_tellCut : MokV yX4_tellCut cX4_tellCut 3 none 2 := ⟨q_900, q_901, q_4, q_902, by decide +kernel⟩
theorem ok_X4_keysOfTold : MokV yX4_keysOfTold cX4_keysOfTold 6 (some .int) 1 := ⟨q_904, q_905, q_4, q_906, by decide +kernel⟩
theorem ok_X4_canBecomeTold : MokV yX4_canBecomeTold cX4_canBecomeTold 5 (some .boolean) 1 := ⟨q_908, q_909, q_4, q_910, by decide +kernel⟩
theorem ok_X5_row : MokV yX5_row cX5_row 4 (some .int) 3 := ⟨q_232, q_233, q_1, q_234, by decide +kernel⟩
theorem ok_X5_set : MokV yX5_set cX5_set 6 (some .int) 3 := ⟨q_264, q_265, q_1, q_266, by decide +kernel⟩
theorem ok_X5_copy : MokV yX5_copy cX5_copy 8 (some .int) 5 := ⟨q_294, q_295, q_1, q_296, by decide +kernel⟩
theorem ok_X5_element : MokV yX5_element cX5_element 3 (some .long) 2 := ⟨q_306, q_307, q_1, q_308, by decide +kernel⟩
theorem ok_X5_holds : MokV yX5_holds cX5_holds 2 (some .int) 1 := ⟨q_314, q_315, q_1, q_316, by decide +kernel⟩
theorem ok_X5_show : MokV yX5_show cX5_show 3 (some .int) 2 := ⟨q_318, q_319, q_1, q_320, by decide +kernel⟩
theorem ok_X5_says : MokV yX5_says cX5_says 5 (some .int) 2 := ⟨q_326, q_327, q_1, q_328, by decide +kernel⟩
theorem ok_X5_ask : MokV yX5_ask cX5_ask 3 (some .int) 2 := ⟨q_398, q_399, q_1, q_400, by decide +kernel⟩
theorem ok_X5_key : MokV yX5_key cX5_key 4 (some .int) 2 := ⟨q_418, q_419, q_1, q_420, by decide +kernel⟩
theorem ok_X5_lock : MokV yX5_lock cX5_lock 3 (some .int) 1 := ⟨q_433, q_434, q_1, q_435, by decide +kernel⟩
theorem ok_X5_asks : MokV yX5_asks cX5_asks 5 (some .int) 3 := ⟨q_450, q_451, q_1, q_452, by decide +kernel⟩
theorem ok_X5_may : MokV yX5_may cX5_may 4 (some .int) 3 := ⟨q_467, q_468, q_1, q_469, by decide +kernel⟩
theorem ok_X5_file : MokV yX5_file cX5_file 5 (some .int) 2 := ⟨q_475, q_476, q_1, q_477, by decide +kernel⟩
theorem ok_X5_feed : MokV yX5_feed cX5_feed 2 (some .int) 1 := ⟨q_483, q_484, q_1, q_485, by decide +kernel⟩
theorem ok_X5_wipe : MokV yX5_wipe cX5_wipe 2 (some .int) 0 := ⟨q_492, q_493, q_1, q_494, by decide +kernel⟩
theorem ok_X5_house : MokV yX5_house cX5_house 2 (some .int) 0 := ⟨q_496, q_497, q_1, q_498, by decide +kernel⟩
theorem ok_X5_keyOf : MokV yX5_keyOf cX5_keyOf 4 (some .int) 2 := ⟨q_636, q_637, q_1, q_638, by decide +kernel⟩
theorem ok_X5_lockOf : MokV yX5_lockOf cX5_lockOf 3 (some .int) 2 := ⟨q_645, q_646, q_1, q_647, by decide +kernel⟩
theorem ok_X5_opens : MokV yX5_opens cX5_opens 6 (some .int) 3 := ⟨q_661, q_662, q_1, q_663, by decide +kernel⟩
theorem ok_X5_opened : MokV yX5_opened cX5_opened 2 (some .int) 1 := ⟨q_667, q_668, q_1, q_669, by decide +kernel⟩
theorem ok_X5_who : MokV yX5_who cX5_who 2 (some .int) 1 := ⟨q_671, q_672, q_1, q_673, by decide +kernel⟩
theorem ok_X5_wrong : MokV yX5_wrong cX5_wrong 4 (some .int) 0 := ⟨q_680, q_681, q_1, q_682, by decide +kernel⟩
theorem ok_X5_wrongs : MokV yX5_wrongs cX5_wrongs 3 (some .int) 0 := ⟨q_684, q_685, q_1, q_686, by decide +kernel⟩
theorem ok_X5_judge : MokV yX5_judge cX5_judge 4 (some .int) 1 := ⟨q_688, q_689, q_1, q_690, by decide +kernel⟩
theorem ok_X5_list : MokV yX5_list cX5_list 4 (some .int) 1 := ⟨q_701, q_702, q_1, q_703, by decide +kernel⟩
theorem ok_X5_cuts : MokV yX5_cuts cX5_cuts 4 (some .int) 2 := ⟨q_705, q_706, q_1, q_707, by decide +kernel⟩
theorem ok_X5_asked : MokV yX5_asked cX5_asked 4 (some .int) 2 := ⟨q_738, q_739, q_1, q_740, by decide +kernel⟩
theorem ok_X5_toOpen : MokV yX5_toOpen cX5_toOpen 3 (some .int) 2 := ⟨q_757, q_758, q_1, q_759, by decide +kernel⟩
theorem ok_X5_safe : MokV yX5_safe cX5_safe 2 (some .int) 1 := ⟨q_776, q_777, q_1, q_778, by decide +kernel⟩
theorem ok_X5_safest : MokV yX5_safest cX5_safest 5 (some .int) 0 := ⟨q_785, q_786, q_1, q_787, by decide +kernel⟩
theorem ok_X5_mended : MokV yX5_mended cX5_mended 2 (some .int) 1 := ⟨q_789, q_790, q_1, q_791, by decide +kernel⟩
theorem ok_X5_left : MokV yX5_left cX5_left 3 (some .int) 1 := ⟨q_815, q_816, q_1, q_817, by decide +kernel⟩
theorem ok_X5_idle : MokV yX5_idle cX5_idle 2 (some .int) 1 := ⟨q_820, q_821, q_1, q_822, by decide +kernel⟩
theorem ok_X5_together : MokV yX5_together cX5_together 3 (some .int) 2 := ⟨q_825, q_826, q_1, q_827, by decide +kernel⟩
theorem ok_X5_pair : MokV yX5_pair cX5_pair 1 (some .int) 0 := ⟨q_833, q_834, q_1, q_835, by decide +kernel⟩
theorem ok_X5_unlike : MokV yX5_unlike cX5_unlike 1 (some .int) 0 := ⟨q_843, q_844, q_1, q_845, by decide +kernel⟩
theorem ok_X5_alike : MokV yX5_alike cX5_alike 3 (some .int) 0 := ⟨q_855, q_856, q_1, q_857, by decide +kernel⟩
theorem ok_X5_over : MokV yX5_over cX5_over 2 (some .int) 1 := ⟨q_863, q_864, q_1, q_865, by decide +kernel⟩
theorem ok_X5_chain : MokV yX5_chain cX5_chain 1 (some .int) 0 := ⟨q_871, q_872, q_1, q_873, by decide +kernel⟩
theorem ok_X5_ward : MokV yX5_ward cX5_ward 2 (some .int) 1 := ⟨q_883, q_884, q_1, q_885, by decide +kernel⟩
theorem ok_X5_found : MokV yX5_found cX5_found 5 (some .int) 2 := ⟨q_892, q_893, q_1, q_894, by decide +kernel⟩
theorem ok_X5_many : MokV yX5_many cX5_many 2 (some .int) 1 := ⟨q_912, q_913, q_1, q_914, by decide +kernel⟩
theorem ok_X5_use : MokV yX5_use cX5_use 3 (some .int) 2 := ⟨q_920, q_921, q_1, q_922, by decide +kernel⟩
theorem ok_X5_days : MokV yX5_days cX5_days 4 (some .int) 1 := ⟨q_934, q_935, q_1, q_936, by decide +kernel⟩
theorem ok_X5_renew : MokV yX5_renew cX5_renew 4 (some .int) 1 := ⟨q_943, q_944, q_1, q_945, by decide +kernel⟩
theorem ok_X5_mend : MokV yX5_mend cX5_mend 2 (some .int) 0 := ⟨q_948, q_949, q_1, q_950, by decide +kernel⟩
theorem ok_X5_seed : MokV yX5_seed cX5_seed 3 (some .int) 1 := ⟨q_956, q_957, q_1, q_958, by decide +kernel⟩
theorem ok_X5_image : MokV yX5_image cX5_image 1 (some .int) 0 := ⟨q_960, q_961, q_1, q_962, by decide +kernel⟩
theorem ok_X5_back : MokV yX5_back cX5_back 2 (some .int) 0 := ⟨q_964, q_965, q_1, q_966, by decide +kernel⟩
theorem ok_X5_status : MokV yX5_status cX5_status 2 (some .int) 1 := ⟨q_972, q_973, q_1, q_974, by decide +kernel⟩
theorem ok_X5_refuse : MokV yX5_refuse cX5_refuse 3 (some .int) 1 := ⟨q_244, qp_1, q_1, q_245, by decide +kernel⟩
theorem ok_X5_isWithin : MokS yX5_isWithin cX5_isWithin 3 (some .boolean) 3 := ⟨q_240, q_1, q_241, by decide +kernel⟩
theorem ok_X5_at : MokS yX5_at cX5_at 2 (some .int) 2 := ⟨q_247, q_1, q_248, by decide +kernel⟩
theorem ok_X5_put : MokS yX5_put cX5_put 3 none 3 := ⟨q_250, q_1, q_251, by decide +kernel⟩
theorem ok_X5_hasBit : MokS yX5_hasBit cX5_hasBit 2 (some .boolean) 2 := ⟨q_653, q_1, q_654, by decide +kernel⟩
theorem ok_X5_firstBits : MokS yX5_firstBits cX5_firstBits 1 (some .int) 1 := ⟨q_376, q_1, q_377, by decide +kernel⟩
theorem ok_X5_isShelf : MokV yX5_isShelf cX5_isShelf 2 (some .boolean) 1 := ⟨q_237, qp_0, q_1, q_238, by decide +kernel⟩
theorem ok_X5_isKey : MokV yX5_isKey cX5_isKey 2 (some .boolean) 1 := ⟨q_323, qp_3, q_1, q_324, by decide +kernel⟩
theorem ok_X5_isLock : MokV yX5_isLock cX5_isLock 2 (some .boolean) 1 := ⟨q_455, qp_8, q_1, q_456, by decide +kernel⟩
theorem ok_X5_isPlace : MokV yX5_isPlace cX5_isPlace 2 (some .boolean) 1 := ⟨q_459, qp_9, q_1, q_460, by decide +kernel⟩
theorem ok_X5_isLocks : MokV yX5_isLocks cX5_isLocks 2 (some .boolean) 1 := ⟨q_710, qp_12, q_1, q_711, by decide +kernel⟩
theorem ok_X5_isKeys : MokV yX5_isKeys cX5_isKeys 2 (some .boolean) 1 := ⟨q_743, qp_13, q_1, q_744, by decide +kernel⟩
theorem ok_X5_shelfAt : MokV yX5_shelfAt cX5_shelfAt 2 (some (.object "CutDeeper$Shelf")) 1 := ⟨q_254, qp_2, q_1, q_255, by decide +kernel⟩
theorem ok_X5_shelvesInUse : MokV yX5_shelvesInUse cX5_shelvesInUse 3 (some .int) 0 := ⟨q_981, qp_15, q_1, q_982, by decide +kernel⟩
theorem ok_X5_saysAs : MokV yX5_saysAs cX5_saysAs 4 (some .int) 2 := ⟨q_339, qp_4, q_1, q_340, by decide +kernel⟩
theorem ok_X5_askPlaces : MokV yX5_askPlaces cX5_askPlaces 3 (some .int) 1 := ⟨q_403, qp_5, q_1, q_404, by decide +kernel⟩
theorem ok_X5_askDeep : MokV yX5_askDeep cX5_askDeep 3 (some .int) 1 := ⟨q_411, qp_6, q_1, q_412, by decide +kernel⟩
theorem ok_X5_askStrength : MokV yX5_askStrength cX5_askStrength 3 (some .int) 1 := ⟨q_415, qp_7, q_1, q_416, by decide +kernel⟩
theorem ok_X5_listTrouble : MokV yX5_listTrouble cX5_listTrouble 3 (some .int) 1 := ⟨q_693, qp_10, q_1, q_694, by decide +kernel⟩
theorem ok_X5_toldLocks : MokV yX5_toldLocks cX5_toldLocks 3 (some .int) 2 := ⟨q_697, qp_11, q_1, q_698, by decide +kernel⟩
theorem ok_X5_tellsCuts : MokV yX5_tellsCuts cX5_tellsCuts 5 (some .boolean) 1 := ⟨q_897, qp_14, q_1, q_898, by decide +kernel⟩
theorem ok_X6_no : MokV yX6_no cX6_no 2 (some .int) 1 := ⟨q_1086, qp_16, q_7, q_1087, by decide +kernel⟩
theorem ok_X6_within : MokS yX6_within cX6_within 3 (some .boolean) 3 := ⟨q_1082, q_7, q_1083, by decide +kernel⟩
theorem ok_X6_has : MokS yX6_has cX6_has 2 (some .boolean) 2 := ⟨q_1200, q_7, q_1201, by decide +kernel⟩
theorem ok_X6_isKey : MokV yX6_isKey cX6_isKey 2 (some .boolean) 1 := ⟨q_1118, qp_19, q_7, q_1119, by decide +kernel⟩
theorem ok_X6_isLock : MokV yX6_isLock cX6_isLock 2 (some .boolean) 1 := ⟨q_1189, qp_30, q_7, q_1190, by decide +kernel⟩
theorem ok_X6_isPlace : MokV yX6_isPlace cX6_isPlace 2 (some .boolean) 1 := ⟨q_1193, qp_31, q_7, q_1194, by decide +kernel⟩
theorem ok_X6_isRow : MokV yX6_isRow cX6_isRow 2 (some .boolean) 1 := ⟨q_1102, qp_18, q_7, q_1103, by decide +kernel⟩
theorem ok_X6_row : MokV yX6_row cX6_row 5 (some .int) 3 := ⟨q_1078, q_1079, q_7, q_1080, by decide +kernel⟩
theorem ok_X6_noRow : MokV yX6_noRow cX6_noRow 2 (some .int) 1 := ⟨q_1094, qp_17, q_7, q_1095, by decide +kernel⟩
theorem ok_X6_set : MokV yX6_set cX6_set 8 (some .int) 3 := ⟨q_1089, q_1090, q_7, q_1091, by decide +kernel⟩
theorem ok_X6_copy : MokV yX6_copy cX6_copy 7 (some .int) 5 := ⟨q_1097, q_1098, q_7, q_1099, by decide +kernel⟩
theorem ok_X6_element : MokV yX6_element cX6_element 3 (some .long) 2 := ⟨q_1105, q_1106, q_7, q_1107, by decide +kernel⟩
theorem ok_X6_holds : MokV yX6_holds cX6_holds 2 (some .int) 1 := ⟨q_1109, q_1110, q_7, q_1111, by decide +kernel⟩
theorem ok_X6_show : MokV yX6_show cX6_show 3 (some .int) 2 := ⟨q_1113, q_1114, q_7, q_1115, by decide +kernel⟩
theorem ok_X6_isUnder : MokS yX6_isUnder cX6_isUnder 2 (some .boolean) 2 := ⟨q_1125, q_7, q_1126, by decide +kernel⟩
theorem ok_X6_says : MokV yX6_says cX6_says 7 (some .int) 2 := ⟨q_1121, q_1122, q_7, q_1123, by decide +kernel⟩
theorem ok_X6_ask : MokV yX6_ask cX6_ask 4 (some .int) 2 := ⟨q_1164, q_1165, q_7, q_1166, by decide +kernel⟩
theorem ok_X6_newKey : MokV yX6_newKey cX6_newKey 4 (some .int) 2 := ⟨q_1173, qp_28, q_7, q_1174, by decide +kernel⟩
theorem ok_X6_newLock : MokV yX6_newLock cX6_newLock 3 (some .int) 1 := ⟨q_1181, qp_29, q_7, q_1182, by decide +kernel⟩
theorem ok_X6_key : MokV yX6_key cX6_key 3 (some .int) 2 := ⟨q_1168, q_1169, q_7, q_1170, by decide +kernel⟩
theorem ok_X6_lock : MokV yX6_lock cX6_lock 2 (some .int) 1 := ⟨q_1176, q_1177, q_7, q_1178, by decide +kernel⟩
theorem ok_X6_asks : MokV yX6_asks cX6_asks 5 (some .int) 3 := ⟨q_1184, q_1185, q_7, q_1186, by decide +kernel⟩
theorem ok_X6_may : MokV yX6_may cX6_may 4 (some .int) 3 := ⟨q_1196, q_1197, q_7, q_1198, by decide +kernel⟩
theorem ok_X6_file : MokV yX6_file cX6_file 4 (some .int) 2 := ⟨q_1203, q_1204, q_7, q_1205, by decide +kernel⟩
theorem ok_X6_feed : MokV yX6_feed cX6_feed 2 (some .int) 1 := ⟨q_1207, q_1208, q_7, q_1209, by decide +kernel⟩
theorem ok_X6_wipe : MokV yX6_wipe cX6_wipe 2 (some .int) 0 := ⟨q_1211, q_1212, q_7, q_1213, by decide +kernel⟩
theorem ok_X6_isLetter : MokS yX6_isLetter cX6_isLetter 1 (some .boolean) 1 := ⟨q_1227, q_7, q_1228, by decide +kernel⟩
theorem ok_X6_isDigit : MokS yX6_isDigit cX6_isDigit 1 (some .boolean) 1 := ⟨q_1230, q_7, q_1231, by decide +kernel⟩
theorem ok_X6_next : MokV yX6_next cX6_next 2 none 0 := ⟨q_1224, qp_33, q_7, q_1225, by decide +kernel⟩
theorem ok_X6_isWord : MokV yX6_isWord cX6_isWord 3 (some .boolean) 1 := ⟨q_1239, qp_35, q_7, q_1240, by decide +kernel⟩
theorem ok_X6_number : MokV yX6_number cX6_number 3 (some .boolean) 2 := ⟨q_1245, qp_36, q_7, q_1246, by decide +kernel⟩
theorem ok_X6_statement : MokV yX6_statement cX6_statement 5 (some .boolean) 0 := ⟨q_1234, qp_34, q_7, q_1235, by decide +kernel⟩
theorem ok_X6_house : MokV yX6_house cX6_house 3 (some .int) 0 := ⟨q_1215, q_1216, q_7, q_1217, by decide +kernel⟩
theorem ok_X6_depth : MokV yX6_depth cX6_depth 4 (some .int) 2 := ⟨q_1145, qp_24, q_7, q_1146, by decide +kernel⟩
theorem ok_X6_gone : MokV yX6_gone cX6_gone 4 (some .int) 1 := ⟨q_1129, qp_20, q_7, q_1130, by decide +kernel⟩
theorem ok_X6_bears : MokV yX6_bears cX6_bears 2 (some .int) 1 := ⟨q_1156, qp_26, q_7, q_1157, by decide +kernel⟩
theorem ok_X6_broken : MokV yX6_broken cX6_broken 2 (some .boolean) 1 := ⟨q_1152, qp_25, q_7, q_1153, by decide +kernel⟩
theorem ok_X6_fits : MokV yX6_fits cX6_fits 4 (some .boolean) 2 := ⟨q_1141, qp_23, q_7, q_1142, by decide +kernel⟩
theorem ok_X6_opensSo : MokV yX6_opensSo cX6_opensSo 3 (some .boolean) 2 := ⟨q_1137, qp_22, q_7, q_1138, by decide +kernel⟩
theorem ok_X6_opensIt : MokV yX6_opensIt cX6_opensIt 4 (some .boolean) 2 := ⟨q_1133, qp_21, q_7, q_1134, by decide +kernel⟩
theorem ok_X6_openedBy : MokV yX6_openedBy cX6_openedBy 4 (some .int) 1 := ⟨q_1161, qp_27, q_7, q_1162, by decide +kernel⟩
theorem ok_X6_keyOf : MokV yX6_keyOf cX6_keyOf 3 (some .int) 2 := ⟨q_1260, q_1261, q_7, q_1262, by decide +kernel⟩
theorem ok_X6_lockOf : MokV yX6_lockOf cX6_lockOf 5 (some .int) 2 := ⟨q_1264, q_1265, q_7, q_1266, by decide +kernel⟩
theorem ok_X6_opens : MokV yX6_opens cX6_opens 4 (some .int) 3 := ⟨q_1268, q_1269, q_7, q_1270, by decide +kernel⟩
theorem ok_X6_opened : MokV yX6_opened cX6_opened 2 (some .int) 1 := ⟨q_1272, q_1273, q_7, q_1274, by decide +kernel⟩
theorem ok_X6_whoOpens : MokV yX6_whoOpens cX6_whoOpens 4 (some .int) 1 := ⟨q_1281, qp_38, q_7, q_1282, by decide +kernel⟩
theorem ok_X6_who : MokV yX6_who cX6_who 2 (some .int) 1 := ⟨q_1276, q_1277, q_7, q_1278, by decide +kernel⟩
theorem ok_X6_wrong : MokV yX6_wrong cX6_wrong 3 (some .int) 0 := ⟨q_1284, q_1285, q_7, q_1286, by decide +kernel⟩
theorem ok_X6_wrongs : MokV yX6_wrongs cX6_wrongs 3 (some .int) 0 := ⟨q_1288, q_1289, q_7, q_1290, by decide +kernel⟩
theorem ok_X6_noList : MokV yX6_noList cX6_noList 3 (some .int) 1 := ⟨q_1298, qp_39, q_7, q_1299, by decide +kernel⟩
theorem ok_X6_listed : MokV yX6_listed cX6_listed 3 (some .int) 2 := ⟨q_1302, qp_40, q_7, q_1303, by decide +kernel⟩
theorem ok_X6_judge : MokV yX6_judge cX6_judge 4 (some .int) 1 := ⟨q_1293, q_1294, q_7, q_1295, by decide +kernel⟩
theorem ok_X6_list : MokV yX6_list cX6_list 4 (some .int) 1 := ⟨q_1305, q_1306, q_7, q_1307, by decide +kernel⟩
theorem ok_X6_rows : MokV yX6_rows cX6_rows 3 (some .int) 0 := ⟨q_1314, qp_41, q_7, q_1315, by decide +kernel⟩
theorem ok_X6_of : MokV yX6_of cX6_of 4 (some .int) 2 := ⟨q_1326, qp_44, q_7, q_1327, by decide +kernel⟩
theorem ok_X6_sum : MokV yX6_sum cX6_sum 4 (some .int) 1 := ⟨q_1330, qp_45, q_7, q_1331, by decide +kernel⟩
theorem ok_X6_rowFits : MokV yX6_rowFits cX6_rowFits 4 (some .boolean) 2 := ⟨q_1322, qp_43, q_7, q_1323, by decide +kernel⟩
theorem ok_X6_fitsJust : MokV yX6_fitsJust cX6_fitsJust 4 (some .boolean) 2 := ⟨q_1318, qp_42, q_7, q_1319, by decide +kernel⟩
theorem ok_X6_cuts : MokV yX6_cuts cX6_cuts 5 (some .int) 2 := ⟨q_1309, q_1310, q_7, q_1311, by decide +kernel⟩
theorem ok_X6_many : MokV yX6_many cX6_many 4 (some .int) 1 := ⟨q_1333, q_1334, q_7, q_1335, by decide +kernel⟩
theorem ok_X6_asked : MokV yX6_asked cX6_asked 9 (some .int) 2 := ⟨q_1337, q_1338, q_7, q_1339, by decide +kernel⟩
theorem ok_X6_filing : MokV yX6_filing cX6_filing 8 (some .int) 2 := ⟨q_1350, qp_47, q_7, q_1351, by decide +kernel⟩
theorem ok_X6_least : MokV yX6_least cX6_least 8 (some .int) 2 := ⟨q_1346, qp_46, q_7, q_1347, by decide +kernel⟩
theorem ok_X6_toOpen : MokV yX6_toOpen cX6_toOpen 3 (some .int) 2 := ⟨q_1341, q_1342, q_7, q_1343, by decide +kernel⟩
theorem ok_X6_safeOf : MokV yX6_safeOf cX6_safeOf 4 (some .int) 1 := ⟨q_1358, qp_48, q_7, q_1359, by decide +kernel⟩
theorem ok_X6_safe : MokV yX6_safe cX6_safe 2 (some .int) 1 := ⟨q_1353, q_1354, q_7, q_1355, by decide +kernel⟩
theorem ok_X6_safest : MokV yX6_safest cX6_safest 5 (some .int) 0 := ⟨q_1361, q_1362, q_7, q_1363, by decide +kernel⟩
theorem ok_X6_mended : MokV yX6_mended cX6_mended 6 (some .int) 1 := ⟨q_1365, q_1366, q_7, q_1367, by decide +kernel⟩
theorem ok_X6_mend : MokV yX6_mend cX6_mend 5 (some .int) 0 := ⟨q_1369, q_1370, q_7, q_1371, by decide +kernel⟩
theorem ok_X6_left : MokV yX6_left cX6_left 2 (some .int) 1 := ⟨q_1373, q_1374, q_7, q_1375, by decide +kernel⟩
theorem ok_X6_idle : MokV yX6_idle cX6_idle 4 (some .int) 1 := ⟨q_1377, q_1378, q_7, q_1379, by decide +kernel⟩
theorem ok_X6_bothOpen : MokV yX6_bothOpen cX6_bothOpen 8 (some .int) 2 := ⟨q_1386, qp_49, q_7, q_1387, by decide +kernel⟩
theorem ok_X6_together : MokV yX6_together cX6_together 3 (some .int) 2 := ⟨q_1381, q_1382, q_7, q_1383, by decide +kernel⟩
theorem ok_X6_pair : MokV yX6_pair cX6_pair 6 (some .int) 0 := ⟨q_1389, q_1390, q_7, q_1391, by decide +kernel⟩
theorem ok_X6_unlike : MokV yX6_unlike cX6_unlike 3 (some .int) 0 := ⟨q_1393, q_1394, q_7, q_1395, by decide +kernel⟩
theorem ok_X6_alike : MokV yX6_alike cX6_alike 5 (some .int) 0 := ⟨q_1397, q_1398, q_7, q_1399, by decide +kernel⟩
theorem ok_X6_over : MokV yX6_over cX6_over 4 (some .int) 1 := ⟨q_1401, q_1402, q_7, q_1403, by decide +kernel⟩
theorem ok_X6_chain : MokV yX6_chain cX6_chain 6 (some .int) 0 := ⟨q_1405, q_1406, q_7, q_1407, by decide +kernel⟩
theorem ok_X6_pairs : MokV yX6_pairs cX6_pairs 3 (some .int) 0 := ⟨q_1414, qp_50, q_7, q_1415, by decide +kernel⟩
theorem ok_X6_ward : MokV yX6_ward cX6_ward 4 (some .int) 1 := ⟨q_1409, q_1410, q_7, q_1411, by decide +kernel⟩
theorem ok_X6_found : MokV yX6_found cX6_found 9 (some .int) 2 := ⟨q_1417, q_1418, q_7, q_1419, by decide +kernel⟩
theorem ok_X6_draw : MokV yX6_draw cX6_draw 2 (some .int) 1 := ⟨q_1430, qp_52, q_7, q_1431, by decide +kernel⟩
theorem ok_X6_wears : MokV yX6_wears cX6_wears 3 (some .int) 1 := ⟨q_1426, qp_51, q_7, q_1427, by decide +kernel⟩
theorem ok_X6_use : MokV yX6_use cX6_use 3 (some .int) 2 := ⟨q_1421, q_1422, q_7, q_1423, by decide +kernel⟩
theorem ok_X6_days : MokV yX6_days cX6_days 6 (some .int) 1 := ⟨q_1434, q_1435, q_7, q_1436, by decide +kernel⟩
theorem ok_X6_renew : MokV yX6_renew cX6_renew 4 (some .int) 1 := ⟨q_1438, q_1439, q_7, q_1440, by decide +kernel⟩
theorem ok_X6_seed : MokV yX6_seed cX6_seed 3 (some .int) 1 := ⟨q_1442, q_1443, q_7, q_1444, by decide +kernel⟩
theorem ok_X6_keep : MokV yX6_keep cX6_keep 3 none 1 := ⟨q_1220, qp_32, q_7, q_1221, by decide +kernel⟩
theorem ok_X6_again : MokV yX6_again cX6_again 3 none 1 := ⟨q_1257, qp_37, q_7, q_1258, by decide +kernel⟩
theorem ok_X6_image : MokV yX6_image cX6_image 1 (some .int) 0 := ⟨q_1446, q_1447, q_7, q_1448, by decide +kernel⟩
theorem ok_X6_back : MokV yX6_back cX6_back 2 (some .int) 0 := ⟨q_1450, q_1451, q_7, q_1452, by decide +kernel⟩
theorem ok_X6_status : MokV yX6_status cX6_status 4 (some .int) 1 := ⟨q_1454, q_1455, q_7, q_1456, by decide +kernel⟩
theorem ok_J6_bitCount_0f7a4 : MokS yJ6_bitCount_0f7a4 cJ6_bitCount_0f7a4 1 (some .int) 1 := ⟨q_386, q_10, q_387, by decide +kernel⟩
theorem ok_J7_fill_d0a16 : MokS yJ7_fill_d0a16 cJ7_fill_d0a16 5 none 2 := ⟨q_261, q_8, q_262, by decide +kernel⟩
theorem ok_J7_fill_53178 : MokS yJ7_fill_53178 cJ7_fill_53178 4 none 2 := ⟨q_430, q_8, q_431, by decide +kernel⟩
theorem ok_copy : Cond.native arraycopyName ∈ TB ∧ Cond.static arraycopyName ∈ TB ∧ Cond.initialized "java/lang/System" ∈ TB := ⟨q_304, q_303, q_9⟩
theorem ok_max : Cond.static Lib.Math.max.name ∈ TB ∧ Cond.initialized "java/lang/Math" ∈ TB ∧ Cond.code Lib.Math.max.name Lib.Math.max.code 2 (some .int) ∈ TB := ⟨q_768, q_11, q_769⟩
theorem ok_min : Cond.static Lib.Math.min.name ∈ TB ∧ Cond.initialized "java/lang/Math" ∈ TB ∧ Cond.code Lib.Math.min.name Lib.Math.min.code 2 (some .int) ∈ TB := ⟨q_1148, q_11, q_1149⟩
theorem nst_0 : (RX0, 42, yX1_init, RX5) ∈ nests := List.mem_of_getElem? (i := 0) rfl
theorem nst_1 : (RX5, 33, yX3_init, RX5) ∈ nests := List.mem_of_getElem? (i := 1) rfl
theorem nst_2 : (RX5, 44, yX2_init, RX5) ∈ nests := List.mem_of_getElem? (i := 2) rfl
theorem nst_3 : (RX2, 22, yX5_isWithin, RX5) ∈ nests := List.mem_of_getElem? (i := 3) rfl
theorem nst_4 : (RX0, 112, yX5_firstBits, RX5) ∈ nests := List.mem_of_getElem? (i := 4) rfl
theorem nst_5 : (RX0, 80, yX5_at, RX5) ∈ nests := List.mem_of_getElem? (i := 5) rfl
theorem nst_6 : (RX0, 84, yX5_put, RX5) ∈ nests := List.mem_of_getElem? (i := 6) rfl
theorem nst_7 : (RX3, 28, yX5_put, RX5) ∈ nests := List.mem_of_getElem? (i := 7) rfl
theorem nst_8 : (RX3, 39, yX5_at, RX5) ∈ nests := List.mem_of_getElem? (i := 8) rfl
theorem nst_9 : (RX3, 61, yX5_isWithin, RX5) ∈ nests := List.mem_of_getElem? (i := 9) rfl
theorem nst_10 : (RX0, 76, yX5_hasBit, RX5) ∈ nests := List.mem_of_getElem? (i := 10) rfl
theorem nst_11 : (RX4, 58, yX5_firstBits, RX5) ∈ nests := List.mem_of_getElem? (i := 11) rfl
theorem nst_12 : (RX4, 45, yX5_at, RX5) ∈ nests := List.mem_of_getElem? (i := 12) rfl
theorem nst_13 : (RX4, 73, yX5_put, RX5) ∈ nests := List.mem_of_getElem? (i := 13) rfl
theorem nst_14 : (RX4, 119, yX5_hasBit, RX5) ∈ nests := List.mem_of_getElem? (i := 14) rfl
theorem sr_0 : (RX3, 65, "places", 0) ∈ sRefs := List.mem_of_getElem? (i := 0) rfl
theorem sr_1 : (RX3, 70, "deep", 1) ∈ sRefs := List.mem_of_getElem? (i := 1) rfl
theorem sr_2 : (RX3, 75, "strength", 2) ∈ sRefs := List.mem_of_getElem? (i := 2) rfl
theorem sr_3 : (RX3, 83, "key", 3) ∈ sRefs := List.mem_of_getElem? (i := 3) rfl
theorem sr_4 : (RX3, 120, "cut", 4) ∈ sRefs := List.mem_of_getElem? (i := 4) rfl
theorem sr_5 : (RX3, 88, "lock", 5) ∈ sRefs := List.mem_of_getElem? (i := 5) rfl
theorem sr_6 : (RX3, 141, "asks", 6) ∈ sRefs := List.mem_of_getElem? (i := 6) rfl
theorem sr_7 : (RX3, 146, "ward", 7) ∈ sRefs := List.mem_of_getElem? (i := 7) rfl
theorem sr_8 : (RX3, 93, "may", 8) ∈ sRefs := List.mem_of_getElem? (i := 8) rfl
theorem sr_9 : (RX6, 166, "places", 0) ∈ sRefs := List.mem_of_getElem? (i := 9) rfl
theorem sr_10 : (RX6, 174, "deep", 1) ∈ sRefs := List.mem_of_getElem? (i := 10) rfl
theorem sr_11 : (RX6, 175, "strength", 2) ∈ sRefs := List.mem_of_getElem? (i := 11) rfl
theorem sr_12 : (RX6, 176, "key", 3) ∈ sRefs := List.mem_of_getElem? (i := 12) rfl
theorem sr_13 : (RX6, 178, "cut", 4) ∈ sRefs := List.mem_of_getElem? (i := 13) rfl
theorem sr_14 : (RX6, 179, "lock", 5) ∈ sRefs := List.mem_of_getElem? (i := 14) rfl
theorem sr_15 : (RX6, 181, "asks", 6) ∈ sRefs := List.mem_of_getElem? (i := 15) rfl
theorem sr_16 : (RX6, 183, "ward", 7) ∈ sRefs := List.mem_of_getElem? (i := 16) rfl
theorem sr_17 : (RX6, 184, "may", 8) ∈ sRefs := List.mem_of_getElem? (i := 17) rfl
