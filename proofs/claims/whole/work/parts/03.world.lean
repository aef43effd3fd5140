/-! THE WORLD: 110 objects by their ids; what changes in them is a state (ints by id and place, longs by id and place); references never change behind the constructors -/
def kTab : List Nat := [6, 8, 11, 4, 8, 5, 8, 8, 8, 8, 8, 12, 8, 8, 8, 8, 8, 8, 8, 8, 8, 3, 9, 3, 9, 3, 9, 3, 9, 3, 9, 3, 9, 3, 9, 3, 9, 3, 9, 1, 10, 8, 8, 2, 8, 2, 8, 2, 8, 2, 8, 2, 8, 2, 8, 2, 8, 1, 10, 8, 8, 2, 8, 2, 8, 2, 8, 2, 8, 2, 8, 2, 8, 2, 8, 1, 10, 8, 8, 2, 8, 2, 8, 2, 8, 2, 8, 2, 8, 2, 8, 2, 8, 7, 8, 8, 9, 8, 8, 8, 8, 8, 8, 8, 8, 8, 8, 8, 8, 8]
def nTab : List Nat := [0, 5, 8, 0, 250, 0, 5, 5, 5, 25, 6, 6, 5, 5, 5, 5, 5, 5, 6, 6, 21, 0, 40, 0, 40, 0, 40, 0, 40, 0, 40, 0, 40, 0, 40, 0, 40, 0, 40, 0, 6, 40, 25, 0, 5, 0, 5, 0, 5, 0, 5, 0, 5, 0, 5, 0, 5, 0, 6, 40, 25, 0, 5, 0, 5, 0, 5, 0, 5, 0, 5, 0, 5, 0, 5, 0, 6, 40, 25, 0, 5, 0, 5, 0, 5, 0, 5, 0, 5, 0, 5, 0, 5, 0, 8, 8, 320, 6, 6, 6, 30, 8, 40, 250, 7, 107, 107, 5, 5, 30]
def kd (a : Nat) : Nat := kTab.getD a 0
def ln (a : Nat) : Nat := nTab.getD a 0
theorem kd_lt {a k : Nat} (h : kd a = k + 1) : a < 110 := by
  by_cases q : a < 110
  · exact q
  · have e : kd a = 0 := by
      unfold kd
      rw [List.getD_eq_getElem?_getD, List.getElem?_eq_none (by show 110 ≤ a; omega)]
      rfl
    omega
/-- ints by id and place, longs by id and place -/
abbrev St : Type := (Nat → Nat → Int32) × (Nat → Nat → Int64)
/-- where the ids lie; the classes; the array classes; where the texts lie, and their bytes -/
abbrev Gm : Type := (Nat → Nat) × va_G × (Nat → ClassId) × (Nat → Nat) × (Nat → Nat)
def entK (G : Gm) (σ : St) (a k : Nat) : va_E :=
  match k with
  | 1 => .inr (0, [.int (σ.1 a 0), .int (σ.1 a 1), .int (σ.1 a 2), .int (σ.1 a 3), .int (σ.1 a 4), .int (σ.1 a 5), .int (σ.1 a 6), .int (σ.1 a 7), .ref (G.1 (a + 1)), .ref (G.1 (a + 16)), .ref (G.1 (a + 2)), .ref (G.1 (a + 3))])
  | 2 => .inr (1, [.int (σ.1 a 0), .int (σ.1 a 1), .int (σ.1 a 2), .ref (G.1 (a + 1))])
  | 3 => .inr (2, [.int (σ.1 a 0), .int (σ.1 a 1), .ref (G.1 (a + 1))])
  | 4 => .inr (3, [.ref (G.1 4), .int (σ.1 a 1), .int (σ.1 a 2), .int (σ.1 a 3), .int (σ.1 a 4)])
  | 5 => .inr (4, [.ref (G.1 39), .ref (G.1 6), .ref (G.1 7), .ref (G.1 8), .ref (G.1 9), .ref (G.1 10), .ref (G.1 11), .ref (G.1 18), .ref (G.1 19), .ref (G.1 20)])
  | 6 => .inr (5, [.ref (G.1 39), .ref (G.1 57), .ref (G.1 75), .ref (G.1 5), .ref (G.1 3), .ref (G.1 2), .ref (G.1 37), .ref (G.1 1), .int (σ.1 a 8)])
  | 7 => .inr (6, [.ref (G.1 94), .ref (G.1 95), .ref (G.1 96), .int (σ.1 a 3), .int (σ.1 a 4), .int (σ.1 a 5), .int (σ.1 a 6), .ref (G.1 97), .ref (G.1 98), .ref (G.1 99), .ref (G.1 100), .int (σ.1 a 11), .ref (G.1 101), .ref (G.1 102), .int (σ.1 a 14), .int (σ.1 a 15), .int (σ.1 a 16), .ref (G.1 103), .int (σ.1 a 18), .int (σ.1 a 19), .int (σ.1 a 20), .int (σ.1 a 21), .ref (G.1 104), .int (σ.1 a 23), .ref (G.1 105), .ref (G.1 106), .ref (G.1 107), .ref (G.1 108), .ref (G.1 109)])
  | 8 => .inl (G.2.2.1 0, (ln a, .inl (σ.1 a)))
  | 9 => .inl (G.2.2.1 1, (ln a, .inr (.inl (σ.2 a))))
  | 10 => .inl (G.2.2.1 2, (ln a, .inr (.inr (.inr (.inr (fun j => some (G.1 (a + 3 + 2 * j))))))))
  | 11 => .inl (G.2.2.1 3, (ln a, .inr (.inr (.inr (.inr (fun j => some (G.1 (21 + 2 * j))))))))
  | 12 => .inl (G.2.2.1 4, (ln a, .inr (.inr (.inr (.inr (fun j => some (G.1 (12 + j))))))))
  | _ => .inl (G.2.2.1 0, (0, .inl (fun _ => 0)))
def ent (G : Gm) (σ : St) (a : Nat) : va_E := entK G σ a (kd a)
theorem ent_k {G : Gm} {σ : St} {a k : Nat} (h : kd a = k) : ent G σ a = entK G σ a k := by unfold ent; rw [h]
theorem entK_congr {G : Gm} {σ σ' : St} {a : Nat} (h1 : σ.1 a = σ'.1 a) (h2 : σ.2 a = σ'.2 a) (k : Nat) : entK G σ a k = entK G σ' a k := by
  unfold entK
  rw [h1, h2]
theorem ent_congr {G : Gm} {σ σ' : St} {a : Nat} (h1 : σ.1 a = σ'.1 a) (h2 : σ.2 a = σ'.2 a) : ent G σ a = ent G σ' a := entK_congr h1 h2 _
def wsOf (G : Gm) (σ : St) : va_W := (List.range 110).map fun a => (G.1 a, ent G σ a)
theorem wsOf_get {G : Gm} {σ : St} {a : Nat} (h : a < 110) : (wsOf G σ)[a]? = some (G.1 a, ent G σ a) := by
  unfold wsOf
  rw [List.getElem?_map, List.getElem?_range h]
  rfl
theorem wsOf_some {G : Gm} {σ : St} {a : Nat} {q : Nat × va_E} (h : (wsOf G σ)[a]? = some q) : a < 110 ∧ q = (G.1 a, ent G σ a) := by
  by_cases hl : a < 110
  · rw [wsOf_get hl] at h
    exact ⟨hl, (Option.some.inj h).symm⟩
  · unfold wsOf at h
    rw [List.getElem?_map, List.getElem?_eq_none (by rw [List.length_range]; omega)] at h
    cases h
theorem wsOf_set {G : Gm} {σ σ' : St} {a : Nat} {e : va_E} (h : a < 110) (he : ent G σ' a = e) (ho : ∀ b, b ≠ a → ent G σ' b = ent G σ b) : (wsOf G σ).set a (G.1 a, e) = wsOf G σ' := by
  apply List.ext_getElem?
  intro i
  by_cases hi : i = a
  · subst hi
    rw [List.getElem?_set_self (by unfold wsOf; rw [List.length_map, List.length_range]; exact h), wsOf_get h, he]
  · rw [List.getElem?_set_ne (Ne.symm hi)]
    by_cases hl : i < 110
    · rw [wsOf_get hl, wsOf_get hl, ho i hi]
    · unfold wsOf
      rw [List.getElem?_map, List.getElem?_map, List.getElem?_eq_none (by rw [List.length_range]; omega)]
      rfl
def dom (G : Gm) : Nat → Prop := fun q => ∃ a, a < 110 ∧ q = G.1 a
def gInj (G : Gm) : Prop := ∀ i j, i < 110 → j < 110 → G.1 i = G.1 j → i = j
theorem gD {G : Gm} (h : gInj G) (σ : St) : va_D (dom G) (wsOf G σ) := by
  refine ⟨fun i j p q hi hj e => ?_, fun k q hk => ?_⟩
  · obtain ⟨h1, rfl⟩ := wsOf_some hi
    obtain ⟨h2, rfl⟩ := wsOf_some hj
    exact h i j h1 h2 e
  · obtain ⟨h1, rfl⟩ := wsOf_some hk
    exact ⟨k, h1, rfl⟩
theorem gA {G : Gm} {σ : St} {n q : Nat} (h : va_A (wsOf G σ) n q) : dom G q ∨ n ≤ q := by
  rcases h with ⟨k, e, h⟩ | h
  · obtain ⟨h1, h2⟩ := wsOf_some h
    exact Or.inl ⟨k, h1, congrArg Prod.fst h2⟩
  · exact Or.inr h
def tysOf (G : Gm) : List (ClassId × FieldType) := [(G.2.2.1 0, .int), (G.2.2.1 1, .long), (G.2.2.1 2, .object "CutDeeper$Key"), (G.2.2.1 3, .object "CutDeeper$Shelf"), (G.2.2.1 4, .array .int)]
/-! the state's stores -/
def setI (σ : St) (a k : Nat) (v : Int32) : St := (fun b => if b = a then upd (σ.1 b) k v else σ.1 b, σ.2)
def setJ (σ : St) (a k : Nat) (v : Int64) : St := (σ.1, fun b => if b = a then vp_updL (σ.2 b) k v else σ.2 b)
def setA (σ : St) (a : Nat) (f : Nat → Int32) : St := (fun b => if b = a then f else σ.1 b, σ.2)
def setAJ (σ : St) (a : Nat) (f : Nat → Int64) : St := (σ.1, fun b => if b = a then f else σ.2 b)
theorem setI_o {G : Gm} {σ : St} {a k b : Nat} {v : Int32} (h : b ≠ a) : ent G (setI σ a k v) b = ent G σ b := ent_congr (if_neg h) rfl
theorem setJ_o {G : Gm} {σ : St} {a k b : Nat} {v : Int64} (h : b ≠ a) : ent G (setJ σ a k v) b = ent G σ b := ent_congr rfl (if_neg h)
theorem setA_o {G : Gm} {σ : St} {a b : Nat} {f : Nat → Int32} (h : b ≠ a) : ent G (setA σ a f) b = ent G σ b := ent_congr (if_neg h) rfl
theorem setAJ_o {G : Gm} {σ : St} {a b : Nat} {f : Nat → Int64} (h : b ≠ a) : ent G (setAJ σ a f) b = ent G σ b := ent_congr rfl (if_neg h)
/-! texts: nine words, told by their places; both classes' own constants are the same objects -/
def sBytes : List (List Int32) := [[112, 108, 97, 99, 101, 115], [100, 101, 101, 112], [115, 116, 114, 101, 110, 103, 116, 104], [107, 101, 121], [99, 117, 116], [108, 111, 99, 107], [97, 115, 107, 115], [119, 97, 114, 100], [109, 97, 121]]
def sLen (i : Nat) : Nat := (sBytes.map List.length).getD i 0
def sCh (i k : Nat) : Int32 := (sBytes.getD i []).getD k 0
def sTxt : List String := ["places", "deep", "strength", "key", "cut", "lock", "asks", "ward", "may"]
def nests : List (String × Nat × MethodName × String) := [(RX0, 42, yX1_init, RX5), (RX5, 33, yX3_init, RX5), (RX5, 44, yX2_init, RX5), (RX2, 22, yX5_isWithin, RX5), (RX0, 112, yX5_firstBits, RX5), (RX0, 80, yX5_at, RX5), (RX0, 84, yX5_put, RX5), (RX3, 28, yX5_put, RX5), (RX3, 39, yX5_at, RX5), (RX3, 61, yX5_isWithin, RX5), (RX0, 76, yX5_hasBit, RX5), (RX4, 58, yX5_firstBits, RX5), (RX4, 45, yX5_at, RX5), (RX4, 73, yX5_put, RX5), (RX4, 119, yX5_hasBit, RX5)]
def sRefs : List (String × Nat × String × Nat) := [(RX3, 65, "places", 0), (RX3, 70, "deep", 1), (RX3, 75, "strength", 2), (RX3, 83, "key", 3), (RX3, 120, "cut", 4), (RX3, 88, "lock", 5), (RX3, 141, "asks", 6), (RX3, 146, "ward", 7), (RX3, 93, "may", 8), (RX6, 166, "places", 0), (RX6, 174, "deep", 1), (RX6, 175, "strength", 2), (RX6, 176, "key", 3), (RX6, 178, "cut", 4), (RX6, 179, "lock", 5), (RX6, 181, "asks", 6), (RX6, 183, "ward", 7), (RX6, 184, "may", 8)]
/-- what else of the machine stays as it is: the texts, two statics of the JDK's, the nest mates' links -/
def Sg (G : Gm) (U : State) (H : Heap) : Prop :=
  vk_S 9 (sBytes.map List.length) sBytes G.2.2.2.1 G.2.2.2.2 (dom G) U H ∧ va_Z "java/lang/String" "COMPACT_STRINGS" "Z" (.int 1) (dom G) U H ∧ va_Zq "jdk/internal/util/Preconditions" "SIOOBE_FORMATTER" "Ljava/util/function/BiFunction;" (dom G) U H ∧
  (∀ q ∈ sRefs, vk_R q.1 q.2.1 q.2.2.1 (G.2.2.2.1 q.2.2.2) U) ∧ ∀ q ∈ nests, va_Nw (.methodLinkNest q.1 q.2.1 q.2.2.1 q.2.2.2) U
theorem Sg.go {G : Gm} {s U : State} {H H1 : Heap} (h : Sg G s H) (hW : s.WarmedH U.vm) (hk : ∀ a : Nat, a < H.size → ¬ dom G a → H1[a]? = H[a]?) : Sg G U H1 :=
  ⟨(h.1.kept hk).moved hW.alike, (h.2.1.kept hk).moved hW.alike, (h.2.2.1.kept hk).moved hW.alike, fun q hq => vk_R.warm hW (h.2.2.2.1 q hq), fun q hq => va_Nw.warmM hW (h.2.2.2.2 q hq)⟩
theorem Sg.blind {G : Gm} {U : State} {H : Heap} (g : JFrame) (mk : MethodId) (a : Array Value) (h : Sg G U H) : Sg G (U.calling g mk a) H :=
  ⟨h.1.moved (Vm.Alike.refl U.vm), h.2.1.moved (Vm.Alike.refl U.vm), h.2.2.1.moved (Vm.Alike.refl U.vm), fun q hq => vk_R.same rfl (h.2.2.2.1 q hq), fun q hq => va_Nw.same rfl rfl (h.2.2.2.2 q hq)⟩
/-- the whole world at a state, holding σ -/
def Wld (G : Gm) (σ : St) (U : State) : Prop := va_P G.2.1 vwCl (wsOf G σ) U.heap ∧ va_K G.2.1 vwCl (tysOf G) U ∧ gInj G ∧ Sg G U U.heap
/-- a method's end: what it answers, a fact of that, the state that it leaves, all else as it was -/
def Qx (G : Gm) (v : Option Value) (P : Prop) (σ' : St) : Array Value → State → Outcome → State → Prop := fun _ st oc t => (oc = .returned v ∧ P ∧ va_P G.2.1 vwCl (wsOf G σ') t.heap) ∧ va_F (dom G) st t
/-- THE CONTRACT: called with avs at a world that holds σ the method answers v and leaves σ' -/
def Ctr (G : Gm) (l : Launch) (y : MethodName) (cc : ByteArray) (nL : Nat) (ret : Option FieldType) (fr lo : Nat) (avs : List Value) (σ : St) (v : Option Value) (P : Prop) (σ' : St) : Prop :=
  Met l y (Cond.code y cc nL ret :: TB) { frames := fr, cells := 0, slots := 0, locals := lo } (va_Pc avs (Wld G σ)) (Qx G v P σ') 0 0 (dom G)
theorem Wld.blind {G : Gm} {σ : St} {avs : List Value} : FrameBlind (va_Pc avs (Wld G σ)) := fun a U g mk q => by
  obtain ⟨q0, q1, q2, q3, q4⟩ := q
  exact ⟨q0, q1, va_K.moved (u := U) (U := U.calling g mk a) (Vm.Alike.refl U.vm) q2, q3, q4.blind g mk a⟩
/-! a walk's own setting, in one tuple -/
abbrev CX : Type := Gm × Program × Launch × Env × Room × State × MethodId × Array Value × List Frame × Method × Code × Nat × Nat × Nat × (State → Prop)
abbrev xG (X : CX) : Gm := X.1
abbrev xp (X : CX) : Program := X.2.1
abbrev xl (X : CX) : Launch := X.2.2.1
abbrev xe (X : CX) : Env := X.2.2.2.1
abbrev xR (X : CX) : Room := X.2.2.2.2.1
abbrev xs (X : CX) : State := X.2.2.2.2.2.1
abbrev xm (X : CX) : MethodId := X.2.2.2.2.2.2.1
abbrev xa (X : CX) : Array Value := X.2.2.2.2.2.2.2.1
abbrev xb (X : CX) : List Frame := X.2.2.2.2.2.2.2.2.1
abbrev xM (X : CX) : Method := X.2.2.2.2.2.2.2.2.2.1
abbrev xc (X : CX) : Code := X.2.2.2.2.2.2.2.2.2.2.1
abbrev xn (X : CX) : Nat := X.2.2.2.2.2.2.2.2.2.2.2.1
abbrev xk (X : CX) : Nat := X.2.2.2.2.2.2.2.2.2.2.2.2.1
abbrev xo (X : CX) : Nat := X.2.2.2.2.2.2.2.2.2.2.2.2.2.1
abbrev xQ (X : CX) : State → Prop := X.2.2.2.2.2.2.2.2.2.2.2.2.2.2
/-- the judgement: from the frame at pc with these locals and stack, in a world that holds σ, the walk comes to its end -/
def V (X : CX) (σ : St) (pc : Nat) (lv : List (Nat × Value)) (st : List Value) : Prop := ∀ (H : Heap) (locs : List Loc) (ls : Array Slot), va_P (xG X).2.1 vwCl (wsOf (xG X) σ) H → va_S (dom (xG X)) (xs X).heap H locs → lv_has ls (xn X) lv →
  W (xp X) (xl X) (xe X) (xR X) (xs X) (xm X) (xa X) (xb X) (xM X) (xc X) H locs (xk X) (xo X) (xQ X) (F0 (xm X) pc ls st)
/-- what a walk may use -/
def Cok (X : CX) (own : String) (cc : ByteArray) (nL fr lo : Nat) : Prop :=
  (xp X).tables.exec = Jvm.exec ∧ (xc X).code = cc ∧ (xc X).maxLocals = nL ∧ xn X = nL ∧ (xs X).vm.findClass own = some (xm X).cls ∧ (∀ w ∈ TB, w.before (xa X) (xs X) = true) ∧ va_K (xG X).2.1 vwCl (tysOf (xG X)) (xs X) ∧ gInj (xG X) ∧ Sg (xG X) (xs X) (xs X).heap ∧
  (xR X).frames = fr ∧ (xR X).locals = lo ∧ xk X ≤ (xR X).cells ∧ xo X ≤ (xR X).slots
/-- the walk's end by an int's return with r in a world of σ'; by a boolean's, and so on -/
def RtI (X : CX) (cc : ByteArray) (r : Int32) (σ' : St) : Prop := ∀ (pc : Nat) (lv : List (Nat × Value)), decode cc pc = .ok (.ireturn, 1) → V X σ' pc lv [.int r]
def RtZ (X : CX) (cc : ByteArray) (r : Int32) (σ' : St) : Prop := ∀ (pc : Nat) (lv : List (Nat × Value)), decode cc pc = .ok (.ireturn, 1) → (r = 0 ∨ r = 1) → V X σ' pc lv [.int r]
def RtJ (X : CX) (cc : ByteArray) (r : Int64) (σ' : St) : Prop := ∀ (pc : Nat) (lv : List (Nat × Value)), decode cc pc = .ok (.lreturn, 1) → V X σ' pc lv [.long r]
def RtA (X : CX) (cc : ByteArray) (k : Nat) (r : Nat) (σ' : St) : Prop := ∀ (pc : Nat) (lv : List (Nat × Value)), decode cc pc = .ok (.areturn, 1) → kd r = k → V X σ' pc lv [.ref ((xG X).1 r)]
def RtV (X : CX) (cc : ByteArray) (σ' : St) : Prop := ∀ (pc : Nat) (lv : List (Nat × Value)), decode cc pc = .ok (.return_, 1) → V X σ' pc lv []
