/-! THE CONSTRUCTORS: a walk over an explicit world -/
def va_AOA (t : FieldType) (U : State) : Prop := (Cond.arrayOver (.array t)).before #[] U = true
theorem va_AOA.use {t : FieldType} {A : Array Value} {U : State} (h : va_AOA t U) : (Cond.arrayOver (.array t)).before A U = true := h
def U (X : CX) (A : Nat → Prop) (ws : va_W) (kc ks : Nat) (pc : Nat) (lv : List (Nat × Value)) (st : List Value) : Prop := ∀ (H : Heap) (locs : List Loc) (ls : Array Slot), va_P (xG X).2.1 vwCl ws H → va_D A ws → va_S A (xs X).heap H locs → lv_has ls (xn X) lv →
  W (xp X) (xl X) (xe X) (xR X) (xs X) (xm X) (xa X) (xb X) (xM X) (xc X) H locs kc ks (xQ X) (F0 (xm X) pc ls st)
def Ns (U : State) : Prop := (∀ q ∈ nests, va_Nw (.methodLinkNest q.1 q.2.1 q.2.2.1 q.2.2.2) U) ∧ va_AO "CutDeeper$Key" U ∧ va_AO "CutDeeper$Shelf" U ∧ va_AOA .int U
theorem Ns.warm {s U : State} (h : Ns s) (hW : s.WarmedH U.vm) : Ns U := ⟨fun q hq => va_Nw.warmM hW (h.1 q hq), h.2.1.moved hW.alike, h.2.2.1.moved hW.alike, over_moved (a := #[]) (a' := #[]) hW.alike h.2.2.2⟩
theorem Ns.blind {U : State} (g : JFrame) (mk : MethodId) (a : Array Value) (h : Ns U) : Ns (U.calling g mk a) := ⟨fun q hq => va_Nw.same rfl rfl (h.1 q hq), h.2.1.moved (Vm.Alike.refl U.vm), h.2.2.1.moved (Vm.Alike.refl U.vm), over_moved (a := #[]) (a' := #[]) (Vm.Alike.refl U.vm) h.2.2.2⟩
def Cok0 (X : CX) (own : String) (cc : ByteArray) (nL fr lo mc ms : Nat) (A : Nat → Prop) : Prop :=
  (xp X).tables.exec = Jvm.exec ∧ (xc X).code = cc ∧ (xc X).maxLocals = nL ∧ xn X = nL ∧ (xs X).vm.findClass own = some (xm X).cls ∧ (∀ w ∈ TB, w.before (xa X) (xs X) = true) ∧ va_K (xG X).2.1 vwCl (tysOf (xG X)) (xs X) ∧ Ns (xs X) ∧ (∀ q, (xs X).heap.size ≤ q → A q) ∧
  (xR X).frames = fr ∧ (xR X).locals = lo ∧ (xR X).cells = mc ∧ (xR X).slots = ms
theorem u_iconst {X : CX} {own : String} {cc : ByteArray} {nL fr lo mc ms : Nat} {A : Nat → Prop} {ws : va_W} {kc ks : Nat} {pc q : Nat} {lv : List (Nat × Value)} {st : List Value} (C : Cok0 X own cc nL fr lo mc ms A) {n : Int} {v : Int32} (d : decode cc pc = .ok (.iconst n, 1)) (hv : Int32.ofInt n = v) (hq : pc + 1 = q) (k : U X A ws kc ks q lv (.int v :: st)) : U X A ws kc ks pc lv (st) := by
  subst hq
  exact fun H locs ls hP hD hS hl => lv_iconst C.1 C.2.1 d hv (k H locs ls hP hD hS hl)
theorem u_bipush {X : CX} {own : String} {cc : ByteArray} {nL fr lo mc ms : Nat} {A : Nat → Prop} {ws : va_W} {kc ks : Nat} {pc q : Nat} {lv : List (Nat × Value)} {st : List Value} (C : Cok0 X own cc nL fr lo mc ms A) {n : Int} {v : Int32} (d : decode cc pc = .ok (.bipush n, 2)) (hv : (Int8.ofInt n).toInt32 = v) (hq : pc + 2 = q) (k : U X A ws kc ks q lv (.int v :: st)) : U X A ws kc ks pc lv (st) := by
  subst hq
  exact fun H locs ls hP hD hS hl => lv_bipush C.1 C.2.1 d hv (k H locs ls hP hD hS hl)
theorem u_sipush {X : CX} {own : String} {cc : ByteArray} {nL fr lo mc ms : Nat} {A : Nat → Prop} {ws : va_W} {kc ks : Nat} {pc q : Nat} {lv : List (Nat × Value)} {st : List Value} (C : Cok0 X own cc nL fr lo mc ms A) {n : Int} {v : Int32} (d : decode cc pc = .ok (.sipush n, 3)) (hv : (Int16.ofInt n).toInt32 = v) (hq : pc + 3 = q) (k : U X A ws kc ks q lv (.int v :: st)) : U X A ws kc ks pc lv (st) := by
  subst hq
  exact fun H locs ls hP hD hS hl => lv_sipush C.1 C.2.1 d hv (k H locs ls hP hD hS hl)
theorem u_dup {X : CX} {own : String} {cc : ByteArray} {nL fr lo mc ms : Nat} {A : Nat → Prop} {ws : va_W} {kc ks : Nat} {pc q : Nat} {lv : List (Nat × Value)} {st : List Value} (C : Cok0 X own cc nL fr lo mc ms A) {a : Value} (d : decode cc pc = .ok (.dup, 1)) (ha : a.category = 1) (hq : pc + 1 = q) (k : U X A ws kc ks q lv (a :: a :: st)) : U X A ws kc ks pc lv (a :: st) := by
  subst hq
  exact fun H locs ls hP hD hS hl => lv_dup C.1 C.2.1 d ha (k H locs ls hP hD hS hl)
theorem u_iload_n {X : CX} {own : String} {cc : ByteArray} {nL fr lo mc ms : Nat} {A : Nat → Prop} {ws : va_W} {kc ks : Nat} {pc q : Nat} {lv : List (Nat × Value)} {st : List Value} (C : Cok0 X own cc nL fr lo mc ms A) {n : Fin 4} {x : Int32} (j : Nat) (d : decode cc pc = .ok (.iload_n n, 1)) (hk : lv[j]? = some ((n : Nat), .int x)) (hq : pc + 1 = q) (k : U X A ws kc ks q lv (.int x :: st)) : U X A ws kc ks pc lv st := by
  subst hq
  exact fun H locs ls hP hD hS hl => lv_iload_n C.1 C.2.1 d rfl (lv_at hl j hk) (k H locs ls hP hD hS hl)
theorem u_istore_n {X : CX} {own : String} {cc : ByteArray} {nL fr lo mc ms : Nat} {A : Nat → Prop} {ws : va_W} {kc ks : Nat} {pc q : Nat} {lv : List (Nat × Value)} {st : List Value} (C : Cok0 X own cc nL fr lo mc ms A) {n : Fin 4} {i : Nat} {x : Int32} {lv' : List (Nat × Value)} (d : decode cc pc = .ok (.istore_n n, 1)) (hi : (n : Nat) = i) (hn : i < nL) (hl : (i, .int x) :: lv.filter (fun q => !(q.1 == i) && !(q.1 + 1 == i && q.2.category == 2)) = lv') (hq : pc + 1 = q) (k : U X A ws kc ks q lv' st) : U X A ws kc ks pc lv (.int x :: st) := by
  subst hq
  exact fun H locs ls hP hD hS h => lv_istore_n C.1 C.2.1 d hi h (by rw [C.2.2.2.1]; exact hn) hl (fun ls' h' => k H locs ls' hP hD hS h')
theorem u_aload_n {X : CX} {own : String} {cc : ByteArray} {nL fr lo mc ms : Nat} {A : Nat → Prop} {ws : va_W} {kc ks : Nat} {pc q : Nat} {lv : List (Nat × Value)} {st : List Value} (C : Cok0 X own cc nL fr lo mc ms A) {n : Fin 4} {x : Nat} (j : Nat) (d : decode cc pc = .ok (.aload_n n, 1)) (hk : lv[j]? = some ((n : Nat), .ref x)) (hq : pc + 1 = q) (k : U X A ws kc ks q lv (.ref x :: st)) : U X A ws kc ks pc lv st := by
  subst hq
  exact fun H locs ls hP hD hS hl => lv_aload_n C.1 C.2.1 d rfl (lv_at hl j hk) (k H locs ls hP hD hS hl)
theorem u_astore_n {X : CX} {own : String} {cc : ByteArray} {nL fr lo mc ms : Nat} {A : Nat → Prop} {ws : va_W} {kc ks : Nat} {pc q : Nat} {lv : List (Nat × Value)} {st : List Value} (C : Cok0 X own cc nL fr lo mc ms A) {n : Fin 4} {i : Nat} {x : Nat} {lv' : List (Nat × Value)} (d : decode cc pc = .ok (.astore_n n, 1)) (hi : (n : Nat) = i) (hn : i < nL) (hl : (i, .ref x) :: lv.filter (fun q => !(q.1 == i) && !(q.1 + 1 == i && q.2.category == 2)) = lv') (hq : pc + 1 = q) (k : U X A ws kc ks q lv' st) : U X A ws kc ks pc lv (.ref x :: st) := by
  subst hq
  exact fun H locs ls hP hD hS h => lv_astore_n C.1 C.2.1 d hi h (by rw [C.2.2.2.1]; exact hn) hl (fun ls' h' => k H locs ls' hP hD hS h')
theorem u_iinc {X : CX} {own : String} {cc : ByteArray} {nL fr lo mc ms : Nat} {A : Nat → Prop} {ws : va_W} {kc ks : Nat} {pc q : Nat} {lv : List (Nat × Value)} {st : List Value} (C : Cok0 X own cc nL fr lo mc ms A) {i : Nat} {n : Int} {x v : Int32} {lv' : List (Nat × Value)} (j : Nat) (d : decode cc pc = .ok (.iinc i n, 3)) (hk : lv[j]? = some (i, .int x)) (hv : x + Int32.ofInt n = v) (hn : i < nL) (hl : (i, Value.int v) :: lv.filter (fun q => !(q.1 == i) && !(q.1 + 1 == i && q.2.category == 2)) = lv') (hq : pc + 3 = q) (k : U X A ws kc ks q lv' st) : U X A ws kc ks pc lv st := by
  subst hq
  exact fun H locs ls hP hD hS h => lv_iinc C.1 C.2.1 d h hk hv (by rw [C.2.2.2.1]; exact hn) hl (fun ls' h' => k H locs ls' hP hD hS h')
theorem u_icmp_ge {X : CX} {own : String} {cc : ByteArray} {nL fr lo mc ms : Nat} {A : Nat → Prop} {ws : va_W} {kc ks : Nat} {pc q : Nat} {lv : List (Nat × Value)} {st : List Value} (C : Cok0 X own cc nL fr lo mc ms A) {x y : Int32} {off : Int} {tgt : Nat} (d : decode cc pc = .ok (.if_icmp .ge off, 3)) (ht : (pc : Int) + off = (tgt : Int)) (hq : pc + 3 = q) (kt : y ≤ x → U X A ws kc ks tgt lv st) (kf : ¬ y ≤ x → U X A ws kc ks q lv st) : U X A ws kc ks pc lv (.int y :: .int x :: st) := by
  subst hq
  exact fun H locs ls hP hD hS hl => lv_icmp_ge C.1 C.2.1 d ht (fun c9 => kt c9 H locs ls hP hD hS hl) (fun c9 => kf c9 H locs ls hP hD hS hl)
theorem u_goto {X : CX} {own : String} {cc : ByteArray} {nL fr lo mc ms : Nat} {A : Nat → Prop} {ws : va_W} {kc ks : Nat} {pc : Nat} {lv : List (Nat × Value)} {st : List Value} (C : Cok0 X own cc nL fr lo mc ms A) {off : Int} {tgt : Nat} (d : decode cc pc = .ok (.goto off, 3)) (ht : (pc : Int) + off = (tgt : Int)) (k : U X A ws kc ks tgt lv st) : U X A ws kc ks pc lv st :=
  fun H locs ls hP hD hS hl => lv_goto C.1 C.2.1 d ht (k H locs ls hP hD hS hl)
section HC
variable {X : CX} {own : String} {cc : ByteArray} {nL fr lo mc ms : Nat} {A : Nat → Prop} {ws ws' : va_W} {kc ks : Nat} {pc q : Nat} {lv : List (Nat × Value)} {st : List Value}
theorem u_objInit (C : Cok0 X own cc nL fr lo mc ms A) {a idx : Nat} (hl0 : Cond.methodLink own idx objectInit ∈ TB) (hw : Cond.instanceMethod objectInit ∈ TB ∧ Cond.code objectInit ⟨#[0xb1]⟩ 1 none ∈ TB) (d : decode cc pc = .ok (.invokespecial idx, 3)) (hR : 1 ≤ fr ∧ (st.map fun v => v.category).sum + 12 ≤ lo) (hq : pc + 3 = q) (k : U X A ws kc ks q lv st) : U X A ws kc ks pc lv (.ref a :: st) := by
  subst hq
  have hw1 := C.2.2.2.2.2.1
  have hfr := C.2.2.2.2.2.2.2.2.2.1
  have hlo := C.2.2.2.2.2.2.2.2.2.2.1
  exact fun H locs ls hP hD hS hl => W.objInit C.1 C.2.1 C.2.2.2.2.1 (hw1 _ hl0) (hw1 _ hw.1) (hw1 _ hw.2) rfl (by rw [C.2.2.1, ← C.2.2.2.1]; exact hl.1) rfl d (by rw [hfr]; exact hR.1) (by show 2 * 0 + _ + 12 ≤ _; rw [hlo]; omega) (W.eq (g2 := F0 (xm X) (pc + 3) ls st) rfl (k H locs ls hP hD hS hl))
theorem u_get (C : Cok0 X own cc nL fr lo mc ms A) (q0 : Nat) {ci fk N a idx : Nat} {Cn : String} {T : u_T} {fs : List Value} {v : Value} (he : ws[q0]? = some (a, .inr (ci, fs))) (hc : vwCl[ci]? = some (Cn, T, N)) (hin : ∀ w ∈ u_ws Cn T N, w ∈ TB) (hself : (T fk).1 = Cn) (hk : fk < N) (hv : fs[fk]? = some v) (hw : Cond.fieldLink own idx Cn (T fk).2.1 (T fk).2.2.1 ∈ TB) (d : decode cc pc = .ok (.getfield idx, 3)) (hq : pc + 3 = q) (k : U X A ws kc ks q lv (v :: st)) : U X A ws kc ks pc lv (.ref a :: st) := by
  subst hq
  have hw1 := C.2.2.2.2.2.1
  exact fun H locs ls hP hD hS hl => va_get (ref := Cn) (T := T) (ci := ci) C.1 C.2.1 hw1 hin C.2.2.2.2.1 C.2.2.2.2.2.2.1 hP q0 he hc fk hk (hw1 _ hw) (by rw [hself]; exact fun _ h => h) hv d (k H locs ls hP hD hS hl)
theorem u_put (C : Cok0 X own cc nL fr lo mc ms A) (q0 : Nat) {ci fk N a idx : Nat} {Cn : String} {T : u_T} {ty0 : Nat → FieldType} {fs : List Value} {v : Value} (he : ws[q0]? = some (a, .inr (ci, fs))) (hc : vwCl[ci]? = some (Cn, T, N)) (hin : ∀ w ∈ u_ws Cn T N, w ∈ TB) (hty : ∀ k, k < N → parseFieldDescriptor (T k).2.2.1 = some (ty0 k)) (hnm : ∀ a, a < N → ∀ b, b < N → a ≠ b → (T a).2.1 ≠ (T b).2.1) (hself : (T fk).1 = Cn) (hk : fk < N) (hfin : (T fk).2.2.2 = false) {ty : FieldType} (hd : parseFieldDescriptor (T fk).2.2.1 = some ty) (hn : narrow ty v = v) (hfit : fits ty v = true) (hlen : fk < fs.length) (hws : ws.set q0 (a, .inr (ci, fs.set fk v)) = ws') (hw : Cond.fieldLink own idx Cn (T fk).2.1 (T fk).2.2.1 ∈ TB) (d : decode cc pc = .ok (.putfield idx, 3)) (hq : pc + 3 = q) (k : U X A ws' kc ks q lv st) : U X A ws kc ks pc lv (v :: .ref a :: st) := by
  subst hq
  subst hws
  have hw1 := C.2.2.2.2.2.1
  exact fun H locs ls hP hD hS hl => va_put (ref := Cn) (T := T) (ci := ci) C.1 C.2.1 hw1 hin ty0 hty hnm C.2.2.2.2.1 C.2.2.2.2.2.2.1 hP hD hS q0 (fs := fs) he hc fk hk (hw1 _ hw) (by rw [hself]; exact fun _ h => h) hfin hd hn hfit hlen d (fun H1 locs1 hP1 hD1 hS1 => k H1 locs1 ls hP1 hD1 hS1 hl)
theorem u_putF (C : Cok0 X own cc nL fr lo mc ms A) (hin2 : (xM X).name = "<init>") (q0 : Nat) {ci fk N a idx : Nat} {T : u_T} {ty0 : Nat → FieldType} {fs : List Value} {v : Value} (he : ws[q0]? = some (a, .inr (ci, fs))) (hc : vwCl[ci]? = some (own, T, N)) (hin : ∀ w ∈ u_ws own T N, w ∈ TB) (hty : ∀ k, k < N → parseFieldDescriptor (T k).2.2.1 = some (ty0 k)) (hnm : ∀ a, a < N → ∀ b, b < N → a ≠ b → (T a).2.1 ≠ (T b).2.1) (hself : (T fk).1 = own) (hk : fk < N) (hfin : (T fk).2.2.2 = true) {ty : FieldType} (hd : parseFieldDescriptor (T fk).2.2.1 = some ty) (hn : narrow ty v = v) (hfit : fits ty v = true) (hlen : fk < fs.length) (hws : ws.set q0 (a, .inr (ci, fs.set fk v)) = ws') (hw : Cond.fieldLink own idx own (T fk).2.1 (T fk).2.2.1 ∈ TB) (d : decode cc pc = .ok (.putfield idx, 3)) (hq : pc + 3 = q) (k : U X A ws' kc ks q lv st) : U X A ws kc ks pc lv (v :: .ref a :: st) := by
  subst hq
  subst hws
  have hw1 := C.2.2.2.2.2.1
  exact fun H locs ls hP hD hS hl => va_putF (ref := own) (T := T) (ci := ci) C.1 C.2.1 hw1 hin ty0 hty hnm C.2.2.2.2.1 C.2.2.2.2.2.2.1 hP hD hS q0 (fs := fs) he hc fk hk (hw1 _ hw) (by rw [hself]; exact fun _ h => h) hfin hin2 hself hd hn hfit hlen d (fun H1 locs1 hP1 hD1 hS1 => k H1 locs1 ls hP1 hD1 hS1 hl)
theorem u_new (C : Cok0 X own cc nL fr lo mc ms A) {ci N idx : Nat} {Cn : String} {T : u_T} {ty0 : Nat → FieldType} {fs : List Value} (hc : vwCl[ci]? = some (Cn, T, N)) (hin : ∀ w ∈ u_ws Cn T N, w ∈ TB) (hty : ∀ k, k < N → parseFieldDescriptor (T k).2.2.1 = some (ty0 k)) (hcl : Cond.classLink own idx Cn ∈ TB) (hinst : Cond.instantiable Cn N ∈ TB) (hini : Cond.initialized Cn ∈ TB) (hfs : ∀ j, j < N → defaultValue (ty0 j) = vp_V fs j) (hkc : kc + 1 ≤ mc) (hks : ks + N ≤ ms) (d : decode cc pc = .ok (.new idx, 3)) (hq : pc + 3 = q) (k : ∀ r : Nat, U X A (ws ++ [(r, .inr (ci, fs))]) (kc + 1) (ks + N) q lv (.ref r :: st)) : U X A ws kc ks pc lv st := by
  subst hq
  have hw1 := C.2.2.2.2.2.1
  exact fun H locs ls hP hD hS hl => va_new (ci := ci) C.1 C.2.1 hw1 hin ty0 hty C.2.2.2.2.1 (hw1 _ hcl) (hw1 _ hinst) (hw1 _ hini) C.2.2.2.2.2.2.1 hP hD hS C.2.2.2.2.2.2.2.2.1 hc hfs (by rw [C.2.2.2.2.2.2.2.2.2.2.2.1]; exact hkc) (by rw [C.2.2.2.2.2.2.2.2.2.2.2.2]; exact hks) d (fun r H1 hP1 hD1 hS1 => k r H1 locs ls hP1 hD1 hS1 hl)
theorem u_newaI (C : Cok0 X own cc nL fr lo mc ms A) {n : Int32} (N : Nat) (harr : Cond.arrayClass .int ∈ TB) (hn : ¬ n < 0) (hN : n.toNatClampNeg = N) (hN2 : N * 4 ≤ 536870912) (hkc : kc + 1 ≤ mc) (hks : ks + N ≤ ms) (d : decode cc pc = .ok (.newarray .int, 2)) (hq : pc + 2 = q) (k : ∀ r : Nat, U X A (ws ++ [(r, .inl ((xG X).2.2.1 0, N, .inl (fun _ => 0)))]) (kc + 1) (ks + N) q lv (.ref r :: st)) : U X A ws kc ks pc lv (.int n :: st) := by
  subst hq
  have hw1 := C.2.2.2.2.2.1
  have hK := C.2.2.2.2.2.2.1
  refine fun H locs ls hP hD hS hl => va_newa (atype := .int) (ty := .int) (a0 := (N, .inl (fun _ => 0))) C.1 C.2.1 (hw1 _ harr) rfl hK hP hD hS C.2.2.2.2.2.2.2.2.1 (fun _ => rfl) hn hN hN2 (by rw [C.2.2.2.2.2.2.2.2.2.2.2.1]; exact hkc) (by rw [C.2.2.2.2.2.2.2.2.2.2.2.2]; exact hks) d (fun r cA H1 hK1 hP1 hD1 hS1 => ?_)
  have e : cA = (xG X).2.2.1 0 := by
    have h1 := (hK1.2 5 (cA, .int) rfl).2
    have h2 := (hK.2 0 ((xG X).2.2.1 0, .int) rfl).2
    exact Option.some.inj (h1.symm.trans h2)
  subst e
  exact k r H1 locs ls hP1 hD1 hS1 hl
theorem u_newaJ (C : Cok0 X own cc nL fr lo mc ms A) {n : Int32} (N : Nat) (harr : Cond.arrayClass .long ∈ TB) (hn : ¬ n < 0) (hN : n.toNatClampNeg = N) (hN2 : N * 8 ≤ 536870912) (hkc : kc + 1 ≤ mc) (hks : ks + N ≤ ms) (d : decode cc pc = .ok (.newarray .long, 2)) (hq : pc + 2 = q) (k : ∀ r : Nat, U X A (ws ++ [(r, .inl ((xG X).2.2.1 1, N, .inr (.inl (fun _ => 0))))]) (kc + 1) (ks + N) q lv (.ref r :: st)) : U X A ws kc ks pc lv (.int n :: st) := by
  subst hq
  have hw1 := C.2.2.2.2.2.1
  have hK := C.2.2.2.2.2.2.1
  refine fun H locs ls hP hD hS hl => va_newa (atype := .long) (ty := .long) (a0 := (N, .inr (.inl (fun _ => 0)))) C.1 C.2.1 (hw1 _ harr) rfl hK hP hD hS C.2.2.2.2.2.2.2.2.1 (fun _ => rfl) hn hN hN2 (by rw [C.2.2.2.2.2.2.2.2.2.2.2.1]; exact hkc) (by rw [C.2.2.2.2.2.2.2.2.2.2.2.2]; exact hks) d (fun r cA H1 hK1 hP1 hD1 hS1 => ?_)
  have e : cA = (xG X).2.2.1 1 := by
    have h1 := (hK1.2 5 (cA, .long) rfl).2
    have h2 := (hK.2 1 ((xG X).2.2.1 1, .long) rfl).2
    exact Option.some.inj (h1.symm.trans h2)
  subst e
  exact k r H1 locs ls hP1 hD1 hS1 hl
theorem ra_one {s : State} {c c' : ClassId} {t : String} (h1 : va_RA s c (.object t)) (h2 : va_RA s c' (.object t)) : c = c' := by
  obtain ⟨_, _, _, _, _, e1⟩ := h1
  obtain ⟨_, _, _, _, _, e2⟩ := h2
  exact Option.some.inj (e1.symm.trans e2)
theorem u_newq (C : Cok0 X own cc nL fr lo mc ms A) {n : Int32} (N t : Nat) {Cn : String} {idx : Nat} (hcl : Cond.classLink own idx Cn ∈ TB) (hover : va_AO Cn (xs X)) (ht : (tysOf (xG X))[t]? = some ((xG X).2.2.1 t, .object Cn)) (hn : ¬ n < 0) (hN : n.toNatClampNeg = N) (hN2 : N * 4 ≤ 536870912) (hkc : kc + 1 ≤ mc) (hks : ks + N ≤ ms) (d : decode cc pc = .ok (.anewarray idx, 3)) (hq : pc + 3 = q) (k : ∀ r : Nat, U X A (ws ++ [(r, .inl ((xG X).2.2.1 t, N, .inr (.inr (.inr (.inr (fun _ => none))))))]) (kc + 1) (ks + N) q lv (.ref r :: st)) : U X A ws kc ks pc lv (.int n :: st) := by
  subst hq
  have hw1 := C.2.2.2.2.2.1
  have hK := C.2.2.2.2.2.2.1
  refine fun H locs ls hP hD hS hl => va_newq C.1 C.2.1 C.2.2.2.2.1 (hw1 _ hcl) hover hK hP hD hS C.2.2.2.2.2.2.2.2.1 hn hN hN2 (by rw [C.2.2.2.2.2.2.2.2.2.2.2.1]; exact hkc) (by rw [C.2.2.2.2.2.2.2.2.2.2.2.2]; exact hks) d (fun r cA H1 hK1 hP1 hD1 hS1 => ?_)
  have e : cA = (xG X).2.2.1 t := ra_one (hK1.2 5 (cA, .object Cn) rfl).2 (hK.2 t _ ht).2
  subst e
  exact k r H1 locs ls hP1 hD1 hS1 hl
theorem u_astq (C : Cok0 X own cc nL fr lo mc ms A) (q0 t : Nat) {ci a n v : Nat} {r : vw_C} {vs : List Value} {f : Nat → Option Nat} {i : Int32} (ha : ws[q0]? = some (a, .inl ((xG X).2.2.1 t, n, .inr (.inr (.inr (.inr f)))))) (ht : (tysOf (xG X))[t]? = some ((xG X).2.2.1 t, .object r.1)) (hv : (v, .inr (ci, vs)) ∈ ws) (hc : vwCl[ci]? = some r) (hi : vp_in i n) (hws : ws.set q0 (a, .inl ((xG X).2.2.1 t, n, .inr (.inr (.inr (.inr (va_up f i.toNatClampNeg (some v))))))) = ws') (d : decode cc pc = .ok (.aastore, 1)) (hq : pc + 1 = q) (k : U X A ws' kc ks q lv st) : U X A ws kc ks pc lv (.ref v :: .int i :: .ref a :: st) := by
  subst hq
  subst hws
  obtain ⟨qk, hqk⟩ := List.getElem?_of_mem hv
  exact fun H locs ls hP hD hS hl => va_astq C.1 C.2.1 C.2.2.2.2.2.2.1 hP hD hS q0 t qk ci ha ht hqk hc hi d (fun H1 locs1 hP1 hD1 hS1 => k H1 locs1 ls hP1 hD1 hS1 hl)
theorem u_iast (C : Cok0 X own cc nL fr lo mc ms A) (q0 : Nat) {a n : Nat} {f : Nat → Int32} {i v : Int32} (ha : ws[q0]? = some (a, .inl ((xG X).2.2.1 0, n, .inl f))) (hi : vp_in i n) (hws : ws.set q0 (a, .inl ((xG X).2.2.1 0, n, .inl (upd f i.toNatClampNeg v))) = ws') (d : decode cc pc = .ok (.iastore, 1)) (hq : pc + 1 = q) (k : U X A ws' kc ks q lv st) : U X A ws kc ks pc lv (.int v :: .int i :: .ref a :: st) := by
  subst hq
  subst hws
  exact fun H locs ls hP hD hS hl => va_iast C.1 C.2.1 C.2.2.2.2.2.2.1 hP hD hS q0 0 ha rfl hi d (fun H1 locs1 hP1 hD1 hS1 => k H1 locs1 ls hP1 hD1 hS1 hl)
/-- the world's cells in another order -/
theorem perm_D {A : Nat → Prop} {ws ws' : va_W} (hp : ws.Perm ws') (h : va_D A ws) : va_D A ws' := by
  have h1 : (ws.map Prod.fst).Nodup := by
    rw [List.Nodup, List.pairwise_iff_getElem]
    intro i j hi hj hij e
    rw [List.getElem_map, List.getElem_map] at e
    rw [List.length_map] at hi hj
    have := h.1 i j ws[i] ws[j] (List.getElem?_eq_getElem hi) (List.getElem?_eq_getElem hj) e
    omega
  have h2 : (ws'.map Prod.fst).Nodup := (hp.map Prod.fst).nodup_iff.mp h1
  refine ⟨fun i j p q hi hj e => ?_, fun k q hk => ?_⟩
  · obtain ⟨li, ei⟩ := List.getElem?_eq_some_iff.mp hi
    obtain ⟨lj, ej⟩ := List.getElem?_eq_some_iff.mp hj
    rw [List.Nodup, List.pairwise_iff_getElem] at h2
    rcases Nat.lt_trichotomy i j with z | z | z
    · refine absurd ?_ (h2 i j (by rw [List.length_map]; exact li) (by rw [List.length_map]; exact lj) z)
      rw [List.getElem_map, List.getElem_map, ei, ej]; exact e
    · exact z
    · refine absurd ?_ (h2 j i (by rw [List.length_map]; exact lj) (by rw [List.length_map]; exact li) z)
      rw [List.getElem_map, List.getElem_map, ei, ej]; exact e.symm
  · obtain ⟨j, hj⟩ := List.getElem?_of_mem (hp.mem_iff.mpr (List.mem_of_getElem? hk))
    exact h.2 j q hj
theorem perm_P {D : va_G} {cl : List vw_C} {ws ws' : va_W} {H : Heap} (hp : ws.Perm ws') (h : va_P D cl ws H) : va_P D cl ws' H := by
  intro k q hk
  obtain ⟨j, hj⟩ := List.getElem?_of_mem (hp.mem_iff.mpr (List.mem_of_getElem? hk))
  exact h j q hj
theorem u_perm (hp : ws.Perm ws') (k : U X A ws' kc ks pc lv st) : U X A ws kc ks pc lv st := fun H locs ls hP hD hS hl => k H locs ls (perm_P hp hP) (perm_D hp hD) hS hl
theorem u_widen {kc' ks' : Nat} (h1 : kc ≤ kc') (h2 : ks ≤ ks') (k : U X A ws kc' ks' pc lv st) : U X A ws kc ks pc lv st := fun H locs ls hP hD hS hl => W.widen h1 h2 (k H locs ls hP hD hS hl)
end HC
/-- a constructor's end -/
def Qc0 (G : Gm) (h0 : Nat) (A : Nat → Prop) (cells : (Nat → Nat → Nat) → va_W) : Array Value → State → Outcome → State → Prop := fun _ st oc t => (oc = .returned none ∧ ∃ u : Nat → Nat → Nat, u 0 0 = h0 ∧ va_P G.2.1 vwCl (cells u) t.heap ∧ va_D A (cells u)) ∧ va_F A st t
def Cto (G : Gm) (l : Launch) (y : MethodName) (cc : ByteArray) (nL fr lo mc ms : Nat) (extra : List Value) (e0 : va_E) (cells : (Nat → Nat → Nat) → va_W) : Prop := ∀ (h0 sz : Nat),
  Met l y (Cond.code y cc nL none :: TB) { frames := fr, cells := mc, slots := ms, locals := lo } (va_Pc (.ref h0 :: extra) (fun U => U.heap.size = sz ∧ va_P G.2.1 vwCl [(h0, e0)] U.heap ∧ va_K G.2.1 vwCl (tysOf G) U ∧ Ns U)) (Qc0 G h0 (va_A [(h0, e0)] sz) cells) mc ms (va_A [(h0, e0)] sz)
theorem Cto.mk {G : Gm} {l : Launch} {y : MethodName} {cc : ByteArray} {nL fr lo mc ms : Nat} {extra : List Value} {e0 : va_E} {cells : (Nat → Nat → Nat) → va_W} (hy : plainName y.cls = true) (hi : y.name = "<init>") (hlv : ∀ h0 : Nat, (lg_sl (.ref h0 :: extra)).length ≤ nL)
    (h : ∀ (X : CX) (A : Nat → Prop) (h0 : Nat), xG X = G → (xM X).name = "<init>" → Cok0 X y.cls cc nL fr lo mc ms A → (∀ (u : Nat → Nat → Nat) (ws : va_W) (pc : Nat) (lv : List (Nat × Value)), decode cc pc = .ok (.return_, 1) → u 0 0 = h0 → ws = cells u → U X A ws mc ms pc lv []) → U X A [(h0, e0)] 0 0 0 (lv_args 0 (.ref h0 :: extra)) []) : Cto G l y cc nL fr lo mc ms extra e0 cells := by
  intro h0 sz
  refine Met.ofW (cc := cc) (maxL := nL) (ret := none) hy rfl ?_
  intro p e s m args below meth c s₁ B hml hv
  obtain ⟨rfl, hsz, hP, hK, hN⟩ := hv
  subst hsz
  have hts := atoms_spec (ws := Cond.code y cc nL none :: TB) B.pre
  have hl := lv_entry (.ref h0 :: extra) (hlv h0)
  rw [lg_entry_eq]
  generalize (lg_sl (.ref h0 :: extra) ++ List.replicate (nL - (lg_sl (.ref h0 :: extra)).length) Slot.unset).toArray = ls at hl ⊢
  have hlocks := B.notSynchronized
  have hin : meth.name = "<init>" := (name_of_methodNamed B.named B.method).1.trans hi
  have hD0 : va_D (fun _ => True) [(h0, e0)] := ⟨fun i j p q a b _ => by
      have h1 := (List.getElem?_eq_some_iff.mp a).1
      have h2 := (List.getElem?_eq_some_iff.mp b).1
      simp at h1 h2
      omega, fun _ _ _ => trivial⟩
  have hD := hD0.self (sz := s.heap.size)
  have hA : ∀ q : Nat, s.heap.size ≤ q → va_A [(h0, e0)] s.heap.size q := fun q h => Or.inr h
  generalize va_A [(h0, e0)] s.heap.size = A at hD hA ⊢
  refine h (G, p, l, e, (headSpec (Cond.code y cc nL none :: TB) { frames := fr, cells := mc, slots := ms, locals := lo }).room, s, m, (.ref h0 :: extra : List Value).toArray, below, meth, c, nL, 0, 0, MQ below (Qc0 G h0 A cells) (.ref h0 :: extra : List Value).toArray s mc ms A) A h0 rfl hin ⟨B.exec, B.bytes, hml, rfl, findClass_of_methodNamed B.named, fun w hw => hts w (List.mem_cons_of_mem _ hw), hK, hN, hA, rfl, rfl, rfl, rfl⟩
    (fun u ws pc lv hd hu hws H locs ls hP1 hD1 hS1 hl1 => ?_) s.heap [] ls hP hD va_S.rf hl
  subst hws
  exact W.vret (Qc := Qc0 G h0 A cells) (free := A) B.exec B.bytes B.returns (fun t ht hW => ⟨⟨rfl, u, hu, by rw [ht]; exact hP1, hD1⟩, hS1.F ht⟩) hS1.2.2 hd
/-- what a constructor's call needs -/
def MokI (y : MethodName) (cc2 : ByteArray) (nL2 : Nat) (n : Nat) : Prop := Cond.instanceMethod y ∈ TB ∧ Cond.initialized y.cls ∈ TB ∧ Cond.code y cc2 nL2 none ∈ TB ∧ y.name = "<init>" ∧ (y.cls ≠ "java/lang/invoke/MethodHandle" ∧ y.cls ≠ "java/lang/invoke/VarHandle" ∧ (parseMethodDescriptor y.desc).map (fun d => d.parameters.length) = some n)
theorem put_one {n : Nat} {wr : va_W} {c : Nat × va_E} (hn : wr.length = n) : (List.range n).map (fun i => (wr ++ [c])[i]?) = wr.map some := by
  apply List.ext_getElem?
  intro i
  by_cases h : i < n
  · rw [List.getElem?_map, List.getElem?_range h, List.getElem?_map, List.getElem?_eq_getElem (by omega)]
    simp only [Option.map_some]
    rw [List.getElem?_append_left (by omega), List.getElem?_eq_getElem (by omega)]
  · rw [List.getElem?_eq_none (by rw [List.length_map, List.length_range]; omega), List.getElem?_eq_none (by rw [List.length_map]; omega)]
theorem range_nd : ∀ n, va_nd (List.range n) = true := by
  intro n
  have h : ∀ l : List Nat, l.Nodup → va_nd l = true := by
    intro l
    induction l with
    | nil => intro _; rfl
    | cons a l ih =>
      intro h
      rw [List.nodup_cons] at h
      simp [va_nd, h.1, ih h.2]
  exact h _ List.nodup_range
section HCC
variable {X : CX} {own : String} {cc : ByteArray} {nL fr lo mc ms : Nat} {A : Nat → Prop} {wr : va_W} {kc ks : Nat} {pc q : Nat} {lv : List (Nat × Value)} {st : List Value}
theorem u_after {mc2 ms2 h0 : Nat} {e0 : va_E} {st0 : List Value} {cells : (Nat → Nat → Nat) → va_W} {a : Array Value} (C : Cok0 X own cc nL fr lo mc ms A) {H : Heap} {locs : List Loc} {ls : Array Slot}
    (hr : va_Run (xp X) (xl X) (xe X) (xR X) (xs X) (xm X) (xa X) (xb X) (xM X) (xc X) H locs kc ks mc2 ms2 (F0 (xm X) pc ls st0) st (Qc0 (xG X) h0 (va_A [(h0, e0)] H.size) cells a) (va_A [(h0, e0)] H.size))
    (hP : va_P (xG X).2.1 vwCl (wr ++ [(h0, e0)]) H) (hD : va_D A (wr ++ [(h0, e0)])) (hS : va_S A (xs X).heap H locs)
    (kk : ∀ (u : Nat → Nat → Nat) (H1 : Heap) (locs1 : List Loc), u 0 0 = h0 → va_P (xG X).2.1 vwCl (wr ++ cells u) H1 → va_D A (wr ++ cells u) → va_S A (xs X).heap H1 locs1 → W (xp X) (xl X) (xe X) (xR X) (xs X) (xm X) (xa X) (xb X) (xM X) (xc X) H1 locs1 (kc + mc2) (ks + ms2) (xQ X) (F0 (xm X) (pc + 3) ls st)) : W (xp X) (xl X) (xe X) (xR X) (xs X) (xm X) (xa X) (xb X) (xM X) (xc X) H locs kc ks (xQ X) (F0 (xm X) pc ls st0) := by
  have hA := C.2.2.2.2.2.2.2.2.1
  have hC1 : [wr.length].map (fun i => (wr ++ [(h0, e0)])[i]?) = [(h0, e0)].map some := by simp
  have hF : ∀ q, va_A [(h0, e0)] H.size q → A q := va_free hD hS hA [wr.length] hC1
  intro T hT Xs
  obtain ⟨v', st₀, t, T', L, hh0, X', hL, e1, e2, ⟨⟨hv, u, hu, hb, hd⟩, hz, hk⟩, stp⟩ := hr T hT Xs
  cases hv
  rw [hh0] at hz hk
  obtain ⟨hP1, hD1⟩ := va_join (wr := wr) hP hD [wr.length] (List.range wr.length) hC1 (put_one rfl) (range_nd _) (fun i hi h2 => by
    have := List.mem_range.mp hi
    simp at h2
    omega) hk hF hb hd
  obtain ⟨t2, a1, b1⟩ := kk u T'.heap (locs ++ L) hu (by rw [e1]; exact hP1) hD1
    ⟨Nat.le_trans hS.1 (by rw [e1]; exact hz), fun q h1 h2 => by rw [e1, hk q (Nat.lt_of_lt_of_le h1 hS.1) (fun z => h2 (hF q z))]; exact hS.2.1 q h1 h2, fun q hq => by
      rcases List.mem_append.mp hq with h | h
      · exact hS.2.2 q h
      · exact hF _ (hL q h)⟩ T' rfl X'
  exact ⟨t2, stp t2 a1, b1⟩
theorem cto_pre (C : Cok0 X own cc nL fr lo mc ms A) {h0 : Nat} {e0 : va_E} {H : Heap} (hP : va_P (xG X).2.1 vwCl (wr ++ [(h0, e0)]) H) {U : State} (hU : U.heap = H) (hW : (xs X).WarmedH U.vm) : U.heap.size = H.size ∧ va_P (xG X).2.1 vwCl [(h0, e0)] U.heap ∧ va_K (xG X).2.1 vwCl (tysOf (xG X)) U ∧ Ns U :=
  ⟨by rw [hU], by rw [hU]; exact hP.sub [wr.length] (by simp), va_K.moved hW.alike C.2.2.2.2.2.2.1, C.2.2.2.2.2.2.2.1.warm hW⟩
theorem cto_blind {G : Gm} {avs : List Value} {sz : Nat} {ws : va_W} : FrameBlind (va_Pc avs (fun U => U.heap.size = sz ∧ va_P G.2.1 vwCl ws U.heap ∧ va_K G.2.1 vwCl (tysOf G) U ∧ Ns U)) := fun a U g mk q => by
  obtain ⟨q0, q1, q2, q3, q4⟩ := q
  exact ⟨q0, q1, q2, va_K.moved (u := U) (U := U.calling g mk a) (Vm.Alike.refl U.vm) q3, q4.blind g mk a⟩
theorem u_callI (C : Cok0 X own cc nL fr lo mc ms A) {y : MethodName} {cc2 : ByteArray} {nL2 fr2 lo2 mc2 ms2 n idx h0 kc' ks' : Nat} {extra st0 : List Value} {e0 : va_E} {cells : (Nat → Nat → Nat) → va_W} (hM : Cto (xG X) (xl X) y cc2 nL2 fr2 lo2 mc2 ms2 extra e0 cells) (ok : MokI y cc2 nL2 n) (hl0 : Cond.methodLink own idx y ∈ TB) (hn : extra.length = n) (hR : fr2 + 1 ≤ fr ∧ 8 + (nL2 + 11) + lo2 ≤ lo) (hkc : kc + mc2 = kc') (hks : ks + ms2 = ks') (hkm : kc' ≤ mc ∧ ks' ≤ ms) (hst : st0 = extra.reverse ++ .ref h0 :: st) (hc8 : (st.map fun v => v.category).sum ≤ 8) (d : decode cc pc = .ok (.invokespecial idx, 3)) (hq : pc + 3 = q) (k : ∀ u : Nat → Nat → Nat, u 0 0 = h0 → U X A (wr ++ cells u) kc' ks' q lv st) : U X A (wr ++ [(h0, e0)]) kc ks pc lv st0 := by
  subst hq
  subst hkc
  subst hks
  have hw1 := C.2.2.2.2.2.1
  obtain ⟨o1, o3, o4, o5, o6⟩ := ok
  intro H locs ls hP hD hS hl
  exact u_after (e0 := e0) (h0 := h0) (a := (.ref h0 :: extra : List Value).toArray) C (va_runI (As := extra) (rest := st) ⟨C.1, C.2.1, C.2.2.1.trans C.2.2.2.1.symm, C.2.2.2.2.1, hw1⟩ (hM h0 H.size) ⟨callB_of n hw1 (tb_in o4) rfl rfl rfl (hw1 _ o3) (hw1 _ hl0) o6 ⟨by rw [C.2.2.2.2.2.2.2.2.2.1]; exact hR.1, by rw [C.2.2.2.2.2.2.2.2.2.2.1]; exact hR.2⟩, o5, hw1 _ o1⟩ ⟨cto_blind, fun U hU hW => ⟨rfl, cto_pre C hP hU hW⟩⟩ rfl hn hl.1 hst (lv_room (rest := st0) hc8) d ⟨by rw [C.2.2.2.2.2.2.2.2.2.2.2.1]; exact hkm.1, by rw [C.2.2.2.2.2.2.2.2.2.2.2.2]; exact hkm.2⟩) hP hD hS (fun u H1 locs1 hu hP1 hD1 hS1 => k u hu H1 locs1 ls hP1 hD1 hS1 hl)
theorem u_callIN (C : Cok0 X own cc nL fr lo mc ms A) {y : MethodName} {host : String} {cc2 : ByteArray} {nL2 fr2 lo2 mc2 ms2 n idx h0 kc' ks' : Nat} {extra st0 : List Value} {e0 : va_E} {cells : (Nat → Nat → Nat) → va_W} (hM : Cto (xG X) (xl X) y cc2 nL2 fr2 lo2 mc2 ms2 extra e0 cells) (ok : MokI y cc2 nL2 n) (hl0 : (own, idx, y, host) ∈ nests) (hn : extra.length = n) (hR : fr2 + 1 ≤ fr ∧ 8 + (nL2 + 11) + lo2 ≤ lo) (hkc : kc + mc2 = kc') (hks : ks + ms2 = ks') (hkm : kc' ≤ mc ∧ ks' ≤ ms) (hst : st0 = extra.reverse ++ .ref h0 :: st) (hc8 : (st.map fun v => v.category).sum ≤ 8) (d : decode cc pc = .ok (.invokespecial idx, 3)) (hq : pc + 3 = q) (k : ∀ u : Nat → Nat → Nat, u 0 0 = h0 → U X A (wr ++ cells u) kc' ks' q lv st) : U X A (wr ++ [(h0, e0)]) kc ks pc lv st0 := by
  subst hq
  subst hkc
  subst hks
  have hw1 := C.2.2.2.2.2.1
  obtain ⟨o1, o3, o4, o5, o6⟩ := ok
  intro H locs ls hP hD hS hl
  exact u_after (e0 := e0) (h0 := h0) (a := (.ref h0 :: extra : List Value).toArray) C (va_runIN (As := extra) (rest := st) ⟨C.1, C.2.1, C.2.2.1.trans C.2.2.2.1.symm, C.2.2.2.2.1, hw1⟩ (hM h0 H.size) ⟨va_cnB n hw1 (tb_in o4) rfl rfl rfl (C.2.2.2.2.2.2.2.1.1 _ hl0) (hw1 _ o3) o6 ⟨by rw [C.2.2.2.2.2.2.2.2.2.1]; exact hR.1, by rw [C.2.2.2.2.2.2.2.2.2.2.1]; exact hR.2⟩, o5, hw1 _ o1⟩ ⟨cto_blind, fun U hU hW => ⟨rfl, cto_pre C hP hU hW⟩⟩ rfl hn hl.1 hst (lv_room (rest := st0) hc8) d ⟨by rw [C.2.2.2.2.2.2.2.2.2.2.2.1]; exact hkm.1, by rw [C.2.2.2.2.2.2.2.2.2.2.2.2]; exact hkm.2⟩) hP hD hS (fun u H1 locs1 hu hP1 hD1 hS1 => k u hu H1 locs1 ls hP1 hD1 hS1 hl)
end HCC
theorem q_19 : Cond.instanceMethod yX5_init ∈ TB := tb_t 19 (by decide +kernel) rfl
theorem q_20 : Cond.code yX5_init cX5_init 2 none ∈ TB := tb_t 20 (by decide +kernel) rfl
theorem q_21 : Cond.methodLink RX5 3 objectInit ∈ TB := tb_t 21 (by decide +kernel) rfl
theorem q_24 : Cond.classLink RX5 9 RX0 ∈ TB := tb_t 24 (by decide +kernel) rfl
theorem q_25 : Cond.instantiable RX0 12 ∈ TB := tb_t 25 (by decide +kernel) rfl
theorem q_26 : Cond.methodLink RX5 11 yX0_init ∈ TB := tb_t 26 (by decide +kernel) rfl
theorem q_27 : Cond.instanceMethod yX0_init ∈ TB := tb_t 27 (by decide +kernel) rfl
theorem q_28 : Cond.code yX0_init cX0_init 2 none ∈ TB := tb_t 28 (by decide +kernel) rfl
theorem q_29 : Cond.methodLink RX0 3 objectInit ∈ TB := tb_t 29 (by decide +kernel) rfl
theorem q_30 : Cond.classLink RX0 36 RX1 ∈ TB := tb_t 30 (by decide +kernel) rfl
theorem q_32 : Cond.instantiable RX1 4 ∈ TB := tb_t 32 (by decide +kernel) rfl
theorem q_34 : Cond.instanceMethod yX1_init ∈ TB := tb_t 34 (by decide +kernel) rfl
theorem q_35 : Cond.code yX1_init cX1_init 1 none ∈ TB := tb_t 35 (by decide +kernel) rfl
theorem q_36 : Cond.methodLink RX1 3 objectInit ∈ TB := tb_t 36 (by decide +kernel) rfl
theorem q_61 : Cond.arrayClass .int ∈ TB := tb_t 61 (by decide +kernel) rfl
theorem q_119 : Cond.classLink RX5 22 RX4 ∈ TB := tb_t 119 (by decide +kernel) rfl
theorem q_120 : Cond.instantiable RX4 10 ∈ TB := tb_t 120 (by decide +kernel) rfl
theorem q_121 : Cond.methodLink RX5 24 yX4_init ∈ TB := tb_t 121 (by decide +kernel) rfl
theorem q_122 : Cond.instanceMethod yX4_init ∈ TB := tb_t 122 (by decide +kernel) rfl
theorem q_123 : Cond.code yX4_init cX4_init 2 none ∈ TB := tb_t 123 (by decide +kernel) rfl
theorem q_124 : Cond.methodLink RX4 3 objectInit ∈ TB := tb_t 124 (by decide +kernel) rfl
theorem q_125 : Cond.classLink RX4 27 "[[I" ∈ TB := tb_t 125 (by decide +kernel) rfl
theorem q_158 : Cond.classLink RX5 31 RX3 ∈ TB := tb_t 158 (by decide +kernel) rfl
theorem q_159 : Cond.instantiable RX3 5 ∈ TB := tb_t 159 (by decide +kernel) rfl
theorem q_161 : Cond.instanceMethod yX3_init ∈ TB := tb_t 161 (by decide +kernel) rfl
theorem q_162 : Cond.code yX3_init cX3_init 1 none ∈ TB := tb_t 162 (by decide +kernel) rfl
theorem q_163 : Cond.methodLink RX3 3 objectInit ∈ TB := tb_t 163 (by decide +kernel) rfl
theorem q_182 : Cond.classLink RX5 38 RX2 ∈ TB := tb_t 182 (by decide +kernel) rfl
theorem q_184 : Cond.instantiable RX2 3 ∈ TB := tb_t 184 (by decide +kernel) rfl
theorem q_186 : Cond.instanceMethod yX2_init ∈ TB := tb_t 186 (by decide +kernel) rfl
theorem q_187 : Cond.code yX2_init cX2_init 1 none ∈ TB := tb_t 187 (by decide +kernel) rfl
theorem q_188 : Cond.methodLink RX2 3 objectInit ∈ TB := tb_t 188 (by decide +kernel) rfl
theorem q_202 : Cond.arrayClass .long ∈ TB := tb_t 202 (by decide +kernel) rfl
theorem q_986 : Cond.instanceMethod yX6_init ∈ TB := tb_t 986 (by decide +kernel) rfl
theorem q_987 : Cond.code yX6_init cX6_init 2 none ∈ TB := tb_t 987 (by decide +kernel) rfl
theorem q_988 : Cond.methodLink RX6 1 objectInit ∈ TB := tb_t 988 (by decide +kernel) rfl
theorem df_X0 : ∀ j, j < 12 → defaultValue (tyX0 j) = vp_V [.int 0, .int 0, .int 0, .int 0, .int 0, .int 0, .int 0, .int 0, .null, .null, .null, .null] j := by
  intro j hj
  match j, hj with
  | 0, _ => rfl
  | 1, _ => rfl
  | 2, _ => rfl
  | 3, _ => rfl
  | 4, _ => rfl
  | 5, _ => rfl
  | 6, _ => rfl
  | 7, _ => rfl
  | 8, _ => rfl
  | 9, _ => rfl
  | 10, _ => rfl
  | 11, _ => rfl
  | j + 12, hj => omega
theorem df_X1 : ∀ j, j < 4 → defaultValue (tyX1 j) = vp_V [.int 0, .int 0, .int 0, .null] j := by
  intro j hj
  match j, hj with
  | 0, _ => rfl
  | 1, _ => rfl
  | 2, _ => rfl
  | 3, _ => rfl
  | j + 4, hj => omega
theorem df_X2 : ∀ j, j < 3 → defaultValue (tyX2 j) = vp_V [.int 0, .int 0, .null] j := by
  intro j hj
  match j, hj with
  | 0, _ => rfl
  | 1, _ => rfl
  | 2, _ => rfl
  | j + 3, hj => omega
theorem df_X3 : ∀ j, j < 5 → defaultValue (tyX3 j) = vp_V [.null, .int 0, .int 0, .int 0, .int 0] j := by
  intro j hj
  match j, hj with
  | 0, _ => rfl
  | 1, _ => rfl
  | 2, _ => rfl
  | 3, _ => rfl
  | 4, _ => rfl
  | j + 5, hj => omega
theorem df_X4 : ∀ j, j < 10 → defaultValue (tyX4 j) = vp_V [.null, .null, .null, .null, .null, .null, .null, .null, .null, .null] j := by
  intro j hj
  match j, hj with
  | 0, _ => rfl
  | 1, _ => rfl
  | 2, _ => rfl
  | 3, _ => rfl
  | 4, _ => rfl
  | 5, _ => rfl
  | 6, _ => rfl
  | 7, _ => rfl
  | 8, _ => rfl
  | 9, _ => rfl
  | j + 10, hj => omega
theorem df_X5 : ∀ j, j < 9 → defaultValue (tyX5 j) = vp_V [.null, .null, .null, .null, .null, .null, .null, .null, .int 0] j := by
  intro j hj
  match j, hj with
  | 0, _ => rfl
  | 1, _ => rfl
  | 2, _ => rfl
  | 3, _ => rfl
  | 4, _ => rfl
  | 5, _ => rfl
  | 6, _ => rfl
  | 7, _ => rfl
  | 8, _ => rfl
  | j + 9, hj => omega
theorem df_X6 : ∀ j, j < 29 → defaultValue (tyX6 j) = vp_V [.null, .null, .null, .int 0, .int 0, .int 0, .int 0, .null, .null, .null, .null, .int 0, .null, .null, .int 0, .int 0, .int 0, .null, .int 0, .int 0, .int 0, .int 0, .null, .int 0, .null, .null, .null, .null, .null] j := by
  intro j hj
  match j, hj with
  | 0, _ => rfl
  | 1, _ => rfl
  | 2, _ => rfl
  | 3, _ => rfl
  | 4, _ => rfl
  | 5, _ => rfl
  | 6, _ => rfl
  | 7, _ => rfl
  | 8, _ => rfl
  | 9, _ => rfl
  | 10, _ => rfl
  | 11, _ => rfl
  | 12, _ => rfl
  | 13, _ => rfl
  | 14, _ => rfl
  | 15, _ => rfl
  | 16, _ => rfl
  | 17, _ => rfl
  | 18, _ => rfl
  | 19, _ => rfl
  | 20, _ => rfl
  | 21, _ => rfl
  | 22, _ => rfl
  | 23, _ => rfl
  | 24, _ => rfl
  | 25, _ => rfl
  | 26, _ => rfl
  | 27, _ => rfl
  | 28, _ => rfl
  | j + 29, hj => omega
theorem ok_acI : Cond.arrayClass .int ∈ TB := q_61
theorem ok_acJ : Cond.arrayClass .long ∈ TB := q_202
theorem ok_obj : Cond.instanceMethod objectInit ∈ TB ∧ Cond.code objectInit ⟨#[0xb1]⟩ 1 none ∈ TB := ⟨tb_t 22 (by decide +kernel) rfl, tb_t 23 (by decide +kernel) rfl⟩
