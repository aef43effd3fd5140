theorem r_iconst {X : CX} {own : String} {cc : ByteArray} {nL fr lo : Nat} {σ : St} {pc q : Nat} {lv : List (Nat × Value)} {st : List Value} (C : Cok X own cc nL fr lo) {n : Int} {v : Int32} (d : decode cc pc = .ok (.iconst n, 1)) (hv : Int32.ofInt n = v) (hq : pc + 1 = q) (k : V X σ q lv (.int v :: st)) : V X σ pc lv (st) := by
  subst hq
  exact fun H locs ls hP hS hl => lv_iconst C.1 C.2.1 d hv (k H locs ls hP hS hl)
theorem r_bipush {X : CX} {own : String} {cc : ByteArray} {nL fr lo : Nat} {σ : St} {pc q : Nat} {lv : List (Nat × Value)} {st : List Value} (C : Cok X own cc nL fr lo) {n : Int} {v : Int32} (d : decode cc pc = .ok (.bipush n, 2)) (hv : (Int8.ofInt n).toInt32 = v) (hq : pc + 2 = q) (k : V X σ q lv (.int v :: st)) : V X σ pc lv (st) := by
  subst hq
  exact fun H locs ls hP hS hl => lv_bipush C.1 C.2.1 d hv (k H locs ls hP hS hl)
theorem r_sipush {X : CX} {own : String} {cc : ByteArray} {nL fr lo : Nat} {σ : St} {pc q : Nat} {lv : List (Nat × Value)} {st : List Value} (C : Cok X own cc nL fr lo) {n : Int} {v : Int32} (d : decode cc pc = .ok (.sipush n, 3)) (hv : (Int16.ofInt n).toInt32 = v) (hq : pc + 3 = q) (k : V X σ q lv (.int v :: st)) : V X σ pc lv (st) := by
  subst hq
  exact fun H locs ls hP hS hl => lv_sipush C.1 C.2.1 d hv (k H locs ls hP hS hl)
theorem r_lconst {X : CX} {own : String} {cc : ByteArray} {nL fr lo : Nat} {σ : St} {pc q : Nat} {lv : List (Nat × Value)} {st : List Value} (C : Cok X own cc nL fr lo) {n : Fin 2} {v : Int64} (d : decode cc pc = .ok (.lconst n, 1)) (hv : Int64.ofNat (n : Nat) = v) (hq : pc + 1 = q) (k : V X σ q lv (.long v :: st)) : V X σ pc lv (st) := by
  subst hq
  exact fun H locs ls hP hS hl => lv_lconst C.1 C.2.1 d hv (k H locs ls hP hS hl)
theorem r_ldc {X : CX} {own : String} {cc : ByteArray} {nL fr lo : Nat} {σ : St} {pc q : Nat} {lv : List (Nat × Value)} {st : List Value} (C : Cok X own cc nL fr lo) {i : Nat} {v : Int32} (d : decode cc pc = .ok (.ldc i, 2)) (hw : Cond.constant own i v ∈ TB) (hq : pc + 2 = q) (k : V X σ q lv (.int v :: st)) : V X σ pc lv st := by
  subst hq
  exact fun H locs ls hP hS hl => lv_ldc C.1 C.2.1 C.2.2.2.2.1 (C.2.2.2.2.2.1 _ hw) d (k H locs ls hP hS hl)
theorem r_ldcw {X : CX} {own : String} {cc : ByteArray} {nL fr lo : Nat} {σ : St} {pc q : Nat} {lv : List (Nat × Value)} {st : List Value} (C : Cok X own cc nL fr lo) {i : Nat} {v : Int32} (d : decode cc pc = .ok (.ldc_w i, 3)) (hw : Cond.constant own i v ∈ TB) (hq : pc + 3 = q) (k : V X σ q lv (.int v :: st)) : V X σ pc lv st := by
  subst hq
  exact fun H locs ls hP hS hl => lv_ldcw C.1 C.2.1 C.2.2.2.2.1 (C.2.2.2.2.2.1 _ hw) d (k H locs ls hP hS hl)
theorem r_ldc2 {X : CX} {own : String} {cc : ByteArray} {nL fr lo : Nat} {σ : St} {pc q : Nat} {lv : List (Nat × Value)} {st : List Value} (C : Cok X own cc nL fr lo) {i : Nat} {v : Int64} (d : decode cc pc = .ok (.ldc2_w i, 3)) (hw : Cond.constantLong own i v ∈ TB) (hq : pc + 3 = q) (k : V X σ q lv (.long v :: st)) : V X σ pc lv st := by
  subst hq
  exact fun H locs ls hP hS hl => lv_ldc2 C.1 C.2.1 C.2.2.2.2.1 (C.2.2.2.2.2.1 _ hw) d (k H locs ls hP hS hl)
theorem r_ldcS {X : CX} {own : String} {cc : ByteArray} {nL fr lo : Nat} {σ : St} {pc q : Nat} {lv : List (Nat × Value)} {st : List Value} (C : Cok X own cc nL fr lo) {i w : Nat} {tx : String} (d : decode cc pc = .ok (.ldc i, 2)) (hw : (own, i, tx, w) ∈ sRefs) (hq : pc + 2 = q) (k : V X σ q lv (.ref ((xG X).2.2.2.1 w) :: st)) : V X σ pc lv st := by
  subst hq
  exact fun H locs ls hP hS hl => va_ldcS C.1 C.2.1 C.2.2.2.2.1 (C.2.2.2.2.2.2.2.2.1.2.2.2.1 _ hw) d (k H locs ls hP hS hl)
theorem r_iload_n {X : CX} {own : String} {cc : ByteArray} {nL fr lo : Nat} {σ : St} {pc q : Nat} {lv : List (Nat × Value)} {st : List Value} (C : Cok X own cc nL fr lo) {n : Fin 4} {x : Int32} (j : Nat) (d : decode cc pc = .ok (.iload_n n, 1)) (hk : lv[j]? = some ((n : Nat), .int x)) (hq : pc + 1 = q) (k : V X σ q lv (.int x :: st)) : V X σ pc lv st := by
  subst hq
  exact fun H locs ls hP hS hl => lv_iload_n C.1 C.2.1 d rfl (lv_at hl j hk) (k H locs ls hP hS hl)
theorem r_iload {X : CX} {own : String} {cc : ByteArray} {nL fr lo : Nat} {σ : St} {pc q : Nat} {lv : List (Nat × Value)} {st : List Value} (C : Cok X own cc nL fr lo) {i : Nat} {x : Int32} (j : Nat) (d : decode cc pc = .ok (.iload i, 2)) (hk : lv[j]? = some (i, .int x)) (hq : pc + 2 = q) (k : V X σ q lv (.int x :: st)) : V X σ pc lv st := by
  subst hq
  exact fun H locs ls hP hS hl => lv_iload C.1 C.2.1 d (lv_at hl j hk) (k H locs ls hP hS hl)
theorem r_istore_n {X : CX} {own : String} {cc : ByteArray} {nL fr lo : Nat} {σ : St} {pc q : Nat} {lv : List (Nat × Value)} {st : List Value} (C : Cok X own cc nL fr lo) {n : Fin 4} {i : Nat} {x : Int32} {lv' : List (Nat × Value)} (d : decode cc pc = .ok (.istore_n n, 1)) (hi : (n : Nat) = i) (hn : i < nL) (hl : (i, .int x) :: lv.filter (fun q => !(q.1 == i) && !(q.1 + 1 == i && q.2.category == 2)) = lv') (hq : pc + 1 = q) (k : V X σ q lv' st) : V X σ pc lv (.int x :: st) := by
  subst hq
  exact fun H locs ls hP hS h => lv_istore_n C.1 C.2.1 d hi h (by rw [C.2.2.2.1]; exact hn) hl (fun ls' h' => k H locs ls' hP hS h')
theorem r_istore {X : CX} {own : String} {cc : ByteArray} {nL fr lo : Nat} {σ : St} {pc q : Nat} {lv : List (Nat × Value)} {st : List Value} (C : Cok X own cc nL fr lo) {i : Nat} {x : Int32} {lv' : List (Nat × Value)} (d : decode cc pc = .ok (.istore i, 2)) (hn : i < nL) (hl : (i, .int x) :: lv.filter (fun q => !(q.1 == i) && !(q.1 + 1 == i && q.2.category == 2)) = lv') (hq : pc + 2 = q) (k : V X σ q lv' st) : V X σ pc lv (.int x :: st) := by
  subst hq
  exact fun H locs ls hP hS h => lv_istore C.1 C.2.1 d h (by rw [C.2.2.2.1]; exact hn) hl (fun ls' h' => k H locs ls' hP hS h')
theorem r_lload_n {X : CX} {own : String} {cc : ByteArray} {nL fr lo : Nat} {σ : St} {pc q : Nat} {lv : List (Nat × Value)} {st : List Value} (C : Cok X own cc nL fr lo) {n : Fin 4} {x : Int64} (j : Nat) (d : decode cc pc = .ok (.lload_n n, 1)) (hk : lv[j]? = some ((n : Nat), .long x)) (hq : pc + 1 = q) (k : V X σ q lv (.long x :: st)) : V X σ pc lv st := by
  subst hq
  exact fun H locs ls hP hS hl => lv_lload_n C.1 C.2.1 d rfl (lv_at hl j hk) (k H locs ls hP hS hl)
theorem r_lload {X : CX} {own : String} {cc : ByteArray} {nL fr lo : Nat} {σ : St} {pc q : Nat} {lv : List (Nat × Value)} {st : List Value} (C : Cok X own cc nL fr lo) {i : Nat} {x : Int64} (j : Nat) (d : decode cc pc = .ok (.lload i, 2)) (hk : lv[j]? = some (i, .long x)) (hq : pc + 2 = q) (k : V X σ q lv (.long x :: st)) : V X σ pc lv st := by
  subst hq
  exact fun H locs ls hP hS hl => lv_lload C.1 C.2.1 d (lv_at hl j hk) (k H locs ls hP hS hl)
theorem r_lstore_n {X : CX} {own : String} {cc : ByteArray} {nL fr lo : Nat} {σ : St} {pc q : Nat} {lv : List (Nat × Value)} {st : List Value} (C : Cok X own cc nL fr lo) {n : Fin 4} {i : Nat} {x : Int64} {lv' : List (Nat × Value)} (d : decode cc pc = .ok (.lstore_n n, 1)) (hi : (n : Nat) = i) (hn : i + 1 < nL) (hl : (i, .long x) :: lv.filter (fun q => !(q.1 == i) && (!(q.1 == i + 1) && !(q.1 + 1 == i && q.2.category == 2))) = lv') (hq : pc + 1 = q) (k : V X σ q lv' st) : V X σ pc lv (.long x :: st) := by
  subst hq
  exact fun H locs ls hP hS h => lv_lstore_n C.1 C.2.1 d hi h (by rw [C.2.2.2.1]; exact hn) hl (fun ls' h' => k H locs ls' hP hS h')
theorem r_lstore {X : CX} {own : String} {cc : ByteArray} {nL fr lo : Nat} {σ : St} {pc q : Nat} {lv : List (Nat × Value)} {st : List Value} (C : Cok X own cc nL fr lo) {i : Nat} {x : Int64} {lv' : List (Nat × Value)} (d : decode cc pc = .ok (.lstore i, 2)) (hn : i + 1 < nL) (hl : (i, .long x) :: lv.filter (fun q => !(q.1 == i) && (!(q.1 == i + 1) && !(q.1 + 1 == i && q.2.category == 2))) = lv') (hq : pc + 2 = q) (k : V X σ q lv' st) : V X σ pc lv (.long x :: st) := by
  subst hq
  exact fun H locs ls hP hS h => lv_lstore C.1 C.2.1 d h (by rw [C.2.2.2.1]; exact hn) hl (fun ls' h' => k H locs ls' hP hS h')
theorem r_aload_n {X : CX} {own : String} {cc : ByteArray} {nL fr lo : Nat} {σ : St} {pc q : Nat} {lv : List (Nat × Value)} {st : List Value} (C : Cok X own cc nL fr lo) {n : Fin 4} {x : Nat} (j : Nat) (d : decode cc pc = .ok (.aload_n n, 1)) (hk : lv[j]? = some ((n : Nat), .ref x)) (hq : pc + 1 = q) (k : V X σ q lv (.ref x :: st)) : V X σ pc lv st := by
  subst hq
  exact fun H locs ls hP hS hl => lv_aload_n C.1 C.2.1 d rfl (lv_at hl j hk) (k H locs ls hP hS hl)
theorem r_aload {X : CX} {own : String} {cc : ByteArray} {nL fr lo : Nat} {σ : St} {pc q : Nat} {lv : List (Nat × Value)} {st : List Value} (C : Cok X own cc nL fr lo) {i : Nat} {x : Nat} (j : Nat) (d : decode cc pc = .ok (.aload i, 2)) (hk : lv[j]? = some (i, .ref x)) (hq : pc + 2 = q) (k : V X σ q lv (.ref x :: st)) : V X σ pc lv st := by
  subst hq
  exact fun H locs ls hP hS hl => lv_aload C.1 C.2.1 d (lv_at hl j hk) (k H locs ls hP hS hl)
theorem r_astore_n {X : CX} {own : String} {cc : ByteArray} {nL fr lo : Nat} {σ : St} {pc q : Nat} {lv : List (Nat × Value)} {st : List Value} (C : Cok X own cc nL fr lo) {n : Fin 4} {i : Nat} {x : Nat} {lv' : List (Nat × Value)} (d : decode cc pc = .ok (.astore_n n, 1)) (hi : (n : Nat) = i) (hn : i < nL) (hl : (i, .ref x) :: lv.filter (fun q => !(q.1 == i) && !(q.1 + 1 == i && q.2.category == 2)) = lv') (hq : pc + 1 = q) (k : V X σ q lv' st) : V X σ pc lv (.ref x :: st) := by
  subst hq
  exact fun H locs ls hP hS h => lv_astore_n C.1 C.2.1 d hi h (by rw [C.2.2.2.1]; exact hn) hl (fun ls' h' => k H locs ls' hP hS h')
theorem r_astore {X : CX} {own : String} {cc : ByteArray} {nL fr lo : Nat} {σ : St} {pc q : Nat} {lv : List (Nat × Value)} {st : List Value} (C : Cok X own cc nL fr lo) {i : Nat} {x : Nat} {lv' : List (Nat × Value)} (d : decode cc pc = .ok (.astore i, 2)) (hn : i < nL) (hl : (i, .ref x) :: lv.filter (fun q => !(q.1 == i) && !(q.1 + 1 == i && q.2.category == 2)) = lv') (hq : pc + 2 = q) (k : V X σ q lv' st) : V X σ pc lv (.ref x :: st) := by
  subst hq
  exact fun H locs ls hP hS h => lv_astore C.1 C.2.1 d h (by rw [C.2.2.2.1]; exact hn) hl (fun ls' h' => k H locs ls' hP hS h')
theorem r_iinc {X : CX} {own : String} {cc : ByteArray} {nL fr lo : Nat} {σ : St} {pc q : Nat} {lv : List (Nat × Value)} {st : List Value} (C : Cok X own cc nL fr lo) {i : Nat} {n : Int} {x v : Int32} {lv' : List (Nat × Value)} (j : Nat) (d : decode cc pc = .ok (.iinc i n, 3)) (hk : lv[j]? = some (i, .int x)) (hv : x + Int32.ofInt n = v) (hn : i < nL) (hl : (i, Value.int v) :: lv.filter (fun q => !(q.1 == i) && !(q.1 + 1 == i && q.2.category == 2)) = lv') (hq : pc + 3 = q) (k : V X σ q lv' st) : V X σ pc lv st := by
  subst hq
  exact fun H locs ls hP hS h => lv_iinc C.1 C.2.1 d h hk hv (by rw [C.2.2.2.1]; exact hn) hl (fun ls' h' => k H locs ls' hP hS h')
theorem r_sub {X : CX} {σ : St} {pc : Nat} {lv lv' : List (Nat × Value)} {st : List Value} (ks : List Nat) (h : lv_pick lv ks = lv') (k : V X σ pc lv' st) : V X σ pc lv st :=
  fun H locs ls hP hS hl => k H locs ls hP hS (lv_sub hl ks h)
theorem r_iadd {X : CX} {own : String} {cc : ByteArray} {nL fr lo : Nat} {σ : St} {pc q : Nat} {lv : List (Nat × Value)} {st : List Value} (C : Cok X own cc nL fr lo) {x y : Int32} (d : decode cc pc = .ok (.iadd, 1))  (hq : pc + 1 = q) (k : V X σ q lv (.int (x + y) :: st)) : V X σ pc lv (.int y :: .int x :: st) := by
  subst hq
  exact fun H locs ls hP hS hl => lv_iadd C.1 C.2.1 d  (k H locs ls hP hS hl)
theorem r_isub {X : CX} {own : String} {cc : ByteArray} {nL fr lo : Nat} {σ : St} {pc q : Nat} {lv : List (Nat × Value)} {st : List Value} (C : Cok X own cc nL fr lo) {x y : Int32} (d : decode cc pc = .ok (.isub, 1))  (hq : pc + 1 = q) (k : V X σ q lv (.int (x - y) :: st)) : V X σ pc lv (.int y :: .int x :: st) := by
  subst hq
  exact fun H locs ls hP hS hl => lv_isub C.1 C.2.1 d  (k H locs ls hP hS hl)
theorem r_imul {X : CX} {own : String} {cc : ByteArray} {nL fr lo : Nat} {σ : St} {pc q : Nat} {lv : List (Nat × Value)} {st : List Value} (C : Cok X own cc nL fr lo) {x y : Int32} (d : decode cc pc = .ok (.imul, 1))  (hq : pc + 1 = q) (k : V X σ q lv (.int (x * y) :: st)) : V X σ pc lv (.int y :: .int x :: st) := by
  subst hq
  exact fun H locs ls hP hS hl => lv_imul C.1 C.2.1 d  (k H locs ls hP hS hl)
theorem r_iand {X : CX} {own : String} {cc : ByteArray} {nL fr lo : Nat} {σ : St} {pc q : Nat} {lv : List (Nat × Value)} {st : List Value} (C : Cok X own cc nL fr lo) {x y : Int32} (d : decode cc pc = .ok (.iand, 1))  (hq : pc + 1 = q) (k : V X σ q lv (.int (x &&& y) :: st)) : V X σ pc lv (.int y :: .int x :: st) := by
  subst hq
  exact fun H locs ls hP hS hl => lv_iand C.1 C.2.1 d  (k H locs ls hP hS hl)
theorem r_ior {X : CX} {own : String} {cc : ByteArray} {nL fr lo : Nat} {σ : St} {pc q : Nat} {lv : List (Nat × Value)} {st : List Value} (C : Cok X own cc nL fr lo) {x y : Int32} (d : decode cc pc = .ok (.ior, 1))  (hq : pc + 1 = q) (k : V X σ q lv (.int (x ||| y) :: st)) : V X σ pc lv (.int y :: .int x :: st) := by
  subst hq
  exact fun H locs ls hP hS hl => lv_ior C.1 C.2.1 d  (k H locs ls hP hS hl)
theorem r_ixor {X : CX} {own : String} {cc : ByteArray} {nL fr lo : Nat} {σ : St} {pc q : Nat} {lv : List (Nat × Value)} {st : List Value} (C : Cok X own cc nL fr lo) {x y : Int32} (d : decode cc pc = .ok (.ixor, 1))  (hq : pc + 1 = q) (k : V X σ q lv (.int (x ^^^ y) :: st)) : V X σ pc lv (.int y :: .int x :: st) := by
  subst hq
  exact fun H locs ls hP hS hl => lv_ixor C.1 C.2.1 d  (k H locs ls hP hS hl)
theorem r_ishl {X : CX} {own : String} {cc : ByteArray} {nL fr lo : Nat} {σ : St} {pc q : Nat} {lv : List (Nat × Value)} {st : List Value} (C : Cok X own cc nL fr lo) {x y : Int32} (d : decode cc pc = .ok (.ishl, 1))  (hq : pc + 1 = q) (k : V X σ q lv (.int (x <<< (y &&& 31)) :: st)) : V X σ pc lv (.int y :: .int x :: st) := by
  subst hq
  exact fun H locs ls hP hS hl => lv_ishl C.1 C.2.1 d  (k H locs ls hP hS hl)
theorem r_ishr {X : CX} {own : String} {cc : ByteArray} {nL fr lo : Nat} {σ : St} {pc q : Nat} {lv : List (Nat × Value)} {st : List Value} (C : Cok X own cc nL fr lo) {x y : Int32} (d : decode cc pc = .ok (.ishr, 1))  (hq : pc + 1 = q) (k : V X σ q lv (.int (x >>> (y &&& 31)) :: st)) : V X σ pc lv (.int y :: .int x :: st) := by
  subst hq
  exact fun H locs ls hP hS hl => lv_ishr C.1 C.2.1 d  (k H locs ls hP hS hl)
theorem r_iushr {X : CX} {own : String} {cc : ByteArray} {nL fr lo : Nat} {σ : St} {pc q : Nat} {lv : List (Nat × Value)} {st : List Value} (C : Cok X own cc nL fr lo) {x y : Int32} (d : decode cc pc = .ok (.iushr, 1))  (hq : pc + 1 = q) (k : V X σ q lv (.int ((x.toUInt32 >>> (y.toUInt32 &&& Int32.toUInt32 31)).toInt32) :: st)) : V X σ pc lv (.int y :: .int x :: st) := by
  subst hq
  exact fun H locs ls hP hS hl => lv_iushr C.1 C.2.1 d rfl (k H locs ls hP hS hl)
theorem r_ineg {X : CX} {own : String} {cc : ByteArray} {nL fr lo : Nat} {σ : St} {pc q : Nat} {lv : List (Nat × Value)} {st : List Value} (C : Cok X own cc nL fr lo) {x : Int32} (d : decode cc pc = .ok (.ineg, 1))  (hq : pc + 1 = q) (k : V X σ q lv (.int (-x) :: st)) : V X σ pc lv (.int x :: st) := by
  subst hq
  exact fun H locs ls hP hS hl => lv_ineg C.1 C.2.1 d  (k H locs ls hP hS hl)
theorem r_ladd {X : CX} {own : String} {cc : ByteArray} {nL fr lo : Nat} {σ : St} {pc q : Nat} {lv : List (Nat × Value)} {st : List Value} (C : Cok X own cc nL fr lo) {x y : Int64} (d : decode cc pc = .ok (.ladd, 1))  (hq : pc + 1 = q) (k : V X σ q lv (.long (x + y) :: st)) : V X σ pc lv (.long y :: .long x :: st) := by
  subst hq
  exact fun H locs ls hP hS hl => lv_ladd C.1 C.2.1 d  (k H locs ls hP hS hl)
theorem r_land {X : CX} {own : String} {cc : ByteArray} {nL fr lo : Nat} {σ : St} {pc q : Nat} {lv : List (Nat × Value)} {st : List Value} (C : Cok X own cc nL fr lo) {x y : Int64} (d : decode cc pc = .ok (.land, 1))  (hq : pc + 1 = q) (k : V X σ q lv (.long (x &&& y) :: st)) : V X σ pc lv (.long y :: .long x :: st) := by
  subst hq
  exact fun H locs ls hP hS hl => lv_land C.1 C.2.1 d  (k H locs ls hP hS hl)
theorem r_lor {X : CX} {own : String} {cc : ByteArray} {nL fr lo : Nat} {σ : St} {pc q : Nat} {lv : List (Nat × Value)} {st : List Value} (C : Cok X own cc nL fr lo) {x y : Int64} (d : decode cc pc = .ok (.lor, 1))  (hq : pc + 1 = q) (k : V X σ q lv (.long (x ||| y) :: st)) : V X σ pc lv (.long y :: .long x :: st) := by
  subst hq
  exact fun H locs ls hP hS hl => lv_lor C.1 C.2.1 d  (k H locs ls hP hS hl)
theorem r_lshl {X : CX} {own : String} {cc : ByteArray} {nL fr lo : Nat} {σ : St} {pc q : Nat} {lv : List (Nat × Value)} {st : List Value} (C : Cok X own cc nL fr lo) {x : Int64} {y : Int32} (d : decode cc pc = .ok (.lshl, 1))  (hq : pc + 1 = q) (k : V X σ q lv (.long (x <<< (y.toInt64 &&& 63)) :: st)) : V X σ pc lv (.int y :: .long x :: st) := by
  subst hq
  exact fun H locs ls hP hS hl => lv_lshl C.1 C.2.1 d rfl (k H locs ls hP hS hl)
theorem r_lcmp {X : CX} {own : String} {cc : ByteArray} {nL fr lo : Nat} {σ : St} {pc q : Nat} {lv : List (Nat × Value)} {st : List Value} (C : Cok X own cc nL fr lo) {x y : Int64} (d : decode cc pc = .ok (.lcmp, 1))  (hq : pc + 1 = q) (k : V X σ q lv (.int (lg_cmp x y) :: st)) : V X σ pc lv (.long y :: .long x :: st) := by
  subst hq
  exact fun H locs ls hP hS hl => W.lcmp C.1 C.2.1 d  (k H locs ls hP hS hl)
theorem r_i2l {X : CX} {own : String} {cc : ByteArray} {nL fr lo : Nat} {σ : St} {pc q : Nat} {lv : List (Nat × Value)} {st : List Value} (C : Cok X own cc nL fr lo) {x : Int32} (d : decode cc pc = .ok (.i2l, 1))  (hq : pc + 1 = q) (k : V X σ q lv (.long x.toInt64 :: st)) : V X σ pc lv (.int x :: st) := by
  subst hq
  exact fun H locs ls hP hS hl => lv_i2l C.1 C.2.1 d rfl (k H locs ls hP hS hl)
theorem r_l2i {X : CX} {own : String} {cc : ByteArray} {nL fr lo : Nat} {σ : St} {pc q : Nat} {lv : List (Nat × Value)} {st : List Value} (C : Cok X own cc nL fr lo) {x : Int64} (d : decode cc pc = .ok (.l2i, 1))  (hq : pc + 1 = q) (k : V X σ q lv (.int x.toInt32 :: st)) : V X σ pc lv (.long x :: st) := by
  subst hq
  exact fun H locs ls hP hS hl => lv_l2i C.1 C.2.1 d rfl (k H locs ls hP hS hl)
theorem r_i2b {X : CX} {own : String} {cc : ByteArray} {nL fr lo : Nat} {σ : St} {pc q : Nat} {lv : List (Nat × Value)} {st : List Value} (C : Cok X own cc nL fr lo) {x : Int32} (d : decode cc pc = .ok (.i2b, 1))  (hq : pc + 1 = q) (k : V X σ q lv (.int x.toInt8.toInt32 :: st)) : V X σ pc lv (.int x :: st) := by
  subst hq
  exact fun H locs ls hP hS hl => lv_i2b C.1 C.2.1 d rfl (k H locs ls hP hS hl)
theorem r_i2s {X : CX} {own : String} {cc : ByteArray} {nL fr lo : Nat} {σ : St} {pc q : Nat} {lv : List (Nat × Value)} {st : List Value} (C : Cok X own cc nL fr lo) {x : Int32} (d : decode cc pc = .ok (.i2s, 1))  (hq : pc + 1 = q) (k : V X σ q lv (.int x.toInt16.toInt32 :: st)) : V X σ pc lv (.int x :: st) := by
  subst hq
  exact fun H locs ls hP hS hl => lv_i2s C.1 C.2.1 d rfl (k H locs ls hP hS hl)
def dvI (x y : Int32) : Option Int32 := if y = 0 then none else some (x / y)
def rmI (x y : Int32) : Option Int32 := if y = 0 then none else some (x - x / y * y)
theorem dvI_s {x y v : Int32} (h : dvI x y = some v) : ¬ y = 0 ∧ x / y = v := by
  unfold dvI at h
  by_cases e : y = 0
  · rw [if_pos e] at h; cases h
  · rw [if_neg e] at h; exact ⟨e, Option.some.inj h⟩
theorem rmI_s {x y v : Int32} (h : rmI x y = some v) : ¬ y = 0 ∧ x - x / y * y = v := by
  unfold rmI at h
  by_cases e : y = 0
  · rw [if_pos e] at h; cases h
  · rw [if_neg e] at h; exact ⟨e, Option.some.inj h⟩
theorem r_idiv {X : CX} {own : String} {cc : ByteArray} {nL fr lo : Nat} {σ : St} {pc q : Nat} {lv : List (Nat × Value)} {st : List Value} (C : Cok X own cc nL fr lo) {x y v : Int32} (d : decode cc pc = .ok (.idiv, 1)) (hv : dvI x y = some v) (hq : pc + 1 = q) (k : V X σ q lv (.int v :: st)) : V X σ pc lv (.int y :: .int x :: st) := by
  subst hq
  obtain ⟨h0, rfl⟩ := dvI_s hv
  exact fun H locs ls hP hS hl => lv_idiv C.1 C.2.1 d h0 (k H locs ls hP hS hl)
theorem r_irem {X : CX} {own : String} {cc : ByteArray} {nL fr lo : Nat} {σ : St} {pc q : Nat} {lv : List (Nat × Value)} {st : List Value} (C : Cok X own cc nL fr lo) {x y v : Int32} (d : decode cc pc = .ok (.irem, 1)) (hv : rmI x y = some v) (hq : pc + 1 = q) (k : V X σ q lv (.int v :: st)) : V X σ pc lv (.int y :: .int x :: st) := by
  subst hq
  obtain ⟨h0, rfl⟩ := rmI_s hv
  exact fun H locs ls hP hS hl => lv_irem C.1 C.2.1 d h0 (k H locs ls hP hS hl)
theorem r_dup {X : CX} {own : String} {cc : ByteArray} {nL fr lo : Nat} {σ : St} {pc q : Nat} {lv : List (Nat × Value)} {st : List Value} (C : Cok X own cc nL fr lo) {a : Value} (d : decode cc pc = .ok (.dup, 1)) (ha : a.category = 1) (hq : pc + 1 = q) (k : V X σ q lv (a :: a :: st)) : V X σ pc lv (a :: st) := by
  subst hq
  exact fun H locs ls hP hS hl => lv_dup C.1 C.2.1 d ha (k H locs ls hP hS hl)
theorem r_pop {X : CX} {own : String} {cc : ByteArray} {nL fr lo : Nat} {σ : St} {pc q : Nat} {lv : List (Nat × Value)} {st : List Value} (C : Cok X own cc nL fr lo) {a : Value} (d : decode cc pc = .ok (.pop, 1)) (ha : a.category = 1) (hq : pc + 1 = q) (k : V X σ q lv (st)) : V X σ pc lv (a :: st) := by
  subst hq
  exact fun H locs ls hP hS hl => lv_pop C.1 C.2.1 d ha (k H locs ls hP hS hl)
theorem r_dup_x1 {X : CX} {own : String} {cc : ByteArray} {nL fr lo : Nat} {σ : St} {pc q : Nat} {lv : List (Nat × Value)} {st : List Value} (C : Cok X own cc nL fr lo) {a b : Value} (d : decode cc pc = .ok (.dup_x1, 1)) (ha : a.category = 1) (hb : b.category = 1) (hq : pc + 1 = q) (k : V X σ q lv (a :: b :: a :: st)) : V X σ pc lv (a :: b :: st) := by
  subst hq
  exact fun H locs ls hP hS hl => lv_dup_x1 C.1 C.2.1 d ha hb (k H locs ls hP hS hl)
theorem r_dup_x2 {X : CX} {own : String} {cc : ByteArray} {nL fr lo : Nat} {σ : St} {pc q : Nat} {lv : List (Nat × Value)} {st : List Value} (C : Cok X own cc nL fr lo) {a b c : Value} (d : decode cc pc = .ok (.dup_x2, 1)) (ha : a.category = 1) (hb : b.category = 1) (hc : c.category = 1) (hq : pc + 1 = q) (k : V X σ q lv (a :: b :: c :: a :: st)) : V X σ pc lv (a :: b :: c :: st) := by
  subst hq
  exact fun H locs ls hP hS hl => lv_dup_x2 C.1 C.2.1 d ha hb hc (k H locs ls hP hS hl)
theorem r_dup2 {X : CX} {own : String} {cc : ByteArray} {nL fr lo : Nat} {σ : St} {pc q : Nat} {lv : List (Nat × Value)} {st : List Value} (C : Cok X own cc nL fr lo) {a b : Value} (d : decode cc pc = .ok (.dup2, 1)) (ha : a.category = 1) (hb : b.category = 1) (hq : pc + 1 = q) (k : V X σ q lv (a :: b :: a :: b :: st)) : V X σ pc lv (a :: b :: st) := by
  subst hq
  exact fun H locs ls hP hS hl => lv_dup2_11 C.1 C.2.1 d ha hb (k H locs ls hP hS hl)
theorem r_if_eq {X : CX} {own : String} {cc : ByteArray} {nL fr lo : Nat} {σ : St} {pc q : Nat} {lv : List (Nat × Value)} {st : List Value} (C : Cok X own cc nL fr lo) {x : Int32} {off : Int} {tgt : Nat} (d : decode cc pc = .ok (.ifCond .eq off, 3)) (ht : (pc : Int) + off = (tgt : Int)) (hq : pc + 3 = q) (kt : x = 0 → V X σ tgt lv st) (kf : ¬ x = 0 → V X σ q lv st) : V X σ pc lv (.int x :: st) := by
  subst hq
  exact fun H locs ls hP hS hl => lv_if_eq C.1 C.2.1 d ht (fun c9 => kt c9 H locs ls hP hS hl) (fun c9 => kf c9 H locs ls hP hS hl)
theorem r_if_ne {X : CX} {own : String} {cc : ByteArray} {nL fr lo : Nat} {σ : St} {pc q : Nat} {lv : List (Nat × Value)} {st : List Value} (C : Cok X own cc nL fr lo) {x : Int32} {off : Int} {tgt : Nat} (d : decode cc pc = .ok (.ifCond .ne off, 3)) (ht : (pc : Int) + off = (tgt : Int)) (hq : pc + 3 = q) (kt : ¬ x = 0 → V X σ tgt lv st) (kf : x = 0 → V X σ q lv st) : V X σ pc lv (.int x :: st) := by
  subst hq
  exact fun H locs ls hP hS hl => lv_if_ne C.1 C.2.1 d ht (fun c9 => kt c9 H locs ls hP hS hl) (fun c9 => kf c9 H locs ls hP hS hl)
theorem r_if_lt {X : CX} {own : String} {cc : ByteArray} {nL fr lo : Nat} {σ : St} {pc q : Nat} {lv : List (Nat × Value)} {st : List Value} (C : Cok X own cc nL fr lo) {x : Int32} {off : Int} {tgt : Nat} (d : decode cc pc = .ok (.ifCond .lt off, 3)) (ht : (pc : Int) + off = (tgt : Int)) (hq : pc + 3 = q) (kt : x < 0 → V X σ tgt lv st) (kf : ¬ x < 0 → V X σ q lv st) : V X σ pc lv (.int x :: st) := by
  subst hq
  exact fun H locs ls hP hS hl => lv_if_lt C.1 C.2.1 d ht (fun c9 => kt c9 H locs ls hP hS hl) (fun c9 => kf c9 H locs ls hP hS hl)
theorem r_if_ge {X : CX} {own : String} {cc : ByteArray} {nL fr lo : Nat} {σ : St} {pc q : Nat} {lv : List (Nat × Value)} {st : List Value} (C : Cok X own cc nL fr lo) {x : Int32} {off : Int} {tgt : Nat} (d : decode cc pc = .ok (.ifCond .ge off, 3)) (ht : (pc : Int) + off = (tgt : Int)) (hq : pc + 3 = q) (kt : 0 ≤ x → V X σ tgt lv st) (kf : ¬ 0 ≤ x → V X σ q lv st) : V X σ pc lv (.int x :: st) := by
  subst hq
  exact fun H locs ls hP hS hl => lv_if_ge C.1 C.2.1 d ht (fun c9 => kt c9 H locs ls hP hS hl) (fun c9 => kf c9 H locs ls hP hS hl)
theorem r_if_gt {X : CX} {own : String} {cc : ByteArray} {nL fr lo : Nat} {σ : St} {pc q : Nat} {lv : List (Nat × Value)} {st : List Value} (C : Cok X own cc nL fr lo) {x : Int32} {off : Int} {tgt : Nat} (d : decode cc pc = .ok (.ifCond .gt off, 3)) (ht : (pc : Int) + off = (tgt : Int)) (hq : pc + 3 = q) (kt : 0 < x → V X σ tgt lv st) (kf : ¬ 0 < x → V X σ q lv st) : V X σ pc lv (.int x :: st) := by
  subst hq
  exact fun H locs ls hP hS hl => lv_if_gt C.1 C.2.1 d ht (fun c9 => kt c9 H locs ls hP hS hl) (fun c9 => kf c9 H locs ls hP hS hl)
theorem r_if_le {X : CX} {own : String} {cc : ByteArray} {nL fr lo : Nat} {σ : St} {pc q : Nat} {lv : List (Nat × Value)} {st : List Value} (C : Cok X own cc nL fr lo) {x : Int32} {off : Int} {tgt : Nat} (d : decode cc pc = .ok (.ifCond .le off, 3)) (ht : (pc : Int) + off = (tgt : Int)) (hq : pc + 3 = q) (kt : x ≤ 0 → V X σ tgt lv st) (kf : ¬ x ≤ 0 → V X σ q lv st) : V X σ pc lv (.int x :: st) := by
  subst hq
  exact fun H locs ls hP hS hl => lv_if_le C.1 C.2.1 d ht (fun c9 => kt c9 H locs ls hP hS hl) (fun c9 => kf c9 H locs ls hP hS hl)
theorem r_icmp_eq {X : CX} {own : String} {cc : ByteArray} {nL fr lo : Nat} {σ : St} {pc q : Nat} {lv : List (Nat × Value)} {st : List Value} (C : Cok X own cc nL fr lo) {x y : Int32} {off : Int} {tgt : Nat} (d : decode cc pc = .ok (.if_icmp .eq off, 3)) (ht : (pc : Int) + off = (tgt : Int)) (hq : pc + 3 = q) (kt : x = y → V X σ tgt lv st) (kf : ¬ x = y → V X σ q lv st) : V X σ pc lv (.int y :: .int x :: st) := by
  subst hq
  exact fun H locs ls hP hS hl => lv_icmp_eq C.1 C.2.1 d ht (fun c9 => kt c9 H locs ls hP hS hl) (fun c9 => kf c9 H locs ls hP hS hl)
theorem r_icmp_ne {X : CX} {own : String} {cc : ByteArray} {nL fr lo : Nat} {σ : St} {pc q : Nat} {lv : List (Nat × Value)} {st : List Value} (C : Cok X own cc nL fr lo) {x y : Int32} {off : Int} {tgt : Nat} (d : decode cc pc = .ok (.if_icmp .ne off, 3)) (ht : (pc : Int) + off = (tgt : Int)) (hq : pc + 3 = q) (kt : ¬ x = y → V X σ tgt lv st) (kf : x = y → V X σ q lv st) : V X σ pc lv (.int y :: .int x :: st) := by
  subst hq
  exact fun H locs ls hP hS hl => lv_icmp_ne C.1 C.2.1 d ht (fun c9 => kt c9 H locs ls hP hS hl) (fun c9 => kf c9 H locs ls hP hS hl)
theorem r_icmp_lt {X : CX} {own : String} {cc : ByteArray} {nL fr lo : Nat} {σ : St} {pc q : Nat} {lv : List (Nat × Value)} {st : List Value} (C : Cok X own cc nL fr lo) {x y : Int32} {off : Int} {tgt : Nat} (d : decode cc pc = .ok (.if_icmp .lt off, 3)) (ht : (pc : Int) + off = (tgt : Int)) (hq : pc + 3 = q) (kt : x < y → V X σ tgt lv st) (kf : ¬ x < y → V X σ q lv st) : V X σ pc lv (.int y :: .int x :: st) := by
  subst hq
  exact fun H locs ls hP hS hl => lv_icmp_lt C.1 C.2.1 d ht (fun c9 => kt c9 H locs ls hP hS hl) (fun c9 => kf c9 H locs ls hP hS hl)
theorem r_icmp_ge {X : CX} {own : String} {cc : ByteArray} {nL fr lo : Nat} {σ : St} {pc q : Nat} {lv : List (Nat × Value)} {st : List Value} (C : Cok X own cc nL fr lo) {x y : Int32} {off : Int} {tgt : Nat} (d : decode cc pc = .ok (.if_icmp .ge off, 3)) (ht : (pc : Int) + off = (tgt : Int)) (hq : pc + 3 = q) (kt : y ≤ x → V X σ tgt lv st) (kf : ¬ y ≤ x → V X σ q lv st) : V X σ pc lv (.int y :: .int x :: st) := by
  subst hq
  exact fun H locs ls hP hS hl => lv_icmp_ge C.1 C.2.1 d ht (fun c9 => kt c9 H locs ls hP hS hl) (fun c9 => kf c9 H locs ls hP hS hl)
theorem r_icmp_gt {X : CX} {own : String} {cc : ByteArray} {nL fr lo : Nat} {σ : St} {pc q : Nat} {lv : List (Nat × Value)} {st : List Value} (C : Cok X own cc nL fr lo) {x y : Int32} {off : Int} {tgt : Nat} (d : decode cc pc = .ok (.if_icmp .gt off, 3)) (ht : (pc : Int) + off = (tgt : Int)) (hq : pc + 3 = q) (kt : y < x → V X σ tgt lv st) (kf : ¬ y < x → V X σ q lv st) : V X σ pc lv (.int y :: .int x :: st) := by
  subst hq
  exact fun H locs ls hP hS hl => lv_icmp_gt C.1 C.2.1 d ht (fun c9 => kt c9 H locs ls hP hS hl) (fun c9 => kf c9 H locs ls hP hS hl)
theorem r_icmp_le {X : CX} {own : String} {cc : ByteArray} {nL fr lo : Nat} {σ : St} {pc q : Nat} {lv : List (Nat × Value)} {st : List Value} (C : Cok X own cc nL fr lo) {x y : Int32} {off : Int} {tgt : Nat} (d : decode cc pc = .ok (.if_icmp .le off, 3)) (ht : (pc : Int) + off = (tgt : Int)) (hq : pc + 3 = q) (kt : x ≤ y → V X σ tgt lv st) (kf : ¬ x ≤ y → V X σ q lv st) : V X σ pc lv (.int y :: .int x :: st) := by
  subst hq
  exact fun H locs ls hP hS hl => lv_icmp_le C.1 C.2.1 d ht (fun c9 => kt c9 H locs ls hP hS hl) (fun c9 => kf c9 H locs ls hP hS hl)
theorem r_goto {X : CX} {own : String} {cc : ByteArray} {nL fr lo : Nat} {σ : St} {pc : Nat} {lv : List (Nat × Value)} {st : List Value} (C : Cok X own cc nL fr lo) {off : Int} {tgt : Nat} (d : decode cc pc = .ok (.goto off, 3)) (ht : (pc : Int) + off = (tgt : Int)) (k : V X σ tgt lv st) : V X σ pc lv st :=
  fun H locs ls hP hS hl => lv_goto C.1 C.2.1 d ht (k H locs ls hP hS hl)
theorem r_tabOut {X : CX} {own : String} {cc : ByteArray} {nL fr lo : Nat} {σ : St} {pc : Nat} {lv : List (Nat × Value)} {st : List Value} (C : Cok X own cc nL fr lo) {dflt lo' hi : Int} {offs : Array Int} {len : Nat} {x : Int32} {tgt : Nat} (d : decode cc pc = .ok (.tableswitch dflt lo' hi offs, len)) (h : x.toInt < lo' ∨ hi < x.toInt) (ht : (pc : Int) + dflt = (tgt : Int)) (k : V X σ tgt lv st) : V X σ pc lv (.int x :: st) :=
  fun H locs ls hP hS hl => lv_tableOut C.1 C.2.1 d h ht (k H locs ls hP hS hl)
theorem r_tabIn {X : CX} {own : String} {cc : ByteArray} {nL fr lo : Nat} {σ : St} {pc : Nat} {lv : List (Nat × Value)} {st : List Value} (C : Cok X own cc nL fr lo) {dflt lo' hi : Int} {offs : Array Int} {len : Nat} {x : Int32} {off : Int} {tgt : Nat} (d : decode cc pc = .ok (.tableswitch dflt lo' hi offs, len)) (h1 : ¬ x.toInt < lo') (h2 : ¬ hi < x.toInt) (ho : offs[(x.toInt - lo').toNat]? = some off) (ht : (pc : Int) + off = (tgt : Int)) (k : V X σ tgt lv st) : V X σ pc lv (.int x :: st) :=
  fun H locs ls hP hS hl => lv_tableIn C.1 C.2.1 d h1 h2 ho ht (k H locs ls hP hS hl)
theorem r_lookup {X : CX} {own : String} {cc : ByteArray} {nL fr lo : Nat} {σ : St} {pc : Nat} {lv : List (Nat × Value)} {st : List Value} (C : Cok X own cc nL fr lo) {dflt : Int} {ps : Array (Int × Int)} {len : Nat} {x : Int32} {off : Int} {tgt : Nat} (d : decode cc pc = .ok (.lookupswitch dflt ps, len)) (hp : (ps.toList.zip (ps.toList.drop 1)).all (fun (a, next) => a.1 < next.1) = true) (ho : Op.lookupswitch.offset ps.toList dflt x.toInt = off) (ht : (pc : Int) + off = (tgt : Int)) (k : V X σ tgt lv st) : V X σ pc lv (.int x :: st) :=
  fun H locs ls hP hS hl => lv_lookup C.1 C.2.1 d hp ho ht (k H locs ls hP hS hl)
/-! the heap's rows -/
theorem bs {α β : Type} {o : Option α} {f : α → Option β} {r : β} (h : o.bind f = some r) : ∃ v, o = some v ∧ f v = some r := by
  cases o with
  | none => cases h
  | some v => exact ⟨v, rfl, h⟩
def ldI (σ : St) (a : Nat) (i : Int32) : Option Int32 := if i < 0 ∨ ln a ≤ i.toNatClampNeg then none else some (σ.1 a i.toNatClampNeg)
def ldJ (σ : St) (a : Nat) (i : Int32) : Option Int64 := if i < 0 ∨ ln a ≤ i.toNatClampNeg then none else some (σ.2 a i.toNatClampNeg)
def stI (σ : St) (a : Nat) (i : Int32) (v : Int32) : Option St := if i < 0 ∨ ln a ≤ i.toNatClampNeg then none else some (setI σ a i.toNatClampNeg v)
def stJ (σ : St) (a : Nat) (i : Int32) (v : Int64) : Option St := if i < 0 ∨ ln a ≤ i.toNatClampNeg then none else some (setJ σ a i.toNatClampNeg v)
def ldK (a : Nat) (i : Int32) : Option Nat := if i < 0 ∨ ln a ≤ i.toNatClampNeg then none else some (a + 3 + 2 * i.toNatClampNeg)
def ldS (a : Nat) (i : Int32) : Option Nat := if i < 0 ∨ ln a ≤ i.toNatClampNeg then none else some (21 + 2 * i.toNatClampNeg)
def ldR (a : Nat) (i : Int32) : Option Nat := if i < 0 ∨ ln a ≤ i.toNatClampNeg then none else some (12 + i.toNatClampNeg)
theorem grd {α : Type} {c : Prop} [Decidable c] {x y : α} (h : (if c then none else some x) = some y) : ¬ c ∧ x = y := by
  by_cases e : c
  · rw [if_pos e] at h; cases h
  · rw [if_neg e] at h; exact ⟨e, Option.some.inj h⟩
theorem wsI {G : Gm} {σ : St} {a : Nat} (h : kd a = 8) : (wsOf G σ)[a]? = some (G.1 a, .inl (G.2.2.1 0, (ln a, .inl (σ.1 a)))) := by rw [wsOf_get (kd_lt h), ent_k h]; rfl
theorem wsJ {G : Gm} {σ : St} {a : Nat} (h : kd a = 9) : (wsOf G σ)[a]? = some (G.1 a, .inl (G.2.2.1 1, (ln a, .inr (.inl (σ.2 a))))) := by rw [wsOf_get (kd_lt h), ent_k h]; rfl
theorem wsK {G : Gm} {σ : St} {a : Nat} (h : kd a = 10) : (wsOf G σ)[a]? = some (G.1 a, .inl (G.2.2.1 2, (ln a, .inr (.inr (.inr (.inr (fun j => some (G.1 (a + 3 + 2 * j)))))))))  := by rw [wsOf_get (kd_lt h), ent_k h]; rfl
theorem wsS' {G : Gm} {σ : St} {a : Nat} (h : kd a = 11) : (wsOf G σ)[a]? = some (G.1 a, .inl (G.2.2.1 3, (ln a, .inr (.inr (.inr (.inr (fun j => some (G.1 (21 + 2 * j))))))))) := by rw [wsOf_get (kd_lt h), ent_k h]; rfl
theorem wsR {G : Gm} {σ : St} {a : Nat} (h : kd a = 12) : (wsOf G σ)[a]? = some (G.1 a, .inl (G.2.2.1 4, (ln a, .inr (.inr (.inr (.inr (fun j => some (G.1 (12 + j))))))))) := by rw [wsOf_get (kd_lt h), ent_k h]; rfl
section HR
variable {X : CX} {own : String} {cc : ByteArray} {nL fr lo : Nat} {σ : St} {pc q : Nat} {lv : List (Nat × Value)} {st : List Value}
theorem r_iald (C : Cok X own cc nL fr lo) {a : Nat} {i v : Int32} (d : decode cc pc = .ok (.iaload, 1)) (hk : kd a = 8) (hv : ldI σ a i = some v) (hq : pc + 1 = q) (k : V X σ q lv (.int v :: st)) : V X σ pc lv (.int i :: .ref ((xG X).1 a) :: st) := by
  subst hq
  obtain ⟨h, rfl⟩ := grd hv
  exact fun H locs ls hP hS hl => va_iald C.1 C.2.1 C.2.2.2.2.2.2.1 hP a 0 (wsI hk) rfl h d (k H locs ls hP hS hl)
theorem r_lald (C : Cok X own cc nL fr lo) {a : Nat} {i : Int32} {v : Int64} (d : decode cc pc = .ok (.laload, 1)) (hk : kd a = 9) (hv : ldJ σ a i = some v) (hq : pc + 1 = q) (k : V X σ q lv (.long v :: st)) : V X σ pc lv (.int i :: .ref ((xG X).1 a) :: st) := by
  subst hq
  obtain ⟨h, rfl⟩ := grd hv
  exact fun H locs ls hP hS hl => va_lald C.1 C.2.1 C.2.2.2.2.2.2.1 hP a 1 (wsJ hk) rfl h d (k H locs ls hP hS hl)
theorem r_aaldK (C : Cok X own cc nL fr lo) {a r : Nat} {i : Int32} (d : decode cc pc = .ok (.aaload, 1)) (hk : kd a = 10) (hv : ldK a i = some r) (hq : pc + 1 = q) (k : V X σ q lv (.ref ((xG X).1 r) :: st)) : V X σ pc lv (.int i :: .ref ((xG X).1 a) :: st) := by
  subst hq
  obtain ⟨h, rfl⟩ := grd hv
  exact fun H locs ls hP hS hl => va_aldq C.1 C.2.1 C.2.2.2.2.2.2.1 hP a 2 (wsK hk) rfl h d (k H locs ls hP hS hl)
theorem r_aaldS (C : Cok X own cc nL fr lo) {a r : Nat} {i : Int32} (d : decode cc pc = .ok (.aaload, 1)) (hk : kd a = 11) (hv : ldS a i = some r) (hq : pc + 1 = q) (k : V X σ q lv (.ref ((xG X).1 r) :: st)) : V X σ pc lv (.int i :: .ref ((xG X).1 a) :: st) := by
  subst hq
  obtain ⟨h, rfl⟩ := grd hv
  exact fun H locs ls hP hS hl => va_aldq C.1 C.2.1 C.2.2.2.2.2.2.1 hP a 3 (wsS' hk) rfl h d (k H locs ls hP hS hl)
theorem r_aaldR (C : Cok X own cc nL fr lo) {a r : Nat} {i : Int32} (d : decode cc pc = .ok (.aaload, 1)) (hk : kd a = 12) (hv : ldR a i = some r) (hq : pc + 1 = q) (k : V X σ q lv (.ref ((xG X).1 r) :: st)) : V X σ pc lv (.int i :: .ref ((xG X).1 a) :: st) := by
  subst hq
  obtain ⟨h, rfl⟩ := grd hv
  intro H locs ls hP hS hl
  have hlt : i.toNatClampNeg < ln a := Nat.not_le.mp fun q => h (Or.inr q)
  exact W.aald (v := .ref ((xG X).1 (12 + i.toNatClampNeg))) (ty := .array .int) C.1 C.2.1 (hP a _ (wsR hk)) ((C.2.2.2.2.2.2.1.2 4 _ rfl).1 (ln a) (fun j => va_rf (some ((xG X).1 (12 + j))))) rfl (fun q => by cases q) (by show ¬ (i < 0 ∨ (arrV _ _ _).slots.size ≤ _); rw [arrV_size]; exact h) (by show (arrV _ _ _).slots[_]? = _; rw [arrV_read _ _ hlt]; rfl) rfl rfl d (k H locs ls hP hS hl)
theorem r_iast (C : Cok X own cc nL fr lo) {a : Nat} {i v : Int32} {σ1 : St} (d : decode cc pc = .ok (.iastore, 1)) (hk : kd a = 8) (hv : stI σ a i v = some σ1) (hq : pc + 1 = q) (k : V X σ1 q lv st) : V X σ pc lv (.int v :: .int i :: .ref ((xG X).1 a) :: st) := by
  subst hq
  obtain ⟨h, rfl⟩ := grd hv
  refine fun H locs ls hP hS hl => va_iast C.1 C.2.1 C.2.2.2.2.2.2.1 hP (gD C.2.2.2.2.2.2.2.1 σ) hS a 0 (wsI hk) rfl h d (fun H1 locs1 hP1 hD1 hS1 => k H1 locs1 ls ?_ hS1 hl)
  rw [wsOf_set (σ' := setI σ a i.toNatClampNeg v) (kd_lt hk) (by rw [ent_k hk]; simp [entK, setI]) (fun b hb => setI_o hb)] at hP1
  exact hP1
theorem r_last (C : Cok X own cc nL fr lo) {a : Nat} {i : Int32} {v : Int64} {σ1 : St} (d : decode cc pc = .ok (.lastore, 1)) (hk : kd a = 9) (hv : stJ σ a i v = some σ1) (hq : pc + 1 = q) (k : V X σ1 q lv st) : V X σ pc lv (.long v :: .int i :: .ref ((xG X).1 a) :: st) := by
  subst hq
  obtain ⟨h, rfl⟩ := grd hv
  refine fun H locs ls hP hS hl => va_last C.1 C.2.1 C.2.2.2.2.2.2.1 hP (gD C.2.2.2.2.2.2.2.1 σ) hS a 1 (wsJ hk) rfl h d (fun H1 locs1 hP1 hD1 hS1 => k H1 locs1 ls ?_ hS1 hl)
  rw [wsOf_set (σ' := setJ σ a i.toNatClampNeg v) (kd_lt hk) (by rw [ent_k hk]; simp [entK, setJ]) (fun b hb => setJ_o hb)] at hP1
  exact hP1
theorem r_alen8 (C : Cok X own cc nL fr lo) {a : Nat} (d : decode cc pc = .ok (.arraylength, 1)) (hk : kd a = 8) (hq : pc + 1 = q) (k : V X σ q lv (.int (nI (ln a)) :: st)) : V X σ pc lv (.ref ((xG X).1 a) :: st) := by
  subst hq
  exact fun H locs ls hP hS hl => va_alen C.1 C.2.1 C.2.2.2.2.2.2.1 hP a 0 (wsI hk) rfl rfl d (k H locs ls hP hS hl)
theorem r_alen9 (C : Cok X own cc nL fr lo) {a : Nat} (d : decode cc pc = .ok (.arraylength, 1)) (hk : kd a = 9) (hq : pc + 1 = q) (k : V X σ q lv (.int (nI (ln a)) :: st)) : V X σ pc lv (.ref ((xG X).1 a) :: st) := by
  subst hq
  exact fun H locs ls hP hS hl => va_alen C.1 C.2.1 C.2.2.2.2.2.2.1 hP a 1 (wsJ hk) rfl rfl d (k H locs ls hP hS hl)
theorem r_alen10 (C : Cok X own cc nL fr lo) {a : Nat} (d : decode cc pc = .ok (.arraylength, 1)) (hk : kd a = 10) (hq : pc + 1 = q) (k : V X σ q lv (.int (nI (ln a)) :: st)) : V X σ pc lv (.ref ((xG X).1 a) :: st) := by
  subst hq
  exact fun H locs ls hP hS hl => va_alen C.1 C.2.1 C.2.2.2.2.2.2.1 hP a 2 (wsK hk) rfl rfl d (k H locs ls hP hS hl)
theorem r_alen11 (C : Cok X own cc nL fr lo) {a : Nat} (d : decode cc pc = .ok (.arraylength, 1)) (hk : kd a = 11) (hq : pc + 1 = q) (k : V X σ q lv (.int (nI (ln a)) :: st)) : V X σ pc lv (.ref ((xG X).1 a) :: st) := by
  subst hq
  exact fun H locs ls hP hS hl => va_alen C.1 C.2.1 C.2.2.2.2.2.2.1 hP a 3 (wsS' hk) rfl rfl d (k H locs ls hP hS hl)
theorem r_alen12 (C : Cok X own cc nL fr lo) {a : Nat} (d : decode cc pc = .ok (.arraylength, 1)) (hk : kd a = 12) (hq : pc + 1 = q) (k : V X σ q lv (.int (nI (ln a)) :: st)) : V X σ pc lv (.ref ((xG X).1 a) :: st) := by
  subst hq
  exact fun H locs ls hP hS hl => va_alen C.1 C.2.1 C.2.2.2.2.2.2.1 hP a 4 (wsR hk) rfl rfl d (k H locs ls hP hS hl)
/-! System.arraycopy, ints and longs -/
def cpI (σ : St) (a : Nat) (sp : Int32) (b : Nat) (dp n : Int32) : Option St := if sp < 0 ∨ dp < 0 ∨ n < 0 ∨ ln a < sp.toNatClampNeg + n.toNatClampNeg ∨ ln b < dp.toNatClampNeg + n.toNatClampNeg then none else some (setA σ b (va_cpy (σ.1 a) (σ.1 b) sp.toNatClampNeg dp.toNatClampNeg n.toNatClampNeg))
def cpJ (σ : St) (a : Nat) (sp : Int32) (b : Nat) (dp n : Int32) : Option St := if sp < 0 ∨ dp < 0 ∨ n < 0 ∨ ln a < sp.toNatClampNeg + n.toNatClampNeg ∨ ln b < dp.toNatClampNeg + n.toNatClampNeg then none else some (setAJ σ b (va_cpy (σ.2 a) (σ.2 b) sp.toNatClampNeg dp.toNatClampNeg n.toNatClampNeg))
theorem r_copyI (C : Cok X own cc nL fr lo) {idx a b : Nat} {sp dp n : Int32} {σ1 : St} (d : decode cc pc = .ok (.invokestatic idx, 3)) (hl0 : Cond.methodLink own idx arraycopyName ∈ TB) (hw : Cond.native arraycopyName ∈ TB ∧ Cond.static arraycopyName ∈ TB ∧ Cond.initialized "java/lang/System" ∈ TB) (ha : kd a = 8) (hb : kd b = 8) (hv : cpI σ a sp b dp n = some σ1) (hR : 1 ≤ fr ∧ (st.map fun v => v.category).sum + (nativeFrameWords "java/lang/System" "arraycopy" 5 + 11) ≤ lo) (hq : pc + 3 = q) (k : V X σ1 q lv st) : V X σ pc lv (.int n :: .int dp :: .ref ((xG X).1 b) :: .int sp :: .ref ((xG X).1 a) :: st) := by
  subst hq
  obtain ⟨h, rfl⟩ := grd hv
  have hw1 := C.2.2.2.2.2.1
  have hfr := C.2.2.2.2.2.2.2.2.2.1
  have hlo := C.2.2.2.2.2.2.2.2.2.2.1
  refine fun H locs ls hP hS hl => va_copyi C.1 C.2.1 (by rw [hl.1]; exact C.2.2.1.trans C.2.2.2.1.symm) C.2.2.2.2.1 (hw1 _ hl0) (hw1 _ hw.1) (hw1 _ hw.2.1) (hw1 _ hw.2.2) C.2.2.2.2.2.2.1 hP (gD C.2.2.2.2.2.2.2.1 σ) hS a b 0 0 (wsI ha) (wsI hb) rfl rfl rfl (fun z => h (Or.inl z)) (fun z => h (Or.inr (Or.inl z))) (fun z => h (Or.inr (Or.inr (Or.inl z)))) (Nat.not_lt.mp fun z => h (Or.inr (Or.inr (Or.inr (Or.inl z))))) (Nat.not_lt.mp fun z => h (Or.inr (Or.inr (Or.inr (Or.inr z))))) (fun i hi => rfl) (by rw [hfr]; exact hR.1) (by rw [hlo]; exact hR.2) d (fun H1 locs1 hP1 hD1 hS1 => k H1 locs1 ls ?_ hS1 hl)
  rw [wsOf_set (σ' := setA σ b (va_cpy (σ.1 a) (σ.1 b) sp.toNatClampNeg dp.toNatClampNeg n.toNatClampNeg)) (kd_lt hb) (by rw [ent_k hb]; simp [entK, setA]) (fun b hb => setA_o hb)] at hP1
  exact hP1
theorem r_copyJ (C : Cok X own cc nL fr lo) {idx a b : Nat} {sp dp n : Int32} {σ1 : St} (d : decode cc pc = .ok (.invokestatic idx, 3)) (hl0 : Cond.methodLink own idx arraycopyName ∈ TB) (hw : Cond.native arraycopyName ∈ TB ∧ Cond.static arraycopyName ∈ TB ∧ Cond.initialized "java/lang/System" ∈ TB) (ha : kd a = 9) (hb : kd b = 9) (hv : cpJ σ a sp b dp n = some σ1) (hR : 1 ≤ fr ∧ (st.map fun v => v.category).sum + (nativeFrameWords "java/lang/System" "arraycopy" 5 + 11) ≤ lo) (hq : pc + 3 = q) (k : V X σ1 q lv st) : V X σ pc lv (.int n :: .int dp :: .ref ((xG X).1 b) :: .int sp :: .ref ((xG X).1 a) :: st) := by
  subst hq
  obtain ⟨h, rfl⟩ := grd hv
  have hw1 := C.2.2.2.2.2.1
  have hfr := C.2.2.2.2.2.2.2.2.2.1
  have hlo := C.2.2.2.2.2.2.2.2.2.2.1
  refine fun H locs ls hP hS hl => va_copyl C.1 C.2.1 (by rw [hl.1]; exact C.2.2.1.trans C.2.2.2.1.symm) C.2.2.2.2.1 (hw1 _ hl0) (hw1 _ hw.1) (hw1 _ hw.2.1) (hw1 _ hw.2.2) C.2.2.2.2.2.2.1 hP (gD C.2.2.2.2.2.2.2.1 σ) hS a b 1 1 (wsJ ha) (wsJ hb) rfl rfl rfl (fun z => h (Or.inl z)) (fun z => h (Or.inr (Or.inl z))) (fun z => h (Or.inr (Or.inr (Or.inl z)))) (Nat.not_lt.mp fun z => h (Or.inr (Or.inr (Or.inr (Or.inl z))))) (Nat.not_lt.mp fun z => h (Or.inr (Or.inr (Or.inr (Or.inr z))))) (fun i hi => rfl) (by rw [hfr]; exact hR.1) (by rw [hlo]; exact hR.2) d (fun H1 locs1 hP1 hD1 hS1 => k H1 locs1 ls ?_ hS1 hl)
  rw [wsOf_set (σ' := setAJ σ b (va_cpy (σ.2 a) (σ.2 b) sp.toNatClampNeg dp.toNatClampNeg n.toNatClampNeg)) (kd_lt hb) (by rw [ent_k hb]; simp [entK, setAJ]) (fun b hb => setAJ_o hb)] at hP1
  exact hP1
def mxI (x y : Int32) : Int32 := if x < y then y else x
def mnI (x y : Int32) : Int32 := if y < x then y else x
theorem r_max (C : Cok X own cc nL fr lo) {idx : Nat} {x y : Int32} (d : decode cc pc = .ok (.invokestatic idx, 3)) (hl0 : Cond.methodLink own idx Lib.Math.max.name ∈ TB) (hw : Cond.static Lib.Math.max.name ∈ TB ∧ Cond.initialized "java/lang/Math" ∈ TB ∧ Cond.code Lib.Math.max.name Lib.Math.max.code 2 (some .int) ∈ TB) (hR : 1 ≤ fr ∧ (st.map fun v => v.category).sum + 13 ≤ lo) (hq : pc + 3 = q) (k : V X σ q lv (.int (mxI x y) :: st)) : V X σ pc lv (.int y :: .int x :: st) := by
  subst hq
  have hw1 := C.2.2.2.2.2.1
  have hfr := C.2.2.2.2.2.2.2.2.2.1
  have hlo := C.2.2.2.2.2.2.2.2.2.2.1
  exact fun H locs ls hP hS hl => va_mmax C.1 C.2.1 (by rw [hl.1]; exact C.2.2.1.trans C.2.2.2.1.symm) C.2.2.2.2.1 (hw1 _ hl0) (hw1 _ hw.1) (hw1 _ hw.2.1) (hw1 _ hw.2.2) (by rw [hfr]; exact hR.1) (by rw [hlo]; exact hR.2) C.2.2.2.2.2.2.2.2.2.2.2.1 C.2.2.2.2.2.2.2.2.2.2.2.2 d (k H locs ls hP hS hl)
theorem r_min (C : Cok X own cc nL fr lo) {idx : Nat} {x y : Int32} (d : decode cc pc = .ok (.invokestatic idx, 3)) (hl0 : Cond.methodLink own idx Lib.Math.min.name ∈ TB) (hw : Cond.static Lib.Math.min.name ∈ TB ∧ Cond.initialized "java/lang/Math" ∈ TB ∧ Cond.code Lib.Math.min.name Lib.Math.min.code 2 (some .int) ∈ TB) (hR : 1 ≤ fr ∧ (st.map fun v => v.category).sum + 13 ≤ lo) (hq : pc + 3 = q) (k : V X σ q lv (.int (mnI x y) :: st)) : V X σ pc lv (.int y :: .int x :: st) := by
  subst hq
  have hw1 := C.2.2.2.2.2.1
  have hfr := C.2.2.2.2.2.2.2.2.2.1
  have hlo := C.2.2.2.2.2.2.2.2.2.2.1
  exact fun H locs ls hP hS hl => va_mmin C.1 C.2.1 (by rw [hl.1]; exact C.2.2.1.trans C.2.2.2.1.symm) C.2.2.2.2.1 (hw1 _ hl0) (hw1 _ hw.1) (hw1 _ hw.2.1) (hw1 _ hw.2.2) (by rw [hfr]; exact hR.1) (by rw [hlo]; exact hR.2) C.2.2.2.2.2.2.2.2.2.2.2.1 C.2.2.2.2.2.2.2.2.2.2.2.2 d (k H locs ls hP hS hl)
/-! fields -/
theorem r_get (C : Cok X own cc nL fr lo) {ci fk N a idx : Nat} {Cn : String} {T : u_T} {fs : List Value} {v : Value} (hc : vwCl[ci]? = some (Cn, T, N)) (hin : ∀ w ∈ u_ws Cn T N, w ∈ TB) (hself : (T fk).1 = Cn) (hk : fk < N) (hkd : kd a = ci + 1) (he : entK (xG X) σ a (ci + 1) = .inr (ci, fs)) (hv : fs[fk]? = some v) (hw : Cond.fieldLink own idx Cn (T fk).2.1 (T fk).2.2.1 ∈ TB) (d : decode cc pc = .ok (.getfield idx, 3)) (hq : pc + 3 = q) (k : V X σ q lv (v :: st)) : V X σ pc lv (.ref ((xG X).1 a) :: st) := by
  subst hq
  have hw1 := C.2.2.2.2.2.1
  exact fun H locs ls hP hS hl => va_get (ref := Cn) (T := T) (ci := ci) C.1 C.2.1 hw1 hin C.2.2.2.2.1 C.2.2.2.2.2.2.1 hP a (by rw [wsOf_get (kd_lt hkd), ent_k hkd, he]) hc fk hk (hw1 _ hw) (by rw [hself]; exact fun _ h => h) hv d (k H locs ls hP hS hl)
theorem r_put (C : Cok X own cc nL fr lo) {ci fk N a idx : Nat} {Cn : String} {T : u_T} {ty0 : Nat → FieldType} {fs : List Value} {v : Value} {σ1 : St} (hc : vwCl[ci]? = some (Cn, T, N)) (hin : ∀ w ∈ u_ws Cn T N, w ∈ TB) (hty : ∀ k, k < N → parseFieldDescriptor (T k).2.2.1 = some (ty0 k)) (hnm : ∀ a, a < N → ∀ b, b < N → a ≠ b → (T a).2.1 ≠ (T b).2.1) (hself : (T fk).1 = Cn) (hk : fk < N) (hkd : kd a = ci + 1) (he : entK (xG X) σ a (ci + 1) = .inr (ci, fs)) (hfin : (T fk).2.2.2 = false) {ty : FieldType} (hd : parseFieldDescriptor (T fk).2.2.1 = some ty) (hn : narrow ty v = v) (hfit : fits ty v = true) (hlen : fk < fs.length) (he1 : entK (xG X) σ1 a (ci + 1) = .inr (ci, fs.set fk v)) (ho : ∀ b, b ≠ a → ent (xG X) σ1 b = ent (xG X) σ b) (hw : Cond.fieldLink own idx Cn (T fk).2.1 (T fk).2.2.1 ∈ TB) (d : decode cc pc = .ok (.putfield idx, 3)) (hq : pc + 3 = q) (k : V X σ1 q lv st) : V X σ pc lv (v :: .ref ((xG X).1 a) :: st) := by
  subst hq
  have hw1 := C.2.2.2.2.2.1
  refine fun H locs ls hP hS hl => va_put (ref := Cn) (T := T) (ci := ci) C.1 C.2.1 hw1 hin ty0 hty hnm C.2.2.2.2.1 C.2.2.2.2.2.2.1 hP (gD C.2.2.2.2.2.2.2.1 σ) hS a (fs := fs) (by rw [wsOf_get (kd_lt hkd), ent_k hkd, he]) hc fk hk (hw1 _ hw) (by rw [hself]; exact fun _ h => h) hfin hd hn hfit hlen d (fun H1 locs1 hP1 hD1 hS1 => k H1 locs1 ls ?_ hS1 hl)
  rw [wsOf_set (σ' := σ1) (kd_lt hkd) (by rw [ent_k hkd]; exact he1) ho] at hP1
  exact hP1
/-! calls -/
theorem r_after {p : Program} {l : Launch} {e : Env} {R : Room} {s : State} {m : MethodId} {args : Array Value} {below : List Frame} {meth : Method} {c : Code} {H : Heap} {locs : List Loc} {cells slots : Nat} {Q : State → Prop} {G : Gm} {v : Option Value} {P : Prop} {σ1 : St} {pc : Nat} {ls : Array Slot} {st0 rest : List Value} {a : Array Value} (hr : va_Run p l e R s m args below meth c H locs cells slots 0 0 (F0 m pc ls st0) rest (Qx G v P σ1 a) (dom G)) (hS : va_S (dom G) s.heap H locs)
    (kk : P → ∀ (H1 : Heap) (locs1 : List Loc), va_P G.2.1 vwCl (wsOf G σ1) H1 → va_S (dom G) s.heap H1 locs1 → W p l e R s m args below meth c H1 locs1 cells slots Q (F0 m (pc + 3) ls (v.toList ++ rest))) : W p l e R s m args below meth c H locs cells slots Q (F0 m pc ls st0) := by
  intro T hT X
  obtain ⟨v', st₀, t, T', L, h0, X', hL, e1, e2, ⟨⟨hv, hp, hb⟩, hz, hk⟩, stp⟩ := hr T hT X
  cases hv
  rw [h0] at hz hk
  obtain ⟨t2, a1, b1⟩ := kk hp T'.heap (locs ++ L) (by rw [e1]; exact hb)
    ⟨Nat.le_trans hS.1 (by rw [e1]; exact hz), fun q h1 h2 => by rw [e1, hk q (Nat.lt_of_lt_of_le h1 hS.1) h2]; exact hS.2.1 q h1 h2, fun q hq => by
      rcases List.mem_append.mp hq with h | h
      · exact hS.2.2 q h
      · exact hL q h⟩ T' rfl X'
  exact ⟨t2, stp t2 a1, b1⟩
/-- what a call needs of its callee -/
def MokV (y : MethodName) (cc2 : ByteArray) (nL2 : Nat) (ret2 : Option FieldType) (n : Nat) : Prop := Cond.instanceMethod y ∈ TB ∧ Cond.selects y.cls y y ∈ TB ∧ Cond.initialized y.cls ∈ TB ∧ Cond.code y cc2 nL2 ret2 ∈ TB ∧ (y.cls ≠ "java/lang/invoke/MethodHandle" ∧ y.cls ≠ "java/lang/invoke/VarHandle" ∧ (parseMethodDescriptor y.desc).map (fun d => d.parameters.length) = some n)
def MokS (y : MethodName) (cc2 : ByteArray) (nL2 : Nat) (ret2 : Option FieldType) (n : Nat) : Prop := Cond.static y ∈ TB ∧ Cond.initialized y.cls ∈ TB ∧ Cond.code y cc2 nL2 ret2 ∈ TB ∧ (y.cls ≠ "java/lang/invoke/MethodHandle" ∧ y.cls ≠ "java/lang/invoke/VarHandle" ∧ (parseMethodDescriptor y.desc).map (fun d => d.parameters.length) = some n)
theorem cok_pre (C : Cok X own cc nL fr lo) {H : Heap} {locs : List Loc} (hP : va_P (xG X).2.1 vwCl (wsOf (xG X) σ) H) (hS : va_S (dom (xG X)) (xs X).heap H locs) {U : State} (hU : U.heap = H) (hW : (xs X).WarmedH U.vm) : Wld (xG X) σ U :=
  ⟨by rw [hU]; exact hP, va_K.moved hW.alike C.2.2.2.2.2.2.1, C.2.2.2.2.2.2.2.1, by rw [hU]; exact C.2.2.2.2.2.2.2.2.1.go hW hS.2.1⟩
theorem r_callV (C : Cok X own cc nL fr lo) {y : MethodName} {cc2 : ByteArray} {nL2 fr2 lo2 n a ci idx N : Nat} {ret2 : Option FieldType} {avs st0 st2 : List Value} {v : Option Value} {P : Prop} {σ1 : St} {T : u_T} (hM : Ctr (xG X) (xl X) y cc2 nL2 ret2 fr2 lo2 (.ref ((xG X).1 a) :: avs) σ v P σ1) (ok : MokV y cc2 nL2 ret2 n) (hkd : kd a = ci + 1) (hci : vwCl[ci]? = some (y.cls, T, N)) (he : ∃ fs, entK (xG X) σ a (ci + 1) = .inr (ci, fs)) (hl0 : Cond.methodLink own idx y ∈ TB) (hn : avs.length = n) (hR : fr2 + 1 ≤ fr ∧ 8 + (nL2 + 11) + lo2 ≤ lo) (hst : st0 = avs.reverse ++ .ref ((xG X).1 a) :: st) (hst2 : v.toList ++ st = st2) (hc8 : (st.map fun v => v.category).sum ≤ 8) (d : decode cc pc = .ok (.invokevirtual idx, 3)) (hq : pc + 3 = q) (k : P → V X σ1 q lv st2) : V X σ pc lv st0 := by
  subst hq
  subst hst2
  have hw1 := C.2.2.2.2.2.1
  obtain ⟨o1, o2, o3, o4, o5⟩ := ok
  intro H locs ls hP hS hl
  obtain ⟨fs, he⟩ := he
  have hrecv := va_recv C.2.2.2.2.2.2.1 hP hci (show (wsOf (xG X) σ)[a]? = some ((xG X).1 a, .inr (ci, fs)) by rw [wsOf_get (kd_lt hkd), ent_k hkd, he])
  refine r_after (va_runV (As := avs) (rest := st) (mc := 0) (ms := 0) ⟨C.1, C.2.1, C.2.2.1.trans C.2.2.2.1.symm, C.2.2.2.2.1, hw1⟩ hM ⟨callB_of n hw1 (tb_in o4) rfl rfl rfl (hw1 _ o3) (hw1 _ hl0) o5 ⟨by rw [C.2.2.2.2.2.2.2.2.2.1]; exact hR.1, by rw [C.2.2.2.2.2.2.2.2.2.2.1]; exact hR.2⟩, hw1 _ o1, hw1 _ o2⟩ ⟨Wld.blind, hrecv, fun U hU hW => ⟨rfl, cok_pre C hP hS hU hW⟩⟩ rfl hn hl.1 hst (lv_room (rest := st0) hc8) d ⟨C.2.2.2.2.2.2.2.2.2.2.2.1, C.2.2.2.2.2.2.2.2.2.2.2.2⟩) hS (fun hp H1 locs1 hP1 hS1 => k hp H1 locs1 ls hP1 hS1 hl)
theorem r_callS (C : Cok X own cc nL fr lo) {y : MethodName} {cc2 : ByteArray} {nL2 fr2 lo2 n idx : Nat} {ret2 : Option FieldType} {avs st0 st2 : List Value} {v : Option Value} {P : Prop} {σ1 : St} (hM : Ctr (xG X) (xl X) y cc2 nL2 ret2 fr2 lo2 avs σ v P σ1) (ok : MokS y cc2 nL2 ret2 n) (hl0 : Cond.methodLink own idx y ∈ TB) (hn : avs.length = n) (hR : fr2 + 1 ≤ fr ∧ 8 + (nL2 + 11) + lo2 ≤ lo) (hst : st0 = avs.reverse ++ st) (hst2 : v.toList ++ st = st2) (hc8 : (st.map fun v => v.category).sum ≤ 8) (d : decode cc pc = .ok (.invokestatic idx, 3)) (hq : pc + 3 = q) (k : P → V X σ1 q lv st2) : V X σ pc lv st0 := by
  subst hq
  subst hst2
  have hw1 := C.2.2.2.2.2.1
  obtain ⟨o1, o3, o4, o5⟩ := ok
  intro H locs ls hP hS hl
  refine r_after (va_runS (As := avs) (rest := st) (mc := 0) (ms := 0) ⟨C.1, C.2.1, C.2.2.1.trans C.2.2.2.1.symm, C.2.2.2.2.1, hw1⟩ hM ⟨callB_of n hw1 (tb_in o4) rfl rfl rfl (hw1 _ o3) (hw1 _ hl0) o5 ⟨by rw [C.2.2.2.2.2.2.2.2.2.1]; exact hR.1, by rw [C.2.2.2.2.2.2.2.2.2.2.1]; exact hR.2⟩, hw1 _ o1⟩ ⟨Wld.blind, fun U hU hW => ⟨rfl, cok_pre C hP hS hU hW⟩⟩ rfl hn hl.1 hst (lv_room (rest := st0) hc8) d ⟨C.2.2.2.2.2.2.2.2.2.2.2.1, C.2.2.2.2.2.2.2.2.2.2.2.2⟩) hS (fun hp H1 locs1 hP1 hS1 => k hp H1 locs1 ls hP1 hS1 hl)
theorem r_callN (C : Cok X own cc nL fr lo) {y : MethodName} {host : String} {cc2 : ByteArray} {nL2 fr2 lo2 n idx : Nat} {ret2 : Option FieldType} {avs st0 st2 : List Value} {v : Option Value} {P : Prop} {σ1 : St} (hM : Ctr (xG X) (xl X) y cc2 nL2 ret2 fr2 lo2 avs σ v P σ1) (ok : MokS y cc2 nL2 ret2 n) (hl0 : (own, idx, y, host) ∈ nests) (hn : avs.length = n) (hR : fr2 + 1 ≤ fr ∧ 8 + (nL2 + 11) + lo2 ≤ lo) (hst : st0 = avs.reverse ++ st) (hst2 : v.toList ++ st = st2) (hc8 : (st.map fun v => v.category).sum ≤ 8) (d : decode cc pc = .ok (.invokestatic idx, 3)) (hq : pc + 3 = q) (k : P → V X σ1 q lv st2) : V X σ pc lv st0 := by
  subst hq
  subst hst2
  have hw1 := C.2.2.2.2.2.1
  obtain ⟨o1, o3, o4, o5⟩ := ok
  intro H locs ls hP hS hl
  refine r_after (va_runSN (As := avs) (rest := st) (mc := 0) (ms := 0) ⟨C.1, C.2.1, C.2.2.1.trans C.2.2.2.1.symm, C.2.2.2.2.1, hw1⟩ hM ⟨va_cnB n hw1 (tb_in o4) rfl rfl rfl (C.2.2.2.2.2.2.2.2.1.2.2.2.2 _ hl0) (hw1 _ o3) o5 ⟨by rw [C.2.2.2.2.2.2.2.2.2.1]; exact hR.1, by rw [C.2.2.2.2.2.2.2.2.2.2.1]; exact hR.2⟩, hw1 _ o1, trivial⟩ ⟨Wld.blind, fun U hU hW => ⟨rfl, cok_pre C hP hS hU hW⟩⟩ rfl hn hl.1 hst (lv_room (rest := st0) hc8) d ⟨C.2.2.2.2.2.2.2.2.2.2.2.1, C.2.2.2.2.2.2.2.2.2.2.2.2⟩) hS (fun hp H1 locs1 hP1 hS1 => k hp H1 locs1 ls hP1 hS1 hl)
end HR
/-! a contract out of a walk -/
section HM
variable {G : Gm} {l : Launch} {y : MethodName} {cc : ByteArray} {nL fr lo : Nat} {avs : List Value} {σ σ' : St}
theorem Ctr.i {r : Int32} (hy : plainName y.cls = true) (hlv : (lg_sl avs).length ≤ nL) (h : ∀ X : CX, xG X = G → Cok X y.cls cc nL fr lo → RtI X cc r σ' → V X σ 0 (lv_args 0 avs) []) : Ctr G l y cc nL (some .int) fr lo avs σ (some (.int r)) True σ' := by
  refine Met.ofW (cc := cc) (maxL := nL) (ret := some .int) hy rfl ?_
  intro p e s m args below meth c s₁ B hml hv
  obtain ⟨rfl, hP, hK, hI, hG⟩ := hv
  have hts := atoms_spec (ws := Cond.code y cc nL (some .int) :: TB) B.pre
  have hl := lv_entry avs hlv
  rw [lg_entry_eq]
  generalize (lg_sl avs ++ List.replicate (nL - (lg_sl avs).length) Slot.unset).toArray = ls at hl ⊢
  have hlocks := B.notSynchronized
  exact h (G, p, l, e, (headSpec (Cond.code y cc nL (some .int) :: TB) { frames := fr, cells := 0, slots := 0, locals := lo }).room, s, m, avs.toArray, below, meth, c, nL, 0, 0, MQ below (Qx G (some (.int r)) True σ') avs.toArray s 0 0 (dom G)) rfl ⟨B.exec, B.bytes, hml, rfl, findClass_of_methodNamed B.named, fun w hw => hts w (List.mem_cons_of_mem _ hw), hK, hI, hG, rfl, rfl, Nat.zero_le _, Nat.zero_le _⟩
    (fun pc lv hd H locs ls hP1 hS1 hl1 => W.iret B.exec B.bytes B.returns (fun t ht hW => ⟨⟨rfl, trivial, by rw [ht]; exact hP1⟩, hS1.F ht⟩) hS1.2.2 hd) s.heap [] ls hP va_S.rf hl
theorem Ctr.z {r : Int32} (hy : plainName y.cls = true) (hlv : (lg_sl avs).length ≤ nL) (h : ∀ X : CX, xG X = G → Cok X y.cls cc nL fr lo → RtZ X cc r σ' → V X σ 0 (lv_args 0 avs) []) : Ctr G l y cc nL (some .boolean) fr lo avs σ (some (.int r)) (r = 0 ∨ r = 1) σ' := by
  refine Met.ofW (cc := cc) (maxL := nL) (ret := some .boolean) hy rfl ?_
  intro p e s m args below meth c s₁ B hml hv
  obtain ⟨rfl, hP, hK, hI, hG⟩ := hv
  have hts := atoms_spec (ws := Cond.code y cc nL (some .boolean) :: TB) B.pre
  have hl := lv_entry avs hlv
  rw [lg_entry_eq]
  generalize (lg_sl avs ++ List.replicate (nL - (lg_sl avs).length) Slot.unset).toArray = ls at hl ⊢
  have hlocks := B.notSynchronized
  exact h (G, p, l, e, (headSpec (Cond.code y cc nL (some .boolean) :: TB) { frames := fr, cells := 0, slots := 0, locals := lo }).room, s, m, avs.toArray, below, meth, c, nL, 0, 0, MQ below (Qx G (some (.int r)) (r = 0 ∨ r = 1) σ') avs.toArray s 0 0 (dom G)) rfl ⟨B.exec, B.bytes, hml, rfl, findClass_of_methodNamed B.named, fun w hw => hts w (List.mem_cons_of_mem _ hw), hK, hI, hG, rfl, rfl, Nat.zero_le _, Nat.zero_le _⟩
    (fun pc lv hd h01 H locs ls hP1 hS1 hl1 => W.zret B.exec B.bytes B.returns (by rcases h01 with rfl | rfl <;> rfl) (fun t ht hW => ⟨⟨rfl, h01, by rw [ht]; exact hP1⟩, hS1.F ht⟩) hS1.2.2 hd) s.heap [] ls hP va_S.rf hl
theorem Ctr.j {r : Int64} (hy : plainName y.cls = true) (hlv : (lg_sl avs).length ≤ nL) (h : ∀ X : CX, xG X = G → Cok X y.cls cc nL fr lo → RtJ X cc r σ' → V X σ 0 (lv_args 0 avs) []) : Ctr G l y cc nL (some .long) fr lo avs σ (some (.long r)) True σ' := by
  refine Met.ofW (cc := cc) (maxL := nL) (ret := some .long) hy rfl ?_
  intro p e s m args below meth c s₁ B hml hv
  obtain ⟨rfl, hP, hK, hI, hG⟩ := hv
  have hts := atoms_spec (ws := Cond.code y cc nL (some .long) :: TB) B.pre
  have hl := lv_entry avs hlv
  rw [lg_entry_eq]
  generalize (lg_sl avs ++ List.replicate (nL - (lg_sl avs).length) Slot.unset).toArray = ls at hl ⊢
  have hlocks := B.notSynchronized
  exact h (G, p, l, e, (headSpec (Cond.code y cc nL (some .long) :: TB) { frames := fr, cells := 0, slots := 0, locals := lo }).room, s, m, avs.toArray, below, meth, c, nL, 0, 0, MQ below (Qx G (some (.long r)) True σ') avs.toArray s 0 0 (dom G)) rfl ⟨B.exec, B.bytes, hml, rfl, findClass_of_methodNamed B.named, fun w hw => hts w (List.mem_cons_of_mem _ hw), hK, hI, hG, rfl, rfl, Nat.zero_le _, Nat.zero_le _⟩
    (fun pc lv hd H locs ls hP1 hS1 hl1 => W.lret B.exec B.bytes B.returns (fun t ht hW => ⟨⟨rfl, trivial, by rw [ht]; exact hP1⟩, hS1.F ht⟩) hS1.2.2 hd) s.heap [] ls hP va_S.rf hl
theorem Ctr.a {r k : Nat} {rt : FieldType} (hrt : (∃ n, rt = .object n) ∨ ∃ t, rt = .array t) (hy : plainName y.cls = true) (hlv : (lg_sl avs).length ≤ nL) (h : ∀ X : CX, xG X = G → Cok X y.cls cc nL fr lo → RtA X cc k r σ' → V X σ 0 (lv_args 0 avs) []) : Ctr G l y cc nL (some rt) fr lo avs σ (some (.ref (G.1 r))) (kd r = k) σ' := by
  refine Met.ofW (cc := cc) (maxL := nL) (ret := some rt) hy rfl ?_
  intro p e s m args below meth c s₁ B hml hv
  obtain ⟨rfl, hP, hK, hI, hG⟩ := hv
  have hts := atoms_spec (ws := Cond.code y cc nL (some rt) :: TB) B.pre
  have hl := lv_entry avs hlv
  rw [lg_entry_eq]
  generalize (lg_sl avs ++ List.replicate (nL - (lg_sl avs).length) Slot.unset).toArray = ls at hl ⊢
  have hlocks := B.notSynchronized
  exact h (G, p, l, e, (headSpec (Cond.code y cc nL (some rt) :: TB) { frames := fr, cells := 0, slots := 0, locals := lo }).room, s, m, avs.toArray, below, meth, c, nL, 0, 0, MQ below (Qx G (some (.ref (G.1 r))) (kd r = k) σ') avs.toArray s 0 0 (dom G)) rfl ⟨B.exec, B.bytes, hml, rfl, findClass_of_methodNamed B.named, fun w hw => hts w (List.mem_cons_of_mem _ hw), hK, hI, hG, rfl, rfl, Nat.zero_le _, Nat.zero_le _⟩
    (fun pc lv hd hk H locs ls hP1 hS1 hl1 => W.aret B.exec B.bytes B.returns hrt (Or.inr ⟨_, rfl⟩) (fun t ht hW => ⟨⟨rfl, hk, by rw [ht]; exact hP1⟩, hS1.F ht⟩) hS1.2.2 hd) s.heap [] ls hP va_S.rf hl
theorem Ctr.v (hy : plainName y.cls = true) (hlv : (lg_sl avs).length ≤ nL) (h : ∀ X : CX, xG X = G → Cok X y.cls cc nL fr lo → RtV X cc σ' → V X σ 0 (lv_args 0 avs) []) : Ctr G l y cc nL none fr lo avs σ none True σ' := by
  refine Met.ofW (cc := cc) (maxL := nL) (ret := none) hy rfl ?_
  intro p e s m args below meth c s₁ B hml hv
  obtain ⟨rfl, hP, hK, hI, hG⟩ := hv
  have hts := atoms_spec (ws := Cond.code y cc nL none :: TB) B.pre
  have hl := lv_entry avs hlv
  rw [lg_entry_eq]
  generalize (lg_sl avs ++ List.replicate (nL - (lg_sl avs).length) Slot.unset).toArray = ls at hl ⊢
  have hlocks := B.notSynchronized
  exact h (G, p, l, e, (headSpec (Cond.code y cc nL none :: TB) { frames := fr, cells := 0, slots := 0, locals := lo }).room, s, m, avs.toArray, below, meth, c, nL, 0, 0, MQ below (Qx G none True σ') avs.toArray s 0 0 (dom G)) rfl ⟨B.exec, B.bytes, hml, rfl, findClass_of_methodNamed B.named, fun w hw => hts w (List.mem_cons_of_mem _ hw), hK, hI, hG, rfl, rfl, Nat.zero_le _, Nat.zero_le _⟩
    (fun pc lv hd H locs ls hP1 hS1 hl1 => W.vret B.exec B.bytes B.returns (fun t ht hW => ⟨⟨rfl, trivial, by rw [ht]; exact hP1⟩, hS1.F ht⟩) hS1.2.2 hd) s.heap [] ls hP va_S.rf hl
end HM
