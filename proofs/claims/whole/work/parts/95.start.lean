-- ===== end of PART A; then your names; then what follows =====
/-! THE CLAIM OUT OF ONE WALK OF THE LAW'S BODY. Your part is whole_start (and what it stands on); all else here is the same for every law, but numbers. -/
def R_law : String := "CutDeeperLaw"
def lw_P (b : Addr) (xs : List Int32) (args : Array Value) (s : State) : Prop := args = #[.ref b] ∧ s.IntsAt b xs ∧ xs.length ≤ 3072 ∧ (Jvm.Cond.and given_1 narrow_1).before args s = true
def lw_Q (_ : Array Value) (s : State) (o : Outcome) (t : State) : Prop := o = .returned (some (.int 1)) ∧ Framed s o t [] 600000 7302250
def lw_Z (below : List Frame) (a : Array Value) (s : State) : State → Prop := fun t => ∃ o, t.status = .running ∧ Ended t below o ∧ lw_Q a s o t
/-- the law's own end, with 1 on the stack, nothing written that was there before, its room as the claim has it -/
theorem lw_ret {p : Program} {l : Launch} {e : Env} {s : State} {m : MethodId} {below : List Frame} {meth : Method} {c : Code} {b : Nat} (hx : p.tables.exec = Jvm.exec) (hb : c.code = code) (hr : meth.sig.returnType = ret) (hlocks : meth.locks = false) {pc : Nat} {H : Heap} {ls : Array Slot} (hdg : decode code pc = .ok (.ireturn, 1)) : W p l e room_1 s m #[Value.ref b] below meth c H [] 600000 7302250 (lw_Z below #[Value.ref b] s) (F0 m pc ls [.int 1]) := by
  intro T hT X
  obtain ⟨fs, hret, hrun, hended, hW, hframe⟩ := X.leave (v := some (.int 1)) (hlocks := hlocks) (fun h => by rw [hr] at h; cases h)
  have hmeth' : T.vm.method? m = some meth := X.method'
  refine ⟨T.setFrames fs, ?_, .returned (some (.int 1)), hrun, hended, rfl, ⟨_, rfl⟩, hW, hframe⟩
  jvm_step X.here [X.here.top, hx, hb, hdg, hmeth', hr, ret, narrow_b1]
  (try refine ⟨rfl, ?_⟩); (try refine ⟨rfl, ?_⟩)
  first | (intro acts; rw [hret _ acts rfl rfl rfl]) | rw [hret _ _ rfl rfl rfl]
  exact Steps.refl _
/-- what holds at the law's entry: the machine, the code, the tables' words (any of lw_tbl by 'hts w (by decide +kernel)'), the script of L ints xs at the cell b, what the Statement gives of the start (any of its parts by flat_of_before) -/
def lw_At (p : Program) (s : State) (m : MethodId) (meth : Method) (c : Code) (b L : Nat) (xs : Nat → Int32) : Prop :=
  p.tables.exec = Jvm.exec ∧ c.code = code ∧ meth.sig.returnType = ret ∧ c.maxLocals = 4 ∧ s.vm.findClass R_law = some m.cls ∧ (∀ w ∈ lw_tbl, w.before #[Value.ref b] s = true) ∧ va_X b L xs s s.heap ∧ b < s.heap.size ∧ meth.locks = false ∧ (Jvm.Cond.and given_1 narrow_1).before #[Value.ref b] s = true
/-- THE LAW, from its entry: both objects are made, then its loop -/
theorem whole_start {p : Program} {e : Env} {s : State} {m : MethodId} {below : List Frame} {meth : Method} {c : Code} (l : Launch) (hflags : l.flags = flags0) {b L : Nat} {xs : Nat → Int32} (hL : L ≤ 3072) (C0 : lw_At p s m meth c b L xs) : W p l e room_1 s m #[Value.ref b] below meth c s.heap [] 0 0 (lw_Z below #[Value.ref b] s) (entryFrame m ([Value.ref b] : List Value).toArray 4) := by
  obtain ⟨hx, hb, hr, hml, hown, hts, hX, hbl, hlocks, hgv⟩ := C0
  have hTB : ∀ w ∈ TB, w.before #[Value.ref b] s = true := fun w h => hts w (List.mem_filter.mp h).1
  obtain ⟨aK, aV, hSg⟩ := start_S hts hgv
  obtain ⟨D, cA, hK⟩ := start_K hts aK aV
  have hNs : Ns s := ⟨fun q hq => va_Nw.of rfl (hts _ (in_lw (gv_ns q hq))), va_AO.of (hts _ (in_lw gv_ao.1)), va_AO.of (hts _ (in_lw gv_ao.2.1)), hts _ (in_lw gv_ao.2.2.1)⟩
  have hl := lv_entry ([.ref b]) (n := 4) (Nat.le_of_ble_eq_true rfl)
  rw [lg_entry_eq]
  generalize (lg_sl ([.ref b]) ++ List.replicate (4 - (lg_sl ([.ref b])).length) Slot.unset).toArray = ls at hl ⊢
  obtain ⟨A, hAe⟩ : ∃ A : Nat → Prop, A = fun q : Nat => s.heap.size ≤ q := ⟨_, rfl⟩
  have hA : ∀ q : Nat, s.heap.size ≤ q → A q := fun q h => by rw [hAe]; exact h
  have hA2 : ∀ q : Nat, A q → s.heap.size ≤ q := fun q h => by rw [hAe] at h; exact h
  obtain ⟨G0, hG0⟩ : ∃ G0 : Gm, G0 = (fun _ => 0, D, cA, aK, aV) := ⟨_, rfl⟩
  obtain ⟨X, hXe⟩ : ∃ X : CX, X = (G0, p, l, e, room_1, s, m, #[Value.ref b], below, meth, c, 4, 600000, 7302250, lw_Z below #[Value.ref b] s) := ⟨_, rfl⟩
  have C : Cok0 X RL cL_law 4 13 478 600000 7302250 A := by
    subst hXe
    subst hG0
    exact ⟨hx, hb, hml, rfl, hown, hTB, hK, hNs, hA, rfl, rfl, rfl, rfl⟩
  have main : U X A [] 0 0 0 [(0, .ref b)] [] := by
    refine u_new C (ci := 5) (T := TX5) (N := 9) (Cn := RX5) (ty0 := tyX5) (fs := [.null, .null, .null, .null, .null, .null, .null, .null, .int 0]) (q := 3) rfl i_X5 tyX5_ok q_16 q_17 q_1 (fun j hj => df_X5 j hj) (Nat.le_of_ble_eq_true rfl) (Nat.le_of_ble_eq_true rfl) dL_law_0 rfl (fun r => ?_)
    refine u_dup C (q := 4) dL_law_3 rfl rfl ?_
    refine u_callI (wr := []) (st := [.ref r]) (kc' := 93) (ks' := 1227) C (q := 7) (k_X5_init (xG X) (xl X)) oi_X5_init q_18 rfl ⟨Nat.le_of_ble_eq_true rfl, Nat.le_of_ble_eq_true rfl⟩ rfl rfl ⟨Nat.le_of_ble_eq_true rfl, Nat.le_of_ble_eq_true rfl⟩ rfl (Nat.le_of_ble_eq_true rfl) dL_law_4 rfl (fun u hu => ?_)
    subst hu
    rw [List.nil_append]
    refine u_astore_n C (lv' := [(1, .ref (u 0 0)), (0, .ref b)]) (q := 8) dL_law_7 rfl (by decide) rfl rfl ?_
    refine u_new C (ci := 6) (T := TX6) (N := 29) (Cn := RX6) (ty0 := tyX6) (fs := [.null, .null, .null, .int 0, .int 0, .int 0, .int 0, .null, .null, .null, .null, .int 0, .null, .null, .int 0, .int 0, .int 0, .null, .int 0, .int 0, .int 0, .int 0, .null, .int 0, .null, .null, .null, .null, .null]) (q := 11) rfl i_X6 tyX6_ok q_983 q_984 q_7 (fun j hj => df_X6 j hj) (Nat.le_of_ble_eq_true rfl) (Nat.le_of_ble_eq_true rfl) dL_law_8 rfl (fun r => ?_)
    refine u_dup C (q := 12) dL_law_11 rfl rfl ?_
    refine u_callI (wr := cells_X5_init (xG X) u) (st := [.ref r]) (kc' := 110) (ks' := 2199) C (q := 15) (k_X6_init (xG X) (xl X)) oi_X6_init q_985 rfl ⟨Nat.le_of_ble_eq_true rfl, Nat.le_of_ble_eq_true rfl⟩ rfl rfl ⟨Nat.le_of_ble_eq_true rfl, Nat.le_of_ble_eq_true rfl⟩ rfl (Nat.le_of_ble_eq_true rfl) dL_law_12 rfl (fun v hv => ?_)
    subst hv
    refine u_astore_n C (lv' := [(2, .ref (v 0 0)), (1, .ref (u 0 0)), (0, .ref b)]) (q := 16) dL_law_15 rfl (by decide) rfl rfl ?_
    refine u_iconst C (v := 0) (q := 17) dL_law_16 (by decide) rfl ?_
    refine u_istore_n C (lv' := [(3, .int 0), (2, .ref (v 0 0)), (1, .ref (u 0 0)), (0, .ref b)]) (q := 18) dL_law_17 rfl (by decide) rfl rfl ?_
    refine u_widen (kc' := 600000) (ks' := 7302250) (Nat.le_of_ble_eq_true rfl) (Nat.le_of_ble_eq_true rfl) ?_
    intro H locs ls hP hD hS hl
    subst hXe
    subst hG0
    obtain ⟨hinj, hdom⟩ := start_inj (D := D) (cA := cA) (aK := aK) (aV := aV) hD
    have hP2 := start_P (D := D) (cA := cA) (aK := aK) (aV := aV) rfl rfl hP
    obtain ⟨σ', hlaw⟩ := law_pure L hL xs
    have hnd : ∀ a, a < s.heap.size → ¬ dom (gmOf D cA aK aV u v) a := fun a h z => absurd (hA2 a (hdom a z)) (Nat.not_le.mpr h)
    have C2 : Cok (gmOf D cA aK aV u v, p, l, e, room_1, s, m, #[Value.ref b], below, meth, c, 4, 600000, 7302250, lw_Z below #[Value.ref b] s) RL cL_law 4 13 478 := ⟨hx, hb, hml, rfl, hown, hTB, hK, hinj, hSg _ hnd, rfl, rfl, Nat.le_refl _, Nat.le_refl _⟩
    have hRt : RtZ (gmOf D cA aK aV u v, p, l, e, room_1, s, m, #[Value.ref b], below, meth, c, 4, 600000, 7302250, lw_Z below #[Value.ref b] s) cL_law 1 σ' := fun pc lv hd _ H1 locs1 ls1 hP1 hS1 hl1 => va_forget (fun q hq => hA2 _ (hdom _ (hS1.2.2 q hq))) (lw_ret hx hb hr hlocks hd)
    have hl2 : lv_has ls 4 [(0, .ref b), (1, .ref (u 0 0)), (2, .ref (v 0 0)), (3, .int 0)] := lv_sub hl [3, 2, 1, 0] rfl
    exact va_forget (fun q hq => hA2 _ (hS.2.2 q hq)) (w_L_law_l18 C2 hRt hX hbl (hnd b hbl) FU s0 0 93 0 rfl rfl hlaw H [] ls hP2 ⟨hS.1, fun q h1 h2 => hS.2.1 q h1 (fun z => absurd (hA2 q z) (Nat.not_le.mpr h1)), fun q h => by cases h⟩ hl2)
  subst hXe
  exact main s.heap [] ls (fun k q h => by simp at h) ⟨fun i j p q h => by simp at h, fun k q h => by simp at h⟩ va_S.rf hl
