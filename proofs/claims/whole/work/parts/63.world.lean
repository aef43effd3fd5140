/-! THE START: the ids over the cells as they were made -/
def plTab : List Nat := [0, 76, 73, 71, 72, 55, 56, 57, 58, 59, 60, 61, 62, 63, 64, 65, 66, 67, 68, 69, 70, 77, 78, 79, 80, 81, 82, 83, 84, 85, 86, 87, 88, 89, 90, 91, 92, 74, 75, 1, 2, 5, 6, 7, 8, 9, 10, 11, 12, 13, 14, 15, 16, 17, 18, 3, 4, 19, 20, 23, 24, 25, 26, 27, 28, 29, 30, 31, 32, 33, 34, 35, 36, 21, 22, 37, 38, 41, 42, 43, 44, 45, 46, 47, 48, 49, 50, 51, 52, 53, 54, 39, 40, 93, 94, 95, 96, 97, 98, 99, 100, 101, 102, 103, 104, 105, 106, 107, 108, 109]
def adTab (u v : Nat → Nat → Nat) : List Nat := [(u 0 0), (u 0 76), (u 0 73), (u 0 71), (u 0 72), (u 0 55), (u 0 56), (u 0 57), (u 0 58), (u 0 59), (u 0 60), (u 0 61), (u 1 0), (u 1 1), (u 1 2), (u 1 3), (u 1 4), (u 1 5), (u 0 68), (u 0 69), (u 0 70), (u 0 77), (u 0 78), (u 0 79), (u 0 80), (u 0 81), (u 0 82), (u 0 83), (u 0 84), (u 0 85), (u 0 86), (u 0 87), (u 0 88), (u 0 89), (u 0 90), (u 0 91), (u 0 92), (u 0 74), (u 0 75), (u 0 1), (u 0 2), (u 0 5), (u 0 6), (u 0 7), (u 0 8), (u 0 9), (u 0 10), (u 0 11), (u 0 12), (u 0 13), (u 0 14), (u 0 15), (u 0 16), (u 0 17), (u 0 18), (u 0 3), (u 0 4), (u 0 19), (u 0 20), (u 0 23), (u 0 24), (u 0 25), (u 0 26), (u 0 27), (u 0 28), (u 0 29), (u 0 30), (u 0 31), (u 0 32), (u 0 33), (u 0 34), (u 0 35), (u 0 36), (u 0 21), (u 0 22), (u 0 37), (u 0 38), (u 0 41), (u 0 42), (u 0 43), (u 0 44), (u 0 45), (u 0 46), (u 0 47), (u 0 48), (u 0 49), (u 0 50), (u 0 51), (u 0 52), (u 0 53), (u 0 54), (u 0 39), (u 0 40), (v 0 0), (v 0 1), (v 0 2), (v 0 3), (v 0 4), (v 0 5), (v 0 6), (v 0 7), (v 0 8), (v 0 9), (v 0 10), (v 0 11), (v 0 12), (v 0 13), (v 0 14), (v 0 15), (v 0 16)]
/-- the first state -/
def s0 : St := (fun a k => if kd a = 1 then (match k with | 0 => 3 | 1 => 3 | 2 => 12 | 4 => 1 | _ => 0) else if kd a = 3 then (match k with | 0 => -1 | _ => 0) else if kd a = 7 then (match k with | 3 => 3 | 4 => 3 | 5 => 12 | 15 => 1 | _ => 0) else if a = 94 then (if k < 8 then -1 else 0) else 0, fun _ _ => 0)
def gmOf (D : va_G) (cA : Nat → ClassId) (aK aV : Nat → Nat) (u v : Nat → Nat → Nat) : Gm := (fun a => (adTab u v).getD a 0, D, cA, aK, aV)
theorem at_I {D : va_G} {cl : List vw_C} {q c n : Nat} {f g : Nat → Int32} {H : Heap} (h : va_at D cl (q, .inl (c, n, .inl f)) H) (e : ∀ j, j < n → f j = g j) : va_at D cl (q, .inl (c, n, .inl g)) H := by
  have h1 : H[q]? = some (vp_cell c (n, .inl f)) := h
  show H[q]? = some (vp_cell c (n, .inl g))
  rw [h1, vp_cell_i, vp_cell_i]
  congr 1
  unfold arrV
  congr 1
  exact congrArg Array.ofFn (funext fun j => by show Value.int (f j.val) = Value.int (g j.val); rw [e j.val j.isLt])
theorem at_Q {D : va_G} {cl : List vw_C} {q c n : Nat} {f g : Nat → Option Nat} {H : Heap} (h : va_at D cl (q, .inl (c, n, .inr (.inr (.inr (.inr f))))) H) (e : ∀ j, j < n → f j = g j) : va_at D cl (q, .inl (c, n, .inr (.inr (.inr (.inr g))))) H := by
  have h1 : H[q]? = some (vp_cell c (n, .inr (.inr (.inr (.inr f))))) := h
  show H[q]? = some (vp_cell c (n, .inr (.inr (.inr (.inr g)))))
  rw [h1, vp_cell_q, vp_cell_q]
  congr 1
  unfold arrV
  congr 1
  exact congrArg Array.ofFn (funext fun j => by show va_rf (f j.val) = va_rf (g j.val); rw [e j.val j.isLt])
set_option maxRecDepth 100000 in
theorem at_0 {D : va_G} {cA : Nat → ClassId} {aK aV : Nat → Nat} {G0 : Gm} (h1 : G0.2.1 = D) (h2 : G0.2.2.1 = cA) {u v : Nat → Nat → Nat} {H : Heap} (hP : va_P D vwCl (cells_X5_init G0 u ++ cells_X6_init G0 v) H) : va_at D vwCl ((gmOf D cA aK aV u v).1 0, ent (gmOf D cA aK aV u v) s0 0) H := by
  subst h1
  subst h2
  rw [ent_k (show kd 0 = 6 from rfl)]
  exact hP 0 _ rfl
set_option maxRecDepth 100000 in
theorem at_1 {D : va_G} {cA : Nat → ClassId} {aK aV : Nat → Nat} {G0 : Gm} (h1 : G0.2.1 = D) (h2 : G0.2.2.1 = cA) {u v : Nat → Nat → Nat} {H : Heap} (hP : va_P D vwCl (cells_X5_init G0 u ++ cells_X6_init G0 v) H) : va_at D vwCl ((gmOf D cA aK aV u v).1 1, ent (gmOf D cA aK aV u v) s0 1) H := by
  subst h1
  subst h2
  rw [ent_k (show kd 1 = 8 from rfl)]
  exact at_I (hP 76 _ rfl) (fun j hj => rfl)
set_option maxRecDepth 100000 in
theorem at_2 {D : va_G} {cA : Nat → ClassId} {aK aV : Nat → Nat} {G0 : Gm} (h1 : G0.2.1 = D) (h2 : G0.2.2.1 = cA) {u v : Nat → Nat → Nat} {H : Heap} (hP : va_P D vwCl (cells_X5_init G0 u ++ cells_X6_init G0 v) H) : va_at D vwCl ((gmOf D cA aK aV u v).1 2, ent (gmOf D cA aK aV u v) s0 2) H := by
  subst h1
  subst h2
  rw [ent_k (show kd 2 = 11 from rfl)]
  refine at_Q (hP 73 _ rfl) (fun j hj => ?_)
  match j, hj with
  | 0, _ => rfl
  | 1, _ => rfl
  | 2, _ => rfl
  | 3, _ => rfl
  | 4, _ => rfl
  | 5, _ => rfl
  | 6, _ => rfl
  | 7, _ => rfl
  | j + 8, hj => exact absurd hj (by show ¬ (j + 8 < 8); omega)
set_option maxRecDepth 100000 in
theorem at_3 {D : va_G} {cA : Nat → ClassId} {aK aV : Nat → Nat} {G0 : Gm} (h1 : G0.2.1 = D) (h2 : G0.2.2.1 = cA) {u v : Nat → Nat → Nat} {H : Heap} (hP : va_P D vwCl (cells_X5_init G0 u ++ cells_X6_init G0 v) H) : va_at D vwCl ((gmOf D cA aK aV u v).1 3, ent (gmOf D cA aK aV u v) s0 3) H := by
  subst h1
  subst h2
  rw [ent_k (show kd 3 = 4 from rfl)]
  exact hP 71 _ rfl
set_option maxRecDepth 100000 in
theorem at_4 {D : va_G} {cA : Nat → ClassId} {aK aV : Nat → Nat} {G0 : Gm} (h1 : G0.2.1 = D) (h2 : G0.2.2.1 = cA) {u v : Nat → Nat → Nat} {H : Heap} (hP : va_P D vwCl (cells_X5_init G0 u ++ cells_X6_init G0 v) H) : va_at D vwCl ((gmOf D cA aK aV u v).1 4, ent (gmOf D cA aK aV u v) s0 4) H := by
  subst h1
  subst h2
  rw [ent_k (show kd 4 = 8 from rfl)]
  exact at_I (hP 72 _ rfl) (fun j hj => rfl)
set_option maxRecDepth 100000 in
theorem at_5 {D : va_G} {cA : Nat → ClassId} {aK aV : Nat → Nat} {G0 : Gm} (h1 : G0.2.1 = D) (h2 : G0.2.2.1 = cA) {u v : Nat → Nat → Nat} {H : Heap} (hP : va_P D vwCl (cells_X5_init G0 u ++ cells_X6_init G0 v) H) : va_at D vwCl ((gmOf D cA aK aV u v).1 5, ent (gmOf D cA aK aV u v) s0 5) H := by
  subst h1
  subst h2
  rw [ent_k (show kd 5 = 5 from rfl)]
  exact hP 55 _ rfl
set_option maxRecDepth 100000 in
theorem at_6 {D : va_G} {cA : Nat → ClassId} {aK aV : Nat → Nat} {G0 : Gm} (h1 : G0.2.1 = D) (h2 : G0.2.2.1 = cA) {u v : Nat → Nat → Nat} {H : Heap} (hP : va_P D vwCl (cells_X5_init G0 u ++ cells_X6_init G0 v) H) : va_at D vwCl ((gmOf D cA aK aV u v).1 6, ent (gmOf D cA aK aV u v) s0 6) H := by
  subst h1
  subst h2
  rw [ent_k (show kd 6 = 8 from rfl)]
  exact at_I (hP 56 _ rfl) (fun j hj => rfl)
set_option maxRecDepth 100000 in
theorem at_7 {D : va_G} {cA : Nat → ClassId} {aK aV : Nat → Nat} {G0 : Gm} (h1 : G0.2.1 = D) (h2 : G0.2.2.1 = cA) {u v : Nat → Nat → Nat} {H : Heap} (hP : va_P D vwCl (cells_X5_init G0 u ++ cells_X6_init G0 v) H) : va_at D vwCl ((gmOf D cA aK aV u v).1 7, ent (gmOf D cA aK aV u v) s0 7) H := by
  subst h1
  subst h2
  rw [ent_k (show kd 7 = 8 from rfl)]
  exact at_I (hP 57 _ rfl) (fun j hj => rfl)
set_option maxRecDepth 100000 in
theorem at_8 {D : va_G} {cA : Nat → ClassId} {aK aV : Nat → Nat} {G0 : Gm} (h1 : G0.2.1 = D) (h2 : G0.2.2.1 = cA) {u v : Nat → Nat → Nat} {H : Heap} (hP : va_P D vwCl (cells_X5_init G0 u ++ cells_X6_init G0 v) H) : va_at D vwCl ((gmOf D cA aK aV u v).1 8, ent (gmOf D cA aK aV u v) s0 8) H := by
  subst h1
  subst h2
  rw [ent_k (show kd 8 = 8 from rfl)]
  exact at_I (hP 58 _ rfl) (fun j hj => rfl)
set_option maxRecDepth 100000 in
theorem at_9 {D : va_G} {cA : Nat → ClassId} {aK aV : Nat → Nat} {G0 : Gm} (h1 : G0.2.1 = D) (h2 : G0.2.2.1 = cA) {u v : Nat → Nat → Nat} {H : Heap} (hP : va_P D vwCl (cells_X5_init G0 u ++ cells_X6_init G0 v) H) : va_at D vwCl ((gmOf D cA aK aV u v).1 9, ent (gmOf D cA aK aV u v) s0 9) H := by
  subst h1
  subst h2
  rw [ent_k (show kd 9 = 8 from rfl)]
  exact at_I (hP 59 _ rfl) (fun j hj => rfl)
set_option maxRecDepth 100000 in
theorem at_10 {D : va_G} {cA : Nat → ClassId} {aK aV : Nat → Nat} {G0 : Gm} (h1 : G0.2.1 = D) (h2 : G0.2.2.1 = cA) {u v : Nat → Nat → Nat} {H : Heap} (hP : va_P D vwCl (cells_X5_init G0 u ++ cells_X6_init G0 v) H) : va_at D vwCl ((gmOf D cA aK aV u v).1 10, ent (gmOf D cA aK aV u v) s0 10) H := by
  subst h1
  subst h2
  rw [ent_k (show kd 10 = 8 from rfl)]
  exact at_I (hP 60 _ rfl) (fun j hj => rfl)
set_option maxRecDepth 100000 in
theorem at_11 {D : va_G} {cA : Nat → ClassId} {aK aV : Nat → Nat} {G0 : Gm} (h1 : G0.2.1 = D) (h2 : G0.2.2.1 = cA) {u v : Nat → Nat → Nat} {H : Heap} (hP : va_P D vwCl (cells_X5_init G0 u ++ cells_X6_init G0 v) H) : va_at D vwCl ((gmOf D cA aK aV u v).1 11, ent (gmOf D cA aK aV u v) s0 11) H := by
  subst h1
  subst h2
  rw [ent_k (show kd 11 = 12 from rfl)]
  refine at_Q (hP 61 _ rfl) (fun j hj => ?_)
  match j, hj with
  | 0, _ => rfl
  | 1, _ => rfl
  | 2, _ => rfl
  | 3, _ => rfl
  | 4, _ => rfl
  | 5, _ => rfl
  | j + 6, hj => exact absurd hj (by show ¬ (j + 6 < 6); omega)
set_option maxRecDepth 100000 in
theorem at_12 {D : va_G} {cA : Nat → ClassId} {aK aV : Nat → Nat} {G0 : Gm} (h1 : G0.2.1 = D) (h2 : G0.2.2.1 = cA) {u v : Nat → Nat → Nat} {H : Heap} (hP : va_P D vwCl (cells_X5_init G0 u ++ cells_X6_init G0 v) H) : va_at D vwCl ((gmOf D cA aK aV u v).1 12, ent (gmOf D cA aK aV u v) s0 12) H := by
  subst h1
  subst h2
  rw [ent_k (show kd 12 = 8 from rfl)]
  exact at_I (hP 62 _ rfl) (fun j hj => rfl)
set_option maxRecDepth 100000 in
theorem at_13 {D : va_G} {cA : Nat → ClassId} {aK aV : Nat → Nat} {G0 : Gm} (h1 : G0.2.1 = D) (h2 : G0.2.2.1 = cA) {u v : Nat → Nat → Nat} {H : Heap} (hP : va_P D vwCl (cells_X5_init G0 u ++ cells_X6_init G0 v) H) : va_at D vwCl ((gmOf D cA aK aV u v).1 13, ent (gmOf D cA aK aV u v) s0 13) H := by
  subst h1
  subst h2
  rw [ent_k (show kd 13 = 8 from rfl)]
  exact at_I (hP 63 _ rfl) (fun j hj => rfl)
set_option maxRecDepth 100000 in
theorem at_14 {D : va_G} {cA : Nat → ClassId} {aK aV : Nat → Nat} {G0 : Gm} (h1 : G0.2.1 = D) (h2 : G0.2.2.1 = cA) {u v : Nat → Nat → Nat} {H : Heap} (hP : va_P D vwCl (cells_X5_init G0 u ++ cells_X6_init G0 v) H) : va_at D vwCl ((gmOf D cA aK aV u v).1 14, ent (gmOf D cA aK aV u v) s0 14) H := by
  subst h1
  subst h2
  rw [ent_k (show kd 14 = 8 from rfl)]
  exact at_I (hP 64 _ rfl) (fun j hj => rfl)
set_option maxRecDepth 100000 in
theorem at_15 {D : va_G} {cA : Nat → ClassId} {aK aV : Nat → Nat} {G0 : Gm} (h1 : G0.2.1 = D) (h2 : G0.2.2.1 = cA) {u v : Nat → Nat → Nat} {H : Heap} (hP : va_P D vwCl (cells_X5_init G0 u ++ cells_X6_init G0 v) H) : va_at D vwCl ((gmOf D cA aK aV u v).1 15, ent (gmOf D cA aK aV u v) s0 15) H := by
  subst h1
  subst h2
  rw [ent_k (show kd 15 = 8 from rfl)]
  exact at_I (hP 65 _ rfl) (fun j hj => rfl)
set_option maxRecDepth 100000 in
theorem at_16 {D : va_G} {cA : Nat → ClassId} {aK aV : Nat → Nat} {G0 : Gm} (h1 : G0.2.1 = D) (h2 : G0.2.2.1 = cA) {u v : Nat → Nat → Nat} {H : Heap} (hP : va_P D vwCl (cells_X5_init G0 u ++ cells_X6_init G0 v) H) : va_at D vwCl ((gmOf D cA aK aV u v).1 16, ent (gmOf D cA aK aV u v) s0 16) H := by
  subst h1
  subst h2
  rw [ent_k (show kd 16 = 8 from rfl)]
  exact at_I (hP 66 _ rfl) (fun j hj => rfl)
set_option maxRecDepth 100000 in
theorem at_17 {D : va_G} {cA : Nat → ClassId} {aK aV : Nat → Nat} {G0 : Gm} (h1 : G0.2.1 = D) (h2 : G0.2.2.1 = cA) {u v : Nat → Nat → Nat} {H : Heap} (hP : va_P D vwCl (cells_X5_init G0 u ++ cells_X6_init G0 v) H) : va_at D vwCl ((gmOf D cA aK aV u v).1 17, ent (gmOf D cA aK aV u v) s0 17) H := by
  subst h1
  subst h2
  rw [ent_k (show kd 17 = 8 from rfl)]
  exact at_I (hP 67 _ rfl) (fun j hj => rfl)
set_option maxRecDepth 100000 in
theorem at_18 {D : va_G} {cA : Nat → ClassId} {aK aV : Nat → Nat} {G0 : Gm} (h1 : G0.2.1 = D) (h2 : G0.2.2.1 = cA) {u v : Nat → Nat → Nat} {H : Heap} (hP : va_P D vwCl (cells_X5_init G0 u ++ cells_X6_init G0 v) H) : va_at D vwCl ((gmOf D cA aK aV u v).1 18, ent (gmOf D cA aK aV u v) s0 18) H := by
  subst h1
  subst h2
  rw [ent_k (show kd 18 = 8 from rfl)]
  exact at_I (hP 68 _ rfl) (fun j hj => rfl)
set_option maxRecDepth 100000 in
theorem at_19 {D : va_G} {cA : Nat → ClassId} {aK aV : Nat → Nat} {G0 : Gm} (h1 : G0.2.1 = D) (h2 : G0.2.2.1 = cA) {u v : Nat → Nat → Nat} {H : Heap} (hP : va_P D vwCl (cells_X5_init G0 u ++ cells_X6_init G0 v) H) : va_at D vwCl ((gmOf D cA aK aV u v).1 19, ent (gmOf D cA aK aV u v) s0 19) H := by
  subst h1
  subst h2
  rw [ent_k (show kd 19 = 8 from rfl)]
  exact at_I (hP 69 _ rfl) (fun j hj => rfl)
set_option maxRecDepth 100000 in
theorem at_20 {D : va_G} {cA : Nat → ClassId} {aK aV : Nat → Nat} {G0 : Gm} (h1 : G0.2.1 = D) (h2 : G0.2.2.1 = cA) {u v : Nat → Nat → Nat} {H : Heap} (hP : va_P D vwCl (cells_X5_init G0 u ++ cells_X6_init G0 v) H) : va_at D vwCl ((gmOf D cA aK aV u v).1 20, ent (gmOf D cA aK aV u v) s0 20) H := by
  subst h1
  subst h2
  rw [ent_k (show kd 20 = 8 from rfl)]
  exact at_I (hP 70 _ rfl) (fun j hj => rfl)
set_option maxRecDepth 100000 in
theorem at_21 {D : va_G} {cA : Nat → ClassId} {aK aV : Nat → Nat} {G0 : Gm} (h1 : G0.2.1 = D) (h2 : G0.2.2.1 = cA) {u v : Nat → Nat → Nat} {H : Heap} (hP : va_P D vwCl (cells_X5_init G0 u ++ cells_X6_init G0 v) H) : va_at D vwCl ((gmOf D cA aK aV u v).1 21, ent (gmOf D cA aK aV u v) s0 21) H := by
  subst h1
  subst h2
  rw [ent_k (show kd 21 = 3 from rfl)]
  exact hP 77 _ rfl
set_option maxRecDepth 100000 in
theorem at_22 {D : va_G} {cA : Nat → ClassId} {aK aV : Nat → Nat} {G0 : Gm} (h1 : G0.2.1 = D) (h2 : G0.2.2.1 = cA) {u v : Nat → Nat → Nat} {H : Heap} (hP : va_P D vwCl (cells_X5_init G0 u ++ cells_X6_init G0 v) H) : va_at D vwCl ((gmOf D cA aK aV u v).1 22, ent (gmOf D cA aK aV u v) s0 22) H := by
  subst h1
  subst h2
  rw [ent_k (show kd 22 = 9 from rfl)]
  exact hP 78 _ rfl
set_option maxRecDepth 100000 in
theorem at_23 {D : va_G} {cA : Nat → ClassId} {aK aV : Nat → Nat} {G0 : Gm} (h1 : G0.2.1 = D) (h2 : G0.2.2.1 = cA) {u v : Nat → Nat → Nat} {H : Heap} (hP : va_P D vwCl (cells_X5_init G0 u ++ cells_X6_init G0 v) H) : va_at D vwCl ((gmOf D cA aK aV u v).1 23, ent (gmOf D cA aK aV u v) s0 23) H := by
  subst h1
  subst h2
  rw [ent_k (show kd 23 = 3 from rfl)]
  exact hP 79 _ rfl
set_option maxRecDepth 100000 in
theorem at_24 {D : va_G} {cA : Nat → ClassId} {aK aV : Nat → Nat} {G0 : Gm} (h1 : G0.2.1 = D) (h2 : G0.2.2.1 = cA) {u v : Nat → Nat → Nat} {H : Heap} (hP : va_P D vwCl (cells_X5_init G0 u ++ cells_X6_init G0 v) H) : va_at D vwCl ((gmOf D cA aK aV u v).1 24, ent (gmOf D cA aK aV u v) s0 24) H := by
  subst h1
  subst h2
  rw [ent_k (show kd 24 = 9 from rfl)]
  exact hP 80 _ rfl
set_option maxRecDepth 100000 in
theorem at_25 {D : va_G} {cA : Nat → ClassId} {aK aV : Nat → Nat} {G0 : Gm} (h1 : G0.2.1 = D) (h2 : G0.2.2.1 = cA) {u v : Nat → Nat → Nat} {H : Heap} (hP : va_P D vwCl (cells_X5_init G0 u ++ cells_X6_init G0 v) H) : va_at D vwCl ((gmOf D cA aK aV u v).1 25, ent (gmOf D cA aK aV u v) s0 25) H := by
  subst h1
  subst h2
  rw [ent_k (show kd 25 = 3 from rfl)]
  exact hP 81 _ rfl
set_option maxRecDepth 100000 in
theorem at_26 {D : va_G} {cA : Nat → ClassId} {aK aV : Nat → Nat} {G0 : Gm} (h1 : G0.2.1 = D) (h2 : G0.2.2.1 = cA) {u v : Nat → Nat → Nat} {H : Heap} (hP : va_P D vwCl (cells_X5_init G0 u ++ cells_X6_init G0 v) H) : va_at D vwCl ((gmOf D cA aK aV u v).1 26, ent (gmOf D cA aK aV u v) s0 26) H := by
  subst h1
  subst h2
  rw [ent_k (show kd 26 = 9 from rfl)]
  exact hP 82 _ rfl
set_option maxRecDepth 100000 in
theorem at_27 {D : va_G} {cA : Nat → ClassId} {aK aV : Nat → Nat} {G0 : Gm} (h1 : G0.2.1 = D) (h2 : G0.2.2.1 = cA) {u v : Nat → Nat → Nat} {H : Heap} (hP : va_P D vwCl (cells_X5_init G0 u ++ cells_X6_init G0 v) H) : va_at D vwCl ((gmOf D cA aK aV u v).1 27, ent (gmOf D cA aK aV u v) s0 27) H := by
  subst h1
  subst h2
  rw [ent_k (show kd 27 = 3 from rfl)]
  exact hP 83 _ rfl
set_option maxRecDepth 100000 in
theorem at_28 {D : va_G} {cA : Nat → ClassId} {aK aV : Nat → Nat} {G0 : Gm} (h1 : G0.2.1 = D) (h2 : G0.2.2.1 = cA) {u v : Nat → Nat → Nat} {H : Heap} (hP : va_P D vwCl (cells_X5_init G0 u ++ cells_X6_init G0 v) H) : va_at D vwCl ((gmOf D cA aK aV u v).1 28, ent (gmOf D cA aK aV u v) s0 28) H := by
  subst h1
  subst h2
  rw [ent_k (show kd 28 = 9 from rfl)]
  exact hP 84 _ rfl
set_option maxRecDepth 100000 in
theorem at_29 {D : va_G} {cA : Nat → ClassId} {aK aV : Nat → Nat} {G0 : Gm} (h1 : G0.2.1 = D) (h2 : G0.2.2.1 = cA) {u v : Nat → Nat → Nat} {H : Heap} (hP : va_P D vwCl (cells_X5_init G0 u ++ cells_X6_init G0 v) H) : va_at D vwCl ((gmOf D cA aK aV u v).1 29, ent (gmOf D cA aK aV u v) s0 29) H := by
  subst h1
  subst h2
  rw [ent_k (show kd 29 = 3 from rfl)]
  exact hP 85 _ rfl
set_option maxRecDepth 100000 in
theorem at_30 {D : va_G} {cA : Nat → ClassId} {aK aV : Nat → Nat} {G0 : Gm} (h1 : G0.2.1 = D) (h2 : G0.2.2.1 = cA) {u v : Nat → Nat → Nat} {H : Heap} (hP : va_P D vwCl (cells_X5_init G0 u ++ cells_X6_init G0 v) H) : va_at D vwCl ((gmOf D cA aK aV u v).1 30, ent (gmOf D cA aK aV u v) s0 30) H := by
  subst h1
  subst h2
  rw [ent_k (show kd 30 = 9 from rfl)]
  exact hP 86 _ rfl
set_option maxRecDepth 100000 in
theorem at_31 {D : va_G} {cA : Nat → ClassId} {aK aV : Nat → Nat} {G0 : Gm} (h1 : G0.2.1 = D) (h2 : G0.2.2.1 = cA) {u v : Nat → Nat → Nat} {H : Heap} (hP : va_P D vwCl (cells_X5_init G0 u ++ cells_X6_init G0 v) H) : va_at D vwCl ((gmOf D cA aK aV u v).1 31, ent (gmOf D cA aK aV u v) s0 31) H := by
  subst h1
  subst h2
  rw [ent_k (show kd 31 = 3 from rfl)]
  exact hP 87 _ rfl
set_option maxRecDepth 100000 in
theorem at_32 {D : va_G} {cA : Nat → ClassId} {aK aV : Nat → Nat} {G0 : Gm} (h1 : G0.2.1 = D) (h2 : G0.2.2.1 = cA) {u v : Nat → Nat → Nat} {H : Heap} (hP : va_P D vwCl (cells_X5_init G0 u ++ cells_X6_init G0 v) H) : va_at D vwCl ((gmOf D cA aK aV u v).1 32, ent (gmOf D cA aK aV u v) s0 32) H := by
  subst h1
  subst h2
  rw [ent_k (show kd 32 = 9 from rfl)]
  exact hP 88 _ rfl
set_option maxRecDepth 100000 in
theorem at_33 {D : va_G} {cA : Nat → ClassId} {aK aV : Nat → Nat} {G0 : Gm} (h1 : G0.2.1 = D) (h2 : G0.2.2.1 = cA) {u v : Nat → Nat → Nat} {H : Heap} (hP : va_P D vwCl (cells_X5_init G0 u ++ cells_X6_init G0 v) H) : va_at D vwCl ((gmOf D cA aK aV u v).1 33, ent (gmOf D cA aK aV u v) s0 33) H := by
  subst h1
  subst h2
  rw [ent_k (show kd 33 = 3 from rfl)]
  exact hP 89 _ rfl
set_option maxRecDepth 100000 in
theorem at_34 {D : va_G} {cA : Nat → ClassId} {aK aV : Nat → Nat} {G0 : Gm} (h1 : G0.2.1 = D) (h2 : G0.2.2.1 = cA) {u v : Nat → Nat → Nat} {H : Heap} (hP : va_P D vwCl (cells_X5_init G0 u ++ cells_X6_init G0 v) H) : va_at D vwCl ((gmOf D cA aK aV u v).1 34, ent (gmOf D cA aK aV u v) s0 34) H := by
  subst h1
  subst h2
  rw [ent_k (show kd 34 = 9 from rfl)]
  exact hP 90 _ rfl
set_option maxRecDepth 100000 in
theorem at_35 {D : va_G} {cA : Nat → ClassId} {aK aV : Nat → Nat} {G0 : Gm} (h1 : G0.2.1 = D) (h2 : G0.2.2.1 = cA) {u v : Nat → Nat → Nat} {H : Heap} (hP : va_P D vwCl (cells_X5_init G0 u ++ cells_X6_init G0 v) H) : va_at D vwCl ((gmOf D cA aK aV u v).1 35, ent (gmOf D cA aK aV u v) s0 35) H := by
  subst h1
  subst h2
  rw [ent_k (show kd 35 = 3 from rfl)]
  exact hP 91 _ rfl
set_option maxRecDepth 100000 in
theorem at_36 {D : va_G} {cA : Nat → ClassId} {aK aV : Nat → Nat} {G0 : Gm} (h1 : G0.2.1 = D) (h2 : G0.2.2.1 = cA) {u v : Nat → Nat → Nat} {H : Heap} (hP : va_P D vwCl (cells_X5_init G0 u ++ cells_X6_init G0 v) H) : va_at D vwCl ((gmOf D cA aK aV u v).1 36, ent (gmOf D cA aK aV u v) s0 36) H := by
  subst h1
  subst h2
  rw [ent_k (show kd 36 = 9 from rfl)]
  exact hP 92 _ rfl
set_option maxRecDepth 100000 in
theorem at_37 {D : va_G} {cA : Nat → ClassId} {aK aV : Nat → Nat} {G0 : Gm} (h1 : G0.2.1 = D) (h2 : G0.2.2.1 = cA) {u v : Nat → Nat → Nat} {H : Heap} (hP : va_P D vwCl (cells_X5_init G0 u ++ cells_X6_init G0 v) H) : va_at D vwCl ((gmOf D cA aK aV u v).1 37, ent (gmOf D cA aK aV u v) s0 37) H := by
  subst h1
  subst h2
  rw [ent_k (show kd 37 = 3 from rfl)]
  exact hP 74 _ rfl
set_option maxRecDepth 100000 in
theorem at_38 {D : va_G} {cA : Nat → ClassId} {aK aV : Nat → Nat} {G0 : Gm} (h1 : G0.2.1 = D) (h2 : G0.2.2.1 = cA) {u v : Nat → Nat → Nat} {H : Heap} (hP : va_P D vwCl (cells_X5_init G0 u ++ cells_X6_init G0 v) H) : va_at D vwCl ((gmOf D cA aK aV u v).1 38, ent (gmOf D cA aK aV u v) s0 38) H := by
  subst h1
  subst h2
  rw [ent_k (show kd 38 = 9 from rfl)]
  exact hP 75 _ rfl
set_option maxRecDepth 100000 in
theorem at_39 {D : va_G} {cA : Nat → ClassId} {aK aV : Nat → Nat} {G0 : Gm} (h1 : G0.2.1 = D) (h2 : G0.2.2.1 = cA) {u v : Nat → Nat → Nat} {H : Heap} (hP : va_P D vwCl (cells_X5_init G0 u ++ cells_X6_init G0 v) H) : va_at D vwCl ((gmOf D cA aK aV u v).1 39, ent (gmOf D cA aK aV u v) s0 39) H := by
  subst h1
  subst h2
  rw [ent_k (show kd 39 = 1 from rfl)]
  exact hP 1 _ rfl
set_option maxRecDepth 100000 in
theorem at_40 {D : va_G} {cA : Nat → ClassId} {aK aV : Nat → Nat} {G0 : Gm} (h1 : G0.2.1 = D) (h2 : G0.2.2.1 = cA) {u v : Nat → Nat → Nat} {H : Heap} (hP : va_P D vwCl (cells_X5_init G0 u ++ cells_X6_init G0 v) H) : va_at D vwCl ((gmOf D cA aK aV u v).1 40, ent (gmOf D cA aK aV u v) s0 40) H := by
  subst h1
  subst h2
  rw [ent_k (show kd 40 = 10 from rfl)]
  refine at_Q (hP 2 _ rfl) (fun j hj => ?_)
  match j, hj with
  | 0, _ => rfl
  | 1, _ => rfl
  | 2, _ => rfl
  | 3, _ => rfl
  | 4, _ => rfl
  | 5, _ => rfl
  | j + 6, hj => exact absurd hj (by show ¬ (j + 6 < 6); omega)
set_option maxRecDepth 100000 in
theorem at_41 {D : va_G} {cA : Nat → ClassId} {aK aV : Nat → Nat} {G0 : Gm} (h1 : G0.2.1 = D) (h2 : G0.2.2.1 = cA) {u v : Nat → Nat → Nat} {H : Heap} (hP : va_P D vwCl (cells_X5_init G0 u ++ cells_X6_init G0 v) H) : va_at D vwCl ((gmOf D cA aK aV u v).1 41, ent (gmOf D cA aK aV u v) s0 41) H := by
  subst h1
  subst h2
  rw [ent_k (show kd 41 = 8 from rfl)]
  exact at_I (hP 5 _ rfl) (fun j hj => rfl)
set_option maxRecDepth 100000 in
theorem at_42 {D : va_G} {cA : Nat → ClassId} {aK aV : Nat → Nat} {G0 : Gm} (h1 : G0.2.1 = D) (h2 : G0.2.2.1 = cA) {u v : Nat → Nat → Nat} {H : Heap} (hP : va_P D vwCl (cells_X5_init G0 u ++ cells_X6_init G0 v) H) : va_at D vwCl ((gmOf D cA aK aV u v).1 42, ent (gmOf D cA aK aV u v) s0 42) H := by
  subst h1
  subst h2
  rw [ent_k (show kd 42 = 8 from rfl)]
  exact at_I (hP 6 _ rfl) (fun j hj => rfl)
set_option maxRecDepth 100000 in
theorem at_43 {D : va_G} {cA : Nat → ClassId} {aK aV : Nat → Nat} {G0 : Gm} (h1 : G0.2.1 = D) (h2 : G0.2.2.1 = cA) {u v : Nat → Nat → Nat} {H : Heap} (hP : va_P D vwCl (cells_X5_init G0 u ++ cells_X6_init G0 v) H) : va_at D vwCl ((gmOf D cA aK aV u v).1 43, ent (gmOf D cA aK aV u v) s0 43) H := by
  subst h1
  subst h2
  rw [ent_k (show kd 43 = 2 from rfl)]
  exact hP 7 _ rfl
set_option maxRecDepth 100000 in
theorem at_44 {D : va_G} {cA : Nat → ClassId} {aK aV : Nat → Nat} {G0 : Gm} (h1 : G0.2.1 = D) (h2 : G0.2.2.1 = cA) {u v : Nat → Nat → Nat} {H : Heap} (hP : va_P D vwCl (cells_X5_init G0 u ++ cells_X6_init G0 v) H) : va_at D vwCl ((gmOf D cA aK aV u v).1 44, ent (gmOf D cA aK aV u v) s0 44) H := by
  subst h1
  subst h2
  rw [ent_k (show kd 44 = 8 from rfl)]
  exact at_I (hP 8 _ rfl) (fun j hj => rfl)
set_option maxRecDepth 100000 in
theorem at_45 {D : va_G} {cA : Nat → ClassId} {aK aV : Nat → Nat} {G0 : Gm} (h1 : G0.2.1 = D) (h2 : G0.2.2.1 = cA) {u v : Nat → Nat → Nat} {H : Heap} (hP : va_P D vwCl (cells_X5_init G0 u ++ cells_X6_init G0 v) H) : va_at D vwCl ((gmOf D cA aK aV u v).1 45, ent (gmOf D cA aK aV u v) s0 45) H := by
  subst h1
  subst h2
  rw [ent_k (show kd 45 = 2 from rfl)]
  exact hP 9 _ rfl
set_option maxRecDepth 100000 in
theorem at_46 {D : va_G} {cA : Nat → ClassId} {aK aV : Nat → Nat} {G0 : Gm} (h1 : G0.2.1 = D) (h2 : G0.2.2.1 = cA) {u v : Nat → Nat → Nat} {H : Heap} (hP : va_P D vwCl (cells_X5_init G0 u ++ cells_X6_init G0 v) H) : va_at D vwCl ((gmOf D cA aK aV u v).1 46, ent (gmOf D cA aK aV u v) s0 46) H := by
  subst h1
  subst h2
  rw [ent_k (show kd 46 = 8 from rfl)]
  exact at_I (hP 10 _ rfl) (fun j hj => rfl)
set_option maxRecDepth 100000 in
theorem at_47 {D : va_G} {cA : Nat → ClassId} {aK aV : Nat → Nat} {G0 : Gm} (h1 : G0.2.1 = D) (h2 : G0.2.2.1 = cA) {u v : Nat → Nat → Nat} {H : Heap} (hP : va_P D vwCl (cells_X5_init G0 u ++ cells_X6_init G0 v) H) : va_at D vwCl ((gmOf D cA aK aV u v).1 47, ent (gmOf D cA aK aV u v) s0 47) H := by
  subst h1
  subst h2
  rw [ent_k (show kd 47 = 2 from rfl)]
  exact hP 11 _ rfl
set_option maxRecDepth 100000 in
theorem at_48 {D : va_G} {cA : Nat → ClassId} {aK aV : Nat → Nat} {G0 : Gm} (h1 : G0.2.1 = D) (h2 : G0.2.2.1 = cA) {u v : Nat → Nat → Nat} {H : Heap} (hP : va_P D vwCl (cells_X5_init G0 u ++ cells_X6_init G0 v) H) : va_at D vwCl ((gmOf D cA aK aV u v).1 48, ent (gmOf D cA aK aV u v) s0 48) H := by
  subst h1
  subst h2
  rw [ent_k (show kd 48 = 8 from rfl)]
  exact at_I (hP 12 _ rfl) (fun j hj => rfl)
set_option maxRecDepth 100000 in
theorem at_49 {D : va_G} {cA : Nat → ClassId} {aK aV : Nat → Nat} {G0 : Gm} (h1 : G0.2.1 = D) (h2 : G0.2.2.1 = cA) {u v : Nat → Nat → Nat} {H : Heap} (hP : va_P D vwCl (cells_X5_init G0 u ++ cells_X6_init G0 v) H) : va_at D vwCl ((gmOf D cA aK aV u v).1 49, ent (gmOf D cA aK aV u v) s0 49) H := by
  subst h1
  subst h2
  rw [ent_k (show kd 49 = 2 from rfl)]
  exact hP 13 _ rfl
set_option maxRecDepth 100000 in
theorem at_50 {D : va_G} {cA : Nat → ClassId} {aK aV : Nat → Nat} {G0 : Gm} (h1 : G0.2.1 = D) (h2 : G0.2.2.1 = cA) {u v : Nat → Nat → Nat} {H : Heap} (hP : va_P D vwCl (cells_X5_init G0 u ++ cells_X6_init G0 v) H) : va_at D vwCl ((gmOf D cA aK aV u v).1 50, ent (gmOf D cA aK aV u v) s0 50) H := by
  subst h1
  subst h2
  rw [ent_k (show kd 50 = 8 from rfl)]
  exact at_I (hP 14 _ rfl) (fun j hj => rfl)
set_option maxRecDepth 100000 in
theorem at_51 {D : va_G} {cA : Nat → ClassId} {aK aV : Nat → Nat} {G0 : Gm} (h1 : G0.2.1 = D) (h2 : G0.2.2.1 = cA) {u v : Nat → Nat → Nat} {H : Heap} (hP : va_P D vwCl (cells_X5_init G0 u ++ cells_X6_init G0 v) H) : va_at D vwCl ((gmOf D cA aK aV u v).1 51, ent (gmOf D cA aK aV u v) s0 51) H := by
  subst h1
  subst h2
  rw [ent_k (show kd 51 = 2 from rfl)]
  exact hP 15 _ rfl
set_option maxRecDepth 100000 in
theorem at_52 {D : va_G} {cA : Nat → ClassId} {aK aV : Nat → Nat} {G0 : Gm} (h1 : G0.2.1 = D) (h2 : G0.2.2.1 = cA) {u v : Nat → Nat → Nat} {H : Heap} (hP : va_P D vwCl (cells_X5_init G0 u ++ cells_X6_init G0 v) H) : va_at D vwCl ((gmOf D cA aK aV u v).1 52, ent (gmOf D cA aK aV u v) s0 52) H := by
  subst h1
  subst h2
  rw [ent_k (show kd 52 = 8 from rfl)]
  exact at_I (hP 16 _ rfl) (fun j hj => rfl)
set_option maxRecDepth 100000 in
theorem at_53 {D : va_G} {cA : Nat → ClassId} {aK aV : Nat → Nat} {G0 : Gm} (h1 : G0.2.1 = D) (h2 : G0.2.2.1 = cA) {u v : Nat → Nat → Nat} {H : Heap} (hP : va_P D vwCl (cells_X5_init G0 u ++ cells_X6_init G0 v) H) : va_at D vwCl ((gmOf D cA aK aV u v).1 53, ent (gmOf D cA aK aV u v) s0 53) H := by
  subst h1
  subst h2
  rw [ent_k (show kd 53 = 2 from rfl)]
  exact hP 17 _ rfl
set_option maxRecDepth 100000 in
theorem at_54 {D : va_G} {cA : Nat → ClassId} {aK aV : Nat → Nat} {G0 : Gm} (h1 : G0.2.1 = D) (h2 : G0.2.2.1 = cA) {u v : Nat → Nat → Nat} {H : Heap} (hP : va_P D vwCl (cells_X5_init G0 u ++ cells_X6_init G0 v) H) : va_at D vwCl ((gmOf D cA aK aV u v).1 54, ent (gmOf D cA aK aV u v) s0 54) H := by
  subst h1
  subst h2
  rw [ent_k (show kd 54 = 8 from rfl)]
  exact at_I (hP 18 _ rfl) (fun j hj => rfl)
set_option maxRecDepth 100000 in
theorem at_55 {D : va_G} {cA : Nat → ClassId} {aK aV : Nat → Nat} {G0 : Gm} (h1 : G0.2.1 = D) (h2 : G0.2.2.1 = cA) {u v : Nat → Nat → Nat} {H : Heap} (hP : va_P D vwCl (cells_X5_init G0 u ++ cells_X6_init G0 v) H) : va_at D vwCl ((gmOf D cA aK aV u v).1 55, ent (gmOf D cA aK aV u v) s0 55) H := by
  subst h1
  subst h2
  rw [ent_k (show kd 55 = 2 from rfl)]
  exact hP 3 _ rfl
set_option maxRecDepth 100000 in
theorem at_56 {D : va_G} {cA : Nat → ClassId} {aK aV : Nat → Nat} {G0 : Gm} (h1 : G0.2.1 = D) (h2 : G0.2.2.1 = cA) {u v : Nat → Nat → Nat} {H : Heap} (hP : va_P D vwCl (cells_X5_init G0 u ++ cells_X6_init G0 v) H) : va_at D vwCl ((gmOf D cA aK aV u v).1 56, ent (gmOf D cA aK aV u v) s0 56) H := by
  subst h1
  subst h2
  rw [ent_k (show kd 56 = 8 from rfl)]
  exact at_I (hP 4 _ rfl) (fun j hj => rfl)
set_option maxRecDepth 100000 in
theorem at_57 {D : va_G} {cA : Nat → ClassId} {aK aV : Nat → Nat} {G0 : Gm} (h1 : G0.2.1 = D) (h2 : G0.2.2.1 = cA) {u v : Nat → Nat → Nat} {H : Heap} (hP : va_P D vwCl (cells_X5_init G0 u ++ cells_X6_init G0 v) H) : va_at D vwCl ((gmOf D cA aK aV u v).1 57, ent (gmOf D cA aK aV u v) s0 57) H := by
  subst h1
  subst h2
  rw [ent_k (show kd 57 = 1 from rfl)]
  exact hP 19 _ rfl
set_option maxRecDepth 100000 in
theorem at_58 {D : va_G} {cA : Nat → ClassId} {aK aV : Nat → Nat} {G0 : Gm} (h1 : G0.2.1 = D) (h2 : G0.2.2.1 = cA) {u v : Nat → Nat → Nat} {H : Heap} (hP : va_P D vwCl (cells_X5_init G0 u ++ cells_X6_init G0 v) H) : va_at D vwCl ((gmOf D cA aK aV u v).1 58, ent (gmOf D cA aK aV u v) s0 58) H := by
  subst h1
  subst h2
  rw [ent_k (show kd 58 = 10 from rfl)]
  refine at_Q (hP 20 _ rfl) (fun j hj => ?_)
  match j, hj with
  | 0, _ => rfl
  | 1, _ => rfl
  | 2, _ => rfl
  | 3, _ => rfl
  | 4, _ => rfl
  | 5, _ => rfl
  | j + 6, hj => exact absurd hj (by show ¬ (j + 6 < 6); omega)
set_option maxRecDepth 100000 in
theorem at_59 {D : va_G} {cA : Nat → ClassId} {aK aV : Nat → Nat} {G0 : Gm} (h1 : G0.2.1 = D) (h2 : G0.2.2.1 = cA) {u v : Nat → Nat → Nat} {H : Heap} (hP : va_P D vwCl (cells_X5_init G0 u ++ cells_X6_init G0 v) H) : va_at D vwCl ((gmOf D cA aK aV u v).1 59, ent (gmOf D cA aK aV u v) s0 59) H := by
  subst h1
  subst h2
  rw [ent_k (show kd 59 = 8 from rfl)]
  exact at_I (hP 23 _ rfl) (fun j hj => rfl)
set_option maxRecDepth 100000 in
theorem at_60 {D : va_G} {cA : Nat → ClassId} {aK aV : Nat → Nat} {G0 : Gm} (h1 : G0.2.1 = D) (h2 : G0.2.2.1 = cA) {u v : Nat → Nat → Nat} {H : Heap} (hP : va_P D vwCl (cells_X5_init G0 u ++ cells_X6_init G0 v) H) : va_at D vwCl ((gmOf D cA aK aV u v).1 60, ent (gmOf D cA aK aV u v) s0 60) H := by
  subst h1
  subst h2
  rw [ent_k (show kd 60 = 8 from rfl)]
  exact at_I (hP 24 _ rfl) (fun j hj => rfl)
set_option maxRecDepth 100000 in
theorem at_61 {D : va_G} {cA : Nat → ClassId} {aK aV : Nat → Nat} {G0 : Gm} (h1 : G0.2.1 = D) (h2 : G0.2.2.1 = cA) {u v : Nat → Nat → Nat} {H : Heap} (hP : va_P D vwCl (cells_X5_init G0 u ++ cells_X6_init G0 v) H) : va_at D vwCl ((gmOf D cA aK aV u v).1 61, ent (gmOf D cA aK aV u v) s0 61) H := by
  subst h1
  subst h2
  rw [ent_k (show kd 61 = 2 from rfl)]
  exact hP 25 _ rfl
set_option maxRecDepth 100000 in
theorem at_62 {D : va_G} {cA : Nat → ClassId} {aK aV : Nat → Nat} {G0 : Gm} (h1 : G0.2.1 = D) (h2 : G0.2.2.1 = cA) {u v : Nat → Nat → Nat} {H : Heap} (hP : va_P D vwCl (cells_X5_init G0 u ++ cells_X6_init G0 v) H) : va_at D vwCl ((gmOf D cA aK aV u v).1 62, ent (gmOf D cA aK aV u v) s0 62) H := by
  subst h1
  subst h2
  rw [ent_k (show kd 62 = 8 from rfl)]
  exact at_I (hP 26 _ rfl) (fun j hj => rfl)
set_option maxRecDepth 100000 in
theorem at_63 {D : va_G} {cA : Nat → ClassId} {aK aV : Nat → Nat} {G0 : Gm} (h1 : G0.2.1 = D) (h2 : G0.2.2.1 = cA) {u v : Nat → Nat → Nat} {H : Heap} (hP : va_P D vwCl (cells_X5_init G0 u ++ cells_X6_init G0 v) H) : va_at D vwCl ((gmOf D cA aK aV u v).1 63, ent (gmOf D cA aK aV u v) s0 63) H := by
  subst h1
  subst h2
  rw [ent_k (show kd 63 = 2 from rfl)]
  exact hP 27 _ rfl
set_option maxRecDepth 100000 in
theorem at_64 {D : va_G} {cA : Nat → ClassId} {aK aV : Nat → Nat} {G0 : Gm} (h1 : G0.2.1 = D) (h2 : G0.2.2.1 = cA) {u v : Nat → Nat → Nat} {H : Heap} (hP : va_P D vwCl (cells_X5_init G0 u ++ cells_X6_init G0 v) H) : va_at D vwCl ((gmOf D cA aK aV u v).1 64, ent (gmOf D cA aK aV u v) s0 64) H := by
  subst h1
  subst h2
  rw [ent_k (show kd 64 = 8 from rfl)]
  exact at_I (hP 28 _ rfl) (fun j hj => rfl)
set_option maxRecDepth 100000 in
theorem at_65 {D : va_G} {cA : Nat → ClassId} {aK aV : Nat → Nat} {G0 : Gm} (h1 : G0.2.1 = D) (h2 : G0.2.2.1 = cA) {u v : Nat → Nat → Nat} {H : Heap} (hP : va_P D vwCl (cells_X5_init G0 u ++ cells_X6_init G0 v) H) : va_at D vwCl ((gmOf D cA aK aV u v).1 65, ent (gmOf D cA aK aV u v) s0 65) H := by
  subst h1
  subst h2
  rw [ent_k (show kd 65 = 2 from rfl)]
  exact hP 29 _ rfl
set_option maxRecDepth 100000 in
theorem at_66 {D : va_G} {cA : Nat → ClassId} {aK aV : Nat → Nat} {G0 : Gm} (h1 : G0.2.1 = D) (h2 : G0.2.2.1 = cA) {u v : Nat → Nat → Nat} {H : Heap} (hP : va_P D vwCl (cells_X5_init G0 u ++ cells_X6_init G0 v) H) : va_at D vwCl ((gmOf D cA aK aV u v).1 66, ent (gmOf D cA aK aV u v) s0 66) H := by
  subst h1
  subst h2
  rw [ent_k (show kd 66 = 8 from rfl)]
  exact at_I (hP 30 _ rfl) (fun j hj => rfl)
set_option maxRecDepth 100000 in
theorem at_67 {D : va_G} {cA : Nat → ClassId} {aK aV : Nat → Nat} {G0 : Gm} (h1 : G0.2.1 = D) (h2 : G0.2.2.1 = cA) {u v : Nat → Nat → Nat} {H : Heap} (hP : va_P D vwCl (cells_X5_init G0 u ++ cells_X6_init G0 v) H) : va_at D vwCl ((gmOf D cA aK aV u v).1 67, ent (gmOf D cA aK aV u v) s0 67) H := by
  subst h1
  subst h2
  rw [ent_k (show kd 67 = 2 from rfl)]
  exact hP 31 _ rfl
set_option maxRecDepth 100000 in
theorem at_68 {D : va_G} {cA : Nat → ClassId} {aK aV : Nat → Nat} {G0 : Gm} (h1 : G0.2.1 = D) (h2 : G0.2.2.1 = cA) {u v : Nat → Nat → Nat} {H : Heap} (hP : va_P D vwCl (cells_X5_init G0 u ++ cells_X6_init G0 v) H) : va_at D vwCl ((gmOf D cA aK aV u v).1 68, ent (gmOf D cA aK aV u v) s0 68) H := by
  subst h1
  subst h2
  rw [ent_k (show kd 68 = 8 from rfl)]
  exact at_I (hP 32 _ rfl) (fun j hj => rfl)
set_option maxRecDepth 100000 in
theorem at_69 {D : va_G} {cA : Nat → ClassId} {aK aV : Nat → Nat} {G0 : Gm} (h1 : G0.2.1 = D) (h2 : G0.2.2.1 = cA) {u v : Nat → Nat → Nat} {H : Heap} (hP : va_P D vwCl (cells_X5_init G0 u ++ cells_X6_init G0 v) H) : va_at D vwCl ((gmOf D cA aK aV u v).1 69, ent (gmOf D cA aK aV u v) s0 69) H := by
  subst h1
  subst h2
  rw [ent_k (show kd 69 = 2 from rfl)]
  exact hP 33 _ rfl
set_option maxRecDepth 100000 in
theorem at_70 {D : va_G} {cA : Nat → ClassId} {aK aV : Nat → Nat} {G0 : Gm} (h1 : G0.2.1 = D) (h2 : G0.2.2.1 = cA) {u v : Nat → Nat → Nat} {H : Heap} (hP : va_P D vwCl (cells_X5_init G0 u ++ cells_X6_init G0 v) H) : va_at D vwCl ((gmOf D cA aK aV u v).1 70, ent (gmOf D cA aK aV u v) s0 70) H := by
  subst h1
  subst h2
  rw [ent_k (show kd 70 = 8 from rfl)]
  exact at_I (hP 34 _ rfl) (fun j hj => rfl)
set_option maxRecDepth 100000 in
theorem at_71 {D : va_G} {cA : Nat → ClassId} {aK aV : Nat → Nat} {G0 : Gm} (h1 : G0.2.1 = D) (h2 : G0.2.2.1 = cA) {u v : Nat → Nat → Nat} {H : Heap} (hP : va_P D vwCl (cells_X5_init G0 u ++ cells_X6_init G0 v) H) : va_at D vwCl ((gmOf D cA aK aV u v).1 71, ent (gmOf D cA aK aV u v) s0 71) H := by
  subst h1
  subst h2
  rw [ent_k (show kd 71 = 2 from rfl)]
  exact hP 35 _ rfl
set_option maxRecDepth 100000 in
theorem at_72 {D : va_G} {cA : Nat → ClassId} {aK aV : Nat → Nat} {G0 : Gm} (h1 : G0.2.1 = D) (h2 : G0.2.2.1 = cA) {u v : Nat → Nat → Nat} {H : Heap} (hP : va_P D vwCl (cells_X5_init G0 u ++ cells_X6_init G0 v) H) : va_at D vwCl ((gmOf D cA aK aV u v).1 72, ent (gmOf D cA aK aV u v) s0 72) H := by
  subst h1
  subst h2
  rw [ent_k (show kd 72 = 8 from rfl)]
  exact at_I (hP 36 _ rfl) (fun j hj => rfl)
set_option maxRecDepth 100000 in
theorem at_73 {D : va_G} {cA : Nat → ClassId} {aK aV : Nat → Nat} {G0 : Gm} (h1 : G0.2.1 = D) (h2 : G0.2.2.1 = cA) {u v : Nat → Nat → Nat} {H : Heap} (hP : va_P D vwCl (cells_X5_init G0 u ++ cells_X6_init G0 v) H) : va_at D vwCl ((gmOf D cA aK aV u v).1 73, ent (gmOf D cA aK aV u v) s0 73) H := by
  subst h1
  subst h2
  rw [ent_k (show kd 73 = 2 from rfl)]
  exact hP 21 _ rfl
set_option maxRecDepth 100000 in
theorem at_74 {D : va_G} {cA : Nat → ClassId} {aK aV : Nat → Nat} {G0 : Gm} (h1 : G0.2.1 = D) (h2 : G0.2.2.1 = cA) {u v : Nat → Nat → Nat} {H : Heap} (hP : va_P D vwCl (cells_X5_init G0 u ++ cells_X6_init G0 v) H) : va_at D vwCl ((gmOf D cA aK aV u v).1 74, ent (gmOf D cA aK aV u v) s0 74) H := by
  subst h1
  subst h2
  rw [ent_k (show kd 74 = 8 from rfl)]
  exact at_I (hP 22 _ rfl) (fun j hj => rfl)
set_option maxRecDepth 100000 in
theorem at_75 {D : va_G} {cA : Nat → ClassId} {aK aV : Nat → Nat} {G0 : Gm} (h1 : G0.2.1 = D) (h2 : G0.2.2.1 = cA) {u v : Nat → Nat → Nat} {H : Heap} (hP : va_P D vwCl (cells_X5_init G0 u ++ cells_X6_init G0 v) H) : va_at D vwCl ((gmOf D cA aK aV u v).1 75, ent (gmOf D cA aK aV u v) s0 75) H := by
  subst h1
  subst h2
  rw [ent_k (show kd 75 = 1 from rfl)]
  exact hP 37 _ rfl
set_option maxRecDepth 100000 in
theorem at_76 {D : va_G} {cA : Nat → ClassId} {aK aV : Nat → Nat} {G0 : Gm} (h1 : G0.2.1 = D) (h2 : G0.2.2.1 = cA) {u v : Nat → Nat → Nat} {H : Heap} (hP : va_P D vwCl (cells_X5_init G0 u ++ cells_X6_init G0 v) H) : va_at D vwCl ((gmOf D cA aK aV u v).1 76, ent (gmOf D cA aK aV u v) s0 76) H := by
  subst h1
  subst h2
  rw [ent_k (show kd 76 = 10 from rfl)]
  refine at_Q (hP 38 _ rfl) (fun j hj => ?_)
  match j, hj with
  | 0, _ => rfl
  | 1, _ => rfl
  | 2, _ => rfl
  | 3, _ => rfl
  | 4, _ => rfl
  | 5, _ => rfl
  | j + 6, hj => exact absurd hj (by show ¬ (j + 6 < 6); omega)
set_option maxRecDepth 100000 in
theorem at_77 {D : va_G} {cA : Nat → ClassId} {aK aV : Nat → Nat} {G0 : Gm} (h1 : G0.2.1 = D) (h2 : G0.2.2.1 = cA) {u v : Nat → Nat → Nat} {H : Heap} (hP : va_P D vwCl (cells_X5_init G0 u ++ cells_X6_init G0 v) H) : va_at D vwCl ((gmOf D cA aK aV u v).1 77, ent (gmOf D cA aK aV u v) s0 77) H := by
  subst h1
  subst h2
  rw [ent_k (show kd 77 = 8 from rfl)]
  exact at_I (hP 41 _ rfl) (fun j hj => rfl)
set_option maxRecDepth 100000 in
theorem at_78 {D : va_G} {cA : Nat → ClassId} {aK aV : Nat → Nat} {G0 : Gm} (h1 : G0.2.1 = D) (h2 : G0.2.2.1 = cA) {u v : Nat → Nat → Nat} {H : Heap} (hP : va_P D vwCl (cells_X5_init G0 u ++ cells_X6_init G0 v) H) : va_at D vwCl ((gmOf D cA aK aV u v).1 78, ent (gmOf D cA aK aV u v) s0 78) H := by
  subst h1
  subst h2
  rw [ent_k (show kd 78 = 8 from rfl)]
  exact at_I (hP 42 _ rfl) (fun j hj => rfl)
set_option maxRecDepth 100000 in
theorem at_79 {D : va_G} {cA : Nat → ClassId} {aK aV : Nat → Nat} {G0 : Gm} (h1 : G0.2.1 = D) (h2 : G0.2.2.1 = cA) {u v : Nat → Nat → Nat} {H : Heap} (hP : va_P D vwCl (cells_X5_init G0 u ++ cells_X6_init G0 v) H) : va_at D vwCl ((gmOf D cA aK aV u v).1 79, ent (gmOf D cA aK aV u v) s0 79) H := by
  subst h1
  subst h2
  rw [ent_k (show kd 79 = 2 from rfl)]
  exact hP 43 _ rfl
set_option maxRecDepth 100000 in
theorem at_80 {D : va_G} {cA : Nat → ClassId} {aK aV : Nat → Nat} {G0 : Gm} (h1 : G0.2.1 = D) (h2 : G0.2.2.1 = cA) {u v : Nat → Nat → Nat} {H : Heap} (hP : va_P D vwCl (cells_X5_init G0 u ++ cells_X6_init G0 v) H) : va_at D vwCl ((gmOf D cA aK aV u v).1 80, ent (gmOf D cA aK aV u v) s0 80) H := by
  subst h1
  subst h2
  rw [ent_k (show kd 80 = 8 from rfl)]
  exact at_I (hP 44 _ rfl) (fun j hj => rfl)
set_option maxRecDepth 100000 in
theorem at_81 {D : va_G} {cA : Nat → ClassId} {aK aV : Nat → Nat} {G0 : Gm} (h1 : G0.2.1 = D) (h2 : G0.2.2.1 = cA) {u v : Nat → Nat → Nat} {H : Heap} (hP : va_P D vwCl (cells_X5_init G0 u ++ cells_X6_init G0 v) H) : va_at D vwCl ((gmOf D cA aK aV u v).1 81, ent (gmOf D cA aK aV u v) s0 81) H := by
  subst h1
  subst h2
  rw [ent_k (show kd 81 = 2 from rfl)]
  exact hP 45 _ rfl
set_option maxRecDepth 100000 in
theorem at_82 {D : va_G} {cA : Nat → ClassId} {aK aV : Nat → Nat} {G0 : Gm} (h1 : G0.2.1 = D) (h2 : G0.2.2.1 = cA) {u v : Nat → Nat → Nat} {H : Heap} (hP : va_P D vwCl (cells_X5_init G0 u ++ cells_X6_init G0 v) H) : va_at D vwCl ((gmOf D cA aK aV u v).1 82, ent (gmOf D cA aK aV u v) s0 82) H := by
  subst h1
  subst h2
  rw [ent_k (show kd 82 = 8 from rfl)]
  exact at_I (hP 46 _ rfl) (fun j hj => rfl)
set_option maxRecDepth 100000 in
theorem at_83 {D : va_G} {cA : Nat → ClassId} {aK aV : Nat → Nat} {G0 : Gm} (h1 : G0.2.1 = D) (h2 : G0.2.2.1 = cA) {u v : Nat → Nat → Nat} {H : Heap} (hP : va_P D vwCl (cells_X5_init G0 u ++ cells_X6_init G0 v) H) : va_at D vwCl ((gmOf D cA aK aV u v).1 83, ent (gmOf D cA aK aV u v) s0 83) H := by
  subst h1
  subst h2
  rw [ent_k (show kd 83 = 2 from rfl)]
  exact hP 47 _ rfl
set_option maxRecDepth 100000 in
theorem at_84 {D : va_G} {cA : Nat → ClassId} {aK aV : Nat → Nat} {G0 : Gm} (h1 : G0.2.1 = D) (h2 : G0.2.2.1 = cA) {u v : Nat → Nat → Nat} {H : Heap} (hP : va_P D vwCl (cells_X5_init G0 u ++ cells_X6_init G0 v) H) : va_at D vwCl ((gmOf D cA aK aV u v).1 84, ent (gmOf D cA aK aV u v) s0 84) H := by
  subst h1
  subst h2
  rw [ent_k (show kd 84 = 8 from rfl)]
  exact at_I (hP 48 _ rfl) (fun j hj => rfl)
set_option maxRecDepth 100000 in
theorem at_85 {D : va_G} {cA : Nat → ClassId} {aK aV : Nat → Nat} {G0 : Gm} (h1 : G0.2.1 = D) (h2 : G0.2.2.1 = cA) {u v : Nat → Nat → Nat} {H : Heap} (hP : va_P D vwCl (cells_X5_init G0 u ++ cells_X6_init G0 v) H) : va_at D vwCl ((gmOf D cA aK aV u v).1 85, ent (gmOf D cA aK aV u v) s0 85) H := by
  subst h1
  subst h2
  rw [ent_k (show kd 85 = 2 from rfl)]
  exact hP 49 _ rfl
set_option maxRecDepth 100000 in
theorem at_86 {D : va_G} {cA : Nat → ClassId} {aK aV : Nat → Nat} {G0 : Gm} (h1 : G0.2.1 = D) (h2 : G0.2.2.1 = cA) {u v : Nat → Nat → Nat} {H : Heap} (hP : va_P D vwCl (cells_X5_init G0 u ++ cells_X6_init G0 v) H) : va_at D vwCl ((gmOf D cA aK aV u v).1 86, ent (gmOf D cA aK aV u v) s0 86) H := by
  subst h1
  subst h2
  rw [ent_k (show kd 86 = 8 from rfl)]
  exact at_I (hP 50 _ rfl) (fun j hj => rfl)
set_option maxRecDepth 100000 in
theorem at_87 {D : va_G} {cA : Nat → ClassId} {aK aV : Nat → Nat} {G0 : Gm} (h1 : G0.2.1 = D) (h2 : G0.2.2.1 = cA) {u v : Nat → Nat → Nat} {H : Heap} (hP : va_P D vwCl (cells_X5_init G0 u ++ cells_X6_init G0 v) H) : va_at D vwCl ((gmOf D cA aK aV u v).1 87, ent (gmOf D cA aK aV u v) s0 87) H := by
  subst h1
  subst h2
  rw [ent_k (show kd 87 = 2 from rfl)]
  exact hP 51 _ rfl
set_option maxRecDepth 100000 in
theorem at_88 {D : va_G} {cA : Nat → ClassId} {aK aV : Nat → Nat} {G0 : Gm} (h1 : G0.2.1 = D) (h2 : G0.2.2.1 = cA) {u v : Nat → Nat → Nat} {H : Heap} (hP : va_P D vwCl (cells_X5_init G0 u ++ cells_X6_init G0 v) H) : va_at D vwCl ((gmOf D cA aK aV u v).1 88, ent (gmOf D cA aK aV u v) s0 88) H := by
  subst h1
  subst h2
  rw [ent_k (show kd 88 = 8 from rfl)]
  exact at_I (hP 52 _ rfl) (fun j hj => rfl)
set_option maxRecDepth 100000 in
theorem at_89 {D : va_G} {cA : Nat → ClassId} {aK aV : Nat → Nat} {G0 : Gm} (h1 : G0.2.1 = D) (h2 : G0.2.2.1 = cA) {u v : Nat → Nat → Nat} {H : Heap} (hP : va_P D vwCl (cells_X5_init G0 u ++ cells_X6_init G0 v) H) : va_at D vwCl ((gmOf D cA aK aV u v).1 89, ent (gmOf D cA aK aV u v) s0 89) H := by
  subst h1
  subst h2
  rw [ent_k (show kd 89 = 2 from rfl)]
  exact hP 53 _ rfl
set_option maxRecDepth 100000 in
theorem at_90 {D : va_G} {cA : Nat → ClassId} {aK aV : Nat → Nat} {G0 : Gm} (h1 : G0.2.1 = D) (h2 : G0.2.2.1 = cA) {u v : Nat → Nat → Nat} {H : Heap} (hP : va_P D vwCl (cells_X5_init G0 u ++ cells_X6_init G0 v) H) : va_at D vwCl ((gmOf D cA aK aV u v).1 90, ent (gmOf D cA aK aV u v) s0 90) H := by
  subst h1
  subst h2
  rw [ent_k (show kd 90 = 8 from rfl)]
  exact at_I (hP 54 _ rfl) (fun j hj => rfl)
set_option maxRecDepth 100000 in
theorem at_91 {D : va_G} {cA : Nat → ClassId} {aK aV : Nat → Nat} {G0 : Gm} (h1 : G0.2.1 = D) (h2 : G0.2.2.1 = cA) {u v : Nat → Nat → Nat} {H : Heap} (hP : va_P D vwCl (cells_X5_init G0 u ++ cells_X6_init G0 v) H) : va_at D vwCl ((gmOf D cA aK aV u v).1 91, ent (gmOf D cA aK aV u v) s0 91) H := by
  subst h1
  subst h2
  rw [ent_k (show kd 91 = 2 from rfl)]
  exact hP 39 _ rfl
set_option maxRecDepth 100000 in
theorem at_92 {D : va_G} {cA : Nat → ClassId} {aK aV : Nat → Nat} {G0 : Gm} (h1 : G0.2.1 = D) (h2 : G0.2.2.1 = cA) {u v : Nat → Nat → Nat} {H : Heap} (hP : va_P D vwCl (cells_X5_init G0 u ++ cells_X6_init G0 v) H) : va_at D vwCl ((gmOf D cA aK aV u v).1 92, ent (gmOf D cA aK aV u v) s0 92) H := by
  subst h1
  subst h2
  rw [ent_k (show kd 92 = 8 from rfl)]
  exact at_I (hP 40 _ rfl) (fun j hj => rfl)
set_option maxRecDepth 100000 in
theorem at_93 {D : va_G} {cA : Nat → ClassId} {aK aV : Nat → Nat} {G0 : Gm} (h1 : G0.2.1 = D) (h2 : G0.2.2.1 = cA) {u v : Nat → Nat → Nat} {H : Heap} (hP : va_P D vwCl (cells_X5_init G0 u ++ cells_X6_init G0 v) H) : va_at D vwCl ((gmOf D cA aK aV u v).1 93, ent (gmOf D cA aK aV u v) s0 93) H := by
  subst h1
  subst h2
  rw [ent_k (show kd 93 = 7 from rfl)]
  exact hP 93 _ rfl
set_option maxRecDepth 100000 in
theorem at_94 {D : va_G} {cA : Nat → ClassId} {aK aV : Nat → Nat} {G0 : Gm} (h1 : G0.2.1 = D) (h2 : G0.2.2.1 = cA) {u v : Nat → Nat → Nat} {H : Heap} (hP : va_P D vwCl (cells_X5_init G0 u ++ cells_X6_init G0 v) H) : va_at D vwCl ((gmOf D cA aK aV u v).1 94, ent (gmOf D cA aK aV u v) s0 94) H := by
  subst h1
  subst h2
  rw [ent_k (show kd 94 = 8 from rfl)]
  exact at_I (hP 94 _ rfl) (fun j hj => (by
    match j, hj with
    | 0, _ => rfl
    | 1, _ => rfl
    | 2, _ => rfl
    | 3, _ => rfl
    | 4, _ => rfl
    | 5, _ => rfl
    | 6, _ => rfl
    | 7, _ => rfl
    | j + 8, hj => exact absurd hj (by show ¬ (j + 8 < 8); omega)))
set_option maxRecDepth 100000 in
theorem at_95 {D : va_G} {cA : Nat → ClassId} {aK aV : Nat → Nat} {G0 : Gm} (h1 : G0.2.1 = D) (h2 : G0.2.2.1 = cA) {u v : Nat → Nat → Nat} {H : Heap} (hP : va_P D vwCl (cells_X5_init G0 u ++ cells_X6_init G0 v) H) : va_at D vwCl ((gmOf D cA aK aV u v).1 95, ent (gmOf D cA aK aV u v) s0 95) H := by
  subst h1
  subst h2
  rw [ent_k (show kd 95 = 8 from rfl)]
  exact at_I (hP 95 _ rfl) (fun j hj => rfl)
set_option maxRecDepth 100000 in
theorem at_96 {D : va_G} {cA : Nat → ClassId} {aK aV : Nat → Nat} {G0 : Gm} (h1 : G0.2.1 = D) (h2 : G0.2.2.1 = cA) {u v : Nat → Nat → Nat} {H : Heap} (hP : va_P D vwCl (cells_X5_init G0 u ++ cells_X6_init G0 v) H) : va_at D vwCl ((gmOf D cA aK aV u v).1 96, ent (gmOf D cA aK aV u v) s0 96) H := by
  subst h1
  subst h2
  rw [ent_k (show kd 96 = 9 from rfl)]
  exact hP 96 _ rfl
set_option maxRecDepth 100000 in
theorem at_97 {D : va_G} {cA : Nat → ClassId} {aK aV : Nat → Nat} {G0 : Gm} (h1 : G0.2.1 = D) (h2 : G0.2.2.1 = cA) {u v : Nat → Nat → Nat} {H : Heap} (hP : va_P D vwCl (cells_X5_init G0 u ++ cells_X6_init G0 v) H) : va_at D vwCl ((gmOf D cA aK aV u v).1 97, ent (gmOf D cA aK aV u v) s0 97) H := by
  subst h1
  subst h2
  rw [ent_k (show kd 97 = 8 from rfl)]
  exact at_I (hP 97 _ rfl) (fun j hj => rfl)
set_option maxRecDepth 100000 in
theorem at_98 {D : va_G} {cA : Nat → ClassId} {aK aV : Nat → Nat} {G0 : Gm} (h1 : G0.2.1 = D) (h2 : G0.2.2.1 = cA) {u v : Nat → Nat → Nat} {H : Heap} (hP : va_P D vwCl (cells_X5_init G0 u ++ cells_X6_init G0 v) H) : va_at D vwCl ((gmOf D cA aK aV u v).1 98, ent (gmOf D cA aK aV u v) s0 98) H := by
  subst h1
  subst h2
  rw [ent_k (show kd 98 = 8 from rfl)]
  exact at_I (hP 98 _ rfl) (fun j hj => rfl)
set_option maxRecDepth 100000 in
theorem at_99 {D : va_G} {cA : Nat → ClassId} {aK aV : Nat → Nat} {G0 : Gm} (h1 : G0.2.1 = D) (h2 : G0.2.2.1 = cA) {u v : Nat → Nat → Nat} {H : Heap} (hP : va_P D vwCl (cells_X5_init G0 u ++ cells_X6_init G0 v) H) : va_at D vwCl ((gmOf D cA aK aV u v).1 99, ent (gmOf D cA aK aV u v) s0 99) H := by
  subst h1
  subst h2
  rw [ent_k (show kd 99 = 8 from rfl)]
  exact at_I (hP 99 _ rfl) (fun j hj => rfl)
set_option maxRecDepth 100000 in
theorem at_100 {D : va_G} {cA : Nat → ClassId} {aK aV : Nat → Nat} {G0 : Gm} (h1 : G0.2.1 = D) (h2 : G0.2.2.1 = cA) {u v : Nat → Nat → Nat} {H : Heap} (hP : va_P D vwCl (cells_X5_init G0 u ++ cells_X6_init G0 v) H) : va_at D vwCl ((gmOf D cA aK aV u v).1 100, ent (gmOf D cA aK aV u v) s0 100) H := by
  subst h1
  subst h2
  rw [ent_k (show kd 100 = 8 from rfl)]
  exact at_I (hP 100 _ rfl) (fun j hj => rfl)
set_option maxRecDepth 100000 in
theorem at_101 {D : va_G} {cA : Nat → ClassId} {aK aV : Nat → Nat} {G0 : Gm} (h1 : G0.2.1 = D) (h2 : G0.2.2.1 = cA) {u v : Nat → Nat → Nat} {H : Heap} (hP : va_P D vwCl (cells_X5_init G0 u ++ cells_X6_init G0 v) H) : va_at D vwCl ((gmOf D cA aK aV u v).1 101, ent (gmOf D cA aK aV u v) s0 101) H := by
  subst h1
  subst h2
  rw [ent_k (show kd 101 = 8 from rfl)]
  exact at_I (hP 101 _ rfl) (fun j hj => rfl)
set_option maxRecDepth 100000 in
theorem at_102 {D : va_G} {cA : Nat → ClassId} {aK aV : Nat → Nat} {G0 : Gm} (h1 : G0.2.1 = D) (h2 : G0.2.2.1 = cA) {u v : Nat → Nat → Nat} {H : Heap} (hP : va_P D vwCl (cells_X5_init G0 u ++ cells_X6_init G0 v) H) : va_at D vwCl ((gmOf D cA aK aV u v).1 102, ent (gmOf D cA aK aV u v) s0 102) H := by
  subst h1
  subst h2
  rw [ent_k (show kd 102 = 8 from rfl)]
  exact at_I (hP 102 _ rfl) (fun j hj => rfl)
set_option maxRecDepth 100000 in
theorem at_103 {D : va_G} {cA : Nat → ClassId} {aK aV : Nat → Nat} {G0 : Gm} (h1 : G0.2.1 = D) (h2 : G0.2.2.1 = cA) {u v : Nat → Nat → Nat} {H : Heap} (hP : va_P D vwCl (cells_X5_init G0 u ++ cells_X6_init G0 v) H) : va_at D vwCl ((gmOf D cA aK aV u v).1 103, ent (gmOf D cA aK aV u v) s0 103) H := by
  subst h1
  subst h2
  rw [ent_k (show kd 103 = 8 from rfl)]
  exact at_I (hP 103 _ rfl) (fun j hj => rfl)
set_option maxRecDepth 100000 in
theorem at_104 {D : va_G} {cA : Nat → ClassId} {aK aV : Nat → Nat} {G0 : Gm} (h1 : G0.2.1 = D) (h2 : G0.2.2.1 = cA) {u v : Nat → Nat → Nat} {H : Heap} (hP : va_P D vwCl (cells_X5_init G0 u ++ cells_X6_init G0 v) H) : va_at D vwCl ((gmOf D cA aK aV u v).1 104, ent (gmOf D cA aK aV u v) s0 104) H := by
  subst h1
  subst h2
  rw [ent_k (show kd 104 = 8 from rfl)]
  exact at_I (hP 104 _ rfl) (fun j hj => rfl)
set_option maxRecDepth 100000 in
theorem at_105 {D : va_G} {cA : Nat → ClassId} {aK aV : Nat → Nat} {G0 : Gm} (h1 : G0.2.1 = D) (h2 : G0.2.2.1 = cA) {u v : Nat → Nat → Nat} {H : Heap} (hP : va_P D vwCl (cells_X5_init G0 u ++ cells_X6_init G0 v) H) : va_at D vwCl ((gmOf D cA aK aV u v).1 105, ent (gmOf D cA aK aV u v) s0 105) H := by
  subst h1
  subst h2
  rw [ent_k (show kd 105 = 8 from rfl)]
  exact at_I (hP 105 _ rfl) (fun j hj => rfl)
set_option maxRecDepth 100000 in
theorem at_106 {D : va_G} {cA : Nat → ClassId} {aK aV : Nat → Nat} {G0 : Gm} (h1 : G0.2.1 = D) (h2 : G0.2.2.1 = cA) {u v : Nat → Nat → Nat} {H : Heap} (hP : va_P D vwCl (cells_X5_init G0 u ++ cells_X6_init G0 v) H) : va_at D vwCl ((gmOf D cA aK aV u v).1 106, ent (gmOf D cA aK aV u v) s0 106) H := by
  subst h1
  subst h2
  rw [ent_k (show kd 106 = 8 from rfl)]
  exact at_I (hP 106 _ rfl) (fun j hj => rfl)
set_option maxRecDepth 100000 in
theorem at_107 {D : va_G} {cA : Nat → ClassId} {aK aV : Nat → Nat} {G0 : Gm} (h1 : G0.2.1 = D) (h2 : G0.2.2.1 = cA) {u v : Nat → Nat → Nat} {H : Heap} (hP : va_P D vwCl (cells_X5_init G0 u ++ cells_X6_init G0 v) H) : va_at D vwCl ((gmOf D cA aK aV u v).1 107, ent (gmOf D cA aK aV u v) s0 107) H := by
  subst h1
  subst h2
  rw [ent_k (show kd 107 = 8 from rfl)]
  exact at_I (hP 107 _ rfl) (fun j hj => rfl)
set_option maxRecDepth 100000 in
theorem at_108 {D : va_G} {cA : Nat → ClassId} {aK aV : Nat → Nat} {G0 : Gm} (h1 : G0.2.1 = D) (h2 : G0.2.2.1 = cA) {u v : Nat → Nat → Nat} {H : Heap} (hP : va_P D vwCl (cells_X5_init G0 u ++ cells_X6_init G0 v) H) : va_at D vwCl ((gmOf D cA aK aV u v).1 108, ent (gmOf D cA aK aV u v) s0 108) H := by
  subst h1
  subst h2
  rw [ent_k (show kd 108 = 8 from rfl)]
  exact at_I (hP 108 _ rfl) (fun j hj => rfl)
set_option maxRecDepth 100000 in
theorem at_109 {D : va_G} {cA : Nat → ClassId} {aK aV : Nat → Nat} {G0 : Gm} (h1 : G0.2.1 = D) (h2 : G0.2.2.1 = cA) {u v : Nat → Nat → Nat} {H : Heap} (hP : va_P D vwCl (cells_X5_init G0 u ++ cells_X6_init G0 v) H) : va_at D vwCl ((gmOf D cA aK aV u v).1 109, ent (gmOf D cA aK aV u v) s0 109) H := by
  subst h1
  subst h2
  rw [ent_k (show kd 109 = 8 from rfl)]
  exact at_I (hP 109 _ rfl) (fun j hj => rfl)
theorem at_all {D : va_G} {cA : Nat → ClassId} {aK aV : Nat → Nat} {G0 : Gm} (h1 : G0.2.1 = D) (h2 : G0.2.2.1 = cA) {u v : Nat → Nat → Nat} {H : Heap} (hP : va_P D vwCl (cells_X5_init G0 u ++ cells_X6_init G0 v) H) : ∀ i, i < 110 → va_at D vwCl ((gmOf D cA aK aV u v).1 i, ent (gmOf D cA aK aV u v) s0 i) H := lt_s (lt_s (lt_s (lt_s (lt_s (lt_s (lt_s (lt_s (lt_s (lt_s (lt_s (lt_s (lt_s (lt_s (lt_s (lt_s (lt_s (lt_s (lt_s (lt_s (lt_s (lt_s (lt_s (lt_s (lt_s (lt_s (lt_s (lt_s (lt_s (lt_s (lt_s (lt_s (lt_s (lt_s (lt_s (lt_s (lt_s (lt_s (lt_s (lt_s (lt_s (lt_s (lt_s (lt_s (lt_s (lt_s (lt_s (lt_s (lt_s (lt_s (lt_s (lt_s (lt_s (lt_s (lt_s (lt_s (lt_s (lt_s (lt_s (lt_s (lt_s (lt_s (lt_s (lt_s (lt_s (lt_s (lt_s (lt_s (lt_s (lt_s (lt_s (lt_s (lt_s (lt_s (lt_s (lt_s (lt_s (lt_s (lt_s (lt_s (lt_s (lt_s (lt_s (lt_s (lt_s (lt_s (lt_s (lt_s (lt_s (lt_s (lt_s (lt_s (lt_s (lt_s (lt_s (lt_s (lt_s (lt_s (lt_s (lt_s (lt_s (lt_s (lt_s (lt_s (lt_s (lt_s (lt_s (lt_s (lt_s (lt_s lt_0 (at_0 h1 h2 hP)) (at_1 h1 h2 hP)) (at_2 h1 h2 hP)) (at_3 h1 h2 hP)) (at_4 h1 h2 hP)) (at_5 h1 h2 hP)) (at_6 h1 h2 hP)) (at_7 h1 h2 hP)) (at_8 h1 h2 hP)) (at_9 h1 h2 hP)) (at_10 h1 h2 hP)) (at_11 h1 h2 hP)) (at_12 h1 h2 hP)) (at_13 h1 h2 hP)) (at_14 h1 h2 hP)) (at_15 h1 h2 hP)) (at_16 h1 h2 hP)) (at_17 h1 h2 hP)) (at_18 h1 h2 hP)) (at_19 h1 h2 hP)) (at_20 h1 h2 hP)) (at_21 h1 h2 hP)) (at_22 h1 h2 hP)) (at_23 h1 h2 hP)) (at_24 h1 h2 hP)) (at_25 h1 h2 hP)) (at_26 h1 h2 hP)) (at_27 h1 h2 hP)) (at_28 h1 h2 hP)) (at_29 h1 h2 hP)) (at_30 h1 h2 hP)) (at_31 h1 h2 hP)) (at_32 h1 h2 hP)) (at_33 h1 h2 hP)) (at_34 h1 h2 hP)) (at_35 h1 h2 hP)) (at_36 h1 h2 hP)) (at_37 h1 h2 hP)) (at_38 h1 h2 hP)) (at_39 h1 h2 hP)) (at_40 h1 h2 hP)) (at_41 h1 h2 hP)) (at_42 h1 h2 hP)) (at_43 h1 h2 hP)) (at_44 h1 h2 hP)) (at_45 h1 h2 hP)) (at_46 h1 h2 hP)) (at_47 h1 h2 hP)) (at_48 h1 h2 hP)) (at_49 h1 h2 hP)) (at_50 h1 h2 hP)) (at_51 h1 h2 hP)) (at_52 h1 h2 hP)) (at_53 h1 h2 hP)) (at_54 h1 h2 hP)) (at_55 h1 h2 hP)) (at_56 h1 h2 hP)) (at_57 h1 h2 hP)) (at_58 h1 h2 hP)) (at_59 h1 h2 hP)) (at_60 h1 h2 hP)) (at_61 h1 h2 hP)) (at_62 h1 h2 hP)) (at_63 h1 h2 hP)) (at_64 h1 h2 hP)) (at_65 h1 h2 hP)) (at_66 h1 h2 hP)) (at_67 h1 h2 hP)) (at_68 h1 h2 hP)) (at_69 h1 h2 hP)) (at_70 h1 h2 hP)) (at_71 h1 h2 hP)) (at_72 h1 h2 hP)) (at_73 h1 h2 hP)) (at_74 h1 h2 hP)) (at_75 h1 h2 hP)) (at_76 h1 h2 hP)) (at_77 h1 h2 hP)) (at_78 h1 h2 hP)) (at_79 h1 h2 hP)) (at_80 h1 h2 hP)) (at_81 h1 h2 hP)) (at_82 h1 h2 hP)) (at_83 h1 h2 hP)) (at_84 h1 h2 hP)) (at_85 h1 h2 hP)) (at_86 h1 h2 hP)) (at_87 h1 h2 hP)) (at_88 h1 h2 hP)) (at_89 h1 h2 hP)) (at_90 h1 h2 hP)) (at_91 h1 h2 hP)) (at_92 h1 h2 hP)) (at_93 h1 h2 hP)) (at_94 h1 h2 hP)) (at_95 h1 h2 hP)) (at_96 h1 h2 hP)) (at_97 h1 h2 hP)) (at_98 h1 h2 hP)) (at_99 h1 h2 hP)) (at_100 h1 h2 hP)) (at_101 h1 h2 hP)) (at_102 h1 h2 hP)) (at_103 h1 h2 hP)) (at_104 h1 h2 hP)) (at_105 h1 h2 hP)) (at_106 h1 h2 hP)) (at_107 h1 h2 hP)) (at_108 h1 h2 hP)) (at_109 h1 h2 hP)
set_option maxRecDepth 100000 in
theorem pl_all (G0 : Gm) (D : va_G) (cA : Nat → ClassId) (aK aV : Nat → Nat) (u v : Nat → Nat → Nat) : ∀ i, i < 110 → ∃ e, (cells_X5_init G0 u ++ cells_X6_init G0 v)[plTab.getD i 0]? = some ((gmOf D cA aK aV u v).1 i, e) := lt_s (lt_s (lt_s (lt_s (lt_s (lt_s (lt_s (lt_s (lt_s (lt_s (lt_s (lt_s (lt_s (lt_s (lt_s (lt_s (lt_s (lt_s (lt_s (lt_s (lt_s (lt_s (lt_s (lt_s (lt_s (lt_s (lt_s (lt_s (lt_s (lt_s (lt_s (lt_s (lt_s (lt_s (lt_s (lt_s (lt_s (lt_s (lt_s (lt_s (lt_s (lt_s (lt_s (lt_s (lt_s (lt_s (lt_s (lt_s (lt_s (lt_s (lt_s (lt_s (lt_s (lt_s (lt_s (lt_s (lt_s (lt_s (lt_s (lt_s (lt_s (lt_s (lt_s (lt_s (lt_s (lt_s (lt_s (lt_s (lt_s (lt_s (lt_s (lt_s (lt_s (lt_s (lt_s (lt_s (lt_s (lt_s (lt_s (lt_s (lt_s (lt_s (lt_s (lt_s (lt_s (lt_s (lt_s (lt_s (lt_s (lt_s (lt_s (lt_s (lt_s (lt_s (lt_s (lt_s (lt_s (lt_s (lt_s (lt_s (lt_s (lt_s (lt_s (lt_s (lt_s (lt_s (lt_s (lt_s (lt_s (lt_s lt_0 ⟨_, rfl⟩) ⟨_, rfl⟩) ⟨_, rfl⟩) ⟨_, rfl⟩) ⟨_, rfl⟩) ⟨_, rfl⟩) ⟨_, rfl⟩) ⟨_, rfl⟩) ⟨_, rfl⟩) ⟨_, rfl⟩) ⟨_, rfl⟩) ⟨_, rfl⟩) ⟨_, rfl⟩) ⟨_, rfl⟩) ⟨_, rfl⟩) ⟨_, rfl⟩) ⟨_, rfl⟩) ⟨_, rfl⟩) ⟨_, rfl⟩) ⟨_, rfl⟩) ⟨_, rfl⟩) ⟨_, rfl⟩) ⟨_, rfl⟩) ⟨_, rfl⟩) ⟨_, rfl⟩) ⟨_, rfl⟩) ⟨_, rfl⟩) ⟨_, rfl⟩) ⟨_, rfl⟩) ⟨_, rfl⟩) ⟨_, rfl⟩) ⟨_, rfl⟩) ⟨_, rfl⟩) ⟨_, rfl⟩) ⟨_, rfl⟩) ⟨_, rfl⟩) ⟨_, rfl⟩) ⟨_, rfl⟩) ⟨_, rfl⟩) ⟨_, rfl⟩) ⟨_, rfl⟩) ⟨_, rfl⟩) ⟨_, rfl⟩) ⟨_, rfl⟩) ⟨_, rfl⟩) ⟨_, rfl⟩) ⟨_, rfl⟩) ⟨_, rfl⟩) ⟨_, rfl⟩) ⟨_, rfl⟩) ⟨_, rfl⟩) ⟨_, rfl⟩) ⟨_, rfl⟩) ⟨_, rfl⟩) ⟨_, rfl⟩) ⟨_, rfl⟩) ⟨_, rfl⟩) ⟨_, rfl⟩) ⟨_, rfl⟩) ⟨_, rfl⟩) ⟨_, rfl⟩) ⟨_, rfl⟩) ⟨_, rfl⟩) ⟨_, rfl⟩) ⟨_, rfl⟩) ⟨_, rfl⟩) ⟨_, rfl⟩) ⟨_, rfl⟩) ⟨_, rfl⟩) ⟨_, rfl⟩) ⟨_, rfl⟩) ⟨_, rfl⟩) ⟨_, rfl⟩) ⟨_, rfl⟩) ⟨_, rfl⟩) ⟨_, rfl⟩) ⟨_, rfl⟩) ⟨_, rfl⟩) ⟨_, rfl⟩) ⟨_, rfl⟩) ⟨_, rfl⟩) ⟨_, rfl⟩) ⟨_, rfl⟩) ⟨_, rfl⟩) ⟨_, rfl⟩) ⟨_, rfl⟩) ⟨_, rfl⟩) ⟨_, rfl⟩) ⟨_, rfl⟩) ⟨_, rfl⟩) ⟨_, rfl⟩) ⟨_, rfl⟩) ⟨_, rfl⟩) ⟨_, rfl⟩) ⟨_, rfl⟩) ⟨_, rfl⟩) ⟨_, rfl⟩) ⟨_, rfl⟩) ⟨_, rfl⟩) ⟨_, rfl⟩) ⟨_, rfl⟩) ⟨_, rfl⟩) ⟨_, rfl⟩) ⟨_, rfl⟩) ⟨_, rfl⟩) ⟨_, rfl⟩) ⟨_, rfl⟩) ⟨_, rfl⟩) ⟨_, rfl⟩) ⟨_, rfl⟩
theorem pl_inj : ∀ i, i < 110 → ∀ j, j < 110 → plTab.getD i 0 = plTab.getD j 0 → i = j := by decide +kernel
theorem start_P {D : va_G} {cA : Nat → ClassId} {aK aV : Nat → Nat} {G0 : Gm} (h1 : G0.2.1 = D) (h2 : G0.2.2.1 = cA) {u v : Nat → Nat → Nat} {H : Heap} (hP : va_P D vwCl (cells_X5_init G0 u ++ cells_X6_init G0 v) H) : va_P (gmOf D cA aK aV u v).2.1 vwCl (wsOf (gmOf D cA aK aV u v) s0) H := by
  intro k q hk
  obtain ⟨hl, rfl⟩ := wsOf_some hk
  exact at_all h1 h2 hP k hl
theorem start_inj {D : va_G} {cA : Nat → ClassId} {aK aV : Nat → Nat} {G0 : Gm} {u v : Nat → Nat → Nat} {A : Nat → Prop} (hD : va_D A (cells_X5_init G0 u ++ cells_X6_init G0 v)) : gInj (gmOf D cA aK aV u v) ∧ ∀ q, dom (gmOf D cA aK aV u v) q → A q := by
  refine ⟨fun i j hi hj e => ?_, fun q hq => ?_⟩
  · obtain ⟨e1, g1⟩ := pl_all G0 D cA aK aV u v i hi
    obtain ⟨e2, g2⟩ := pl_all G0 D cA aK aV u v j hj
    exact pl_inj i hi j hj (hD.1 _ _ _ _ g1 g2 e)
  · obtain ⟨a, ha, rfl⟩ := hq
    obtain ⟨e1, g1⟩ := pl_all G0 D cA aK aV u v a ha
    exact hD.2 _ _ g1
