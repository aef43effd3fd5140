noncomputable def f_X0_keyAt_b22 (σ : St) (x0 : Nat) : Option Nat :=
  (some (x0 + 16))
noncomputable def f_X0_keyAt (σ : St) (x0 : Nat) (x1 : Int32) : Option Nat :=
  (if x1 < 0 then (f_X0_keyAt_b22 σ x0) else (if (nI (ln (x0 + 1))) ≤ x1 then (f_X0_keyAt_b22 σ x0) else ((ldK (x0 + 1) x1).bind fun v_18 => (some v_18))))
noncomputable def f_X1_take (σ : St) (x0 : Nat) (x1 : Nat) : Option St :=
  ((ptI σ x0 0 (σ.1 x1 0)).bind fun s_5 => ((ptI s_5 x0 1 (s_5.1 x1 1)).bind fun s_13 => ((ptI s_13 x0 2 (s_13.1 x1 2)).bind fun s_21 => ((cpI s_21 (x1 + 1) 0 (x0 + 1) 0 5).bind fun s_35 => (some s_35)))))
noncomputable def f_X0_take_b66 (k_66 : St → Nat → Nat → Int32 → Option St) (σ : St) (x0 : Nat) (x1 : Nat) (x2 : Int32) : Option St :=
  (if 6 ≤ x2 then ((cpI σ (x1 + 2) 0 (x0 + 2) 0 (nI (ln (x0 + 2)))).bind fun s_106 => ((cpI s_106 (x1 + 3) 0 (x0 + 3) 0 (nI (ln (x0 + 3)))).bind fun s_124 => (some s_124))) else ((f_X0_keyAt σ x0 x2).bind fun v_74 => ((f_X0_keyAt σ x1 x2).bind fun v_79 => ((f_X1_take σ v_74 v_79).bind fun s_82 => ((some (x2 + 1) : Option Int32).bind fun y_85 => (k_66 s_82 x0 x1 y_85))))))
noncomputable def f_X0_take_l66 (n : Nat) : St → Nat → Nat → Int32 → Option St :=
  Nat.rec (fun _ _ _ _ => none) (fun _ ih => f_X0_take_b66 ih) n
noncomputable def f_X0_take (σ : St) (x0 : Nat) (x1 : Nat) : Option St :=
  ((ptI σ x0 0 (σ.1 x1 0)).bind fun s_5 => ((ptI s_5 x0 1 (s_5.1 x1 1)).bind fun s_13 => ((ptI s_13 x0 2 (s_13.1 x1 2)).bind fun s_21 => ((ptI s_21 x0 3 (s_21.1 x1 3)).bind fun s_29 => ((ptI s_29 x0 4 (s_29.1 x1 4)).bind fun s_37 => ((ptI s_37 x0 5 (s_37.1 x1 5)).bind fun s_45 => ((ptI s_45 x0 6 (s_45.1 x1 6)).bind fun s_53 => ((ptI s_53 x0 7 (s_53.1 x1 7)).bind fun s_61 => (f_X0_take_l66 FU s_61 x0 x1 0)))))))))
noncomputable def f_X0_isEmpty (σ : St) (x0 : Nat) : Option Int32 :=
  (if (σ.1 x0 5) = 0 then (if (σ.1 x0 6) = 0 then (some 1) else (some 0)) else (some 0))
noncomputable def f_J7_fill_53178_b5 (k_5 : St → Nat → Int32 → Int32 → Int32 → Option St) (σ : St) (x0 : Nat) (x1 : Int32) (x2 : Int32) (x3 : Int32) : Option St :=
  (if x3 ≤ x2 then (some σ) else ((stI σ x0 x2 x1).bind fun s_13 => ((some (x2 + 1) : Option Int32).bind fun y_14 => (k_5 s_13 x0 x1 y_14 x3))))
noncomputable def f_J7_fill_53178_l5 (n : Nat) : St → Nat → Int32 → Int32 → Int32 → Option St :=
  Nat.rec (fun _ _ _ _ _ => none) (fun _ ih => f_J7_fill_53178_b5 ih) n
noncomputable def f_J7_fill_53178 (σ : St) (x0 : Nat) (x1 : Int32) : Option St :=
  ((some (nI (ln x0)) : Option Int32).bind fun y_4 => (f_J7_fill_53178_l5 FU σ x0 x1 0 y_4))
noncomputable def f_X1_begin (σ : St) (x0 : Nat) (x1 : Int32) (x2 : Int32) : Option St :=
  ((ptI σ x0 0 x1).bind fun s_2 => ((ptI s_2 x0 1 x2).bind fun s_7 => ((ptI s_7 x0 2 0).bind fun s_12 => ((f_J7_fill_53178 s_12 (x0 + 1) 0).bind fun s_20 => (some s_20)))))
noncomputable def f_X0_addKey (σ : St) (x0 : Nat) (x1 : Int32) (x2 : Int32) : Option (Int32 × St) :=
  (if (σ.1 x0 5) < 6 then ((f_X0_keyAt σ x0 (σ.1 x0 5)).bind fun v_16 => ((f_X1_begin σ v_16 x1 x2).bind fun s_21 => ((ptI s_21 x0 5 ((s_21.1 x0 5) + 1)).bind fun s_31 => (some (((s_31.1 x0 5) - 1), s_31))))) else (some ((-1), σ)))
noncomputable def f_X5_put (σ : St) (x0 : Nat) (x1 : Int32) (x2 : Int32) : Option St :=
  (if x1 < 0 then (some σ) else (if (nI (ln x0)) ≤ x1 then (some σ) else ((stI σ x0 x1 x2).bind fun s_13 => (some s_13))))
noncomputable def f_X5_at (σ : St) (x0 : Nat) (x1 : Int32) : Option Int32 :=
  (if x1 < 0 then (some 0) else (if (nI (ln x0)) ≤ x1 then (some 0) else ((ldI σ x0 x1).bind fun v_12 => (some v_12))))
noncomputable def f_X0_locksWithin (σ : St) (x0 : Nat) (x1 : Int32) (x2 : Int32) : Option Int32 :=
  ((f_X5_at σ (x0 + 3) ((x1 * 5) + x2)).bind fun v_9 => (some v_9))
noncomputable def f_X0_putAsks_b67 (k_21 : St → Nat → Int32 → Int32 → Int32 → Int32 → Option St) (σ : St) (x0 : Nat) (x2 : Int32) (x3 : Int32) (x4 : Int32) (x5 : Int32) (t0 : Nat) (t1 : Int32) (t2 : Int32) : Option St :=
  ((f_X5_put σ t0 t1 t2).bind fun s_67 => ((some (x5 + 1) : Option Int32).bind fun y_70 => (k_21 s_67 x0 x2 x3 x4 y_70)))
noncomputable def f_X0_putAsks_b21 (k_21 : St → Nat → Int32 → Int32 → Int32 → Int32 → Option St) (σ : St) (x0 : Nat) (x2 : Int32) (x3 : Int32) (x4 : Int32) (x5 : Int32) : Option St :=
  (if 5 ≤ x5 then (some σ) else ((f_X0_locksWithin σ x0 x2 x5).bind fun v_31 => ((some (v_31 &&& (x4 ^^^ (-1))) : Option Int32).bind fun y_39 => (if x5 < x3 then (f_X0_putAsks_b67 k_21 σ x0 x2 x3 x4 x5 (x0 + 3) ((x2 * 5) + x5) y_39) else (f_X0_putAsks_b67 k_21 σ x0 x2 x3 x4 x5 (x0 + 3) ((x2 * 5) + x5) (y_39 ||| x4))))))
noncomputable def f_X0_putAsks_l21 (n : Nat) : St → Nat → Int32 → Int32 → Int32 → Int32 → Option St :=
  Nat.rec (fun _ _ _ _ _ _ => none) (fun _ ih => f_X0_putAsks_b21 ih) n
noncomputable def f_X0_putAsks (σ : St) (x0 : Nat) (x1 : Int32) (x2 : Int32) (x3 : Int32) : Option St :=
  ((f_X5_put σ (x0 + 2) ((x1 * 5) + x2) x3).bind fun s_10 => ((some (1 <<< (x1 &&& 31)) : Option Int32).bind fun y_16 => (f_X0_putAsks_l21 FU s_10 x0 x2 x3 y_16 0)))
noncomputable def f_X0_addLock_b51 (k_51 : St → Nat → Int32 → Int32 → Option (Int32 × St)) (σ : St) (x0 : Nat) (x2 : Int32) (x3 : Int32) : Option (Int32 × St) :=
  (if 5 ≤ x3 then (some (x2, σ)) else ((f_X0_putAsks σ x0 x2 x3 0).bind fun s_60 => ((some (x3 + 1) : Option Int32).bind fun y_63 => (k_51 s_60 x0 x2 y_63))))
noncomputable def f_X0_addLock_l51 (n : Nat) : St → Nat → Int32 → Int32 → Option (Int32 × St) :=
  Nat.rec (fun _ _ _ _ => none) (fun _ ih => f_X0_addLock_b51 ih) n
noncomputable def f_X0_addLock_b46 (σ : St) (x0 : Nat) (x2 : Int32) (t0 : Nat) (t1 : Int32) : Option (Int32 × St) :=
  ((ptI σ t0 7 t1).bind fun s_46 => (f_X0_addLock_l51 FU s_46 x0 x2 0))
noncomputable def f_X0_addLock (σ : St) (x0 : Nat) (x1 : Int32) : Option (Int32 × St) :=
  (if (σ.1 x0 6) < 8 then ((some (σ.1 x0 6) : Option Int32).bind fun y_15 => ((ptI σ x0 6 ((σ.1 x0 6) + 1)).bind fun s_23 => (if x1 = 0 then (f_X0_addLock_b46 s_23 x0 y_15 x0 (s_23.1 x0 7)) else (f_X0_addLock_b46 s_23 x0 y_15 x0 ((s_23.1 x0 7) ||| (1 <<< (y_15 &&& 31))))))) else (some ((-1), σ)))
noncomputable def f_X5_hasBit (x0 : Int32) (x1 : Int32) : Option Int32 :=
  (if ((x0 >>> (x1 &&& 31)) &&& 1) = 0 then (some 0) else (some 1))
noncomputable def f_X0_hasWard (σ : St) (x0 : Nat) (x1 : Int32) : Option Int32 :=
  ((f_X5_hasBit (σ.1 x0 7) x1).bind fun v_5 => (some v_5))
noncomputable def f_X0_asksAt (σ : St) (x0 : Nat) (x1 : Int32) (x2 : Int32) : Option Int32 :=
  ((f_X5_at σ (x0 + 2) ((x1 * 5) + x2)).bind fun v_9 => (some v_9))
noncomputable def f_X0_asksTogether_b4 (σ : St) (k_4 : Nat → Int32 → Int32 → Int32 → Option Int32) (x0 : Nat) (x1 : Int32) (x2 : Int32) (x3 : Int32) : Option Int32 :=
  (if (σ.1 x0 0) ≤ x3 then (some x2) else ((f_X0_asksAt σ x0 x1 x3).bind fun v_16 => ((some (x2 + v_16) : Option Int32).bind fun y_20 => ((some (x3 + 1) : Option Int32).bind fun y_21 => (k_4 x0 x1 y_20 y_21)))))
noncomputable def f_X0_asksTogether_l4 (σ : St) (n : Nat) : Nat → Int32 → Int32 → Int32 → Option Int32 :=
  Nat.rec (fun _ _ _ _ => none) (fun _ ih => f_X0_asksTogether_b4 σ ih) n
noncomputable def f_X0_asksTogether (σ : St) (x0 : Nat) (x1 : Int32) : Option Int32 :=
  (f_X0_asksTogether_l4 σ FU x0 x1 0 0)
noncomputable def f_X0_asksAsMuch_b2 (σ : St) (k_2 : Nat → Int32 → Int32 → Int32 → Option Int32) (x0 : Nat) (x1 : Int32) (x2 : Int32) (x3 : Int32) : Option Int32 :=
  (if (σ.1 x0 0) ≤ x3 then (some 1) else ((f_X0_asksAt σ x0 x1 x3).bind fun v_13 => ((f_X0_asksAt σ x0 x2 x3).bind fun v_19 => (if v_19 ≤ v_13 then ((some (x3 + 1) : Option Int32).bind fun y_27 => (k_2 x0 x1 x2 y_27)) else (some 0)))))
noncomputable def f_X0_asksAsMuch_l2 (σ : St) (n : Nat) : Nat → Int32 → Int32 → Int32 → Option Int32 :=
  Nat.rec (fun _ _ _ _ => none) (fun _ ih => f_X0_asksAsMuch_b2 σ ih) n
noncomputable def f_X0_asksAsMuch (σ : St) (x0 : Nat) (x1 : Int32) (x2 : Int32) : Option Int32 :=
  (f_X0_asksAsMuch_l2 σ FU x0 x1 x2 0)
noncomputable def f_X0_sum_b4 (σ : St) (k_4 : Nat → Nat → Int32 → Int32 → Option Int32) (x0 : Nat) (x1 : Nat) (x2 : Int32) (x3 : Int32) : Option Int32 :=
  (if (σ.1 x0 0) ≤ x3 then (some x2) else (if (nI (ln x1)) ≤ x3 then (some x2) else ((ldI σ x1 x3).bind fun v_21 => ((some (x2 + v_21) : Option Int32).bind fun y_23 => ((some (x3 + 1) : Option Int32).bind fun y_24 => (k_4 x0 x1 y_23 y_24))))))
noncomputable def f_X0_sum_l4 (σ : St) (n : Nat) : Nat → Nat → Int32 → Int32 → Option Int32 :=
  Nat.rec (fun _ _ _ _ => none) (fun _ ih => f_X0_sum_b4 σ ih) n
noncomputable def f_X0_sum (σ : St) (x0 : Nat) (x1 : Nat) : Option Int32 :=
  (f_X0_sum_l4 σ FU x0 x1 0 0)
noncomputable def f_X0_bears_b21 (σ : St) (x0 : Nat) (x1 : Nat) : Option Int32 :=
  (if (σ.1 x0 2) ≤ (σ.1 x1 1) then (some 0) else (some ((σ.1 x0 2) - (σ.1 x1 1))))
noncomputable def f_X0_bears (σ : St) (x0 : Nat) (x1 : Nat) : Option Int32 :=
  (if (σ.1 x1 0) = 2 then (f_X0_bears_b21 σ x0 x1) else (if (σ.1 x1 0) = 4 then (f_X0_bears_b21 σ x0 x1) else (some (σ.1 x0 2))))
noncomputable def f_X0_breaks (σ : St) (x0 : Nat) (x1 : Nat) (x2 : Nat) : Option Int32 :=
  ((f_X0_sum σ x0 x2).bind fun v_2 => ((f_X0_bears σ x0 x1).bind fun v_7 => (if v_2 ≤ v_7 then (some 0) else (some 1))))
noncomputable def f_X0_wornPlace (σ : St) (x0 : Nat) (x1 : Nat) : Option Int32 :=
  (if (σ.1 x1 0) = 1 then (if (σ.1 x0 0) ≤ 0 then (some (-1)) else ((rmI (σ.1 x1 1) (σ.1 x0 0)).bind fun v_23 => (some v_23))) else (some (-1)))
noncomputable def f_X0_depth (σ : St) (x0 : Nat) (x1 : Nat) (x2 : Nat) (x3 : Int32) : Option Int32 :=
  ((f_X5_at σ x2 x3).bind fun v_2 => (if (σ.1 x0 1) ≤ v_2 then (some v_2) else ((f_X0_wornPlace σ x0 x1).bind fun v_19 => (if x3 = v_19 then (some (v_2 + 1)) else (some v_2)))))
noncomputable def f_X5_firstBits (x0 : Int32) : Option Int32 :=
  (some ((1 <<< (x0 &&& 31)) - 1))
noncomputable def f_X0_fitted_b60 (σ : St) (k_18 : Nat → Nat → Int32 → Int32 → Int32 → Option Int32) (x0 : Nat) (x2 : Nat) (x3 : Int32) (x4 : Int32) (x5 : Int32) (t0 : Int32) : Option Int32 :=
  ((f_X5_at σ (x0 + 3) ((x5 * 5) + t0)).bind fun v_74 => ((some (x3 &&& v_74) : Option Int32).bind fun y_78 => ((some (x5 + 1) : Option Int32).bind fun y_79 => (k_18 x0 x2 y_78 x4 y_79))))
noncomputable def f_X0_fitted_b58 (σ : St) (k_18 : Nat → Nat → Int32 → Int32 → Int32 → Option Int32) (x0 : Nat) (x2 : Nat) (x3 : Int32) (x4 : Int32) (x5 : Int32) (x6 : Int32) : Option Int32 :=
  (f_X0_fitted_b60 σ k_18 x0 x2 x3 x4 x5 x6)
noncomputable def f_X0_fitted_b18 (σ : St) (k_18 : Nat → Nat → Int32 → Int32 → Int32 → Option Int32) (x0 : Nat) (x2 : Nat) (x3 : Int32) (x4 : Int32) (x5 : Int32) : Option Int32 :=
  (if (σ.1 x0 0) ≤ x5 then (some x3) else ((f_X5_at σ x2 x5).bind fun v_30 => (if (σ.1 x0 1) ≤ v_30 then (f_X0_fitted_b58 σ k_18 x0 x2 x3 x4 x5 v_30) else (if x5 = x4 then (f_X0_fitted_b60 σ k_18 x0 x2 x3 x4 x5 (v_30 + 1)) else (f_X0_fitted_b58 σ k_18 x0 x2 x3 x4 x5 v_30)))))
noncomputable def f_X0_fitted_l18 (σ : St) (n : Nat) : Nat → Nat → Int32 → Int32 → Int32 → Option Int32 :=
  Nat.rec (fun _ _ _ _ _ => none) (fun _ ih => f_X0_fitted_b18 σ ih) n
noncomputable def f_X0_fitted (σ : St) (x0 : Nat) (x1 : Nat) (x2 : Nat) : Option Int32 :=
  ((f_X5_firstBits (σ.1 x0 6)).bind fun v_4 => ((f_X0_wornPlace σ x0 x1).bind fun v_10 => (f_X0_fitted_l18 σ FU x0 x2 v_4 v_10 0)))
noncomputable def f_X1_isOfKind_b40 (σ : St) : Option Int32 :=
  (some 1)
noncomputable def f_X1_isOfKind_b27 (σ : St) (x0 : Nat) (x1 : Int32) : Option Int32 :=
  (if x1 = 3 then (if (σ.1 x0 0) = 5 then (f_X1_isOfKind_b40 σ ) else (some 0)) else (some 0))
noncomputable def f_X1_isOfKind (σ : St) (x0 : Nat) (x1 : Int32) : Option Int32 :=
  (if x1 = 0 then (some 1) else (if x1 = (σ.1 x0 0) then (some 1) else (if x1 = 2 then (if (σ.1 x0 0) = 4 then (f_X1_isOfKind_b40 σ ) else (f_X1_isOfKind_b27 σ x0 x1)) else (f_X1_isOfKind_b27 σ x0 x1))))
noncomputable def f_X0_openedByCuts (σ : St) (x0 : Nat) (x1 : Nat) (x2 : Nat) : Option Int32 :=
  ((f_X0_breaks σ x0 x1 x2).bind fun v_3 => (if v_3 = 0 then ((f_X0_fitted σ x0 x1 x2).bind fun v_14 => ((f_X1_isOfKind σ x1 3).bind fun v_20 => (if v_20 = 0 then (some (v_14 &&& ((σ.1 x0 7) ^^^ (-1)))) else (some v_14)))) else (some 0)))
noncomputable def f_X0_openedBesides_b49 (σ : St) (k_4 : Nat → Nat → Int32 → Int32 → Option Int32) (x0 : Nat) (x1 : Nat) (x2 : Int32) (x3 : Int32) : Option Int32 :=
  ((some (x3 + 1) : Option Int32).bind fun y_49 => (k_4 x0 x1 x2 y_49))
noncomputable def f_X0_openedBesides_b4 (σ : St) (k_4 : Nat → Nat → Int32 → Int32 → Option Int32) (x0 : Nat) (x1 : Nat) (x2 : Int32) (x3 : Int32) : Option Int32 :=
  (if (σ.1 x0 5) ≤ x3 then (some x2) else (if (σ.1 x1 0) = 5 then ((f_X0_keyAt σ x0 x3).bind fun v_22 => (if (σ.1 v_22 0) = 0 then ((f_X0_openedByCuts σ x0 v_22 (v_22 + 1)).bind fun v_44 => ((some (x2 ||| v_44) : Option Int32).bind fun y_48 => (f_X0_openedBesides_b49 σ k_4 x0 x1 y_48 x3))) else (f_X0_openedBesides_b49 σ k_4 x0 x1 x2 x3))) else (some x2)))
noncomputable def f_X0_openedBesides_l4 (σ : St) (n : Nat) : Nat → Nat → Int32 → Int32 → Option Int32 :=
  Nat.rec (fun _ _ _ _ => none) (fun _ ih => f_X0_openedBesides_b4 σ ih) n
noncomputable def f_X0_openedBesides (σ : St) (x0 : Nat) (x1 : Nat) : Option Int32 :=
  (f_X0_openedBesides_l4 σ FU x0 x1 0 0)
noncomputable def f_X0_openedAs (σ : St) (x0 : Nat) (x1 : Nat) (x2 : Nat) (x3 : Int32) : Option Int32 :=
  ((f_X0_breaks σ x0 x1 x2).bind fun v_3 => (if v_3 = 0 then ((f_X0_openedByCuts σ x0 x1 x2).bind fun v_16 => (some (v_16 ||| x3))) else (some 0)))
noncomputable def f_X0_openedBy (σ : St) (x0 : Nat) (x1 : Int32) : Option Int32 :=
  ((f_X0_keyAt σ x0 x1).bind fun v_2 => ((f_X0_openedBesides σ x0 v_2).bind fun v_14 => ((f_X0_openedAs σ x0 v_2 (v_2 + 1) v_14).bind fun v_17 => (some v_17))))
noncomputable def f_X0_openersOf_b30 (σ : St) (k_4 : Nat → Int32 → Int32 → Int32 → Option Int32) (x0 : Nat) (x1 : Int32) (x2 : Int32) (x3 : Int32) : Option Int32 :=
  ((some (x3 + 1) : Option Int32).bind fun y_30 => (k_4 x0 x1 x2 y_30))
noncomputable def f_X0_openersOf_b4 (σ : St) (k_4 : Nat → Int32 → Int32 → Int32 → Option Int32) (x0 : Nat) (x1 : Int32) (x2 : Int32) (x3 : Int32) : Option Int32 :=
  (if (σ.1 x0 5) ≤ x3 then (some x2) else ((f_X0_openedBy σ x0 x3).bind fun v_14 => ((f_X5_hasBit v_14 x1).bind fun v_18 => (if v_18 = 0 then (f_X0_openersOf_b30 σ k_4 x0 x1 x2 x3) else ((some (x2 ||| (1 <<< (x3 &&& 31))) : Option Int32).bind fun y_29 => (f_X0_openersOf_b30 σ k_4 x0 x1 y_29 x3))))))
noncomputable def f_X0_openersOf_l4 (σ : St) (n : Nat) : Nat → Int32 → Int32 → Int32 → Option Int32 :=
  Nat.rec (fun _ _ _ _ => none) (fun _ ih => f_X0_openersOf_b4 σ ih) n
noncomputable def f_X0_openersOf (σ : St) (x0 : Nat) (x1 : Int32) : Option Int32 :=
  (f_X0_openersOf_l4 σ FU x0 x1 0 0)
noncomputable def f_X0_brokenKeys_b38 (σ : St) (k_4 : Nat → Int32 → Int32 → Option Int32) (x0 : Nat) (x1 : Int32) (x2 : Int32) : Option Int32 :=
  ((some (x2 + 1) : Option Int32).bind fun y_38 => (k_4 x0 x1 y_38))
noncomputable def f_X0_brokenKeys_b4 (σ : St) (k_4 : Nat → Int32 → Int32 → Option Int32) (x0 : Nat) (x1 : Int32) (x2 : Int32) : Option Int32 :=
  (if (σ.1 x0 5) ≤ x2 then (some x1) else ((f_X0_keyAt σ x0 x2).bind fun v_15 => ((f_X0_keyAt σ x0 x2).bind fun v_20 => ((f_X0_breaks σ x0 v_15 (v_20 + 1)).bind fun v_26 => (if v_26 = 0 then (f_X0_brokenKeys_b38 σ k_4 x0 x1 x2) else ((some (x1 ||| (1 <<< (x2 &&& 31))) : Option Int32).bind fun y_37 => (f_X0_brokenKeys_b38 σ k_4 x0 y_37 x2)))))))
noncomputable def f_X0_brokenKeys_l4 (σ : St) (n : Nat) : Nat → Int32 → Int32 → Option Int32 :=
  Nat.rec (fun _ _ _ => none) (fun _ ih => f_X0_brokenKeys_b4 σ ih) n
noncomputable def f_X0_brokenKeys (σ : St) (x0 : Nat) : Option Int32 :=
  (f_X0_brokenKeys_l4 σ FU x0 0 0)
noncomputable def f_X0_deepen (σ : St) (x0 : Nat) (x1 : Nat) (x2 : Int32) : Option (Int32 × St) :=
  ((f_X5_at σ (x1 + 1) x2).bind fun v_5 => (if v_5 < (σ.1 x0 1) then ((f_X5_put σ (x1 + 1) x2 (v_5 + 1)).bind fun s_27 => (some (1, s_27))) else (some (0, σ))))
noncomputable def f_X0_cost_b27 (σ : St) (k_5 : Nat → Nat → Nat → Int32 → Int32 → Option Int32) (k_27 : Nat → Nat → Nat → Int32 → Int32 → Int32 → Option Int32) (x0 : Nat) (x1 : Nat) (x2 : Nat) (x3 : Int32) (x4 : Int32) (x5 : Int32) : Option Int32 :=
  ((f_X5_at σ x2 x4).bind fun v_32 => (if v_32 < x5 then ((some (x4 + 1) : Option Int32).bind fun y_49 => (k_5 x0 x1 x2 x3 y_49)) else ((some (x3 + x5) : Option Int32).bind fun y_42 => ((some (x5 + 1) : Option Int32).bind fun y_43 => (k_27 x0 x1 x2 y_42 x4 y_43)))))
noncomputable def f_X0_cost_l27 (σ : St) (k_5 : Nat → Nat → Nat → Int32 → Int32 → Option Int32) (n : Nat) : Nat → Nat → Nat → Int32 → Int32 → Int32 → Option Int32 :=
  Nat.rec (fun _ _ _ _ _ _ => none) (fun _ ih => f_X0_cost_b27 σ k_5 ih) n
noncomputable def f_X0_cost_b5 (σ : St) (k_5 : Nat → Nat → Nat → Int32 → Int32 → Option Int32) (x0 : Nat) (x1 : Nat) (x2 : Nat) (x3 : Int32) (x4 : Int32) : Option Int32 :=
  (if (σ.1 x0 0) ≤ x4 then (some x3) else ((f_X5_at σ (x1 + 1) x4).bind fun v_20 => ((some (v_20 + 1) : Option Int32).bind fun y_25 => (f_X0_cost_l27 σ k_5 FU x0 x1 x2 x3 x4 y_25))))
noncomputable def f_X0_cost_l5 (σ : St) (n : Nat) : Nat → Nat → Nat → Int32 → Int32 → Option Int32 :=
  Nat.rec (fun _ _ _ _ _ => none) (fun _ ih => f_X0_cost_b5 σ ih) n
noncomputable def f_X0_cost (σ : St) (x0 : Nat) (x1 : Nat) (x2 : Nat) : Option Int32 :=
  (f_X0_cost_l5 σ FU x0 x1 x2 0 0)
noncomputable def f_X0_advance_b7 (k_7 : St → Nat → Nat → Nat → Int32 → Option (Int32 × St)) (σ : St) (x0 : Nat) (x1 : Nat) (x2 : Nat) (x3 : Int32) : Option (Int32 × St) :=
  (if x3 < 0 then (some (0, σ)) else ((f_X5_at σ x1 x3).bind fun v_13 => (if (σ.1 x0 1) ≤ v_13 then ((f_X5_at σ x2 x3).bind fun v_41 => ((f_X5_put σ x1 x3 v_41).bind fun s_44 => ((some (x3 + (-1)) : Option Int32).bind fun y_47 => (k_7 s_44 x0 x1 x2 y_47)))) else ((f_X5_at σ x1 x3).bind fun v_27 => ((f_X5_put σ x1 x3 (v_27 + 1)).bind fun s_32 => (some (1, s_32)))))))
noncomputable def f_X0_advance_l7 (n : Nat) : St → Nat → Nat → Nat → Int32 → Option (Int32 × St) :=
  Nat.rec (fun _ _ _ _ _ => none) (fun _ ih => f_X0_advance_b7 ih) n
noncomputable def f_X0_advance (σ : St) (x0 : Nat) (x1 : Nat) (x2 : Nat) : Option (Int32 × St) :=
  ((some ((σ.1 x0 0) - 1) : Option Int32).bind fun y_6 => (f_X0_advance_l7 FU σ x0 x1 x2 y_6))
noncomputable def f_X0_draw (σ : St) (x0 : Nat) (x1 : Int32) : Option (Int32 × St) :=
  ((ptI σ x0 4 (((σ.1 x0 4) * 1103515245) + 12345)).bind fun s_12 => (if x1 ≤ 0 then (some (0, s_12)) else ((rmI ((Int32.toUInt32 (s_12.1 x0 4) >>> (Int32.toUInt32 16 &&& Int32.toUInt32 31)).toInt32) x1).bind fun v_27 => (some (v_27, s_12)))))
noncomputable def f_X0_wear (σ : St) (x0 : Nat) (x1 : Nat) : Option (Int32 × St) :=
  (b2 (f_X0_draw σ x0 4) fun v_2 s_2 => (if v_2 = 0 then (b2 (f_X0_draw s_2 x0 (s_2.1 x0 0)) fun v_15 s_15 => (b2 (f_X0_deepen s_15 x0 x1 v_15) fun v_18 s_18 => (if v_18 = 0 then (some (0, s_18)) else (some (1, s_18))))) else (some (0, s_2))))
noncomputable def f_X0_passDay (σ : St) (x0 : Nat) : Option (Int32 × St) :=
  (b2 (f_X0_draw σ x0 (σ.1 x0 5)) fun v_5 s_5 => (b2 (f_X0_draw s_5 x0 (s_5.1 x0 6)) fun v_14 s_14 => ((f_X0_openedBy s_14 x0 v_5).bind fun v_20 => ((f_X5_hasBit v_20 v_14).bind fun v_24 => (if v_24 = 0 then (some (0, s_14)) else ((f_X0_keyAt s_14 x0 v_5).bind fun v_35 => (b2 (f_X0_wear s_14 x0 v_35) fun v_38 s_38 => (some (1, s_38)))))))))
noncomputable def f_X1_allow_b32 (σ : St) (x0 : Nat) (x4 : Int32) (t0 : Nat) (t1 : Int32) : Option (Int32 × St) :=
  ((ptI σ t0 2 t1).bind fun s_32 => (if (s_32.1 x0 2) = x4 then (some (0, s_32)) else (some (1, s_32))))
noncomputable def f_X1_allow (σ : St) (x0 : Nat) (x1 : Int32) (x2 : Int32) : Option (Int32 × St) :=
  ((some (1 <<< (x1 &&& 31)) : Option Int32).bind fun y_3 => ((some (σ.1 x0 2) : Option Int32).bind fun y_8 => (if x2 = 0 then (f_X1_allow_b32 σ x0 y_8 x0 ((σ.1 x0 2) &&& (y_3 ^^^ (-1)))) else (f_X1_allow_b32 σ x0 y_8 x0 ((σ.1 x0 2) ||| y_3)))))
noncomputable def f_X2_isKey (σ : St) (x0 : Nat) : Option Int32 :=
  (if (σ.1 x0 0) < 10 then (some 0) else (some 1))
noncomputable def f_X5_isWithin (x0 : Int32) (x1 : Int32) (x2 : Int32) : Option Int32 :=
  (if x0 < x1 then (some 0) else (if x2 < x0 then (some 0) else (some 1)))
noncomputable def f_X2_isRow (σ : St) (x0 : Nat) : Option Int32 :=
  ((f_X5_isWithin (σ.1 x0 0) 0 4).bind fun v_6 => (some v_6))
noncomputable def f_X2_whyNoRow (σ : St) (x0 : Nat) : Option Int32 :=
  ((f_X2_isKey σ x0).bind fun v_1 => (if v_1 = 0 then (some (-4)) else (some (-3))))
noncomputable def f_J7_fill_d0a16_b6 (k_6 : St → Nat → Int64 → Int32 → Int32 → Option St) (σ : St) (x0 : Nat) (x1 : Int64) (x3 : Int32) (x4 : Int32) : Option St :=
  (if x4 ≤ x3 then (some σ) else ((stJ σ x0 x3 x1).bind fun s_15 => ((some (x3 + 1) : Option Int32).bind fun y_16 => (k_6 s_15 x0 x1 y_16 x4))))
noncomputable def f_J7_fill_d0a16_l6 (n : Nat) : St → Nat → Int64 → Int32 → Int32 → Option St :=
  Nat.rec (fun _ _ _ _ _ => none) (fun _ ih => f_J7_fill_d0a16_b6 ih) n
noncomputable def f_J7_fill_d0a16 (σ : St) (x0 : Nat) (x1 : Int64) : Option St :=
  ((some (nI (ln x0)) : Option Int32).bind fun y_4 => (f_J7_fill_d0a16_l6 FU σ x0 x1 0 y_4))
noncomputable def f_X2_beginRow (σ : St) (x0 : Nat) (x1 : Int32) (x2 : Int32) : Option St :=
  ((ptI σ x0 0 x1).bind fun s_2 => ((ptI s_2 x0 1 x2).bind fun s_7 => ((f_J7_fill_d0a16 s_7 (x0 + 1) 0).bind fun s_15 => (some s_15))))
noncomputable def f_X2_hasElement (σ : St) (x0 : Nat) (x1 : Int32) : Option Int32 :=
  ((f_X2_isRow σ x0).bind fun v_1 => (if v_1 = 0 then (some 0) else (if x1 < 0 then (some 0) else (if (σ.1 x0 1) ≤ x1 then (some 0) else (if (nI (ln (x0 + 1))) ≤ x1 then (some 0) else (some 1))))))
noncomputable def f_X2_elementAt (σ : St) (x0 : Nat) (x1 : Int32) : Option Int64 :=
  ((f_X2_hasElement σ x0 x1).bind fun v_2 => (if v_2 = 0 then (some 0) else ((ldJ σ (x0 + 1) x1).bind fun v_13 => (some v_13))))
noncomputable def f_X2_narrowed (σ : St) (x0 : Nat) (x1 : Int64) : Option Int64 :=
  (if (σ.1 x0 0) = 0 then (some (Int32.toInt64 ((Int32.toInt8 (Int64.toInt32 x1)).toInt32))) else (if (σ.1 x0 0) = 1 then (some (Int32.toInt64 ((Int32.toInt16 (Int64.toInt32 x1)).toInt32))) else (if (σ.1 x0 0) = 2 then (some (Int32.toInt64 (Int64.toInt32 x1))) else (if (σ.1 x0 0) = 3 then (some x1) else (if (σ.1 x0 0) = 4 then (if (lg_cmp x1 0) = 0 then (some 0) else (some 1)) else (some x1))))))
noncomputable def f_X2_putElement (σ : St) (x0 : Nat) (x1 : Int32) (x2 : Int64) : Option St :=
  ((f_X2_hasElement σ x0 x1).bind fun v_2 => (if v_2 = 0 then (some σ) else ((f_X2_narrowed σ x0 x2).bind fun v_15 => ((stJ σ (x0 + 1) x1 v_15).bind fun s_18 => (some s_18)))))
noncomputable def f_X2_hasPart (σ : St) (x0 : Nat) (x1 : Int32) (x2 : Int32) : Option Int32 :=
  (if x2 < 0 then (some 0) else (if (σ.1 x0 1) < x2 then (some 0) else (if x1 < 0 then (some 0) else (if ((σ.1 x0 1) - x2) < x1 then (some 0) else (some 1)))))
noncomputable def f_X2_dropKeysFrom (σ : St) (x0 : Nat) (x1 : Int32) : Option St :=
  (if ((σ.1 x0 0) - 10) < x1 then (some σ) else ((ptI σ x0 0 (-1)).bind fun s_13 => (some s_13)))
noncomputable def f_X3_add (σ : St) (x0 : Nat) (x1 : Int32) : Option (Int32 × St) :=
  (if (σ.1 x0 1) < 250 then ((f_X5_put σ 4 (σ.1 x0 1) x1).bind fun s_21 => ((ptI s_21 x0 1 ((s_21.1 x0 1) + 1)).bind fun s_31 => (some (1, s_31)))) else (some (0, σ)))
noncomputable def f_X3_sortOf_b28 (x1 : Int32) : Option Int32 :=
  (if x1 = 59 then (some 3) else (some 4))
noncomputable def f_X3_sortOf_b14 (x1 : Int32) : Option Int32 :=
  (if x1 < 48 then (f_X3_sortOf_b28 x1) else (if 57 < x1 then (f_X3_sortOf_b28 x1) else (some 2)))
noncomputable def f_X3_sortOf (x0 : Nat) (x1 : Int32) : Option Int32 :=
  (if x1 < 97 then (f_X3_sortOf_b14 x1) else (if 122 < x1 then (f_X3_sortOf_b14 x1) else (some 1)))
noncomputable def f_X3_toNextToken_b126 (k_110 : St → Nat → Option St) (σ : St) (x0 : Nat) : Option St :=
  (if (σ.1 x0 1) ≤ (σ.1 x0 4) then (some σ) else ((f_X5_at σ 4 (σ.1 x0 4)).bind fun v_146 => ((f_X3_sortOf x0 v_146).bind fun v_149 => (if v_149 = (σ.1 x0 2) then ((ptI σ x0 4 ((σ.1 x0 4) + 1)).bind fun s_166 => (k_110 s_166 x0)) else (some σ)))))
noncomputable def f_X3_toNextToken_b110 (k_110 : St → Nat → Option St) (σ : St) (x0 : Nat) : Option St :=
  (if (σ.1 x0 2) = 1 then (f_X3_toNextToken_b126 k_110 σ x0) else (if (σ.1 x0 2) = 2 then (f_X3_toNextToken_b126 k_110 σ x0) else (some σ)))
noncomputable def f_X3_toNextToken_l110 (n : Nat) : St → Nat → Option St :=
  Nat.rec (fun _ _ => none) (fun _ ih => f_X3_toNextToken_b110 ih) n
noncomputable def f_X3_toNextToken_b107 (σ : St) (x0 : Nat) (t0 : Nat) (t1 : Int32) : Option St :=
  ((ptI σ t0 4 t1).bind fun s_107 => (f_X3_toNextToken_l110 FU s_107 x0))
noncomputable def f_X3_toNextToken_b79 (σ : St) (x0 : Nat) (t0 : Nat) (t1 : Int32) : Option St :=
  ((ptI σ t0 2 t1).bind fun s_79 => (if (s_79.1 x0 1) ≤ (s_79.1 x0 3) then (f_X3_toNextToken_b107 s_79 x0 x0 (s_79.1 x0 3)) else (f_X3_toNextToken_b107 s_79 x0 x0 ((s_79.1 x0 3) + 1))))
noncomputable def f_X3_toNextToken_b48 (σ : St) (x0 : Nat) : Option St :=
  (if (σ.1 x0 1) ≤ (σ.1 x0 3) then (f_X3_toNextToken_b79 σ x0 x0 0) else ((f_X5_at σ 4 (σ.1 x0 3)).bind fun v_69 => ((f_X3_sortOf x0 v_69).bind fun v_72 => (f_X3_toNextToken_b79 σ x0 x0 v_72))))
noncomputable def f_X3_toNextToken_b8 (k_8 : St → Nat → Option St) (σ : St) (x0 : Nat) : Option St :=
  (if (σ.1 x0 1) ≤ (σ.1 x0 3) then (f_X3_toNextToken_b48 σ x0) else ((f_X5_at σ 4 (σ.1 x0 3)).bind fun v_27 => (if v_27 = 32 then ((ptI σ x0 3 ((σ.1 x0 3) + 1)).bind fun s_42 => (k_8 s_42 x0)) else (f_X3_toNextToken_b48 σ x0))))
noncomputable def f_X3_toNextToken_l8 (n : Nat) : St → Nat → Option St :=
  Nat.rec (fun _ _ => none) (fun _ ih => f_X3_toNextToken_b8 ih) n
noncomputable def f_X3_toNextToken (σ : St) (x0 : Nat) : Option St :=
  ((ptI σ x0 3 (σ.1 x0 4)).bind fun s_5 => (f_X3_toNextToken_l8 FU s_5 x0))
noncomputable def f_X3_isWord_b28 (σ : St) (k_28 : Nat → Nat → Int32 → Option Int32) (x0 : Nat) (x1 : Nat) (x2 : Int32) : Option Int32 :=
  (if (nI (sLen x1)) ≤ x2 then (some 1) else ((f_X5_at σ 4 ((σ.1 x0 3) + x2)).bind fun v_46 => ((chA x1 x2).bind fun v_51 => (if v_46 = v_51 then ((some (x2 + 1) : Option Int32).bind fun y_59 => (k_28 x0 x1 y_59)) else (some 0)))))
noncomputable def f_X3_isWord_l28 (σ : St) (n : Nat) : Nat → Nat → Int32 → Option Int32 :=
  Nat.rec (fun _ _ _ => none) (fun _ ih => f_X3_isWord_b28 σ ih) n
noncomputable def f_X3_isWord (σ : St) (x0 : Nat) (x1 : Nat) : Option Int32 :=
  (if (σ.1 x0 2) = 1 then (if ((σ.1 x0 4) - (σ.1 x0 3)) = (nI (sLen x1)) then (f_X3_isWord_l28 σ FU x0 x1 0) else (some 0)) else (some 0))
noncomputable def f_X3_readNumber_b31 (k_31 : St → Nat → Int32 → Int32 → Int32 → Int32 → Option (Int32 × St)) (σ : St) (x0 : Nat) (x1 : Int32) (x2 : Int32) (x3 : Int32) (x4 : Int32) : Option (Int32 × St) :=
  (if (σ.1 x0 4) ≤ x4 then ((f_X5_isWithin x3 x1 x2).bind fun v_67 => (if v_67 = 0 then (some ((-1), σ)) else ((f_X3_toNextToken σ x0).bind fun s_76 => (some (x3, s_76))))) else ((f_X5_at σ 4 x4).bind fun v_50 => ((some (((10 * x3) + v_50) - 48) : Option Int32).bind fun y_57 => ((some (x4 + 1) : Option Int32).bind fun y_58 => (k_31 σ x0 x1 x2 y_57 y_58)))))
noncomputable def f_X3_readNumber_l31 (n : Nat) : St → Nat → Int32 → Int32 → Int32 → Int32 → Option (Int32 × St) :=
  Nat.rec (fun _ _ _ _ _ _ => none) (fun _ ih => f_X3_readNumber_b31 ih) n
noncomputable def f_X3_readNumber (σ : St) (x0 : Nat) (x1 : Int32) (x2 : Int32) : Option (Int32 × St) :=
  (if (σ.1 x0 2) = 2 then (if ((σ.1 x0 4) - (σ.1 x0 3)) ≤ 2 then ((some (σ.1 x0 3) : Option Int32).bind fun y_29 => (f_X3_readNumber_l31 FU σ x0 x1 x2 0 y_29)) else (some ((-1), σ))) else (some ((-1), σ)))
noncomputable def f_X3_readPlaces_b34 (σ : St) (x2 : Int32) (t0 : Nat) (t1 : Int32) : Option (Int32 × St) :=
  ((ptI σ t0 0 t1).bind fun s_34 => (if x2 = (-1) then (some (0, s_34)) else (some (1, s_34))))
noncomputable def f_X3_readPlaces (σ : St) (x0 : Nat) (x1 : Nat) : Option (Int32 × St) :=
  ((f_X0_isEmpty σ x1).bind fun v_1 => (if v_1 = 0 then (some (0, σ)) else ((f_X3_toNextToken σ x0).bind fun s_10 => (b2 (f_X3_readNumber s_10 x0 1 5) fun v_16 s_16 => (if v_16 = (-1) then (f_X3_readPlaces_b34 s_16 v_16 x1 (s_16.1 x1 0)) else (f_X3_readPlaces_b34 s_16 v_16 x1 v_16))))))
noncomputable def f_X3_readDeep_b34 (σ : St) (x2 : Int32) (t0 : Nat) (t1 : Int32) : Option (Int32 × St) :=
  ((ptI σ t0 1 t1).bind fun s_34 => (if x2 = (-1) then (some (0, s_34)) else (some (1, s_34))))
noncomputable def f_X3_readDeep (σ : St) (x0 : Nat) (x1 : Nat) : Option (Int32 × St) :=
  ((f_X0_isEmpty σ x1).bind fun v_1 => (if v_1 = 0 then (some (0, σ)) else ((f_X3_toNextToken σ x0).bind fun s_10 => (b2 (f_X3_readNumber s_10 x0 1 4) fun v_16 s_16 => (if v_16 = (-1) then (f_X3_readDeep_b34 s_16 v_16 x1 (s_16.1 x1 1)) else (f_X3_readDeep_b34 s_16 v_16 x1 v_16))))))
noncomputable def f_X3_readWord (σ : St) (x0 : Nat) (x1 : Nat) : Option (Int32 × St) :=
  ((f_X3_isWord σ x0 x1).bind fun v_2 => (if v_2 = 0 then (some (0, σ)) else ((f_X3_toNextToken σ x0).bind fun s_11 => (some (1, s_11)))))
noncomputable def f_X3_readStrength_b22 (σ : St) (x2 : Int32) (t0 : Nat) (t1 : Int32) : Option (Int32 × St) :=
  ((ptI σ t0 2 t1).bind fun s_22 => (if x2 = (-1) then (some (0, s_22)) else (some (1, s_22))))
noncomputable def f_X3_readStrength (σ : St) (x0 : Nat) (x1 : Nat) : Option (Int32 × St) :=
  (b2 (f_X3_readNumber σ x0 1 20) fun v_4 s_4 => (if v_4 = (-1) then (f_X3_readStrength_b22 s_4 v_4 x1 (s_4.1 x1 2)) else (f_X3_readStrength_b22 s_4 v_4 x1 v_4)))
noncomputable def f_X3_readCuts_b2 (k_2 : St → Nat → Nat → Int32 → Int32 → Option (Int32 × St)) (σ : St) (x0 : Nat) (x1 : Nat) (x2 : Int32) (x3 : Int32) : Option (Int32 × St) :=
  (if (σ.1 x1 0) ≤ x3 then (some (1, σ)) else (b2 (f_X3_readNumber σ x0 0 (σ.1 x1 1)) fun v_16 s_16 => (if v_16 = (-1) then (some (0, s_16)) else ((f_X0_keyAt s_16 x1 x2).bind fun v_31 => ((f_X5_put s_16 (v_31 + 1) x3 v_16).bind fun s_40 => ((some (x3 + 1) : Option Int32).bind fun y_43 => (k_2 s_40 x0 x1 x2 y_43)))))))
noncomputable def f_X3_readCuts_l2 (n : Nat) : St → Nat → Nat → Int32 → Int32 → Option (Int32 × St) :=
  Nat.rec (fun _ _ _ _ _ => none) (fun _ ih => f_X3_readCuts_b2 ih) n
noncomputable def f_X3_readCuts (σ : St) (x0 : Nat) (x1 : Nat) (x2 : Int32) : Option (Int32 × St) :=
  (f_X3_readCuts_l2 FU σ x0 x1 x2 0)
noncomputable def f_X3_readKey_b71 (σ : St) : Option (Int32 × St) :=
  (some (1, σ))
noncomputable def f_X3_readKey (σ : St) (x0 : Nat) (x1 : Nat) : Option (Int32 × St) :=
  (if (σ.1 x1 5) < 6 then ((f_X3_toNextToken σ x0).bind fun s_12 => (b2 (f_X3_readNumber s_12 x0 0 5) fun v_18 s_18 => (if v_18 = (-1) then (some (0, s_18)) else (b2 (f_X3_readNumber s_18 x0 0 9) fun v_33 s_33 => (if v_33 = (-1) then (some (0, s_33)) else (b2 (f_X0_addKey s_33 x1 v_18 v_33) fun v_47 s_47 => (b2 (f_X3_readWord s_47 x0 4) fun v_55 s_55 => (if v_55 = 0 then (f_X3_readKey_b71 s_55 ) else (b2 (f_X3_readCuts s_55 x0 x1 v_47) fun v_65 s_65 => (if v_65 = 0 then (some (0, s_65)) else (f_X3_readKey_b71 s_65 ))))))))))) else (some (0, σ)))
noncomputable def f_X3_readAsks_b2 (k_2 : St → Nat → Nat → Int32 → Int32 → Option (Int32 × St)) (σ : St) (x0 : Nat) (x1 : Nat) (x2 : Int32) (x3 : Int32) : Option (Int32 × St) :=
  (if (σ.1 x1 0) ≤ x3 then (some (1, σ)) else (b2 (f_X3_readNumber σ x0 0 (σ.1 x1 1)) fun v_16 s_16 => (if v_16 = (-1) then (some (0, s_16)) else ((f_X0_putAsks s_16 x1 x2 x3 v_16).bind fun s_34 => ((some (x3 + 1) : Option Int32).bind fun y_37 => (k_2 s_34 x0 x1 x2 y_37))))))
noncomputable def f_X3_readAsks_l2 (n : Nat) : St → Nat → Nat → Int32 → Int32 → Option (Int32 × St) :=
  Nat.rec (fun _ _ _ _ _ => none) (fun _ ih => f_X3_readAsks_b2 ih) n
noncomputable def f_X3_readAsks (σ : St) (x0 : Nat) (x1 : Nat) (x2 : Int32) : Option (Int32 × St) :=
  (f_X3_readAsks_l2 FU σ x0 x1 x2 0)
noncomputable def f_X3_readLock_b41 (σ : St) (x0 : Nat) (x1 : Nat) (x2 : Int32) : Option (Int32 × St) :=
  (b2 (f_X3_readWord σ x0 7) fun v_44 s_44 => (if v_44 = 0 then (some (1, s_44)) else ((ptI s_44 x1 7 ((s_44.1 x1 7) ||| (1 <<< (x2 &&& 31)))).bind fun s_59 => (some (1, s_59)))))
noncomputable def f_X3_readLock (σ : St) (x0 : Nat) (x1 : Nat) : Option (Int32 × St) :=
  (if (σ.1 x1 6) < 8 then ((f_X3_toNextToken σ x0).bind fun s_12 => (b2 (f_X0_addLock s_12 x1 0) fun v_17 s_17 => (b2 (f_X3_readWord s_17 x0 6) fun v_24 s_24 => (if v_24 = 0 then (f_X3_readLock_b41 s_24 x0 x1 v_17) else (b2 (f_X3_readAsks s_24 x0 x1 v_17) fun v_33 s_33 => (if v_33 = 0 then (some (0, s_33)) else (f_X3_readLock_b41 s_33 x0 x1 v_17))))))) else (some (0, σ)))
noncomputable def f_X3_readMay (σ : St) (x0 : Nat) (x1 : Nat) : Option (Int32 × St) :=
  (b2 (f_X3_readNumber σ x0 0 ((σ.1 x1 5) - 1)) fun v_8 s_8 => (if v_8 = (-1) then (some (0, s_8)) else (b2 (f_X3_readNumber s_8 x0 0 ((s_8.1 x1 6) - 1)) fun v_27 s_27 => (if v_27 = (-1) then (some (0, s_27)) else ((f_X0_keyAt s_27 x1 v_8).bind fun v_40 => (b2 (f_X1_allow s_27 v_40 v_27 1) fun v_45 s_45 => (some (1, s_45))))))))
noncomputable def f_X3_readStatement (σ : St) (x0 : Nat) (x1 : Nat) : Option (Int32 × St) :=
  ((f_X3_isWord σ x0 0).bind fun v_3 => (if v_3 = 0 then ((f_X3_isWord σ x0 1).bind fun v_18 => (if v_18 = 0 then (b2 (f_X3_readWord σ x0 2) fun v_33 s_33 => (if v_33 = 0 then ((f_X3_isWord s_33 x0 3).bind fun v_48 => (if v_48 = 0 then ((f_X3_isWord s_33 x0 5).bind fun v_63 => (if v_63 = 0 then (b2 (f_X3_readWord s_33 x0 8) fun v_78 s_78 => (if v_78 = 0 then (some (0, s_78)) else (b2 (f_X3_readMay s_78 x0 x1) fun v_86 s_86 => (if v_86 = 0 then (some (0, s_86)) else (some (1, s_86)))))) else (b2 (f_X3_readLock s_33 x0 x1) fun v_71 s_71 => (some (v_71, s_71))))) else (b2 (f_X3_readKey s_33 x0 x1) fun v_56 s_56 => (some (v_56, s_56))))) else (b2 (f_X3_readStrength s_33 x0 x1) fun v_41 s_41 => (some (v_41, s_41))))) else (b2 (f_X3_readDeep σ x0 x1) fun v_26 s_26 => (some (v_26, s_26))))) else (b2 (f_X3_readPlaces σ x0 x1) fun v_11 s_11 => (some (v_11, s_11)))))
noncomputable def f_X3_readInto_b11 (k_11 : St → Nat → Nat → Int32 → Option (Int32 × St)) (σ : St) (x0 : Nat) (x1 : Nat) (x2 : Int32) : Option (Int32 × St) :=
  (if 250 < x2 then (some ((-1), σ)) else (b2 (f_X3_readStatement σ x0 x1) fun v_20 s_20 => (if v_20 = 0 then (some ((-1), s_20)) else (if (s_20.1 x0 2) = 0 then (some (x2, s_20)) else (if (s_20.1 x0 2) = 3 then ((f_X3_toNextToken s_20 x0).bind fun s_48 => ((some (x2 + 1) : Option Int32).bind fun y_51 => (k_11 s_48 x0 x1 y_51))) else (some ((-1), s_20)))))))
noncomputable def f_X3_readInto_l11 (n : Nat) : St → Nat → Nat → Int32 → Option (Int32 × St) :=
  Nat.rec (fun _ _ _ _ => none) (fun _ ih => f_X3_readInto_b11 ih) n
noncomputable def f_X3_readInto (σ : St) (x0 : Nat) (x1 : Nat) : Option (Int32 × St) :=
  ((ptI σ x0 4 0).bind fun s_2 => ((f_X3_toNextToken s_2 x0).bind fun s_6 => (f_X3_readInto_l11 FU s_6 x0 x1 1)))
noncomputable def f_X4_foundAt (σ : St) (x0 : Nat) (x1 : Int32) : Option Int32 :=
  ((f_X5_at σ 8 x1).bind fun v_5 => (some v_5))
noncomputable def f_X4_fittingRow_b5 (σ : St) (k_5 : Nat → Nat → Int32 → Int32 → Option Int32) (x0 : Nat) (x1 : Nat) (x3 : Int32) (x4 : Int32) : Option Int32 :=
  (if (σ.1 39 0) ≤ x4 then (some x3) else ((f_X5_at σ 7 x4).bind fun v_29 => ((f_X5_at σ x1 ((x4 * 5) + v_29)).bind fun v_33 => ((some (x3 &&& v_33) : Option Int32).bind fun y_37 => ((some (x4 + 1) : Option Int32).bind fun y_38 => (k_5 x0 x1 y_37 y_38))))))
noncomputable def f_X4_fittingRow_l5 (σ : St) (n : Nat) : Nat → Nat → Int32 → Int32 → Option Int32 :=
  Nat.rec (fun _ _ _ _ => none) (fun _ ih => f_X4_fittingRow_b5 σ ih) n
noncomputable def f_X4_fittingRow (σ : St) (x0 : Nat) (x1 : Nat) (x2 : Int32) : Option Int32 :=
  (f_X4_fittingRow_l5 σ FU x0 x1 x2 0)
noncomputable def f_X4_leastRow_b76 (k_14 : St → Nat → Nat → Int32 → Int32 → Int32 → Int32 → Option (Int32 × St)) (σ : St) (x0 : Nat) (x1 : Nat) (x2 : Int32) (x3 : Int32) (x4 : Int32) (x5 : Int32) : Option (Int32 × St) :=
  (b2 (f_X0_advance σ 39 7 6) fun v_88 s_88 => (if v_88 = 0 then (some (x4, s_88)) else ((some (x5 + 1) : Option Int32).bind fun y_97 => (k_14 s_88 x0 x1 x2 x3 x4 y_97))))
noncomputable def f_X4_leastRow_b48 (k_14 : St → Nat → Nat → Int32 → Int32 → Int32 → Int32 → Option (Int32 × St)) (σ : St) (x0 : Nat) (x1 : Nat) (x2 : Int32) (x3 : Int32) (x4 : Int32) (x5 : Int32) (x6 : Int32) : Option (Int32 × St) :=
  ((f_X4_fittingRow σ x0 x1 x2).bind fun v_51 => (if v_51 = x3 then ((cpI σ 7 0 8 0 5).bind fun s_73 => (f_X4_leastRow_b76 k_14 s_73 x0 x1 x2 x3 x6 x5)) else (f_X4_leastRow_b76 k_14 σ x0 x1 x2 x3 x4 x5)))
noncomputable def f_X4_leastRow_b14 (k_14 : St → Nat → Nat → Int32 → Int32 → Int32 → Int32 → Option (Int32 × St)) (σ : St) (x0 : Nat) (x1 : Nat) (x2 : Int32) (x3 : Int32) (x4 : Int32) (x5 : Int32) : Option (Int32 × St) :=
  (if 3125 ≤ x5 then (some (x4, σ)) else ((f_X0_sum σ 39 7).bind fun v_30 => (if x4 = (-1) then (f_X4_leastRow_b48 k_14 σ x0 x1 x2 x3 x4 x5 v_30) else (if x4 ≤ v_30 then (f_X4_leastRow_b76 k_14 σ x0 x1 x2 x3 x4 x5) else (f_X4_leastRow_b48 k_14 σ x0 x1 x2 x3 x4 x5 v_30)))))
noncomputable def f_X4_leastRow_l14 (n : Nat) : St → Nat → Nat → Int32 → Int32 → Int32 → Int32 → Option (Int32 × St) :=
  Nat.rec (fun _ _ _ _ _ _ _ => none) (fun _ ih => f_X4_leastRow_b14 ih) n
noncomputable def f_X4_leastRow (σ : St) (x0 : Nat) (x1 : Nat) (x2 : Int32) (x3 : Int32) : Option (Int32 × St) :=
  ((f_J7_fill_53178 σ 7 0).bind fun s_8 => (f_X4_leastRow_l14 FU s_8 x0 x1 x2 x3 (-1) 0))
noncomputable def f_X4_leastCuts (σ : St) (x0 : Nat) (x1 : Int32) : Option (Int32 × St) :=
  ((f_X5_firstBits (σ.1 39 6)).bind fun v_15 => (b2 (f_X4_leastRow σ x0 (39 + 3) v_15 x1) fun v_19 s_19 => (some (v_19, s_19))))
noncomputable def f_X4_keysOfDepth_b54 (σ : St) (k_5 : Nat → Int32 → Int32 → Int32 → Int32 → Option Int32) (x0 : Nat) (x1 : Int32) (x2 : Int32) (x3 : Int32) (x4 : Int32) : Option Int32 :=
  ((some (x4 + 1) : Option Int32).bind fun y_54 => (k_5 x0 x1 x2 x3 y_54))
noncomputable def f_X4_keysOfDepth_b5 (σ : St) (k_5 : Nat → Int32 → Int32 → Int32 → Int32 → Option Int32) (x0 : Nat) (x1 : Int32) (x2 : Int32) (x3 : Int32) (x4 : Int32) : Option Int32 :=
  (if (σ.1 39 5) ≤ x4 then (some x3) else ((f_X0_keyAt σ 39 x4).bind fun v_23 => ((f_X0_depth σ 39 v_23 (v_23 + 1) x1).bind fun v_40 => (if v_40 < x2 then (f_X4_keysOfDepth_b54 σ k_5 x0 x1 x2 x3 x4) else ((some (x3 ||| (1 <<< (x4 &&& 31))) : Option Int32).bind fun y_53 => (f_X4_keysOfDepth_b54 σ k_5 x0 x1 x2 y_53 x4))))))
noncomputable def f_X4_keysOfDepth_l5 (σ : St) (n : Nat) : Nat → Int32 → Int32 → Int32 → Int32 → Option Int32 :=
  Nat.rec (fun _ _ _ _ _ => none) (fun _ ih => f_X4_keysOfDepth_b5 σ ih) n
noncomputable def f_X4_keysOfDepth (σ : St) (x0 : Nat) (x1 : Int32) (x2 : Int32) : Option Int32 :=
  (f_X4_keysOfDepth_l5 σ FU x0 x1 x2 0 0)
noncomputable def f_X4_leastAsks_b15 (k_2 : St → Nat → Int32 → Int32 → Option (Int32 × St)) (k_15 : St → Nat → Int32 → Int32 → Int32 → Option (Int32 × St)) (σ : St) (x0 : Nat) (x1 : Int32) (x2 : Int32) (x3 : Int32) : Option (Int32 × St) :=
  (if 5 ≤ x3 then ((some (x2 + 1) : Option Int32).bind fun y_44 => (k_2 σ x0 x1 y_44)) else ((f_X4_keysOfDepth σ x0 x2 x3).bind fun v_32 => ((f_X5_put σ 9 ((x2 * 5) + x3) v_32).bind fun s_35 => ((some (x3 + 1) : Option Int32).bind fun y_38 => (k_15 s_35 x0 x1 x2 y_38)))))
noncomputable def f_X4_leastAsks_l15 (k_2 : St → Nat → Int32 → Int32 → Option (Int32 × St)) (n : Nat) : St → Nat → Int32 → Int32 → Int32 → Option (Int32 × St) :=
  Nat.rec (fun _ _ _ _ _ => none) (fun _ ih => f_X4_leastAsks_b15 k_2 ih) n
noncomputable def f_X4_leastAsks_b2 (k_2 : St → Nat → Int32 → Int32 → Option (Int32 × St)) (σ : St) (x0 : Nat) (x1 : Int32) (x2 : Int32) : Option (Int32 × St) :=
  (if (σ.1 39 0) ≤ x2 then ((f_X5_firstBits (σ.1 39 5)).bind fun v_62 => (b2 (f_X4_leastRow σ x0 9 v_62 x1) fun v_66 s_66 => (some (v_66, s_66)))) else (f_X4_leastAsks_l15 k_2 FU σ x0 x1 x2 0))
noncomputable def f_X4_leastAsks_l2 (n : Nat) : St → Nat → Int32 → Int32 → Option (Int32 × St) :=
  Nat.rec (fun _ _ _ _ => none) (fun _ ih => f_X4_leastAsks_b2 ih) n
noncomputable def f_X4_leastAsks (σ : St) (x0 : Nat) (x1 : Int32) : Option (Int32 × St) :=
  (f_X4_leastAsks_l2 FU σ x0 x1 0)
noncomputable def f_X4_rowsFor_b51 (k_24 : St → Nat → Int32 → Int32 → Int32 → Int32 → Option (Int32 × St)) (σ : St) (x0 : Nat) (x1 : Int32) (x2 : Int32) (x3 : Int32) (x4 : Int32) : Option (Int32 × St) :=
  (b2 (f_X0_advance σ 39 7 6) fun v_63 s_63 => (if v_63 = 0 then (some (x2, s_63)) else ((some (x4 + 1) : Option Int32).bind fun y_72 => (k_24 s_63 x0 x1 x2 x3 y_72))))
noncomputable def f_X4_rowsFor_b24 (k_24 : St → Nat → Int32 → Int32 → Int32 → Int32 → Option (Int32 × St)) (σ : St) (x0 : Nat) (x1 : Int32) (x2 : Int32) (x3 : Int32) (x4 : Int32) : Option (Int32 × St) :=
  (if 3125 ≤ x4 then (some (x2, σ)) else ((f_X4_fittingRow σ x0 (39 + 3) x3).bind fun v_41 => (if v_41 = x1 then ((some (x2 + 1) : Option Int32).bind fun y_48 => (f_X4_rowsFor_b51 k_24 σ x0 x1 y_48 x3 x4)) else (f_X4_rowsFor_b51 k_24 σ x0 x1 x2 x3 x4))))
noncomputable def f_X4_rowsFor_l24 (n : Nat) : St → Nat → Int32 → Int32 → Int32 → Int32 → Option (Int32 × St) :=
  Nat.rec (fun _ _ _ _ _ _ => none) (fun _ ih => f_X4_rowsFor_b24 ih) n
noncomputable def f_X4_rowsFor (σ : St) (x0 : Nat) (x1 : Int32) : Option (Int32 × St) :=
  ((f_X5_firstBits (σ.1 39 6)).bind fun v_9 => ((f_J7_fill_53178 σ 7 0).bind fun s_18 => (f_X4_rowsFor_l24 FU s_18 x0 x1 0 v_9 0)))
noncomputable def f_X4_coinsToOpen_b104 (k_49 : St → Nat → Int32 → Nat → Int32 → Int32 → Option (Int32 × St)) (σ : St) (x0 : Nat) (x2 : Int32) (x3 : Nat) (x4 : Int32) (x5 : Int32) (t0 : Nat) (t1 : Int32) (t2 : Int32) (t3 : Int32) : Option (Int32 × St) :=
  ((f_X5_put σ t0 t1 (mxI t2 t3)).bind fun s_107 => ((some (x5 + 1) : Option Int32).bind fun y_110 => (k_49 s_107 x0 x2 x3 x4 y_110)))
noncomputable def f_X4_coinsToOpen_b49 (k_49 : St → Nat → Int32 → Nat → Int32 → Int32 → Option (Int32 × St)) (σ : St) (x0 : Nat) (x2 : Int32) (x3 : Nat) (x4 : Int32) (x5 : Int32) : Option (Int32 × St) :=
  (if (σ.1 39 0) ≤ x5 then ((f_X0_openedByCuts σ 39 x3 7).bind fun v_125 => ((f_X5_hasBit v_125 x2).bind fun v_129 => (if v_129 = 0 then (some ((-1), σ)) else ((f_X0_cost σ 39 x3 7).bind fun v_144 => (some (v_144, σ)))))) else ((f_X0_asksAt σ 39 x2 x5).bind fun v_68 => ((f_X5_at σ (x3 + 1) x5).bind fun v_85 => (if x5 = x4 then (f_X4_coinsToOpen_b104 k_49 σ x0 x2 x3 x4 x5 7 x5 v_85 (v_68 - 1)) else (f_X4_coinsToOpen_b104 k_49 σ x0 x2 x3 x4 x5 7 x5 v_85 v_68)))))
noncomputable def f_X4_coinsToOpen_l49 (n : Nat) : St → Nat → Int32 → Nat → Int32 → Int32 → Option (Int32 × St) :=
  Nat.rec (fun _ _ _ _ _ _ => none) (fun _ ih => f_X4_coinsToOpen_b49 ih) n
noncomputable def f_X4_coinsToOpen (σ : St) (x0 : Nat) (x1 : Int32) (x2 : Int32) : Option (Int32 × St) :=
  ((f_X0_keyAt σ 39 x1).bind fun v_5 => ((f_X0_openedBy σ 39 x1).bind fun v_14 => ((f_X5_hasBit v_14 x2).bind fun v_18 => (if v_18 = 0 then (if (σ.1 v_5 0) = 4 then (some ((-1), σ)) else ((f_X0_wornPlace σ 39 v_5).bind fun v_41 => (f_X4_coinsToOpen_l49 FU σ x0 x2 v_5 v_41 0))) else (some (0, σ))))))
noncomputable def f_X4_safeFrom_b31 (k_4 : St → Nat → Int32 → Int32 → Int32 → Option (Int32 × St)) (σ : St) (x0 : Nat) (x1 : Int32) (x2 : Int32) (x3 : Int32) : Option (Int32 × St) :=
  ((some (x3 + 1) : Option Int32).bind fun y_31 => (k_4 σ x0 x1 x2 y_31))
noncomputable def f_X4_safeFrom_b4 (k_4 : St → Nat → Int32 → Int32 → Int32 → Option (Int32 × St)) (σ : St) (x0 : Nat) (x1 : Int32) (x2 : Int32) (x3 : Int32) : Option (Int32 × St) :=
  (if (σ.1 39 5) ≤ x3 then (some (x2, σ)) else (b2 (f_X4_coinsToOpen σ x0 x3 x1) fun v_18 s_18 => (if v_18 = (-1) then ((some (x2 ||| (1 <<< (x3 &&& 31))) : Option Int32).bind fun y_30 => (f_X4_safeFrom_b31 k_4 s_18 x0 x1 y_30 x3)) else (f_X4_safeFrom_b31 k_4 s_18 x0 x1 x2 x3))))
noncomputable def f_X4_safeFrom_l4 (n : Nat) : St → Nat → Int32 → Int32 → Int32 → Option (Int32 × St) :=
  Nat.rec (fun _ _ _ _ _ => none) (fun _ ih => f_X4_safeFrom_b4 ih) n
noncomputable def f_X4_safeFrom (σ : St) (x0 : Nat) (x1 : Int32) : Option (Int32 × St) :=
  (f_X4_safeFrom_l4 FU σ x0 x1 0 0)
noncomputable def f_X4_mendedAt_b22 (σ : St) (x0 : Nat) : Option Nat :=
  (some 8)
noncomputable def f_X4_mendedAt (σ : St) (x0 : Nat) (x1 : Int32) : Option Nat :=
  (if x1 < 0 then (f_X4_mendedAt_b22 σ x0) else (if (nI (ln 11)) ≤ x1 then (f_X4_mendedAt_b22 σ x0) else ((ldR 11 x1).bind fun v_18 => (some v_18))))
noncomputable def f_X4_planMendingOf_b112 (k_38 : St → Nat → Int32 → Nat → Int32 → Int32 → Int32 → Option (Int32 × St)) (σ : St) (x0 : Nat) (x1 : Int32) (x2 : Nat) (x3 : Int32) (x4 : Int32) (x5 : Int32) : Option (Int32 × St) :=
  (if (σ.1 x2 0) = 4 then (some (x4, σ)) else (b2 (f_X0_advance σ 39 7 (x2 + 1)) fun v_132 s_132 => (if v_132 = 0 then (some (x4, s_132)) else ((some (x5 + 1) : Option Int32).bind fun y_141 => (k_38 s_132 x0 x1 x2 x3 x4 y_141)))))
noncomputable def f_X4_planMendingOf_b93 (k_38 : St → Nat → Int32 → Nat → Int32 → Int32 → Int32 → Option (Int32 × St)) (σ : St) (x0 : Nat) (x1 : Int32) (x2 : Nat) (x3 : Int32) (x5 : Int32) (x6 : Int32) : Option (Int32 × St) :=
  ((f_X4_mendedAt σ x0 x1).bind fun v_104 => ((cpI σ 7 0 v_104 0 5).bind fun s_109 => (f_X4_planMendingOf_b112 k_38 s_109 x0 x1 x2 x3 x6 x5)))
noncomputable def f_X4_planMendingOf_b38 (k_38 : St → Nat → Int32 → Nat → Int32 → Int32 → Int32 → Option (Int32 × St)) (σ : St) (x0 : Nat) (x1 : Int32) (x2 : Nat) (x3 : Int32) (x4 : Int32) (x5 : Int32) : Option (Int32 × St) :=
  (if 3125 ≤ x5 then (some (x4, σ)) else ((f_X0_openedAs σ 39 x2 7 x3).bind fun v_56 => (if v_56 = (σ.1 x2 2) then ((f_X0_cost σ 39 x2 7).bind fun v_75 => (if x4 = (-1) then (f_X4_planMendingOf_b93 k_38 σ x0 x1 x2 x3 x5 v_75) else (if x4 ≤ v_75 then (f_X4_planMendingOf_b112 k_38 σ x0 x1 x2 x3 x4 x5) else (f_X4_planMendingOf_b93 k_38 σ x0 x1 x2 x3 x5 v_75)))) else (f_X4_planMendingOf_b112 k_38 σ x0 x1 x2 x3 x4 x5))))
noncomputable def f_X4_planMendingOf_l38 (n : Nat) : St → Nat → Int32 → Nat → Int32 → Int32 → Int32 → Option (Int32 × St) :=
  Nat.rec (fun _ _ _ _ _ _ _ => none) (fun _ ih => f_X4_planMendingOf_b38 ih) n
noncomputable def f_X4_planMendingOf (σ : St) (x0 : Nat) (x1 : Int32) : Option (Int32 × St) :=
  ((f_X0_keyAt σ 39 x1).bind fun v_5 => ((f_X0_openedBesides σ 39 v_5).bind fun v_14 => ((cpI σ (v_5 + 1) 0 7 0 5).bind fun s_32 => (f_X4_planMendingOf_l38 FU s_32 x0 x1 v_5 v_14 (-1) 0))))
noncomputable def f_X4_planMending_b2 (k_2 : St → Nat → Int32 → Option St) (σ : St) (x0 : Nat) (x1 : Int32) : Option St :=
  (if (σ.1 39 5) ≤ x1 then (some σ) else (b2 (f_X4_planMendingOf σ x0 x1) fun v_20 s_20 => ((f_X5_put s_20 10 x1 v_20).bind fun s_23 => ((some (x1 + 1) : Option Int32).bind fun y_26 => (k_2 s_23 x0 y_26)))))
noncomputable def f_X4_planMending_l2 (n : Nat) : St → Nat → Int32 → Option St :=
  Nat.rec (fun _ _ _ => none) (fun _ ih => f_X4_planMending_b2 ih) n
noncomputable def f_X4_planMending (σ : St) (x0 : Nat) : Option St :=
  (f_X4_planMending_l2 FU σ x0 0)
noncomputable def f_X4_mendingCoins_b4 (σ : St) (k_4 : Nat → Int32 → Int32 → Option Int32) (x0 : Nat) (x1 : Int32) (x2 : Int32) : Option Int32 :=
  (if (σ.1 39 5) ≤ x2 then (some x1) else ((f_X5_at σ 10 x2).bind fun v_22 => ((some (x1 + (mxI 0 v_22)) : Option Int32).bind fun y_29 => ((some (x2 + 1) : Option Int32).bind fun y_30 => (k_4 x0 y_29 y_30)))))
noncomputable def f_X4_mendingCoins_l4 (σ : St) (n : Nat) : Nat → Int32 → Int32 → Option Int32 :=
  Nat.rec (fun _ _ _ => none) (fun _ ih => f_X4_mendingCoins_b4 σ ih) n
noncomputable def f_X4_mendingCoins (σ : St) (x0 : Nat) : Option Int32 :=
  (f_X4_mendingCoins_l4 σ FU x0 0 0)
noncomputable def f_X4_pastMending_b33 (σ : St) (k_4 : Nat → Int32 → Int32 → Option Int32) (x0 : Nat) (x1 : Int32) (x2 : Int32) : Option Int32 :=
  ((some (x2 + 1) : Option Int32).bind fun y_33 => (k_4 x0 x1 y_33))
noncomputable def f_X4_pastMending_b4 (σ : St) (k_4 : Nat → Int32 → Int32 → Option Int32) (x0 : Nat) (x1 : Int32) (x2 : Int32) : Option Int32 :=
  (if (σ.1 39 5) ≤ x2 then (some x1) else ((f_X5_at σ 10 x2).bind fun v_20 => (if v_20 = (-1) then ((some (x1 ||| (1 <<< (x2 &&& 31))) : Option Int32).bind fun y_32 => (f_X4_pastMending_b33 σ k_4 x0 y_32 x2)) else (f_X4_pastMending_b33 σ k_4 x0 x1 x2))))
noncomputable def f_X4_pastMending_l4 (σ : St) (n : Nat) : Nat → Int32 → Int32 → Option Int32 :=
  Nat.rec (fun _ _ _ => none) (fun _ ih => f_X4_pastMending_b4 σ ih) n
noncomputable def f_X4_pastMending (σ : St) (x0 : Nat) : Option Int32 :=
  (f_X4_pastMending_l4 σ FU x0 0 0)
noncomputable def f_X4_doMending_b47 (k_2 : St → Nat → Int32 → Option St) (σ : St) (x0 : Nat) (x1 : Int32) : Option St :=
  ((some (x1 + 1) : Option Int32).bind fun y_47 => (k_2 σ x0 y_47))
noncomputable def f_X4_doMending_b2 (k_2 : St → Nat → Int32 → Option St) (σ : St) (x0 : Nat) (x1 : Int32) : Option St :=
  (if (σ.1 39 5) ≤ x1 then (some σ) else ((f_X5_at σ 10 x1).bind fun v_18 => (if v_18 = (-1) then (f_X4_doMending_b47 k_2 σ x0 x1) else ((f_X4_mendedAt σ x0 x1).bind fun v_27 => ((f_X0_keyAt σ 39 x1).bind fun v_36 => ((cpI σ v_27 0 (v_36 + 1) 0 5).bind fun s_44 => (f_X4_doMending_b47 k_2 s_44 x0 x1)))))))
noncomputable def f_X4_doMending_l2 (n : Nat) : St → Nat → Int32 → Option St :=
  Nat.rec (fun _ _ _ => none) (fun _ ih => f_X4_doMending_b2 ih) n
noncomputable def f_X4_doMending (σ : St) (x0 : Nat) : Option St :=
  (f_X4_doMending_l2 FU σ x0 0)
noncomputable def f_X4_openedTogether_b2 (k_2 : St → Nat → Int32 → Int32 → Int32 → Option (Int32 × St)) (σ : St) (x0 : Nat) (x1 : Int32) (x2 : Int32) (x3 : Int32) : Option (Int32 × St) :=
  (if (σ.1 39 0) ≤ x3 then ((f_X0_openedByCuts σ 39 (39 + 16) 7).bind fun v_79 => (some (v_79, σ))) else ((f_X0_keyAt σ 39 x1).bind fun v_18 => ((f_X5_at σ (v_18 + 1) x3).bind fun v_25 => ((f_X0_keyAt σ 39 x2).bind fun v_42 => ((f_X5_at σ (v_42 + 1) x3).bind fun v_49 => ((f_X5_put σ 7 x3 (mxI v_25 v_49)).bind fun s_55 => ((some (x3 + 1) : Option Int32).bind fun y_58 => (k_2 s_55 x0 x1 x2 y_58))))))))
noncomputable def f_X4_openedTogether_l2 (n : Nat) : St → Nat → Int32 → Int32 → Int32 → Option (Int32 × St) :=
  Nat.rec (fun _ _ _ _ _ => none) (fun _ ih => f_X4_openedTogether_b2 ih) n
noncomputable def f_X4_openedTogether (σ : St) (x0 : Nat) (x1 : Int32) (x2 : Int32) : Option (Int32 × St) :=
  (f_X4_openedTogether_l2 FU σ x0 x1 x2 0)
noncomputable def f_J6_bitCount_0f7a4 (x0 : Int32) : Option Int32 :=
  ((some (x0 - (((Int32.toUInt32 x0 >>> (Int32.toUInt32 1 &&& Int32.toUInt32 31)).toInt32) &&& 1431655765)) : Option Int32).bind fun y_9 => ((some ((y_9 &&& 858993459) + (((Int32.toUInt32 y_9 >>> (Int32.toUInt32 2 &&& Int32.toUInt32 31)).toInt32) &&& 858993459)) : Option Int32).bind fun y_23 => ((some ((y_23 + ((Int32.toUInt32 y_23 >>> (Int32.toUInt32 4 &&& Int32.toUInt32 31)).toInt32)) &&& 252645135) : Option Int32).bind fun y_33 => ((some (y_33 + ((Int32.toUInt32 y_33 >>> (Int32.toUInt32 8 &&& Int32.toUInt32 31)).toInt32)) : Option Int32).bind fun y_40 => ((some (y_40 + ((Int32.toUInt32 y_40 >>> (Int32.toUInt32 16 &&& Int32.toUInt32 31)).toInt32)) : Option Int32).bind fun y_47 => (some (y_47 &&& 63)))))))
noncomputable def f_X4_bestPair_b63 (k_22 : St → Nat → Int32 → Int32 → Int32 → Int32 → Option (Int32 × St)) (σ : St) (x0 : Nat) (x1 : Int32) (x2 : Int32) (x3 : Int32) (x4 : Int32) : Option (Int32 × St) :=
  ((some (x4 + 1) : Option Int32).bind fun y_63 => (k_22 σ x0 x1 x2 x3 y_63))
noncomputable def f_X4_bestPair_b22 (k_6 : St → Nat → Int32 → Int32 → Int32 → Option (Int32 × St)) (k_22 : St → Nat → Int32 → Int32 → Int32 → Int32 → Option (Int32 × St)) (σ : St) (x0 : Nat) (x1 : Int32) (x2 : Int32) (x3 : Int32) (x4 : Int32) : Option (Int32 × St) :=
  (if (σ.1 39 5) ≤ x4 then ((some (x3 + 1) : Option Int32).bind fun y_69 => (k_6 σ x0 x1 x2 y_69)) else (b2 (f_X4_openedTogether σ x0 x3 x4) fun v_38 s_38 => ((f_J6_bitCount_0f7a4 v_38).bind fun v_41 => (if v_41 ≤ x2 then (f_X4_bestPair_b63 k_22 s_38 x0 x1 x2 x3 x4) else ((some ((10 * x3) + x4) : Option Int32).bind fun y_62 => (f_X4_bestPair_b63 k_22 s_38 x0 y_62 v_41 x3 x4))))))
noncomputable def f_X4_bestPair_l22 (k_6 : St → Nat → Int32 → Int32 → Int32 → Option (Int32 × St)) (n : Nat) : St → Nat → Int32 → Int32 → Int32 → Int32 → Option (Int32 × St) :=
  Nat.rec (fun _ _ _ _ _ _ => none) (fun _ ih => f_X4_bestPair_b22 k_6 ih) n
noncomputable def f_X4_bestPair_b6 (k_6 : St → Nat → Int32 → Int32 → Int32 → Option (Int32 × St)) (σ : St) (x0 : Nat) (x1 : Int32) (x2 : Int32) (x3 : Int32) : Option (Int32 × St) :=
  (if (σ.1 39 5) ≤ x3 then (some (x1, σ)) else ((some (x3 + 1) : Option Int32).bind fun y_20 => (f_X4_bestPair_l22 k_6 FU σ x0 x1 x2 x3 y_20)))
noncomputable def f_X4_bestPair_l6 (n : Nat) : St → Nat → Int32 → Int32 → Int32 → Option (Int32 × St) :=
  Nat.rec (fun _ _ _ _ _ => none) (fun _ ih => f_X4_bestPair_b6 ih) n
noncomputable def f_X4_bestPair (σ : St) (x0 : Nat) : Option (Int32 × St) :=
  (f_X4_bestPair_l6 FU σ x0 (-1) (-1) 0)
noncomputable def f_X4_waysWithOneMore_b4 (σ : St) (k_4 : Nat → Int32 → Int32 → Int32 → Option Int32) (x0 : Nat) (x1 : Int32) (x2 : Int32) (x3 : Int32) : Option Int32 :=
  (if (σ.1 39 1) < x3 then (some x2) else ((f_X5_at σ 20 (x1 - x3)).bind fun v_23 => ((some (x2 + v_23) : Option Int32).bind fun y_27 => ((some (x3 + 1) : Option Int32).bind fun y_28 => (k_4 x0 x1 y_27 y_28)))))
noncomputable def f_X4_waysWithOneMore_l4 (σ : St) (n : Nat) : Nat → Int32 → Int32 → Int32 → Option Int32 :=
  Nat.rec (fun _ _ _ _ => none) (fun _ ih => f_X4_waysWithOneMore_b4 σ ih) n
noncomputable def f_X4_waysWithOneMore (σ : St) (x0 : Nat) (x1 : Int32) : Option Int32 :=
  (f_X4_waysWithOneMore_l4 σ FU x0 x1 0 0)
noncomputable def f_X4_rowsOfHalf_b50 (k_37 : St → Nat → Int32 → Int32 → Option (Int32 × St)) (k_50 : St → Nat → Int32 → Int32 → Int32 → Option (Int32 × St)) (σ : St) (x0 : Nat) (x1 : Int32) (x2 : Int32) (x3 : Int32) : Option (Int32 × St) :=
  (if x3 < 0 then ((some (x2 + 1) : Option Int32).bind fun y_73 => (k_37 σ x0 x1 y_73)) else ((f_X4_waysWithOneMore σ x0 x3).bind fun v_61 => ((f_X5_put σ 20 x3 v_61).bind fun s_64 => ((some (x3 + (-1)) : Option Int32).bind fun y_67 => (k_50 s_64 x0 x1 x2 y_67)))))
noncomputable def f_X4_rowsOfHalf_l50 (k_37 : St → Nat → Int32 → Int32 → Option (Int32 × St)) (n : Nat) : St → Nat → Int32 → Int32 → Int32 → Option (Int32 × St) :=
  Nat.rec (fun _ _ _ _ _ => none) (fun _ ih => f_X4_rowsOfHalf_b50 k_37 ih) n
noncomputable def f_X4_rowsOfHalf_b37 (k_37 : St → Nat → Int32 → Int32 → Option (Int32 × St)) (σ : St) (x0 : Nat) (x1 : Int32) (x2 : Int32) : Option (Int32 × St) :=
  (if (σ.1 39 0) ≤ x2 then ((f_X5_at σ 20 x1).bind fun v_84 => (some (v_84, σ))) else (f_X4_rowsOfHalf_l50 k_37 FU σ x0 x1 x2 x1))
noncomputable def f_X4_rowsOfHalf_l37 (n : Nat) : St → Nat → Int32 → Int32 → Option (Int32 × St) :=
  Nat.rec (fun _ _ _ _ => none) (fun _ ih => f_X4_rowsOfHalf_b37 ih) n
noncomputable def f_X4_rowsOfHalf (σ : St) (x0 : Nat) : Option (Int32 × St) :=
  ((dvI ((σ.1 39 0) * (σ.1 39 1)) 2).bind fun v_16 => ((f_J7_fill_53178 σ 20 0).bind fun s_23 => ((f_X5_put s_23 20 0 1).bind fun s_32 => (f_X4_rowsOfHalf_l37 FU s_32 x0 v_16 0))))
noncomputable def f_X4_keysOver_b55 (σ : St) (k_14 : Nat → Int32 → Int32 → Int32 → Int32 → Option Int32) (x0 : Nat) (x1 : Int32) (x2 : Int32) (x3 : Int32) (x4 : Int32) : Option Int32 :=
  ((some (x4 + 1) : Option Int32).bind fun y_55 => (k_14 x0 x1 x2 x3 y_55))
noncomputable def f_X4_keysOver_b14 (σ : St) (k_14 : Nat → Int32 → Int32 → Int32 → Int32 → Option Int32) (x0 : Nat) (x1 : Int32) (x2 : Int32) (x3 : Int32) (x4 : Int32) : Option Int32 :=
  (if (σ.1 39 5) ≤ x4 then (some x3) else (if x4 = x1 then (f_X4_keysOver_b55 σ k_14 x0 x1 x2 x3 x4) else ((f_X0_openedBy σ 39 x4).bind fun v_39 => (if (x2 &&& (v_39 ^^^ (-1))) = 0 then ((some (x3 ||| (1 <<< (x4 &&& 31))) : Option Int32).bind fun y_54 => (f_X4_keysOver_b55 σ k_14 x0 x1 x2 y_54 x4)) else (f_X4_keysOver_b55 σ k_14 x0 x1 x2 x3 x4)))))
noncomputable def f_X4_keysOver_l14 (σ : St) (n : Nat) : Nat → Int32 → Int32 → Int32 → Int32 → Option Int32 :=
  Nat.rec (fun _ _ _ _ _ => none) (fun _ ih => f_X4_keysOver_b14 σ ih) n
noncomputable def f_X4_keysOver (σ : St) (x0 : Nat) (x1 : Int32) : Option Int32 :=
  ((f_X0_openedBy σ 39 x1).bind fun v_5 => (f_X4_keysOver_l14 σ FU x0 x1 v_5 0 0))
noncomputable def f_X4_countBelow_b51 (σ : St) (k_14 : Nat → Int32 → Int32 → Int32 → Int32 → Option Int32) (x0 : Nat) (x1 : Int32) (x2 : Int32) (x3 : Int32) (x4 : Int32) : Option Int32 :=
  ((some (x4 + 1) : Option Int32).bind fun y_51 => (k_14 x0 x1 x2 x3 y_51))
noncomputable def f_X4_countBelow_b14 (σ : St) (k_14 : Nat → Int32 → Int32 → Int32 → Int32 → Option Int32) (x0 : Nat) (x1 : Int32) (x2 : Int32) (x3 : Int32) (x4 : Int32) : Option Int32 :=
  (if (σ.1 39 5) ≤ x4 then (some x3) else (if x4 = x1 then (f_X4_countBelow_b51 σ k_14 x0 x1 x2 x3 x4) else ((f_X0_openedBy σ 39 x4).bind fun v_38 => (if (v_38 &&& (x2 ^^^ (-1))) = 0 then ((some (x3 + 1) : Option Int32).bind fun y_48 => (f_X4_countBelow_b51 σ k_14 x0 x1 x2 y_48 x4)) else (f_X4_countBelow_b51 σ k_14 x0 x1 x2 x3 x4)))))
noncomputable def f_X4_countBelow_l14 (σ : St) (n : Nat) : Nat → Int32 → Int32 → Int32 → Int32 → Option Int32 :=
  Nat.rec (fun _ _ _ _ _ => none) (fun _ ih => f_X4_countBelow_b14 σ ih) n
noncomputable def f_X4_countBelow (σ : St) (x0 : Nat) (x1 : Int32) : Option Int32 :=
  ((f_X0_openedBy σ 39 x1).bind fun v_5 => (f_X4_countBelow_l14 σ FU x0 x1 v_5 0 0))
noncomputable def f_X4_longestBelow_b66 (σ : St) (k_14 : Nat → Int32 → Int32 → Int32 → Option Int32) (x0 : Nat) (x2 : Int32) (x3 : Int32) (x4 : Int32) : Option Int32 :=
  ((some (x4 + 1) : Option Int32).bind fun y_66 => (k_14 x0 x2 x3 y_66))
noncomputable def f_X4_longestBelow_b14 (σ : St) (k_14 : Nat → Int32 → Int32 → Int32 → Option Int32) (x0 : Nat) (x2 : Int32) (x3 : Int32) (x4 : Int32) : Option Int32 :=
  (if (σ.1 39 5) ≤ x4 then (some x3) else ((f_X5_at σ 18 x4).bind fun v_32 => (if v_32 = x2 then (f_X4_longestBelow_b66 σ k_14 x0 x2 x3 x4) else (if (v_32 &&& (x2 ^^^ (-1))) = 0 then ((f_X5_at σ 19 x4).bind fun v_59 => ((some (mxI x3 v_59) : Option Int32).bind fun y_65 => (f_X4_longestBelow_b66 σ k_14 x0 x2 y_65 x4))) else (f_X4_longestBelow_b66 σ k_14 x0 x2 x3 x4)))))
noncomputable def f_X4_longestBelow_l14 (σ : St) (n : Nat) : Nat → Int32 → Int32 → Int32 → Option Int32 :=
  Nat.rec (fun _ _ _ _ => none) (fun _ ih => f_X4_longestBelow_b14 σ ih) n
noncomputable def f_X4_longestBelow (σ : St) (x0 : Nat) (x1 : Int32) : Option Int32 :=
  ((f_X5_at σ 18 x1).bind fun v_5 => (f_X4_longestBelow_l14 σ FU x0 v_5 0 0))
noncomputable def f_X4_longestChain_b61 (k_48 : St → Nat → Int32 → Int32 → Option (Int32 × St)) (k_61 : St → Nat → Int32 → Int32 → Int32 → Option (Int32 × St)) (σ : St) (x0 : Nat) (x1 : Int32) (x2 : Int32) (x3 : Int32) : Option (Int32 × St) :=
  (if (σ.1 39 5) ≤ x3 then ((some (x2 + 1) : Option Int32).bind fun y_106 => (k_48 σ x0 x1 y_106)) else ((f_X4_longestBelow σ x0 x3).bind fun v_80 => ((f_X5_put σ 19 x3 (1 + v_80)).bind fun s_84 => ((f_X5_at s_84 19 x3).bind fun v_93 => ((some (mxI x1 v_93) : Option Int32).bind fun y_99 => ((some (x3 + 1) : Option Int32).bind fun y_100 => (k_61 s_84 x0 y_99 x2 y_100)))))))
noncomputable def f_X4_longestChain_l61 (k_48 : St → Nat → Int32 → Int32 → Option (Int32 × St)) (n : Nat) : St → Nat → Int32 → Int32 → Int32 → Option (Int32 × St) :=
  Nat.rec (fun _ _ _ _ _ => none) (fun _ ih => f_X4_longestChain_b61 k_48 ih) n
noncomputable def f_X4_longestChain_b48 (k_48 : St → Nat → Int32 → Int32 → Option (Int32 × St)) (σ : St) (x0 : Nat) (x1 : Int32) (x2 : Int32) : Option (Int32 × St) :=
  (if (σ.1 39 5) ≤ x2 then (some (x1, σ)) else (f_X4_longestChain_l61 k_48 FU σ x0 x1 x2 0))
noncomputable def f_X4_longestChain_l48 (n : Nat) : St → Nat → Int32 → Int32 → Option (Int32 × St) :=
  Nat.rec (fun _ _ _ _ => none) (fun _ ih => f_X4_longestChain_b48 ih) n
noncomputable def f_X4_longestChain_b2 (k_2 : St → Nat → Int32 → Option (Int32 × St)) (σ : St) (x0 : Nat) (x1 : Int32) : Option (Int32 × St) :=
  (if (σ.1 39 5) ≤ x1 then (f_X4_longestChain_l48 FU σ x0 0 0) else ((f_X0_openedBy σ 39 x1).bind fun v_23 => ((f_X5_put σ 18 x1 v_23).bind fun s_26 => ((f_X5_put s_26 19 x1 1).bind fun s_35 => ((some (x1 + 1) : Option Int32).bind fun y_38 => (k_2 s_35 x0 y_38))))))
noncomputable def f_X4_longestChain_l2 (n : Nat) : St → Nat → Int32 → Option (Int32 × St) :=
  Nat.rec (fun _ _ _ => none) (fun _ ih => f_X4_longestChain_b2 ih) n
noncomputable def f_X4_longestChain (σ : St) (x0 : Nat) : Option (Int32 × St) :=
  (f_X4_longestChain_l2 FU σ x0 0)
noncomputable def f_X4_lostByWard_b85 (σ : St) (k_4 : Nat → Int32 → Int32 → Int32 → Option Int32) (x0 : Nat) (x1 : Int32) (x2 : Int32) (x3 : Int32) : Option Int32 :=
  ((some (x3 + 1) : Option Int32).bind fun y_85 => (k_4 x0 x1 x2 y_85))
noncomputable def f_X4_lostByWard_b60 (σ : St) (k_4 : Nat → Int32 → Int32 → Int32 → Option Int32) (x0 : Nat) (x1 : Int32) (x2 : Int32) (x3 : Int32) (t0 : Int32) : Option Int32 :=
  ((f_X0_openedBy σ 39 x3).bind fun v_67 => ((f_X5_hasBit v_67 x1).bind fun v_71 => (if v_71 = 0 then (f_X4_lostByWard_b85 σ k_4 x0 x1 x2 x3) else (if t0 = 0 then ((some (x2 + 1) : Option Int32).bind fun y_82 => (f_X4_lostByWard_b85 σ k_4 x0 x1 y_82 x3)) else (f_X4_lostByWard_b85 σ k_4 x0 x1 x2 x3)))))
noncomputable def f_X4_lostByWard_b59 (σ : St) (k_4 : Nat → Int32 → Int32 → Int32 → Option Int32) (x0 : Nat) (x1 : Int32) (x2 : Int32) (x3 : Int32) : Option Int32 :=
  (f_X4_lostByWard_b60 σ k_4 x0 x1 x2 x3 0)
noncomputable def f_X4_lostByWard_b4 (σ : St) (k_4 : Nat → Int32 → Int32 → Int32 → Option Int32) (x0 : Nat) (x1 : Int32) (x2 : Int32) (x3 : Int32) : Option Int32 :=
  (if (σ.1 39 5) ≤ x3 then (some x2) else ((f_X0_keyAt σ 39 x3).bind fun v_20 => ((f_X1_isOfKind σ v_20 3).bind fun v_28 => (if v_28 = 0 then (f_X4_lostByWard_b59 σ k_4 x0 x1 x2 x3) else ((f_X0_openedByCuts σ 39 v_20 (v_20 + 1)).bind fun v_45 => ((f_X5_hasBit v_45 x1).bind fun v_49 => (if v_49 = 0 then (f_X4_lostByWard_b59 σ k_4 x0 x1 x2 x3) else (f_X4_lostByWard_b60 σ k_4 x0 x1 x2 x3 1))))))))
noncomputable def f_X4_lostByWard_l4 (σ : St) (n : Nat) : Nat → Int32 → Int32 → Int32 → Option Int32 :=
  Nat.rec (fun _ _ _ _ => none) (fun _ ih => f_X4_lostByWard_b4 σ ih) n
noncomputable def f_X4_lostByWard (σ : St) (x0 : Nat) (x1 : Int32) : Option Int32 :=
  (f_X4_lostByWard_l4 σ FU x0 x1 0 0)
noncomputable def f_X4_tellCut (σ : St) (x0 : Nat) (x1 : Int32) (x2 : Int32) : Option St :=
  ((f_X5_put σ 7 x1 x2).bind fun s_6 => (some s_6))
noncomputable def f_X4_canBecomeTold_b54 (σ : St) (k_2 : Nat → Nat → Int32 → Option Int32) (x0 : Nat) (x1 : Nat) (x2 : Int32) : Option Int32 :=
  ((some (x2 + 1) : Option Int32).bind fun y_54 => (k_2 x0 x1 y_54))
noncomputable def f_X4_canBecomeTold_b2 (σ : St) (k_2 : Nat → Nat → Int32 → Option Int32) (x0 : Nat) (x1 : Nat) (x2 : Int32) : Option Int32 :=
  (if (σ.1 39 0) ≤ x2 then (some 1) else ((f_X5_at σ (x1 + 1) x2).bind fun v_18 => ((f_X5_at σ 7 x2).bind fun v_27 => (if v_27 < v_18 then (some 0) else (if (σ.1 x1 0) = 4 then (if v_18 = v_27 then (f_X4_canBecomeTold_b54 σ k_2 x0 x1 x2) else (some 0)) else (f_X4_canBecomeTold_b54 σ k_2 x0 x1 x2))))))
noncomputable def f_X4_canBecomeTold_l2 (σ : St) (n : Nat) : Nat → Nat → Int32 → Option Int32 :=
  Nat.rec (fun _ _ _ => none) (fun _ ih => f_X4_canBecomeTold_b2 σ ih) n
noncomputable def f_X4_canBecomeTold (σ : St) (x0 : Nat) (x1 : Nat) : Option Int32 :=
  (f_X4_canBecomeTold_l2 σ FU x0 x1 0)
noncomputable def f_X4_keysOfTold_b73 (σ : St) (k_4 : Nat → Int32 → Int32 → Int32 → Option Int32) (x0 : Nat) (x1 : Int32) (x2 : Int32) (x3 : Int32) : Option Int32 :=
  ((some (x3 + 1) : Option Int32).bind fun y_73 => (k_4 x0 x1 x2 y_73))
noncomputable def f_X4_keysOfTold_b4 (σ : St) (k_4 : Nat → Int32 → Int32 → Int32 → Option Int32) (x0 : Nat) (x1 : Int32) (x2 : Int32) (x3 : Int32) : Option Int32 :=
  (if (σ.1 39 5) ≤ x3 then (some x2) else ((f_X0_keyAt σ 39 x3).bind fun v_20 => ((f_X0_openedBesides σ 39 v_20).bind fun v_41 => ((f_X0_openedAs σ 39 v_20 7 v_41).bind fun v_44 => ((f_X4_canBecomeTold σ x0 v_20).bind fun v_52 => (if v_52 = 0 then (f_X4_keysOfTold_b73 σ k_4 x0 x1 x2 x3) else (if (x1 &&& (v_44 ^^^ (-1))) = 0 then ((some (x2 ||| (1 <<< (x3 &&& 31))) : Option Int32).bind fun y_72 => (f_X4_keysOfTold_b73 σ k_4 x0 x1 y_72 x3)) else (f_X4_keysOfTold_b73 σ k_4 x0 x1 x2 x3))))))))
noncomputable def f_X4_keysOfTold_l4 (σ : St) (n : Nat) : Nat → Int32 → Int32 → Int32 → Option Int32 :=
  Nat.rec (fun _ _ _ _ => none) (fun _ ih => f_X4_keysOfTold_b4 σ ih) n
noncomputable def f_X4_keysOfTold (σ : St) (x0 : Nat) (x1 : Int32) : Option Int32 :=
  (f_X4_keysOfTold_l4 σ FU x0 x1 0 0)
noncomputable def f_X5_isShelf (x0 : Nat) (x1 : Int32) : Option Int32 :=
  ((f_X5_isWithin x1 0 7).bind fun v_4 => (some v_4))
noncomputable def f_X5_refuse (σ : St) (x0 : Nat) (x1 : Int32) : Option (Int32 × St) :=
  ((some ((-2) - x1) : Option Int32).bind fun y_4 => ((f_X5_at σ 1 y_4).bind fun v_15 => ((f_X5_put σ 1 y_4 (v_15 + 1)).bind fun s_20 => (some (x1, s_20)))))
noncomputable def f_X5_shelfAt_b22 (σ : St) (x0 : Nat) : Option Nat :=
  (some 37)
noncomputable def f_X5_shelfAt (σ : St) (x0 : Nat) (x1 : Int32) : Option Nat :=
  (if x1 < 0 then (f_X5_shelfAt_b22 σ x0) else (if (nI (ln 2)) ≤ x1 then (f_X5_shelfAt_b22 σ x0) else ((ldS 2 x1).bind fun v_18 => (some v_18))))
noncomputable def f_X5_row_b27 (σ : St) (x0 : Nat) : Option (Int32 × St) :=
  (b2 (f_X5_refuse σ x0 (-2)) fun v_30 s_30 => (some (v_30, s_30)))
noncomputable def f_X5_row (σ : St) (x0 : Nat) (x1 : Int32) (x2 : Int32) (x3 : Int32) : Option (Int32 × St) :=
  ((f_X5_isShelf x0 x1).bind fun v_2 => (if v_2 = 0 then (f_X5_row_b27 σ x0) else ((f_X5_isWithin x2 0 4).bind fun v_11 => (if v_11 = 0 then (f_X5_row_b27 σ x0) else ((f_X5_isWithin x3 0 40).bind fun v_21 => (if v_21 = 0 then (f_X5_row_b27 σ x0) else ((f_X5_shelfAt σ x0 x1).bind fun v_36 => ((f_X2_beginRow σ v_36 x2 x3).bind fun s_41 => (some (1, s_41))))))))))
noncomputable def f_X5_set (σ : St) (x0 : Nat) (x1 : Int32) (x2 : Int32) (x3 : Int64) : Option (Int32 × St) :=
  ((f_X5_isShelf x0 x1).bind fun v_2 => (if v_2 = 0 then (b2 (f_X5_refuse σ x0 (-2)) fun v_11 s_11 => (some (v_11, s_11))) else ((f_X5_shelfAt σ x0 x1).bind fun v_17 => ((f_X2_isRow σ v_17).bind fun v_24 => (if v_24 = 0 then ((f_X2_whyNoRow σ v_17).bind fun v_33 => (b2 (f_X5_refuse σ x0 v_33) fun v_36 s_36 => (some (v_36, s_36)))) else ((f_X5_isWithin x2 0 ((σ.1 v_17 1) - 1)).bind fun v_49 => (if v_49 = 0 then (b2 (f_X5_refuse σ x0 (-2)) fun v_58 s_58 => (some (v_58, s_58))) else ((f_X2_putElement σ v_17 x2 x3).bind fun s_66 => (some (1, s_66))))))))))
noncomputable def f_X5_copy_b126 (σ : St) (x0 : Nat) : Option (Int32 × St) :=
  (b2 (f_X5_refuse σ x0 (-2)) fun v_129 s_129 => (some (v_129, s_129)))
noncomputable def f_X5_copy_b76 (σ : St) (x0 : Nat) : Option (Int32 × St) :=
  (b2 (f_X5_refuse σ x0 (-4)) fun v_79 s_79 => (some (v_79, s_79)))
noncomputable def f_X5_copy_b53 (σ : St) (x0 : Nat) : Option (Int32 × St) :=
  (b2 (f_X5_refuse σ x0 (-3)) fun v_56 s_56 => (some (v_56, s_56)))
noncomputable def f_X5_copy_b16 (σ : St) (x0 : Nat) : Option (Int32 × St) :=
  (b2 (f_X5_refuse σ x0 (-2)) fun v_19 s_19 => (some (v_19, s_19)))
noncomputable def f_X5_copy (σ : St) (x0 : Nat) (x1 : Int32) (x2 : Int32) (x3 : Int32) (x4 : Int32) (x5 : Int32) : Option (Int32 × St) :=
  ((f_X5_isShelf x0 x1).bind fun v_2 => (if v_2 = 0 then (f_X5_copy_b16 σ x0) else ((f_X5_isShelf x0 x2).bind fun v_10 => (if v_10 = 0 then (f_X5_copy_b16 σ x0) else ((f_X5_shelfAt σ x0 x1).bind fun v_25 => ((f_X5_shelfAt σ x0 x2).bind fun v_32 => ((f_X2_isKey σ v_25).bind fun v_39 => (if v_39 = 0 then ((f_X2_isKey σ v_32).bind fun v_47 => (if v_47 = 0 then ((f_X2_isRow σ v_25).bind fun v_62 => (if v_62 = 0 then (f_X5_copy_b76 σ x0) else ((f_X2_isRow σ v_32).bind fun v_70 => (if v_70 = 0 then (f_X5_copy_b76 σ x0) else (if (σ.1 v_25 0) = (σ.1 v_32 0) then ((f_X2_hasPart σ v_25 x3 x5).bind fun v_108 => (if v_108 = 0 then (f_X5_copy_b126 σ x0) else ((f_X2_hasPart σ v_32 x4 x5).bind fun v_120 => (if v_120 = 0 then (f_X5_copy_b126 σ x0) else ((cpJ σ (v_25 + 1) x3 (v_32 + 1) x4 x5).bind fun s_148 => (some (x5, s_148))))))) else (b2 (f_X5_refuse σ x0 (-3)) fun v_99 s_99 => (some (v_99, s_99)))))))) else (f_X5_copy_b53 σ x0))) else (f_X5_copy_b53 σ x0)))))))))
noncomputable def f_X5_element (σ : St) (x0 : Nat) (x1 : Int32) (x2 : Int32) : Option Int64 :=
  ((f_X5_shelfAt σ x0 x1).bind fun v_2 => ((f_X2_elementAt σ v_2 x2).bind fun v_6 => (some v_6)))
noncomputable def f_X5_holds (σ : St) (x0 : Nat) (x1 : Int32) : Option Int32 :=
  ((f_X5_shelfAt σ x0 x1).bind fun v_2 => (some (σ.1 v_2 0)))
noncomputable def f_X5_isKey (σ : St) (x0 : Nat) (x1 : Int32) : Option Int32 :=
  ((f_X5_isWithin x1 0 ((σ.1 39 5) - 1)).bind fun v_11 => (some v_11))
noncomputable def f_X5_show_b46 (σ : St) (t0 : Nat) (t1 : Int32) : Option (Int32 × St) :=
  ((ptI σ t0 0 t1).bind fun s_46 => (some (1, s_46)))
noncomputable def f_X5_show_b28 (σ : St) (x0 : Nat) (x1 : Int32) (x2 : Int32) : Option (Int32 × St) :=
  ((f_X5_shelfAt σ x0 x1).bind fun v_30 => (if x2 = (-1) then (f_X5_show_b46 σ v_30 (-1)) else (f_X5_show_b46 σ v_30 (10 + x2))))
noncomputable def f_X5_show_b21 (σ : St) (x0 : Nat) : Option (Int32 × St) :=
  (b2 (f_X5_refuse σ x0 (-2)) fun v_24 s_24 => (some (v_24, s_24)))
noncomputable def f_X5_show (σ : St) (x0 : Nat) (x1 : Int32) (x2 : Int32) : Option (Int32 × St) :=
  ((f_X5_isShelf x0 x1).bind fun v_2 => (if v_2 = 0 then (f_X5_show_b21 σ x0) else (if x2 = (-1) then (f_X5_show_b28 σ x0 x1 x2) else ((f_X5_isKey σ x0 x2).bind fun v_15 => (if v_15 = 0 then (f_X5_show_b21 σ x0) else (f_X5_show_b28 σ x0 x1 x2))))))
noncomputable def f_X5_saysAs (σ : St) (x0 : Nat) (x1 : Int32) (x2 : Int32) : Option Int32 :=
  ((f_X0_keyAt σ 39 x1).bind fun v_5 => (if x2 = 0 then ((f_X0_sum σ 39 (v_5 + 1)).bind fun v_56 => (some v_56)) else (if x2 = 1 then ((f_X0_wornPlace σ 39 v_5).bind fun v_65 => (some v_65)) else (if x2 = 2 then ((f_X0_bears σ 39 v_5).bind fun v_103 => (some v_103)) else (if x2 = 3 then ((f_X0_openedBy σ 39 x1).bind fun v_74 => ((f_J6_bitCount_0f7a4 (v_74 &&& (σ.1 39 7))).bind fun v_85 => (some v_85))) else (if x2 = 4 then ((f_X0_bears σ 39 v_5).bind fun v_103 => (some v_103)) else (if x2 = 5 then ((f_X4_countBelow σ 5 x1).bind fun v_94 => (some v_94)) else ((f_X0_bears σ 39 v_5).bind fun v_103 => (some v_103)))))))))
noncomputable def f_X5_says_b17 (σ : St) (x0 : Nat) : Option (Int32 × St) :=
  (b2 (f_X5_refuse σ x0 (-2)) fun v_20 s_20 => (some (v_20, s_20)))
noncomputable def f_X5_says (σ : St) (x0 : Nat) (x1 : Int32) (x2 : Int32) : Option (Int32 × St) :=
  ((f_X5_isShelf x0 x1).bind fun v_2 => (if v_2 = 0 then (f_X5_says_b17 σ x0) else ((f_X5_isWithin x2 0 5).bind fun v_11 => (if v_11 = 0 then (f_X5_says_b17 σ x0) else ((f_X5_shelfAt σ x0 x1).bind fun v_26 => ((f_X2_isRow σ v_26).bind fun v_31 => (if v_31 = 0 then ((f_X2_isKey σ v_26).bind fun v_45 => (if v_45 = 0 then (b2 (f_X5_refuse σ x0 (-4)) fun v_54 s_54 => (some (v_54, s_54))) else ((some ((σ.1 v_26 0) - 10) : Option Int32).bind fun y_65 => ((f_X0_keyAt σ 39 y_65).bind fun v_73 => ((f_X1_isOfKind σ v_73 x2).bind fun v_77 => (if v_77 = 0 then (b2 (f_X5_refuse σ x0 (-3)) fun v_86 s_86 => (some (v_86, s_86))) else ((f_X5_saysAs σ x0 y_65 x2).bind fun v_94 => (some (v_94, σ))))))))) else (b2 (f_X5_refuse σ x0 (-3)) fun v_40 s_40 => (some (v_40, s_40))))))))))
noncomputable def f_X5_askPlaces (σ : St) (x0 : Nat) (x1 : Int32) : Option (Int32 × St) :=
  ((f_X5_isWithin x1 1 5).bind fun v_3 => (if v_3 = 0 then (b2 (f_X5_refuse σ x0 (-2)) fun v_12 s_12 => (some (v_12, s_12))) else ((f_X0_isEmpty σ 39).bind fun v_20 => (if v_20 = 0 then (b2 (f_X5_refuse σ x0 (-5)) fun v_29 s_29 => (some (v_29, s_29))) else ((some (σ.1 39 0) : Option Int32).bind fun y_40 => ((ptI σ 39 0 x1).bind fun s_46 => (some (y_40, s_46))))))))
noncomputable def f_X5_askDeep (σ : St) (x0 : Nat) (x1 : Int32) : Option (Int32 × St) :=
  ((f_X5_isWithin x1 1 4).bind fun v_3 => (if v_3 = 0 then (b2 (f_X5_refuse σ x0 (-2)) fun v_12 s_12 => (some (v_12, s_12))) else ((f_X0_isEmpty σ 39).bind fun v_20 => (if v_20 = 0 then (b2 (f_X5_refuse σ x0 (-5)) fun v_29 s_29 => (some (v_29, s_29))) else ((some (σ.1 39 1) : Option Int32).bind fun y_40 => ((ptI σ 39 1 x1).bind fun s_46 => (some (y_40, s_46))))))))
noncomputable def f_X5_askStrength (σ : St) (x0 : Nat) (x1 : Int32) : Option (Int32 × St) :=
  ((f_X5_isWithin x1 1 20).bind fun v_4 => (if v_4 = 0 then (b2 (f_X5_refuse σ x0 (-2)) fun v_13 s_13 => (some (v_13, s_13))) else ((some (σ.1 39 2) : Option Int32).bind fun y_24 => ((ptI σ 39 2 x1).bind fun s_30 => (some (y_24, s_30))))))
noncomputable def f_X5_ask (σ : St) (x0 : Nat) (x1 : Int32) (x2 : Int32) : Option (Int32 × St) :=
  (if x1 = 0 then (b2 (f_X5_askPlaces σ x0 x2) fun v_30 s_30 => (some (v_30, s_30))) else (if x1 = 1 then (b2 (f_X5_askDeep σ x0 x2) fun v_36 s_36 => (some (v_36, s_36))) else (if x1 = 2 then (b2 (f_X5_askStrength σ x0 x2) fun v_42 s_42 => (some (v_42, s_42))) else (b2 (f_X5_refuse σ x0 (-2)) fun v_49 s_49 => (some (v_49, s_49))))))
noncomputable def f_X5_key_b19 (σ : St) (x0 : Nat) : Option (Int32 × St) :=
  (b2 (f_X5_refuse σ x0 (-2)) fun v_22 s_22 => (some (v_22, s_22)))
noncomputable def f_X5_key (σ : St) (x0 : Nat) (x1 : Int32) (x2 : Int32) : Option (Int32 × St) :=
  ((f_X5_isWithin x1 0 5).bind fun v_3 => (if v_3 = 0 then (f_X5_key_b19 σ x0) else ((f_X5_isWithin x2 0 9).bind fun v_13 => (if v_13 = 0 then (f_X5_key_b19 σ x0) else (b2 (f_X0_addKey σ 39 x1 x2) fun v_32 s_32 => (if v_32 = (-1) then (b2 (f_X5_refuse s_32 x0 (-6)) fun v_44 s_44 => (some (v_44, s_44))) else (some (v_32, s_32))))))))
noncomputable def f_X5_lock (σ : St) (x0 : Nat) (x1 : Int32) : Option (Int32 × St) :=
  (b2 (f_X0_addLock σ 39 x1) fun v_5 s_5 => (if v_5 = (-1) then (b2 (f_X5_refuse s_5 x0 (-6)) fun v_17 s_17 => (some (v_17, s_17))) else (some (v_5, s_5))))
noncomputable def f_X5_isLock (σ : St) (x0 : Nat) (x1 : Int32) : Option Int32 :=
  ((f_X5_isWithin x1 0 ((σ.1 39 6) - 1)).bind fun v_11 => (some v_11))
noncomputable def f_X5_isPlace (σ : St) (x0 : Nat) (x1 : Int32) : Option Int32 :=
  ((f_X5_isWithin x1 0 ((σ.1 39 0) - 1)).bind fun v_11 => (some v_11))
noncomputable def f_X5_asks_b31 (σ : St) (x0 : Nat) : Option (Int32 × St) :=
  (b2 (f_X5_refuse σ x0 (-2)) fun v_34 s_34 => (some (v_34, s_34)))
noncomputable def f_X5_asks (σ : St) (x0 : Nat) (x1 : Int32) (x2 : Int32) (x3 : Int32) : Option (Int32 × St) :=
  ((f_X5_isLock σ x0 x1).bind fun v_2 => (if v_2 = 0 then (f_X5_asks_b31 σ x0) else ((f_X5_isPlace σ x0 x2).bind fun v_10 => (if v_10 = 0 then (f_X5_asks_b31 σ x0) else ((f_X5_isWithin x3 0 (σ.1 39 1)).bind fun v_25 => (if v_25 = 0 then (f_X5_asks_b31 σ x0) else ((f_X0_asksAt σ 39 x1 x2).bind fun v_44 => ((f_X0_putAsks σ 39 x1 x2 x3).bind fun s_56 => (some (v_44, s_56))))))))))
noncomputable def f_X5_may_b16 (σ : St) (x0 : Nat) : Option (Int32 × St) :=
  (b2 (f_X5_refuse σ x0 (-2)) fun v_19 s_19 => (some (v_19, s_19)))
noncomputable def f_X5_may (σ : St) (x0 : Nat) (x1 : Int32) (x2 : Int32) (x3 : Int32) : Option (Int32 × St) :=
  ((f_X5_isKey σ x0 x1).bind fun v_2 => (if v_2 = 0 then (f_X5_may_b16 σ x0) else ((f_X5_isLock σ x0 x2).bind fun v_10 => (if v_10 = 0 then (f_X5_may_b16 σ x0) else ((f_X0_keyAt σ 39 x1).bind fun v_28 => (b2 (f_X1_allow σ v_28 x2 x3) fun v_33 s_33 => (if v_33 = 0 then (some (0, s_33)) else (some (1, s_33)))))))))
noncomputable def f_X5_file_b52 (σ : St) (x0 : Nat) : Option (Int32 × St) :=
  (b2 (f_X5_refuse σ x0 (-5)) fun v_55 s_55 => (some (v_55, s_55)))
noncomputable def f_X5_file_b16 (σ : St) (x0 : Nat) : Option (Int32 × St) :=
  (b2 (f_X5_refuse σ x0 (-2)) fun v_19 s_19 => (some (v_19, s_19)))
noncomputable def f_X5_file (σ : St) (x0 : Nat) (x1 : Int32) (x2 : Int32) : Option (Int32 × St) :=
  ((f_X5_isKey σ x0 x1).bind fun v_2 => (if v_2 = 0 then (f_X5_file_b16 σ x0) else ((f_X5_isPlace σ x0 x2).bind fun v_10 => (if v_10 = 0 then (f_X5_file_b16 σ x0) else ((f_X0_keyAt σ 39 x1).bind fun v_28 => (if (σ.1 v_28 0) = 4 then (f_X5_file_b52 σ x0) else (b2 (f_X0_deepen σ 39 v_28 x2) fun v_46 s_46 => (if v_46 = 0 then (f_X5_file_b52 s_46 x0) else ((f_X5_at s_46 (v_28 + 1) x2).bind fun v_64 => ((ptI s_46 39 3 ((s_46.1 39 3) + v_64)).bind fun s_80 => (some (v_64, s_80))))))))))))
noncomputable def f_X5_feed (σ : St) (x0 : Nat) (x1 : Int32) : Option (Int32 × St) :=
  ((f_X5_isWithin x1 0 255).bind fun v_5 => (if v_5 = 0 then (b2 (f_X5_refuse σ x0 (-2)) fun v_14 s_14 => (some (v_14, s_14))) else (b2 (f_X3_add σ 3 x1) fun v_23 s_23 => (if v_23 = 0 then (b2 (f_X5_refuse s_23 x0 (-6)) fun v_42 s_42 => (some (v_42, s_42))) else (some ((s_23.1 3 1), s_23))))))
noncomputable def f_X5_wipe (σ : St) (x0 : Nat) : Option (Int32 × St) :=
  ((some (σ.1 3 1) : Option Int32).bind fun y_7 => ((ptI σ 3 1 0).bind fun s_13 => (some (y_7, s_13))))
noncomputable def f_X5_house (σ : St) (x0 : Nat) : Option (Int32 × St) :=
  ((f_X0_take σ 75 39).bind fun s_8 => (b2 (f_X3_readInto s_8 3 75) fun v_19 s_19 => ((ptI s_19 3 1 0).bind fun s_28 => (if v_19 = (-1) then (b2 (f_X5_refuse s_28 x0 (-2)) fun v_39 s_39 => (some (((-20) - (s_39.1 3 3)), s_39))) else ((f_X0_take s_28 39 75).bind fun s_62 => (some (v_19, s_62)))))))
noncomputable def f_X5_keyOf (σ : St) (x0 : Nat) (x1 : Int32) (x2 : Int32) : Option (Int32 × St) :=
  ((f_X5_isKey σ x0 x1).bind fun v_2 => (if v_2 = 0 then (b2 (f_X5_refuse σ x0 (-2)) fun v_11 s_11 => (some (v_11, s_11))) else ((f_X0_keyAt σ 39 x1).bind fun v_20 => ((f_X5_isPlace σ x0 (x2 - 10)).bind fun v_29 => (if v_29 = 0 then ((f_X5_isPlace σ x0 (x2 - 20)).bind fun v_52 => (if v_52 = 0 then (if x2 = 0 then (some ((σ.1 v_20 0), σ)) else (if x2 = 1 then (some ((σ.1 v_20 1), σ)) else (if x2 = 2 then ((f_X0_sum σ 39 (v_20 + 1)).bind fun v_130 => (some (v_130, σ))) else (if x2 = 3 then ((f_X0_breaks σ 39 v_20 (v_20 + 1)).bind fun v_143 => (if v_143 = 0 then (some (0, σ)) else (some (1, σ)))) else (if x2 = 4 then (some ((σ.1 v_20 2), σ)) else (b2 (f_X5_refuse σ x0 (-2)) fun v_163 s_163 => (some (v_163, s_163)))))))) else ((f_X0_depth σ 39 v_20 (v_20 + 1) (x2 - 20)).bind fun v_71 => (some (v_71, σ))))) else ((f_X5_at σ (v_20 + 1) (x2 - 10)).bind fun v_43 => (some (v_43, σ))))))))
noncomputable def f_X5_lockOf (σ : St) (x0 : Nat) (x1 : Int32) (x2 : Int32) : Option (Int32 × St) :=
  ((f_X5_isLock σ x0 x1).bind fun v_2 => (if v_2 = 0 then (b2 (f_X5_refuse σ x0 (-2)) fun v_11 s_11 => (some (v_11, s_11))) else ((f_X5_isPlace σ x0 (x2 - 10)).bind fun v_20 => (if v_20 = 0 then (if x2 = 0 then ((f_X0_hasWard σ 39 x1).bind fun v_73 => (if v_73 = 0 then (some (0, σ)) else (some (1, σ)))) else (if x2 = 1 then ((f_X0_asksTogether σ 39 x1).bind fun v_90 => (some (v_90, σ))) else (b2 (f_X5_refuse σ x0 (-2)) fun v_97 s_97 => (some (v_97, s_97))))) else ((f_X0_asksAt σ 39 x1 (x2 - 10)).bind fun v_35 => (some (v_35, σ)))))))
noncomputable def f_X5_opens_b71 (σ : St) (x2 : Int32) (t0 : Int32) : Option (Int32 × St) :=
  ((f_X5_hasBit t0 x2).bind fun v_76 => (if v_76 = 0 then (some (0, σ)) else (some (1, σ))))
noncomputable def f_X5_opens_b25 (σ : St) (x0 : Nat) : Option (Int32 × St) :=
  (b2 (f_X5_refuse σ x0 (-2)) fun v_28 s_28 => (some (v_28, s_28)))
noncomputable def f_X5_opens (σ : St) (x0 : Nat) (x1 : Int32) (x2 : Int32) (x3 : Int32) : Option (Int32 × St) :=
  ((f_X5_isKey σ x0 x1).bind fun v_2 => (if v_2 = 0 then (f_X5_opens_b25 σ x0) else ((f_X5_isLock σ x0 x2).bind fun v_10 => (if v_10 = 0 then (f_X5_opens_b25 σ x0) else ((f_X5_isWithin x3 0 1).bind fun v_19 => (if v_19 = 0 then (f_X5_opens_b25 σ x0) else ((f_X0_keyAt σ 39 x1).bind fun v_37 => (if x3 = 0 then ((f_X0_fitted σ 39 v_37 (v_37 + 1)).bind fun v_57 => (f_X5_opens_b71 σ x2 v_57)) else ((f_X0_openedBy σ 39 x1).bind fun v_68 => (f_X5_opens_b71 σ x2 v_68))))))))))
noncomputable def f_X5_opened (σ : St) (x0 : Nat) (x1 : Int32) : Option (Int32 × St) :=
  ((f_X5_isKey σ x0 x1).bind fun v_2 => (if v_2 = 0 then (b2 (f_X5_refuse σ x0 (-2)) fun v_22 s_22 => (some (v_22, s_22))) else ((f_X0_openedBy σ 39 x1).bind fun v_13 => (some (v_13, σ)))))
noncomputable def f_X5_who (σ : St) (x0 : Nat) (x1 : Int32) : Option (Int32 × St) :=
  ((f_X5_isLock σ x0 x1).bind fun v_2 => (if v_2 = 0 then (b2 (f_X5_refuse σ x0 (-2)) fun v_22 s_22 => (some (v_22, s_22))) else ((f_X0_openersOf σ 39 x1).bind fun v_13 => (some (v_13, σ)))))
noncomputable def f_X5_wrong_b36 (σ : St) (k_2 : Nat → Int32 → Option Int32) (k_36 : Nat → Int32 → Int32 → Int32 → Option Int32) (x0 : Nat) (x1 : Int32) (x2 : Int32) (x3 : Int32) : Option Int32 :=
  (if (σ.1 39 6) ≤ x3 then ((some (x1 + 1) : Option Int32).bind fun y_68 => (k_2 x0 y_68)) else ((f_X5_hasBit x2 x3).bind fun v_49 => (if v_49 = 0 then ((some (x3 + 1) : Option Int32).bind fun y_62 => (k_36 x0 x1 x2 y_62)) else (some ((10 * x1) + x3)))))
noncomputable def f_X5_wrong_l36 (σ : St) (k_2 : Nat → Int32 → Option Int32) (n : Nat) : Nat → Int32 → Int32 → Int32 → Option Int32 :=
  Nat.rec (fun _ _ _ _ => none) (fun _ ih => f_X5_wrong_b36 σ k_2 ih) n
noncomputable def f_X5_wrong_b2 (σ : St) (k_2 : Nat → Int32 → Option Int32) (x0 : Nat) (x1 : Int32) : Option Int32 :=
  (if (σ.1 39 5) ≤ x1 then (some (-1)) else ((f_X0_openedBy σ 39 x1).bind fun v_18 => ((f_X0_keyAt σ 39 x1).bind fun v_26 => ((some (v_18 ^^^ (σ.1 v_26 2)) : Option Int32).bind fun y_33 => (f_X5_wrong_l36 σ k_2 FU x0 x1 y_33 0)))))
noncomputable def f_X5_wrong_l2 (σ : St) (n : Nat) : Nat → Int32 → Option Int32 :=
  Nat.rec (fun _ _ => none) (fun _ ih => f_X5_wrong_b2 σ ih) n
noncomputable def f_X5_wrong (σ : St) (x0 : Nat) : Option Int32 :=
  (f_X5_wrong_l2 σ FU x0 0)
noncomputable def f_X5_wrongs_b4 (σ : St) (k_4 : Nat → Int32 → Int32 → Option Int32) (x0 : Nat) (x1 : Int32) (x2 : Int32) : Option Int32 :=
  (if (σ.1 39 5) ≤ x2 then (some x1) else ((f_X0_openedBy σ 39 x2).bind fun v_21 => ((f_X0_keyAt σ 39 x2).bind fun v_29 => ((f_J6_bitCount_0f7a4 (v_21 ^^^ (σ.1 v_29 2))).bind fun v_36 => ((some (x1 + v_36) : Option Int32).bind fun y_40 => ((some (x2 + 1) : Option Int32).bind fun y_41 => (k_4 x0 y_40 y_41)))))))
noncomputable def f_X5_wrongs_l4 (σ : St) (n : Nat) : Nat → Int32 → Int32 → Option Int32 :=
  Nat.rec (fun _ _ _ => none) (fun _ ih => f_X5_wrongs_b4 σ ih) n
noncomputable def f_X5_wrongs (σ : St) (x0 : Nat) : Option Int32 :=
  (f_X5_wrongs_l4 σ FU x0 0 0)
noncomputable def f_X5_listTrouble (σ : St) (x0 : Nat) (x1 : Int32) : Option Int32 :=
  ((f_X5_isShelf x0 x1).bind fun v_2 => (if v_2 = 0 then (some (-2)) else ((f_X5_shelfAt σ x0 x1).bind fun v_13 => ((f_X2_isRow σ v_13).bind fun v_18 => (if v_18 = 0 then ((f_X2_whyNoRow σ v_13).bind fun v_25 => (some v_25)) else (if (σ.1 39 5) ≤ (σ.1 v_13 1) then (some 0) else (some (-2))))))))
noncomputable def f_X5_toldLocks (σ : St) (x0 : Nat) (x1 : Int32) (x2 : Int32) : Option Int32 :=
  ((f_X5_shelfAt σ x0 x1).bind fun v_2 => ((f_X2_elementAt σ v_2 x2).bind fun v_6 => ((f_X5_firstBits (σ.1 39 6)).bind fun v_17 => (some ((Int64.toInt32 v_6) &&& v_17)))))
noncomputable def f_X5_judge_b18 (k_18 : St → Nat → Int32 → Int32 → Option (Int32 × St)) (σ : St) (x0 : Nat) (x1 : Int32) (x3 : Int32) : Option (Int32 × St) :=
  (if (σ.1 39 5) ≤ x3 then (some ((-1), σ)) else ((f_X0_openedBy σ 39 x3).bind fun v_34 => ((f_X5_toldLocks σ x0 x1 x3).bind fun v_40 => (if v_34 = v_40 then ((some (x3 + 1) : Option Int32).bind fun y_48 => (k_18 σ x0 x1 y_48)) else (some (x3, σ))))))
noncomputable def f_X5_judge_l18 (n : Nat) : St → Nat → Int32 → Int32 → Option (Int32 × St) :=
  Nat.rec (fun _ _ _ _ => none) (fun _ ih => f_X5_judge_b18 ih) n
noncomputable def f_X5_judge (σ : St) (x0 : Nat) (x1 : Int32) : Option (Int32 × St) :=
  ((f_X5_listTrouble σ x0 x1).bind fun v_2 => (if v_2 = 0 then (f_X5_judge_l18 FU σ x0 x1 0) else (b2 (f_X5_refuse σ x0 v_2) fun v_12 s_12 => (some (v_12, s_12)))))
noncomputable def f_X5_list_b18 (k_18 : St → Nat → Int32 → Int32 → Option (Int32 × St)) (σ : St) (x0 : Nat) (x1 : Int32) (x3 : Int32) : Option (Int32 × St) :=
  (if (σ.1 39 5) ≤ x3 then (some ((σ.1 39 5), σ)) else ((f_X0_keyAt σ 39 x3).bind fun v_34 => ((f_X5_toldLocks σ x0 x1 x3).bind fun v_40 => ((ptI σ v_34 2 v_40).bind fun s_43 => ((some (x3 + 1) : Option Int32).bind fun y_46 => (k_18 s_43 x0 x1 y_46))))))
noncomputable def f_X5_list_l18 (n : Nat) : St → Nat → Int32 → Int32 → Option (Int32 × St) :=
  Nat.rec (fun _ _ _ _ => none) (fun _ ih => f_X5_list_b18 ih) n
noncomputable def f_X5_list (σ : St) (x0 : Nat) (x1 : Int32) : Option (Int32 × St) :=
  ((f_X5_listTrouble σ x0 x1).bind fun v_2 => (if v_2 = 0 then (f_X5_list_l18 FU σ x0 x1 0) else (b2 (f_X5_refuse σ x0 v_2) fun v_12 s_12 => (some (v_12, s_12)))))
noncomputable def f_X5_isLocks (σ : St) (x0 : Nat) (x1 : Int32) : Option Int32 :=
  ((f_X5_firstBits (σ.1 39 6)).bind fun v_9 => ((f_X5_isWithin x1 0 v_9).bind fun v_12 => (some v_12)))
noncomputable def f_X5_cuts_b47 (σ : St) (x3 : Int32) : Option (Int32 × St) :=
  (some (x3, σ))
noncomputable def f_X5_cuts_b28 (σ : St) (x0 : Nat) (x1 : Int32) (x2 : Int32) : Option (Int32 × St) :=
  (b2 (f_X4_leastCuts σ 5 x1) fun v_33 s_33 => (if v_33 = (-1) then (f_X5_cuts_b47 s_33 v_33) else (if x2 = (-1) then (f_X5_cuts_b47 s_33 v_33) else ((f_X4_foundAt s_33 5 x2).bind fun v_56 => (some (v_56, s_33))))))
noncomputable def f_X5_cuts_b21 (σ : St) (x0 : Nat) : Option (Int32 × St) :=
  (b2 (f_X5_refuse σ x0 (-2)) fun v_24 s_24 => (some (v_24, s_24)))
noncomputable def f_X5_cuts (σ : St) (x0 : Nat) (x1 : Int32) (x2 : Int32) : Option (Int32 × St) :=
  ((f_X5_isLocks σ x0 x1).bind fun v_2 => (if v_2 = 0 then (f_X5_cuts_b21 σ x0) else (if x2 = (-1) then (f_X5_cuts_b28 σ x0 x1 x2) else ((f_X5_isPlace σ x0 x2).bind fun v_15 => (if v_15 = 0 then (f_X5_cuts_b21 σ x0) else (f_X5_cuts_b28 σ x0 x1 x2))))))
noncomputable def f_X5_isKeys (σ : St) (x0 : Nat) (x1 : Int32) : Option Int32 :=
  ((f_X5_firstBits (σ.1 39 5)).bind fun v_9 => ((f_X5_isWithin x1 0 v_9).bind fun v_12 => (some v_12)))
noncomputable def f_X5_asked_b47 (σ : St) (x3 : Int32) : Option (Int32 × St) :=
  (some (x3, σ))
noncomputable def f_X5_asked_b28 (σ : St) (x0 : Nat) (x1 : Int32) (x2 : Int32) : Option (Int32 × St) :=
  (b2 (f_X4_leastAsks σ 5 x1) fun v_33 s_33 => (if v_33 = (-1) then (f_X5_asked_b47 s_33 v_33) else (if x2 = (-1) then (f_X5_asked_b47 s_33 v_33) else ((f_X4_foundAt s_33 5 x2).bind fun v_56 => (some (v_56, s_33))))))
noncomputable def f_X5_asked_b21 (σ : St) (x0 : Nat) : Option (Int32 × St) :=
  (b2 (f_X5_refuse σ x0 (-2)) fun v_24 s_24 => (some (v_24, s_24)))
noncomputable def f_X5_asked (σ : St) (x0 : Nat) (x1 : Int32) (x2 : Int32) : Option (Int32 × St) :=
  ((f_X5_isKeys σ x0 x1).bind fun v_2 => (if v_2 = 0 then (f_X5_asked_b21 σ x0) else (if x2 = (-1) then (f_X5_asked_b28 σ x0 x1 x2) else ((f_X5_isPlace σ x0 x2).bind fun v_15 => (if v_15 = 0 then (f_X5_asked_b21 σ x0) else (f_X5_asked_b28 σ x0 x1 x2))))))
noncomputable def f_X5_toOpen_b28 (σ : St) (x0 : Nat) : Option (Int32 × St) :=
  (b2 (f_X5_refuse σ x0 (-2)) fun v_31 s_31 => (some (v_31, s_31)))
noncomputable def f_X5_toOpen (σ : St) (x0 : Nat) (x1 : Int32) (x2 : Int32) : Option (Int32 × St) :=
  ((f_X5_isKey σ x0 x1).bind fun v_2 => (if v_2 = 0 then (f_X5_toOpen_b28 σ x0) else ((f_X5_isLock σ x0 x2).bind fun v_10 => (if v_10 = 0 then (f_X5_toOpen_b28 σ x0) else (b2 (f_X4_coinsToOpen σ 5 x1 x2) fun v_22 s_22 => (some (v_22, s_22)))))))
noncomputable def f_X5_safe (σ : St) (x0 : Nat) (x1 : Int32) : Option (Int32 × St) :=
  ((f_X5_isLock σ x0 x1).bind fun v_2 => (if v_2 = 0 then (b2 (f_X5_refuse σ x0 (-2)) fun v_22 s_22 => (some (v_22, s_22))) else (b2 (f_X4_safeFrom σ 5 x1) fun v_13 s_13 => (some (v_13, s_13)))))
noncomputable def f_X5_safest_b41 (k_6 : St → Nat → Int32 → Int32 → Int32 → Option (Int32 × St)) (σ : St) (x0 : Nat) (x1 : Int32) (x2 : Int32) (x3 : Int32) : Option (Int32 × St) :=
  ((some (x3 + 1) : Option Int32).bind fun y_41 => (k_6 σ x0 x1 x2 y_41))
noncomputable def f_X5_safest_b6 (k_6 : St → Nat → Int32 → Int32 → Int32 → Option (Int32 × St)) (σ : St) (x0 : Nat) (x1 : Int32) (x2 : Int32) (x3 : Int32) : Option (Int32 × St) :=
  (if (σ.1 39 6) ≤ x3 then (some (x1, σ)) else (b2 (f_X4_safeFrom σ 5 x3) fun v_22 s_22 => ((f_J6_bitCount_0f7a4 v_22).bind fun v_25 => (if v_25 ≤ x2 then (f_X5_safest_b41 k_6 s_22 x0 x1 x2 x3) else (f_X5_safest_b41 k_6 s_22 x0 x3 v_25 x3)))))
noncomputable def f_X5_safest_l6 (n : Nat) : St → Nat → Int32 → Int32 → Int32 → Option (Int32 × St) :=
  Nat.rec (fun _ _ _ _ _ => none) (fun _ ih => f_X5_safest_b6 ih) n
noncomputable def f_X5_safest (σ : St) (x0 : Nat) : Option (Int32 × St) :=
  (f_X5_safest_l6 FU σ x0 (-1) (-1) 0)
noncomputable def f_X5_mended (σ : St) (x0 : Nat) (x1 : Int32) : Option (Int32 × St) :=
  ((f_X5_isWithin x1 0 1).bind fun v_3 => (if v_3 = 0 then (b2 (f_X5_refuse σ x0 (-2)) fun v_12 s_12 => (some (v_12, s_12))) else ((f_X4_planMending σ 5).bind fun s_20 => (if x1 = 0 then ((f_X4_mendingCoins s_20 5).bind fun v_31 => (some (v_31, s_20))) else ((f_X4_pastMending s_20 5).bind fun v_41 => (some (v_41, s_20)))))))
noncomputable def f_X5_left (σ : St) (x0 : Nat) (x1 : Int32) : Option (Int32 × St) :=
  ((f_X5_isKey σ x0 x1).bind fun v_2 => (if v_2 = 0 then (b2 (f_X5_refuse σ x0 (-2)) fun v_11 s_11 => (some (v_11, s_11))) else ((f_X0_keyAt σ 39 x1).bind fun v_20 => ((f_X0_bears σ 39 v_20).bind fun v_30 => ((f_X0_sum σ 39 (v_20 + 1)).bind fun v_41 => (some ((mxI 0 (v_30 - v_41)), σ)))))))
noncomputable def f_X5_idle (σ : St) (x0 : Nat) (x1 : Int32) : Option (Int32 × St) :=
  ((f_X5_isPlace σ x0 x1).bind fun v_2 => (if v_2 = 0 then (b2 (f_X5_refuse σ x0 (-2)) fun v_11 s_11 => (some (v_11, s_11))) else ((f_X0_locksWithin σ 39 x1 0).bind fun v_21 => ((f_J6_bitCount_0f7a4 v_21).bind fun v_24 => (some (v_24, σ))))))
noncomputable def f_X5_together_b21 (σ : St) (x0 : Nat) : Option (Int32 × St) :=
  (b2 (f_X5_refuse σ x0 (-2)) fun v_24 s_24 => (some (v_24, s_24)))
noncomputable def f_X5_together (σ : St) (x0 : Nat) (x1 : Int32) (x2 : Int32) : Option (Int32 × St) :=
  ((f_X5_isKey σ x0 x1).bind fun v_2 => (if v_2 = 0 then (f_X5_together_b21 σ x0) else ((f_X5_isKey σ x0 x2).bind fun v_10 => (if v_10 = 0 then (f_X5_together_b21 σ x0) else (if x1 = x2 then (f_X5_together_b21 σ x0) else (b2 (f_X4_openedTogether σ 5 x1 x2) fun v_34 s_34 => (some (v_34, s_34))))))))
noncomputable def f_X5_pair (σ : St) (x0 : Nat) : Option (Int32 × St) :=
  (if 2 ≤ (σ.1 39 5) then (b2 (f_X4_bestPair σ 5) fun v_24 s_24 => (some (v_24, s_24))) else (b2 (f_X5_refuse σ x0 (-5)) fun v_14 s_14 => (some (v_14, s_14))))
noncomputable def f_X5_unlike (σ : St) (x0 : Nat) : Option (Int32 × St) :=
  (b2 (f_X4_rowsOfHalf σ 5) fun v_4 s_4 => (some (v_4, s_4)))
noncomputable def f_X5_alike_b50 (σ : St) (k_15 : Nat → Int32 → Int32 → Option Int32) (x0 : Nat) (x1 : Int32) (x2 : Int32) : Option Int32 :=
  ((some (x2 + 1) : Option Int32).bind fun y_50 => (k_15 x0 x1 y_50))
noncomputable def f_X5_alike_b15 (σ : St) (k_2 : Nat → Int32 → Option Int32) (k_15 : Nat → Int32 → Int32 → Option Int32) (x0 : Nat) (x1 : Int32) (x2 : Int32) : Option Int32 :=
  (if (σ.1 39 6) ≤ x2 then ((some (x1 + 1) : Option Int32).bind fun y_56 => (k_2 x0 y_56)) else (if x1 = x2 then (f_X5_alike_b50 σ k_15 x0 x1 x2) else ((f_X0_asksAsMuch σ 39 x1 x2).bind fun v_37 => (if v_37 = 0 then (f_X5_alike_b50 σ k_15 x0 x1 x2) else (some ((10 * x1) + x2))))))
noncomputable def f_X5_alike_l15 (σ : St) (k_2 : Nat → Int32 → Option Int32) (n : Nat) : Nat → Int32 → Int32 → Option Int32 :=
  Nat.rec (fun _ _ _ => none) (fun _ ih => f_X5_alike_b15 σ k_2 ih) n
noncomputable def f_X5_alike_b2 (σ : St) (k_2 : Nat → Int32 → Option Int32) (x0 : Nat) (x1 : Int32) : Option Int32 :=
  (if (σ.1 39 6) ≤ x1 then (some (-1)) else (f_X5_alike_l15 σ k_2 FU x0 x1 0))
noncomputable def f_X5_alike_l2 (σ : St) (n : Nat) : Nat → Int32 → Option Int32 :=
  Nat.rec (fun _ _ => none) (fun _ ih => f_X5_alike_b2 σ ih) n
noncomputable def f_X5_alike (σ : St) (x0 : Nat) : Option Int32 :=
  (f_X5_alike_l2 σ FU x0 0)
noncomputable def f_X5_over (σ : St) (x0 : Nat) (x1 : Int32) : Option (Int32 × St) :=
  ((f_X5_isKey σ x0 x1).bind fun v_2 => (if v_2 = 0 then (b2 (f_X5_refuse σ x0 (-2)) fun v_22 s_22 => (some (v_22, s_22))) else ((f_X4_keysOver σ 5 x1).bind fun v_13 => (some (v_13, σ)))))
noncomputable def f_X5_chain (σ : St) (x0 : Nat) : Option (Int32 × St) :=
  (b2 (f_X4_longestChain σ 5) fun v_4 s_4 => (some (v_4, s_4)))
noncomputable def f_X5_ward (σ : St) (x0 : Nat) (x1 : Int32) : Option (Int32 × St) :=
  ((f_X5_isLock σ x0 x1).bind fun v_2 => (if v_2 = 0 then (b2 (f_X5_refuse σ x0 (-2)) fun v_11 s_11 => (some (v_11, s_11))) else ((f_X0_hasWard σ 39 x1).bind fun v_20 => (if v_20 = 0 then ((f_X4_lostByWard σ 5 x1).bind fun v_40 => (some (v_40, σ))) else (b2 (f_X5_refuse σ x0 (-5)) fun v_29 s_29 => (some (v_29, s_29)))))))
noncomputable def f_X5_tellsCuts_b18 (σ : St) (k_18 : Nat → Nat → Int32 → Option Int32) (x0 : Nat) (x1 : Nat) (x2 : Int32) : Option Int32 :=
  (if (σ.1 39 0) ≤ x2 then (some 1) else ((f_X2_elementAt σ x1 x2).bind fun v_31 => (if (lg_cmp v_31 0) < 0 then (some 0) else (if (lg_cmp v_31 (Int32.toInt64 (σ.1 39 1))) ≤ 0 then ((some (x2 + 1) : Option Int32).bind fun y_56 => (k_18 x0 x1 y_56)) else (some 0)))))
noncomputable def f_X5_tellsCuts_l18 (σ : St) (n : Nat) : Nat → Nat → Int32 → Option Int32 :=
  Nat.rec (fun _ _ _ => none) (fun _ ih => f_X5_tellsCuts_b18 σ ih) n
noncomputable def f_X5_tellsCuts (σ : St) (x0 : Nat) (x1 : Nat) : Option Int32 :=
  (if (σ.1 39 0) ≤ (σ.1 x1 1) then (f_X5_tellsCuts_l18 σ FU x0 x1 0) else (some 0))
noncomputable def f_X5_found_b63 (k_63 : St → Nat → Int32 → Nat → Int32 → Option (Int32 × St)) (σ : St) (x0 : Nat) (x2 : Int32) (x3 : Nat) (x4 : Int32) : Option (Int32 × St) :=
  (if (σ.1 39 0) ≤ x4 then ((f_X4_keysOfTold σ 5 x2).bind fun v_102 => (some (v_102, σ))) else ((f_X2_elementAt σ x3 x4).bind fun v_84 => ((f_X4_tellCut σ 5 x4 (Int64.toInt32 v_84)).bind fun s_88 => ((some (x4 + 1) : Option Int32).bind fun y_91 => (k_63 s_88 x0 x2 x3 y_91)))))
noncomputable def f_X5_found_l63 (n : Nat) : St → Nat → Int32 → Nat → Int32 → Option (Int32 × St) :=
  Nat.rec (fun _ _ _ _ _ => none) (fun _ ih => f_X5_found_b63 ih) n
noncomputable def f_X5_found_b16 (σ : St) (x0 : Nat) : Option (Int32 × St) :=
  (b2 (f_X5_refuse σ x0 (-2)) fun v_19 s_19 => (some (v_19, s_19)))
noncomputable def f_X5_found (σ : St) (x0 : Nat) (x1 : Int32) (x2 : Int32) : Option (Int32 × St) :=
  ((f_X5_isShelf x0 x1).bind fun v_2 => (if v_2 = 0 then (f_X5_found_b16 σ x0) else ((f_X5_isLocks σ x0 x2).bind fun v_10 => (if v_10 = 0 then (f_X5_found_b16 σ x0) else ((f_X5_shelfAt σ x0 x1).bind fun v_25 => ((f_X2_isRow σ v_25).bind fun v_30 => (if v_30 = 0 then ((f_X2_whyNoRow σ v_25).bind fun v_38 => (b2 (f_X5_refuse σ x0 v_38) fun v_41 s_41 => (some (v_41, s_41)))) else ((f_X5_tellsCuts σ x0 v_25).bind fun v_47 => (if v_47 = 0 then (b2 (f_X5_refuse σ x0 (-2)) fun v_56 s_56 => (some (v_56, s_56))) else (f_X5_found_l63 FU σ x0 x2 v_25 0))))))))))
noncomputable def f_X5_many (σ : St) (x0 : Nat) (x1 : Int32) : Option (Int32 × St) :=
  ((f_X5_isLocks σ x0 x1).bind fun v_2 => (if v_2 = 0 then (b2 (f_X5_refuse σ x0 (-2)) fun v_22 s_22 => (some (v_22, s_22))) else (b2 (f_X4_rowsFor σ 5 x1) fun v_13 s_13 => (some (v_13, s_13)))))
noncomputable def f_X5_use_b16 (σ : St) (x0 : Nat) : Option (Int32 × St) :=
  (b2 (f_X5_refuse σ x0 (-2)) fun v_19 s_19 => (some (v_19, s_19)))
noncomputable def f_X5_use (σ : St) (x0 : Nat) (x1 : Int32) (x2 : Int32) : Option (Int32 × St) :=
  ((f_X5_isKey σ x0 x1).bind fun v_2 => (if v_2 = 0 then (f_X5_use_b16 σ x0) else ((f_X5_isLock σ x0 x2).bind fun v_10 => (if v_10 = 0 then (f_X5_use_b16 σ x0) else ((f_X0_openedBy σ 39 x1).bind fun v_28 => ((f_X5_hasBit v_28 x2).bind fun v_32 => (if v_32 = 0 then (b2 (f_X5_refuse σ x0 (-5)) fun v_41 s_41 => (some (v_41, s_41))) else ((f_X0_keyAt σ 39 x1).bind fun v_54 => (b2 (f_X0_wear σ 39 v_54) fun v_57 s_57 => (if v_57 = 0 then (some (0, s_57)) else (some (1, s_57))))))))))))
noncomputable def f_X5_days_b66 (k_48 : St → Nat → Int32 → Int32 → Int32 → Option (Int32 × St)) (σ : St) (x0 : Nat) (x1 : Int32) (x2 : Int32) (x3 : Int32) : Option (Int32 × St) :=
  ((some (x3 + 1) : Option Int32).bind fun y_66 => (k_48 σ x0 x1 x2 y_66))
noncomputable def f_X5_days_b48 (k_48 : St → Nat → Int32 → Int32 → Int32 → Option (Int32 × St)) (σ : St) (x0 : Nat) (x1 : Int32) (x2 : Int32) (x3 : Int32) : Option (Int32 × St) :=
  (if x1 ≤ x3 then (some (x2, σ)) else (b2 (f_X0_passDay σ 39) fun v_57 s_57 => (if v_57 = 0 then (f_X5_days_b66 k_48 s_57 x0 x1 x2 x3) else ((some (x2 + 1) : Option Int32).bind fun y_63 => (f_X5_days_b66 k_48 s_57 x0 x1 y_63 x3)))))
noncomputable def f_X5_days_l48 (n : Nat) : St → Nat → Int32 → Int32 → Int32 → Option (Int32 × St) :=
  Nat.rec (fun _ _ _ _ _ => none) (fun _ ih => f_X5_days_b48 ih) n
noncomputable def f_X5_days_b37 (σ : St) (x0 : Nat) : Option (Int32 × St) :=
  (b2 (f_X5_refuse σ x0 (-5)) fun v_40 s_40 => (some (v_40, s_40)))
noncomputable def f_X5_days (σ : St) (x0 : Nat) (x1 : Int32) : Option (Int32 × St) :=
  ((f_X5_isWithin x1 1 40).bind fun v_4 => (if v_4 = 0 then (b2 (f_X5_refuse σ x0 (-2)) fun v_13 s_13 => (some (v_13, s_13))) else (if (σ.1 39 5) = 0 then (f_X5_days_b37 σ x0) else (if (σ.1 39 6) = 0 then (f_X5_days_b37 σ x0) else (f_X5_days_l48 FU σ x0 x1 0 0)))))
noncomputable def f_X5_renew (σ : St) (x0 : Nat) (x1 : Int32) : Option (Int32 × St) :=
  ((f_X5_isKey σ x0 x1).bind fun v_2 => (if v_2 = 0 then (b2 (f_X5_refuse σ x0 (-2)) fun v_11 s_11 => (some (v_11, s_11))) else ((f_X0_keyAt σ 39 x1).bind fun v_20 => ((f_X0_breaks σ 39 v_20 (v_20 + 1)).bind fun v_33 => (if v_33 = 0 then (b2 (f_X5_refuse σ x0 (-5)) fun v_42 s_42 => (some (v_42, s_42))) else ((some (σ.1 v_20 0) : Option Int32).bind fun y_50 => ((ptI σ v_20 0 0).bind fun s_53 => ((f_J7_fill_53178 s_53 (v_20 + 1) 0).bind fun s_61 => (some (y_50, s_61))))))))))
noncomputable def f_X5_mend (σ : St) (x0 : Nat) : Option (Int32 × St) :=
  ((f_X4_planMending σ 5).bind fun s_4 => ((f_X4_doMending s_4 5).bind fun s_11 => ((f_X4_mendingCoins s_11 5).bind fun v_18 => ((ptI s_11 39 3 ((s_11.1 39 3) + v_18)).bind fun s_32 => (some (v_18, s_32))))))
noncomputable def f_X5_seed (σ : St) (x0 : Nat) (x1 : Int32) : Option (Int32 × St) :=
  ((some (σ.1 39 4) : Option Int32).bind fun y_7 => ((ptI σ 39 4 x1).bind fun s_13 => (some (y_7, s_13))))
noncomputable def f_X5_image (σ : St) (x0 : Nat) : Option (Int32 × St) :=
  ((f_X0_take σ 57 39).bind fun s_8 => ((ptI s_8 x0 8 1).bind fun s_13 => (some (1, s_13))))
noncomputable def f_X5_back_b27 (k_27 : St → Nat → Int32 → Option (Int32 × St)) (σ : St) (x0 : Nat) (x1 : Int32) : Option (Int32 × St) :=
  (if 8 ≤ x1 then (some (1, σ)) else ((f_X5_shelfAt σ x0 x1).bind fun v_35 => ((f_X2_dropKeysFrom σ v_35 (σ.1 39 5)).bind fun s_45 => ((some (x1 + 1) : Option Int32).bind fun y_48 => (k_27 s_45 x0 y_48)))))
noncomputable def f_X5_back_l27 (n : Nat) : St → Nat → Int32 → Option (Int32 × St) :=
  Nat.rec (fun _ _ _ => none) (fun _ ih => f_X5_back_b27 ih) n
noncomputable def f_X5_back (σ : St) (x0 : Nat) : Option (Int32 × St) :=
  (if (σ.1 x0 8) = 0 then (b2 (f_X5_refuse σ x0 (-5)) fun v_10 s_10 => (some (v_10, s_10))) else ((f_X0_take σ 39 57).bind fun s_22 => (f_X5_back_l27 FU s_22 x0 0)))
noncomputable def f_X5_shelvesInUse_b25 (σ : St) (k_4 : Nat → Int32 → Int32 → Option Int32) (x0 : Nat) (x1 : Int32) (x2 : Int32) : Option Int32 :=
  ((some (x2 + 1) : Option Int32).bind fun y_25 => (k_4 x0 x1 y_25))
noncomputable def f_X5_shelvesInUse_b4 (σ : St) (k_4 : Nat → Int32 → Int32 → Option Int32) (x0 : Nat) (x1 : Int32) (x2 : Int32) : Option Int32 :=
  (if 8 ≤ x2 then (some x1) else ((f_X5_shelfAt σ x0 x2).bind fun v_12 => (if (σ.1 v_12 0) = (-1) then (f_X5_shelvesInUse_b25 σ k_4 x0 x1 x2) else ((some (x1 + 1) : Option Int32).bind fun y_22 => (f_X5_shelvesInUse_b25 σ k_4 x0 y_22 x2)))))
noncomputable def f_X5_shelvesInUse_l4 (σ : St) (n : Nat) : Nat → Int32 → Int32 → Option Int32 :=
  Nat.rec (fun _ _ _ => none) (fun _ ih => f_X5_shelvesInUse_b4 σ ih) n
noncomputable def f_X5_shelvesInUse (σ : St) (x0 : Nat) : Option Int32 :=
  (f_X5_shelvesInUse_l4 σ FU x0 0 0)
noncomputable def f_X5_status (σ : St) (x0 : Nat) (x1 : Int32) : Option Int32 :=
  (if x1 = 0 then (some (σ.1 39 5)) else (if x1 = 1 then (some (σ.1 39 6)) else (if x1 = 2 then (some (σ.1 39 0)) else (if x1 = 3 then (some (σ.1 39 1)) else (if x1 = 4 then (some (σ.1 39 2)) else (if x1 = 5 then (some (σ.1 39 3)) else (if x1 = 6 then ((f_X0_brokenKeys σ 39).bind fun v_112 => (some v_112)) else (if x1 = 7 then (some (σ.1 39 7)) else (if x1 = 8 then (some (σ.1 3 1)) else (if x1 = 9 then (some (σ.1 39 4)) else (if x1 = 10 then ((f_X5_shelvesInUse σ x0).bind fun v_141 => (some v_141)) else ((f_X5_isWithin x1 12 16).bind fun v_150 => (if v_150 = 0 then (some (-1)) else ((f_X5_at σ 1 (x1 - 12)).bind fun v_164 => (some v_164)))))))))))))))
noncomputable def f_X6_no (σ : St) (x0 : Nat) (x1 : Int32) : Option (Int32 × St) :=
  ((ldI σ 104 (-x1)).bind fun v_7 => ((stI σ 104 (-x1) (v_7 + 1)).bind fun s_10 => (some (x1, s_10))))
noncomputable def f_X6_within (x0 : Int32) (x1 : Int32) (x2 : Int32) : Option Int32 :=
  (if x0 < x1 then (some 0) else (if x2 < x0 then (some 0) else (some 1)))
noncomputable def f_X6_has (x0 : Int32) (x1 : Int32) : Option Int32 :=
  (if ((x0 >>> (x1 &&& 31)) &&& 1) = 1 then (some 1) else (some 0))
noncomputable def f_X6_isKey (σ : St) (x0 : Nat) (x1 : Int32) : Option Int32 :=
  ((f_X6_within x1 0 ((σ.1 x0 6) - 1)).bind fun v_8 => (some v_8))
noncomputable def f_X6_isLock (σ : St) (x0 : Nat) (x1 : Int32) : Option Int32 :=
  ((f_X6_within x1 0 ((σ.1 x0 11) - 1)).bind fun v_8 => (some v_8))
noncomputable def f_X6_isPlace (σ : St) (x0 : Nat) (x1 : Int32) : Option Int32 :=
  ((f_X6_within x1 0 ((σ.1 x0 3) - 1)).bind fun v_8 => (some v_8))
noncomputable def f_X6_isRow (σ : St) (x0 : Nat) (x1 : Int32) : Option Int32 :=
  ((ldI σ 94 x1).bind fun v_5 => ((f_X6_within v_5 0 4).bind fun v_8 => (some v_8)))
noncomputable def f_X6_row_b53 (k_53 : St → Nat → Int32 → Int32 → Option (Int32 × St)) (σ : St) (x0 : Nat) (x1 : Int32) (x4 : Int32) : Option (Int32 × St) :=
  (if 40 ≤ x4 then (some (1, σ)) else ((stJ σ 96 ((40 * x1) + x4) 0).bind fun s_72 => ((some (x4 + 1) : Option Int32).bind fun y_73 => (k_53 s_72 x0 x1 y_73))))
noncomputable def f_X6_row_l53 (n : Nat) : St → Nat → Int32 → Int32 → Option (Int32 × St) :=
  Nat.rec (fun _ _ _ _ => none) (fun _ ih => f_X6_row_b53 ih) n
noncomputable def f_X6_row_b29 (σ : St) (x0 : Nat) : Option (Int32 × St) :=
  (b2 (f_X6_no σ x0 (-2)) fun v_32 s_32 => (some (v_32, s_32)))
noncomputable def f_X6_row (σ : St) (x0 : Nat) (x1 : Int32) (x2 : Int32) (x3 : Int32) : Option (Int32 × St) :=
  ((f_X6_within x1 0 7).bind fun v_4 => (if v_4 = 0 then (f_X6_row_b29 σ x0) else ((f_X6_within x2 0 4).bind fun v_13 => (if v_13 = 0 then (f_X6_row_b29 σ x0) else ((f_X6_within x3 0 40).bind fun v_23 => (if v_23 = 0 then (f_X6_row_b29 σ x0) else ((stI σ 94 x1 x2).bind fun s_42 => ((stI s_42 95 x1 x3).bind fun s_49 => (f_X6_row_l53 FU s_49 x0 x1 0)))))))))
noncomputable def f_X6_noRow (σ : St) (x0 : Nat) (x1 : Int32) : Option Int32 :=
  ((f_X6_within x1 0 7).bind fun v_4 => (if v_4 = 0 then (some (-2)) else ((ldI σ 94 x1).bind fun v_18 => (if v_18 ≤ 4 then ((ldI σ 94 x1).bind fun v_31 => (if 0 ≤ v_31 then (some 0) else (some (-4)))) else (some (-3))))))
noncomputable def f_X6_set_b114 (σ : St) (x0 : Nat) (x1 : Int32) (x2 : Int32) (x6 : Int64) : Option (Int32 × St) :=
  ((stJ σ 96 ((40 * x1) + x2) x6).bind fun s_126 => (some (1, s_126)))
noncomputable def f_X6_set_b112 (σ : St) (x0 : Nat) (x1 : Int32) (x2 : Int32) (t0 : Int64) : Option (Int32 × St) :=
  (f_X6_set_b114 σ x0 x1 x2 t0)
noncomputable def f_X6_set_b91 (σ : St) (x0 : Nat) (x1 : Int32) (x2 : Int32) (x3 : Int64) (x6 : Int64) : Option (Int32 × St) :=
  ((ldI σ 94 x1).bind fun v_96 => (if v_96 = 4 then (if (lg_cmp x3 0) = 0 then (f_X6_set_b112 σ x0 x1 x2 0) else (f_X6_set_b112 σ x0 x1 x2 1)) else (f_X6_set_b114 σ x0 x1 x2 x6)))
noncomputable def f_X6_set_b76 (σ : St) (x0 : Nat) (x1 : Int32) (x2 : Int32) (x3 : Int64) (x6 : Int64) : Option (Int32 × St) :=
  ((ldI σ 94 x1).bind fun v_81 => (if v_81 = 2 then ((some (Int32.toInt64 (Int64.toInt32 x3)) : Option Int64).bind fun y_89 => (f_X6_set_b91 σ x0 x1 x2 x3 y_89)) else (f_X6_set_b91 σ x0 x1 x2 x3 x6)))
noncomputable def f_X6_set_b60 (σ : St) (x0 : Nat) (x1 : Int32) (x2 : Int32) (x3 : Int64) (x6 : Int64) : Option (Int32 × St) :=
  ((ldI σ 94 x1).bind fun v_65 => (if v_65 = 1 then ((some (Int32.toInt64 ((Int32.toInt16 (Int64.toInt32 x3)).toInt32)) : Option Int64).bind fun y_74 => (f_X6_set_b76 σ x0 x1 x2 x3 y_74)) else (f_X6_set_b76 σ x0 x1 x2 x3 x6)))
noncomputable def f_X6_set (σ : St) (x0 : Nat) (x1 : Int32) (x2 : Int32) (x3 : Int64) : Option (Int32 × St) :=
  ((f_X6_noRow σ x0 x1).bind fun v_2 => (if 0 ≤ v_2 then ((ldI σ 95 x1).bind fun v_26 => ((f_X6_within x2 0 (v_26 - 1)).bind fun v_29 => (if v_29 = 0 then (b2 (f_X6_no σ x0 (-2)) fun v_38 s_38 => (some (v_38, s_38))) else ((ldI σ 94 x1).bind fun v_50 => (if v_50 = 0 then ((some (Int32.toInt64 ((Int32.toInt8 (Int64.toInt32 x3)).toInt32)) : Option Int64).bind fun y_58 => (f_X6_set_b60 σ x0 x1 x2 x3 y_58)) else (f_X6_set_b60 σ x0 x1 x2 x3 x3)))))) else (b2 (f_X6_no σ x0 v_2) fun v_15 s_15 => (some (v_15, s_15)))))
noncomputable def f_X6_copy_b229 (k_229 : St → Nat → Int32 → Int32 → Int32 → Int32 → Int32 → Int32 → Option (Int32 × St)) (σ : St) (x0 : Nat) (x1 : Int32) (x2 : Int32) (x3 : Int32) (x4 : Int32) (x5 : Int32) (x6 : Int32) : Option (Int32 × St) :=
  (if x5 ≤ x6 then (some (x5, σ)) else ((ldJ σ 96 (((40 * x1) + x3) + x6)).bind fun v_263 => ((stJ σ 96 (((40 * x2) + x4) + x6) v_263).bind fun s_264 => ((some (x6 + 1) : Option Int32).bind fun y_265 => (k_229 s_264 x0 x1 x2 x3 x4 x5 y_265)))))
noncomputable def f_X6_copy_l229 (n : Nat) : St → Nat → Int32 → Int32 → Int32 → Int32 → Int32 → Int32 → Option (Int32 × St) :=
  Nat.rec (fun _ _ _ _ _ _ _ _ => none) (fun _ ih => f_X6_copy_b229 ih) n
noncomputable def f_X6_copy_b226 (σ : St) (x0 : Nat) (x1 : Int32) (x2 : Int32) (x3 : Int32) (x4 : Int32) (x5 : Int32) : Option (Int32 × St) :=
  (f_X6_copy_l229 FU σ x0 x1 x2 x3 x4 x5 0)
noncomputable def f_X6_copy_b183 (k_183 : St → Nat → Int32 → Int32 → Int32 → Int32 → Int32 → Int32 → Option (Int32 × St)) (σ : St) (x0 : Nat) (x1 : Int32) (x2 : Int32) (x3 : Int32) (x4 : Int32) (x5 : Int32) (x6 : Int32) : Option (Int32 × St) :=
  (if x6 < 0 then (some (x5, σ)) else ((ldJ σ 96 (((40 * x1) + x3) + x6)).bind fun v_215 => ((stJ σ 96 (((40 * x2) + x4) + x6) v_215).bind fun s_216 => ((some (x6 + (-1)) : Option Int32).bind fun y_217 => (k_183 s_216 x0 x1 x2 x3 x4 x5 y_217)))))
noncomputable def f_X6_copy_l183 (n : Nat) : St → Nat → Int32 → Int32 → Int32 → Int32 → Int32 → Int32 → Option (Int32 × St) :=
  Nat.rec (fun _ _ _ _ _ _ _ _ => none) (fun _ ih => f_X6_copy_b183 ih) n
noncomputable def f_X6_copy_b159 (σ : St) (x0 : Nat) : Option (Int32 × St) :=
  (b2 (f_X6_no σ x0 (-2)) fun v_162 s_162 => (some (v_162, s_162)))
noncomputable def f_X6_copy_b103 (σ : St) (x0 : Nat) : Option (Int32 × St) :=
  (b2 (f_X6_no σ x0 (-4)) fun v_106 s_106 => (some (v_106, s_106)))
noncomputable def f_X6_copy_b85 (σ : St) (x0 : Nat) (x1 : Int32) (x2 : Int32) (x3 : Int32) (x4 : Int32) (x5 : Int32) : Option (Int32 × St) :=
  ((ldI σ 94 x1).bind fun v_90 => (if v_90 < 0 then (f_X6_copy_b103 σ x0) else ((ldI σ 94 x2).bind fun v_99 => (if 0 ≤ v_99 then (if x5 < 0 then (f_X6_copy_b159 σ x0) else (if x3 < 0 then (f_X6_copy_b159 σ x0) else (if x4 < 0 then (f_X6_copy_b159 σ x0) else ((ldI σ 95 x1).bind fun v_135 => (if 0 < (lg_cmp ((Int32.toInt64 x3) + (Int32.toInt64 x5)) (Int32.toInt64 v_135)) then (f_X6_copy_b159 σ x0) else ((ldI σ 95 x2).bind fun v_153 => (if (lg_cmp ((Int32.toInt64 x4) + (Int32.toInt64 x5)) (Int32.toInt64 v_153)) ≤ 0 then (if x1 = x2 then (if x4 ≤ x3 then (f_X6_copy_b226 σ x0 x1 x2 x3 x4 x5) else ((some (x5 - 1) : Option Int32).bind fun y_181 => (f_X6_copy_l183 FU σ x0 x1 x2 x3 x4 x5 y_181))) else (f_X6_copy_b226 σ x0 x1 x2 x3 x4 x5)) else (f_X6_copy_b159 σ x0)))))))) else (f_X6_copy_b103 σ x0)))))
noncomputable def f_X6_copy_b78 (σ : St) (x0 : Nat) : Option (Int32 × St) :=
  (b2 (f_X6_no σ x0 (-3)) fun v_81 s_81 => (some (v_81, s_81)))
noncomputable def f_X6_copy_b20 (σ : St) (x0 : Nat) : Option (Int32 × St) :=
  (b2 (f_X6_no σ x0 (-2)) fun v_23 s_23 => (some (v_23, s_23)))
noncomputable def f_X6_copy (σ : St) (x0 : Nat) (x1 : Int32) (x2 : Int32) (x3 : Int32) (x4 : Int32) (x5 : Int32) : Option (Int32 × St) :=
  ((f_X6_within x1 0 7).bind fun v_4 => (if v_4 = 0 then (f_X6_copy_b20 σ x0) else ((f_X6_within x2 0 7).bind fun v_14 => (if v_14 = 0 then (f_X6_copy_b20 σ x0) else ((ldI σ 94 x1).bind fun v_32 => (if 4 < v_32 then (f_X6_copy_b78 σ x0) else ((ldI σ 94 x2).bind fun v_42 => (if 4 < v_42 then (f_X6_copy_b78 σ x0) else ((f_X6_isRow σ x0 x1).bind fun v_49 => (if v_49 = 0 then (f_X6_copy_b85 σ x0 x1 x2 x3 x4 x5) else ((f_X6_isRow σ x0 x2).bind fun v_57 => (if v_57 = 0 then (f_X6_copy_b85 σ x0 x1 x2 x3 x4 x5) else ((ldI σ 94 x1).bind fun v_68 => ((ldI σ 94 x2).bind fun v_74 => (if v_68 = v_74 then (f_X6_copy_b85 σ x0 x1 x2 x3 x4 x5) else (f_X6_copy_b78 σ x0))))))))))))))))
noncomputable def f_X6_element (σ : St) (x0 : Nat) (x1 : Int32) (x2 : Int32) : Option Int64 :=
  ((f_X6_within x1 0 7).bind fun v_4 => (if v_4 = 0 then (some 0) else ((f_X6_isRow σ x0 x1).bind fun v_12 => (if v_12 = 0 then (some 0) else ((ldI σ 95 x1).bind fun v_25 => ((f_X6_within x2 0 (v_25 - 1)).bind fun v_28 => (if v_28 = 0 then (some 0) else ((ldJ σ 96 ((40 * x1) + x2)).bind fun v_44 => (some v_44)))))))))
noncomputable def f_X6_holds (σ : St) (x0 : Nat) (x1 : Int32) : Option Int32 :=
  ((f_X6_within x1 0 7).bind fun v_4 => (if v_4 = 0 then (some (-1)) else ((ldI σ 94 x1).bind fun v_15 => (some v_15))))
noncomputable def f_X6_show_b48 (σ : St) (t0 : Nat) (t1 : Int32) (t2 : Int32) : Option (Int32 × St) :=
  ((stI σ t0 t1 t2).bind fun s_48 => (some (1, s_48)))
noncomputable def f_X6_show_b30 (σ : St) (x0 : Nat) (x1 : Int32) (x2 : Int32) : Option (Int32 × St) :=
  (if x2 = (-1) then (f_X6_show_b48 σ 94 x1 (-1)) else (f_X6_show_b48 σ 94 x1 (10 + x2)))
noncomputable def f_X6_show_b23 (σ : St) (x0 : Nat) : Option (Int32 × St) :=
  (b2 (f_X6_no σ x0 (-2)) fun v_26 s_26 => (some (v_26, s_26)))
noncomputable def f_X6_show (σ : St) (x0 : Nat) (x1 : Int32) (x2 : Int32) : Option (Int32 × St) :=
  ((f_X6_within x1 0 7).bind fun v_4 => (if v_4 = 0 then (f_X6_show_b23 σ x0) else (if x2 = (-1) then (f_X6_show_b30 σ x0 x1 x2) else ((f_X6_isKey σ x0 x2).bind fun v_17 => (if v_17 = 0 then (f_X6_show_b23 σ x0) else (f_X6_show_b30 σ x0 x1 x2))))))
noncomputable def f_X6_isUnder_b29 : Option Int32 :=
  (some 1)
noncomputable def f_X6_isUnder_b19 (x0 : Int32) (x1 : Int32) : Option Int32 :=
  (if x0 = 5 then (if x1 = 3 then (f_X6_isUnder_b29 ) else (some 0)) else (some 0))
noncomputable def f_X6_isUnder (x0 : Int32) (x1 : Int32) : Option Int32 :=
  (if x1 = 0 then (f_X6_isUnder_b29 ) else (if x0 = x1 then (f_X6_isUnder_b29 ) else (if x0 = 4 then (if x1 = 2 then (f_X6_isUnder_b29 ) else (f_X6_isUnder_b19 x0 x1)) else (f_X6_isUnder_b19 x0 x1))))
noncomputable def f_X6_gone_b4 (σ : St) (k_4 : Nat → Int32 → Int32 → Int32 → Option Int32) (x0 : Nat) (x1 : Int32) (x2 : Int32) (x3 : Int32) : Option Int32 :=
  (if (σ.1 x0 3) ≤ x3 then (some x2) else ((ldI σ 100 ((5 * x1) + x3)).bind fun v_22 => ((some (x2 + v_22) : Option Int32).bind fun y_24 => ((some (x3 + 1) : Option Int32).bind fun y_25 => (k_4 x0 x1 y_24 y_25)))))
noncomputable def f_X6_gone_l4 (σ : St) (n : Nat) : Nat → Int32 → Int32 → Int32 → Option Int32 :=
  Nat.rec (fun _ _ _ _ => none) (fun _ ih => f_X6_gone_b4 σ ih) n
noncomputable def f_X6_gone (σ : St) (x0 : Nat) (x1 : Int32) : Option Int32 :=
  (f_X6_gone_l4 σ FU x0 x1 0 0)
noncomputable def f_X6_depth (σ : St) (x0 : Nat) (x1 : Int32) (x2 : Int32) : Option Int32 :=
  ((ldI σ 100 ((5 * x1) + x2)).bind fun v_9 => ((ldI σ 97 x1).bind fun v_16 => (if v_16 = 1 then ((ldI σ 98 x1).bind fun v_26 => ((rmI v_26 (σ.1 x0 3)).bind fun v_31 => (if v_31 = x2 then (some (mnI (σ.1 x0 4) (v_9 + 1))) else (some v_9)))) else (some v_9))))
noncomputable def f_X6_fits_b2 (σ : St) (k_2 : Nat → Int32 → Int32 → Int32 → Option Int32) (x0 : Nat) (x1 : Int32) (x2 : Int32) (x3 : Int32) : Option Int32 :=
  (if (σ.1 x0 3) ≤ x3 then (some 1) else ((f_X6_depth σ x0 x1 x3).bind fun v_13 => ((ldI σ 102 ((5 * x2) + x3)).bind fun v_25 => (if v_25 ≤ v_13 then ((some (x3 + 1) : Option Int32).bind fun y_31 => (k_2 x0 x1 x2 y_31)) else (some 0)))))
noncomputable def f_X6_fits_l2 (σ : St) (n : Nat) : Nat → Int32 → Int32 → Int32 → Option Int32 :=
  Nat.rec (fun _ _ _ _ => none) (fun _ ih => f_X6_fits_b2 σ ih) n
noncomputable def f_X6_fits (σ : St) (x0 : Nat) (x1 : Int32) (x2 : Int32) : Option Int32 :=
  (f_X6_fits_l2 σ FU x0 x1 x2 0)
noncomputable def f_X6_bears_b20 (σ : St) (x0 : Nat) (x1 : Int32) : Option Int32 :=
  ((ldI σ 98 x1).bind fun v_30 => (some (mxI 0 ((σ.1 x0 5) - v_30))))
noncomputable def f_X6_bears (σ : St) (x0 : Nat) (x1 : Int32) : Option Int32 :=
  ((ldI σ 97 x1).bind fun v_5 => (if v_5 = 2 then (f_X6_bears_b20 σ x0 x1) else ((ldI σ 97 x1).bind fun v_15 => (if v_15 = 4 then (f_X6_bears_b20 σ x0 x1) else (some (σ.1 x0 5))))))
noncomputable def f_X6_broken (σ : St) (x0 : Nat) (x1 : Int32) : Option Int32 :=
  ((f_X6_gone σ x0 x1).bind fun v_2 => ((f_X6_bears σ x0 x1).bind fun v_7 => (if v_2 ≤ v_7 then (some 0) else (some 1))))
noncomputable def f_X6_opensSo_b46 (σ : St) : Option Int32 :=
  (some 1)
noncomputable def f_X6_opensSo (σ : St) (x0 : Nat) (x1 : Int32) (x2 : Int32) : Option Int32 :=
  ((f_X6_fits σ x0 x1 x2).bind fun v_3 => (if v_3 = 0 then (some 0) else ((f_X6_broken σ x0 x1).bind fun v_11 => (if v_11 = 0 then ((ldI σ 101 x2).bind fun v_22 => (if v_22 = 0 then (f_X6_opensSo_b46 σ ) else ((ldI σ 97 x1).bind fun v_31 => (if v_31 = 3 then (f_X6_opensSo_b46 σ ) else ((ldI σ 97 x1).bind fun v_41 => (if v_41 = 5 then (f_X6_opensSo_b46 σ ) else (some 0))))))) else (some 0)))))
noncomputable def f_X6_opensIt_b61 (σ : St) (k_33 : Nat → Int32 → Int32 → Option Int32) (x0 : Nat) (x2 : Int32) (x3 : Int32) : Option Int32 :=
  ((some (x3 + 1) : Option Int32).bind fun y_61 => (k_33 x0 x2 y_61))
noncomputable def f_X6_opensIt_b33 (σ : St) (k_33 : Nat → Int32 → Int32 → Option Int32) (x0 : Nat) (x2 : Int32) (x3 : Int32) : Option Int32 :=
  (if (σ.1 x0 6) ≤ x3 then (some 0) else ((ldI σ 97 x3).bind fun v_46 => (if v_46 = 0 then ((f_X6_opensSo σ x0 x3 x2).bind fun v_53 => (if v_53 = 0 then (f_X6_opensIt_b61 σ k_33 x0 x2 x3) else (some 1))) else (f_X6_opensIt_b61 σ k_33 x0 x2 x3))))
noncomputable def f_X6_opensIt_l33 (σ : St) (n : Nat) : Nat → Int32 → Int32 → Option Int32 :=
  Nat.rec (fun _ _ _ => none) (fun _ ih => f_X6_opensIt_b33 σ ih) n
noncomputable def f_X6_opensIt (σ : St) (x0 : Nat) (x1 : Int32) (x2 : Int32) : Option Int32 :=
  ((f_X6_opensSo σ x0 x1 x2).bind fun v_3 => (if v_3 = 0 then ((ldI σ 97 x1).bind fun v_16 => (if v_16 = 5 then ((f_X6_broken σ x0 x1).bind fun v_23 => (if v_23 = 0 then (f_X6_opensIt_l33 σ FU x0 x2 0) else (some 0))) else (some 0))) else (some 1)))
noncomputable def f_X6_openedBy_b27 (σ : St) (k_4 : Nat → Int32 → Int32 → Int32 → Option Int32) (x0 : Nat) (x1 : Int32) (x2 : Int32) (x3 : Int32) : Option Int32 :=
  ((some (x3 + 1) : Option Int32).bind fun y_27 => (k_4 x0 x1 x2 y_27))
noncomputable def f_X6_openedBy_b4 (σ : St) (k_4 : Nat → Int32 → Int32 → Int32 → Option Int32) (x0 : Nat) (x1 : Int32) (x2 : Int32) (x3 : Int32) : Option Int32 :=
  (if (σ.1 x0 11) ≤ x3 then (some x2) else ((f_X6_opensIt σ x0 x1 x3).bind fun v_15 => (if v_15 = 0 then (f_X6_openedBy_b27 σ k_4 x0 x1 x2 x3) else ((some (x2 ||| (1 <<< (x3 &&& 31))) : Option Int32).bind fun y_26 => (f_X6_openedBy_b27 σ k_4 x0 x1 y_26 x3)))))
noncomputable def f_X6_openedBy_l4 (σ : St) (n : Nat) : Nat → Int32 → Int32 → Int32 → Option Int32 :=
  Nat.rec (fun _ _ _ _ => none) (fun _ ih => f_X6_openedBy_b4 σ ih) n
noncomputable def f_X6_openedBy (σ : St) (x0 : Nat) (x1 : Int32) : Option Int32 :=
  (f_X6_openedBy_l4 σ FU x0 x1 0 0)
noncomputable def f_X6_says_b227 (k_192 : St → Nat → Int32 → Int32 → Int32 → Option (Int32 × St)) (σ : St) (x0 : Nat) (x3 : Int32) (x5 : Int32) (x6 : Int32) : Option (Int32 × St) :=
  ((some (x6 + 1) : Option Int32).bind fun y_227 => (k_192 σ x0 x3 x5 y_227))
noncomputable def f_X6_says_b192 (k_192 : St → Nat → Int32 → Int32 → Int32 → Option (Int32 × St)) (σ : St) (x0 : Nat) (x3 : Int32) (x5 : Int32) (x6 : Int32) : Option (Int32 × St) :=
  (if (σ.1 x0 6) ≤ x6 then (some (x5, σ)) else (if x6 = x3 then (f_X6_says_b227 k_192 σ x0 x3 x5 x6) else ((f_X6_openedBy σ x0 x6).bind fun v_210 => ((f_X6_openedBy σ x0 x3).bind fun v_215 => (if (v_210 &&& (v_215 ^^^ (-1))) = 0 then ((some (x5 + 1) : Option Int32).bind fun y_224 => (f_X6_says_b227 k_192 σ x0 x3 y_224 x6)) else (f_X6_says_b227 k_192 σ x0 x3 x5 x6))))))
noncomputable def f_X6_says_l192 (n : Nat) : St → Nat → Int32 → Int32 → Int32 → Option (Int32 × St) :=
  Nat.rec (fun _ _ _ _ _ => none) (fun _ ih => f_X6_says_b192 ih) n
noncomputable def f_X6_says_b177 (k_144 : St → Nat → Int32 → Int32 → Int32 → Option (Int32 × St)) (σ : St) (x0 : Nat) (x3 : Int32) (x4 : Int32) (x5 : Int32) : Option (Int32 × St) :=
  ((some (x5 + 1) : Option Int32).bind fun y_177 => (k_144 σ x0 x3 x4 y_177))
noncomputable def f_X6_says_b144 (k_144 : St → Nat → Int32 → Int32 → Int32 → Option (Int32 × St)) (σ : St) (x0 : Nat) (x3 : Int32) (x4 : Int32) (x5 : Int32) : Option (Int32 × St) :=
  (if (σ.1 x0 11) ≤ x5 then (some (x4, σ)) else ((ldI σ 101 x5).bind fun v_159 => (if v_159 = 1 then ((f_X6_opensIt σ x0 x3 x5).bind fun v_168 => (if v_168 = 0 then (f_X6_says_b177 k_144 σ x0 x3 x4 x5) else ((some (x4 + 1) : Option Int32).bind fun y_174 => (f_X6_says_b177 k_144 σ x0 x3 y_174 x5)))) else (f_X6_says_b177 k_144 σ x0 x3 x4 x5))))
noncomputable def f_X6_says_l144 (n : Nat) : St → Nat → Int32 → Int32 → Int32 → Option (Int32 × St) :=
  Nat.rec (fun _ _ _ _ _ => none) (fun _ ih => f_X6_says_b144 ih) n
noncomputable def f_X6_says_b68 (σ : St) (x0 : Nat) (x2 : Int32) (x3 : Int32) : Option (Int32 × St) :=
  (if 0 ≤ x3 then (if x2 = 0 then ((f_X6_gone σ x0 x3).bind fun v_122 => (some (v_122, σ))) else (if x2 = 1 then ((ldI σ 98 x3).bind fun v_131 => ((rmI v_131 (σ.1 x0 3)).bind fun v_136 => (some (v_136, σ)))) else (if x2 = 2 then ((f_X6_bears σ x0 x3).bind fun v_238 => (some (v_238, σ))) else (if x2 = 3 then (f_X6_says_l144 FU σ x0 x3 0 0) else (if x2 = 4 then ((f_X6_bears σ x0 x3).bind fun v_238 => (some (v_238, σ))) else (if x2 = 5 then (f_X6_says_l192 FU σ x0 x3 0 0) else ((f_X6_bears σ x0 x3).bind fun v_238 => (some (v_238, σ))))))))) else (b2 (f_X6_no σ x0 (-4)) fun v_75 s_75 => (some (v_75, s_75))))
noncomputable def f_X6_says_b61 (σ : St) (x0 : Nat) : Option (Int32 × St) :=
  (b2 (f_X6_no σ x0 (-3)) fun v_64 s_64 => (some (v_64, s_64)))
noncomputable def f_X6_says_b19 (σ : St) (x0 : Nat) : Option (Int32 × St) :=
  (b2 (f_X6_no σ x0 (-2)) fun v_22 s_22 => (some (v_22, s_22)))
noncomputable def f_X6_says (σ : St) (x0 : Nat) (x1 : Int32) (x2 : Int32) : Option (Int32 × St) :=
  ((f_X6_within x1 0 7).bind fun v_4 => (if v_4 = 0 then (f_X6_says_b19 σ x0) else ((f_X6_within x2 0 5).bind fun v_13 => (if v_13 = 0 then (f_X6_says_b19 σ x0) else ((ldI σ 94 x1).bind fun v_31 => ((some (v_31 - 10) : Option Int32).bind fun y_35 => ((f_X6_isRow σ x0 x1).bind fun v_38 => (if v_38 = 0 then (if y_35 < 0 then (f_X6_says_b68 σ x0 x2 y_35) else ((ldI σ 97 y_35).bind fun v_53 => ((f_X6_isUnder v_53 x2).bind fun v_55 => (if v_55 = 0 then (f_X6_says_b61 σ x0) else (f_X6_says_b68 σ x0 x2 y_35))))) else (f_X6_says_b61 σ x0)))))))))
noncomputable def f_X6_ask_b114 (σ : St) (x0 : Nat) (x1 : Int32) (x2 : Int32) (x3 : Int32) : Option (Int32 × St) :=
  (if x1 = 2 then ((ptI σ x0 5 x2).bind fun s_121 => (some (x3, s_121))) else (some (x3, σ)))
noncomputable def f_X6_ask_b104 (σ : St) (x0 : Nat) (x1 : Int32) (x2 : Int32) (x3 : Int32) : Option (Int32 × St) :=
  (if x1 = 1 then ((ptI σ x0 4 x2).bind fun s_111 => (f_X6_ask_b114 s_111 x0 x1 x2 x3)) else (f_X6_ask_b114 σ x0 x1 x2 x3))
noncomputable def f_X6_ask_b94 (σ : St) (x0 : Nat) (x1 : Int32) (x2 : Int32) (t0 : Int32) : Option (Int32 × St) :=
  (if x1 = 0 then ((ptI σ x0 3 x2).bind fun s_101 => (f_X6_ask_b104 s_101 x0 x1 x2 t0)) else (f_X6_ask_b104 σ x0 x1 x2 t0))
noncomputable def f_X6_ask_b67 (σ : St) (x0 : Nat) (x1 : Int32) (x2 : Int32) : Option (Int32 × St) :=
  (if x1 = 0 then (f_X6_ask_b94 σ x0 x1 x2 (σ.1 x0 3)) else (if x1 = 1 then (f_X6_ask_b94 σ x0 x1 x2 (σ.1 x0 4)) else (f_X6_ask_b94 σ x0 x1 x2 (σ.1 x0 5))))
noncomputable def f_X6_ask_b36 (σ : St) (x0 : Nat) : Option (Int32 × St) :=
  (b2 (f_X6_no σ x0 (-2)) fun v_39 s_39 => (some (v_39, s_39)))
noncomputable def f_X6_ask_b30 (σ : St) (x0 : Nat) (x1 : Int32) (x2 : Int32) (t0 : Int32) (t1 : Int32) (t2 : Int32) : Option (Int32 × St) :=
  ((f_X6_within t0 t1 t2).bind fun v_30 => (if v_30 = 0 then (f_X6_ask_b36 σ x0) else (if 2 ≤ x1 then (f_X6_ask_b67 σ x0 x1 x2) else (if ((σ.1 x0 6) + (σ.1 x0 11)) ≤ 0 then (f_X6_ask_b67 σ x0 x1 x2) else (b2 (f_X6_no σ x0 (-5)) fun v_63 s_63 => (some (v_63, s_63)))))))
noncomputable def f_X6_ask (σ : St) (x0 : Nat) (x1 : Int32) (x2 : Int32) : Option (Int32 × St) :=
  ((f_X6_within x1 0 2).bind fun v_3 => (if v_3 = 0 then (f_X6_ask_b36 σ x0) else (if x1 = 0 then (f_X6_ask_b30 σ x0 x1 x2 x2 1 5) else (if x1 = 1 then (f_X6_ask_b30 σ x0 x1 x2 x2 1 4) else (f_X6_ask_b30 σ x0 x1 x2 x2 1 20)))))
noncomputable def f_X6_newKey_b32 (k_32 : St → Nat → Int32 → Option (Int32 × St)) (σ : St) (x0 : Nat) (x3 : Int32) : Option (Int32 × St) :=
  (if 5 ≤ x3 then ((ptI σ x0 6 ((σ.1 x0 6) + 1)).bind fun s_65 => (some ((σ.1 x0 6), s_65))) else ((stI σ 100 ((5 * (σ.1 x0 6)) + x3) 0).bind fun s_50 => ((some (x3 + 1) : Option Int32).bind fun y_51 => (k_32 s_50 x0 y_51))))
noncomputable def f_X6_newKey_l32 (n : Nat) : St → Nat → Int32 → Option (Int32 × St) :=
  Nat.rec (fun _ _ _ => none) (fun _ ih => f_X6_newKey_b32 ih) n
noncomputable def f_X6_newKey (σ : St) (x0 : Nat) (x1 : Int32) (x2 : Int32) : Option (Int32 × St) :=
  ((stI σ 97 (σ.1 x0 6) x1).bind fun s_9 => ((stI s_9 98 (s_9.1 x0 6) x2).bind fun s_19 => ((stI s_19 99 (s_19.1 x0 6) 0).bind fun s_29 => (f_X6_newKey_l32 FU s_29 x0 0))))
noncomputable def f_X6_newLock_b20 (k_20 : St → Nat → Int32 → Option (Int32 × St)) (σ : St) (x0 : Nat) (x2 : Int32) : Option (Int32 × St) :=
  (if 5 ≤ x2 then ((ptI σ x0 11 ((σ.1 x0 11) + 1)).bind fun s_53 => (some ((σ.1 x0 11), s_53))) else ((stI σ 102 ((5 * (σ.1 x0 11)) + x2) 0).bind fun s_38 => ((some (x2 + 1) : Option Int32).bind fun y_39 => (k_20 s_38 x0 y_39))))
noncomputable def f_X6_newLock_l20 (n : Nat) : St → Nat → Int32 → Option (Int32 × St) :=
  Nat.rec (fun _ _ _ => none) (fun _ ih => f_X6_newLock_b20 ih) n
noncomputable def f_X6_newLock_b17 (σ : St) (x0 : Nat) (t0 : Nat) (t1 : Int32) (t2 : Int32) : Option (Int32 × St) :=
  ((stI σ t0 t1 t2).bind fun s_17 => (f_X6_newLock_l20 FU s_17 x0 0))
noncomputable def f_X6_newLock (σ : St) (x0 : Nat) (x1 : Int32) : Option (Int32 × St) :=
  (if x1 = 0 then (f_X6_newLock_b17 σ x0 101 (σ.1 x0 11) 0) else (f_X6_newLock_b17 σ x0 101 (σ.1 x0 11) 1))
noncomputable def f_X6_key_b19 (σ : St) (x0 : Nat) : Option (Int32 × St) :=
  (b2 (f_X6_no σ x0 (-2)) fun v_22 s_22 => (some (v_22, s_22)))
noncomputable def f_X6_key (σ : St) (x0 : Nat) (x1 : Int32) (x2 : Int32) : Option (Int32 × St) :=
  ((f_X6_within x1 0 5).bind fun v_3 => (if v_3 = 0 then (f_X6_key_b19 σ x0) else ((f_X6_within x2 0 9).bind fun v_13 => (if v_13 = 0 then (f_X6_key_b19 σ x0) else (if (σ.1 x0 6) = 6 then (b2 (f_X6_no σ x0 (-6)) fun v_38 s_38 => (some (v_38, s_38))) else (b2 (f_X6_newKey σ x0 x1 x2) fun v_47 s_47 => (some (v_47, s_47))))))))
noncomputable def f_X6_lock (σ : St) (x0 : Nat) (x1 : Int32) : Option (Int32 × St) :=
  (if (σ.1 x0 11) = 8 then (b2 (f_X6_no σ x0 (-6)) fun v_12 s_12 => (some (v_12, s_12))) else (b2 (f_X6_newLock σ x0 x1) fun v_20 s_20 => (some (v_20, s_20))))
noncomputable def f_X6_asks_b28 (σ : St) (x0 : Nat) : Option (Int32 × St) :=
  (b2 (f_X6_no σ x0 (-2)) fun v_31 s_31 => (some (v_31, s_31)))
noncomputable def f_X6_asks (σ : St) (x0 : Nat) (x1 : Int32) (x2 : Int32) (x3 : Int32) : Option (Int32 × St) :=
  ((f_X6_isLock σ x0 x1).bind fun v_2 => (if v_2 = 0 then (f_X6_asks_b28 σ x0) else ((f_X6_isPlace σ x0 x2).bind fun v_10 => (if v_10 = 0 then (f_X6_asks_b28 σ x0) else ((f_X6_within x3 0 (σ.1 x0 4)).bind fun v_22 => (if v_22 = 0 then (f_X6_asks_b28 σ x0) else ((ldI σ 102 ((5 * x1) + x2)).bind fun v_44 => ((stI σ 102 ((5 * x1) + x2) x3).bind fun s_57 => (some (v_44, s_57))))))))))
noncomputable def f_X6_may_b16 (σ : St) (x0 : Nat) : Option (Int32 × St) :=
  (b2 (f_X6_no σ x0 (-2)) fun v_19 s_19 => (some (v_19, s_19)))
noncomputable def f_X6_may (σ : St) (x0 : Nat) (x1 : Int32) (x2 : Int32) (x3 : Int32) : Option (Int32 × St) :=
  ((f_X6_isKey σ x0 x1).bind fun v_2 => (if v_2 = 0 then (f_X6_may_b16 σ x0) else ((f_X6_isLock σ x0 x2).bind fun v_10 => (if v_10 = 0 then (f_X6_may_b16 σ x0) else ((ldI σ 99 x1).bind fun v_28 => ((f_X6_has v_28 x2).bind fun v_30 => (if v_30 = x3 then (some (0, σ)) else ((ldI σ 99 x1).bind fun v_45 => ((stI σ 99 x1 (v_45 ^^^ (1 <<< (x2 &&& 31)))).bind fun s_50 => (some (1, s_50)))))))))))
noncomputable def f_X6_file_b50 (σ : St) (x0 : Nat) : Option (Int32 × St) :=
  (b2 (f_X6_no σ x0 (-5)) fun v_53 s_53 => (some (v_53, s_53)))
noncomputable def f_X6_file_b16 (σ : St) (x0 : Nat) : Option (Int32 × St) :=
  (b2 (f_X6_no σ x0 (-2)) fun v_19 s_19 => (some (v_19, s_19)))
noncomputable def f_X6_file (σ : St) (x0 : Nat) (x1 : Int32) (x2 : Int32) : Option (Int32 × St) :=
  ((f_X6_isKey σ x0 x1).bind fun v_2 => (if v_2 = 0 then (f_X6_file_b16 σ x0) else ((f_X6_isPlace σ x0 x2).bind fun v_10 => (if v_10 = 0 then (f_X6_file_b16 σ x0) else ((ldI σ 97 x1).bind fun v_28 => (if v_28 = 4 then (f_X6_file_b50 σ x0) else ((ldI σ 100 ((5 * x1) + x2)).bind fun v_42 => (if v_42 = (σ.1 x0 4) then (f_X6_file_b50 σ x0) else ((ldI σ 100 ((5 * x1) + x2)).bind fun v_67 => ((stI σ 100 ((5 * x1) + x2) (v_67 + 1)).bind fun s_71 => ((some (v_67 + 1) : Option Int32).bind fun y_72 => ((ptI s_71 x0 14 ((s_71.1 x0 14) + y_72)).bind fun s_80 => (some (y_72, s_80))))))))))))))
noncomputable def f_X6_feed (σ : St) (x0 : Nat) (x1 : Int32) : Option (Int32 × St) :=
  ((f_X6_within x1 0 255).bind fun v_5 => (if v_5 = 0 then (b2 (f_X6_no σ x0 (-2)) fun v_14 s_14 => (some (v_14, s_14))) else (if (σ.1 x0 16) = 250 then (b2 (f_X6_no σ x0 (-6)) fun v_31 s_31 => (some (v_31, s_31))) else ((ptI σ x0 16 ((σ.1 x0 16) + 1)).bind fun s_47 => ((stI s_47 103 (σ.1 x0 16) x1).bind fun s_51 => (some ((s_51.1 x0 16), s_51)))))))
noncomputable def f_X6_wipe (σ : St) (x0 : Nat) : Option (Int32 × St) :=
  ((some (σ.1 x0 16) : Option Int32).bind fun y_4 => ((ptI σ x0 16 0).bind fun s_7 => (some (y_4, s_7))))
noncomputable def f_X6_isLetter (x0 : Int32) : Option Int32 :=
  (if x0 < 97 then (some 0) else (if 122 < x0 then (some 0) else (some 1)))
noncomputable def f_X6_isDigit (x0 : Int32) : Option Int32 :=
  (if x0 < 48 then (some 0) else (if 57 < x0 then (some 0) else (some 1)))
noncomputable def f_X6_next_b252 (σ : St) (x0 : Nat) (t0 : Nat) (t1 : Int32) : Option St :=
  ((ptI σ t0 20 t1).bind fun s_252 => ((ptI s_252 x0 18 ((s_252.1 x0 18) + 1)).bind fun s_262 => (some s_262)))
noncomputable def f_X6_next_b217 (σ : St) (x0 : Nat) : Option St :=
  (if ((σ.1 x0 18) - (σ.1 x0 19)) ≤ 2 then (some σ) else ((ptI σ x0 21 1000).bind fun s_234 => (some s_234)))
noncomputable def f_X6_next_b204 (k_141 : St → Nat → Option St) (σ : St) (x0 : Nat) : Option St :=
  ((ptI σ x0 18 ((σ.1 x0 18) + 1)).bind fun s_211 => (k_141 s_211 x0))
noncomputable def f_X6_next_b141 (k_141 : St → Nat → Option St) (σ : St) (x0 : Nat) : Option St :=
  (if (σ.1 x0 16) ≤ (σ.1 x0 18) then (f_X6_next_b217 σ x0) else ((ldI σ 103 (σ.1 x0 18)).bind fun v_160 => ((f_X6_isDigit v_160).bind fun v_161 => (if v_161 = 0 then (f_X6_next_b217 σ x0) else (if 3 ≤ ((σ.1 x0 18) - (σ.1 x0 19)) then (f_X6_next_b204 k_141 σ x0) else ((ldI σ 103 (σ.1 x0 18)).bind fun v_196 => ((ptI σ x0 21 (((10 * (σ.1 x0 21)) + v_196) - 48)).bind fun s_201 => (f_X6_next_b204 k_141 s_201 x0))))))))
noncomputable def f_X6_next_l141 (n : Nat) : St → Nat → Option St :=
  Nat.rec (fun _ _ => none) (fun _ ih => f_X6_next_b141 ih) n
noncomputable def f_X6_next_b85 (k_85 : St → Nat → Option St) (σ : St) (x0 : Nat) : Option St :=
  (if (σ.1 x0 16) ≤ (σ.1 x0 18) then (some σ) else ((ldI σ 103 (σ.1 x0 18)).bind fun v_104 => ((f_X6_isLetter v_104).bind fun v_105 => (if v_105 = 0 then (some σ) else ((ptI σ x0 18 ((σ.1 x0 18) + 1)).bind fun s_118 => (k_85 s_118 x0))))))
noncomputable def f_X6_next_l85 (n : Nat) : St → Nat → Option St :=
  Nat.rec (fun _ _ => none) (fun _ ih => f_X6_next_b85 ih) n
noncomputable def f_X6_next_b38 (σ : St) (x0 : Nat) : Option St :=
  ((ptI σ x0 19 (σ.1 x0 18)).bind fun s_43 => (if (s_43.1 x0 18) = (s_43.1 x0 16) then ((ptI s_43 x0 20 0).bind fun s_59 => (some s_59)) else ((ldI s_43 103 (s_43.1 x0 18)).bind fun v_71 => ((f_X6_isLetter v_71).bind fun v_74 => (if v_74 = 0 then ((f_X6_isDigit v_71).bind fun v_125 => (if v_125 = 0 then (if v_71 = 59 then (f_X6_next_b252 s_43 x0 x0 3) else (f_X6_next_b252 s_43 x0 x0 (-1))) else ((ptI s_43 x0 20 2).bind fun s_133 => ((ptI s_133 x0 21 0).bind fun s_138 => (f_X6_next_l141 FU s_138 x0))))) else ((ptI s_43 x0 20 1).bind fun s_82 => (f_X6_next_l85 FU s_82 x0)))))))
noncomputable def f_X6_next_b0 (k_0 : St → Nat → Option St) (σ : St) (x0 : Nat) : Option St :=
  (if (σ.1 x0 16) ≤ (σ.1 x0 18) then (f_X6_next_b38 σ x0) else ((ldI σ 103 (σ.1 x0 18)).bind fun v_19 => (if v_19 = 32 then ((ptI σ x0 18 ((σ.1 x0 18) + 1)).bind fun s_32 => (k_0 s_32 x0)) else (f_X6_next_b38 σ x0))))
noncomputable def f_X6_next_l0 (n : Nat) : St → Nat → Option St :=
  Nat.rec (fun _ _ => none) (fun _ ih => f_X6_next_b0 ih) n
noncomputable def f_X6_next (σ : St) (x0 : Nat) : Option St :=
  (f_X6_next_l0 FU σ x0)
noncomputable def f_X6_isWord_b28 (σ : St) (k_28 : Nat → Nat → Int32 → Option Int32) (x0 : Nat) (x1 : Nat) (x2 : Int32) : Option Int32 :=
  (if (nI (sLen x1)) ≤ x2 then (some 1) else ((ldI σ 103 ((σ.1 x0 19) + x2)).bind fun v_46 => ((chA x1 x2).bind fun v_49 => (if v_46 = v_49 then ((some (x2 + 1) : Option Int32).bind fun y_57 => (k_28 x0 x1 y_57)) else (some 0)))))
noncomputable def f_X6_isWord_l28 (σ : St) (n : Nat) : Nat → Nat → Int32 → Option Int32 :=
  Nat.rec (fun _ _ _ => none) (fun _ ih => f_X6_isWord_b28 σ ih) n
noncomputable def f_X6_isWord (σ : St) (x0 : Nat) (x1 : Nat) : Option Int32 :=
  (if (σ.1 x0 20) = 1 then (if ((σ.1 x0 18) - (σ.1 x0 19)) = (nI (sLen x1)) then (f_X6_isWord_l28 σ FU x0 x1 0) else (some 0)) else (some 0))
noncomputable def f_X6_number (σ : St) (x0 : Nat) (x1 : Int32) (x2 : Int32) : Option (Int32 × St) :=
  ((f_X6_next σ x0).bind fun s_1 => (if (s_1.1 x0 20) = 2 then ((f_X6_within (s_1.1 x0 21) x1 x2).bind fun v_18 => (if v_18 = 0 then (some (0, s_1)) else (some (1, s_1)))) else (some (0, s_1))))
noncomputable def f_X6_statement_b362 (σ : St) (x0 : Nat) : Option (Int32 × St) :=
  ((f_X6_isWord σ x0 8).bind fun v_365 => (if v_365 = 0 then (some (0, σ)) else (b2 (f_X6_number σ x0 0 ((σ.1 x0 6) - 1)) fun v_379 s_379 => (if v_379 = 0 then (some (0, s_379)) else ((some (s_379.1 x0 21) : Option Int32).bind fun y_391 => (b2 (f_X6_number s_379 x0 0 ((s_379.1 x0 11) - 1)) fun v_400 s_400 => (if v_400 = 0 then (some (0, s_400)) else ((ldI s_400 99 y_391).bind fun v_414 => ((stI s_400 99 y_391 (v_414 ||| (1 <<< ((s_400.1 x0 21) &&& 31)))).bind fun s_422 => ((f_X6_next s_422 x0).bind fun s_424 => (some (1, s_424))))))))))))
noncomputable def f_X6_statement_b338 (σ : St) (x0 : Nat) (x2 : Int32) : Option (Int32 × St) :=
  ((f_X6_isWord σ x0 7).bind fun v_341 => (if v_341 = 0 then (some (1, σ)) else ((stI σ 101 x2 1).bind fun s_355 => ((f_X6_next s_355 x0).bind fun s_357 => (some (1, s_357))))))
noncomputable def f_X6_statement_b292 (k_292 : St → Nat → Int32 → Int32 → Option (Int32 × St)) (σ : St) (x0 : Nat) (x2 : Int32) (x3 : Int32) : Option (Int32 × St) :=
  (if (σ.1 x0 3) ≤ x3 then ((f_X6_next σ x0).bind fun s_335 => (f_X6_statement_b338 s_335 x0 x2)) else (b2 (f_X6_number σ x0 0 (σ.1 x0 4)) fun v_306 s_306 => (if v_306 = 0 then (some (0, s_306)) else ((stI s_306 102 ((5 * x2) + x3) (s_306.1 x0 21)).bind fun s_327 => ((some (x3 + 1) : Option Int32).bind fun y_328 => (k_292 s_327 x0 x2 y_328))))))
noncomputable def f_X6_statement_l292 (n : Nat) : St → Nat → Int32 → Int32 → Option (Int32 × St) :=
  Nat.rec (fun _ _ _ _ => none) (fun _ ih => f_X6_statement_b292 ih) n
noncomputable def f_X6_statement_b253 (σ : St) (x0 : Nat) : Option (Int32 × St) :=
  (if 8 ≤ (σ.1 x0 11) then (f_X6_statement_b362 σ x0) else ((f_X6_isWord σ x0 5).bind fun v_265 => (if v_265 = 0 then (f_X6_statement_b362 σ x0) else (b2 (f_X6_newLock σ x0 0) fun v_273 s_273 => ((f_X6_next s_273 x0).bind fun s_278 => ((f_X6_isWord s_278 x0 6).bind fun v_284 => (if v_284 = 0 then (f_X6_statement_b338 s_278 x0 v_273) else (f_X6_statement_l292 FU s_278 x0 v_273 0))))))))
noncomputable def f_X6_statement_b203 (k_203 : St → Nat → Int32 → Int32 → Option (Int32 × St)) (σ : St) (x0 : Nat) (x3 : Int32) (x4 : Int32) : Option (Int32 × St) :=
  (if (σ.1 x0 3) ≤ x4 then ((f_X6_next σ x0).bind fun s_248 => (some (1, s_248))) else (b2 (f_X6_number σ x0 0 (σ.1 x0 4)) fun v_218 s_218 => (if v_218 = 0 then (some (0, s_218)) else ((stI s_218 100 ((5 * x3) + x4) (s_218.1 x0 21)).bind fun s_240 => ((some (x4 + 1) : Option Int32).bind fun y_241 => (k_203 s_240 x0 x3 y_241))))))
noncomputable def f_X6_statement_l203 (n : Nat) : St → Nat → Int32 → Int32 → Option (Int32 × St) :=
  Nat.rec (fun _ _ _ _ => none) (fun _ ih => f_X6_statement_b203 ih) n
noncomputable def f_X6_statement_b94 (σ : St) (x0 : Nat) : Option (Int32 × St) :=
  ((f_X6_isWord σ x0 2).bind fun v_97 => (if v_97 = 0 then (if 6 ≤ (σ.1 x0 6) then (f_X6_statement_b253 σ x0) else ((f_X6_isWord σ x0 3).bind fun v_141 => (if v_141 = 0 then (f_X6_statement_b253 σ x0) else (b2 (f_X6_number σ x0 0 5) fun v_150 s_150 => (if v_150 = 0 then (some (0, s_150)) else ((some (s_150.1 x0 21) : Option Int32).bind fun y_162 => (b2 (f_X6_number s_150 x0 0 9) fun v_167 s_167 => (if v_167 = 0 then (some (0, s_167)) else (b2 (f_X6_newKey s_167 x0 y_162 (s_167.1 x0 21)) fun v_181 s_181 => ((f_X6_next s_181 x0).bind fun s_186 => ((f_X6_isWord s_186 x0 4).bind fun v_192 => (if v_192 = 0 then (some (1, s_186)) else (f_X6_statement_l203 FU s_186 x0 v_181 0))))))))))))) else (b2 (f_X6_number σ x0 1 20) fun v_107 s_107 => (if v_107 = 0 then (some (0, s_107)) else ((ptI s_107 x0 5 (s_107.1 x0 21)).bind fun s_120 => ((f_X6_next s_120 x0).bind fun s_124 => (some (1, s_124))))))))
noncomputable def f_X6_statement_b56 (σ : St) (x0 : Nat) (x1 : Int32) : Option (Int32 × St) :=
  (if x1 = 0 then (f_X6_statement_b94 σ x0) else ((f_X6_isWord σ x0 1).bind fun v_63 => (if v_63 = 0 then (f_X6_statement_b94 σ x0) else (b2 (f_X6_number σ x0 1 4) fun v_72 s_72 => (if v_72 = 0 then (some (0, s_72)) else ((ptI s_72 x0 4 (s_72.1 x0 21)).bind fun s_85 => ((f_X6_next s_85 x0).bind fun s_89 => (some (1, s_89)))))))))
noncomputable def f_X6_statement_b17 (σ : St) (x0 : Nat) (t0 : Int32) : Option (Int32 × St) :=
  (if t0 = 0 then (f_X6_statement_b56 σ x0 t0) else ((f_X6_isWord σ x0 0).bind fun v_25 => (if v_25 = 0 then (f_X6_statement_b56 σ x0 t0) else (b2 (f_X6_number σ x0 1 5) fun v_34 s_34 => (if v_34 = 0 then (some (0, s_34)) else ((ptI s_34 x0 3 (s_34.1 x0 21)).bind fun s_47 => ((f_X6_next s_47 x0).bind fun s_51 => (some (1, s_51)))))))))
noncomputable def f_X6_statement (σ : St) (x0 : Nat) : Option (Int32 × St) :=
  (if ((σ.1 x0 6) + (σ.1 x0 11)) = 0 then (f_X6_statement_b17 σ x0 1) else (f_X6_statement_b17 σ x0 0))
noncomputable def f_X6_keep_b101 (k_101 : St → Nat → Nat → Int32 → Option St) (σ : St) (x0 : Nat) (x1 : Nat) (x2 : Int32) : Option St :=
  (if 40 ≤ x2 then ((stI σ x1 96 (σ.1 x0 6)).bind fun s_132 => ((stI s_132 x1 97 (s_132.1 x0 11)).bind fun s_140 => ((stI s_140 x1 98 (s_140.1 x0 3)).bind fun s_148 => ((stI s_148 x1 99 (s_148.1 x0 4)).bind fun s_156 => ((stI s_156 x1 100 (s_156.1 x0 5)).bind fun s_164 => ((stI s_164 x1 101 (s_164.1 x0 14)).bind fun s_172 => ((stI s_172 x1 102 (s_172.1 x0 15)).bind fun s_180 => (some s_180)))))))) else ((ldI σ 102 x2).bind fun v_117 => ((stI σ x1 (56 + x2) v_117).bind fun s_118 => ((some (x2 + 1) : Option Int32).bind fun y_119 => (k_101 s_118 x0 x1 y_119)))))
noncomputable def f_X6_keep_l101 (n : Nat) : St → Nat → Nat → Int32 → Option St :=
  Nat.rec (fun _ _ _ _ => none) (fun _ ih => f_X6_keep_b101 ih) n
noncomputable def f_X6_keep_b75 (k_75 : St → Nat → Nat → Int32 → Option St) (σ : St) (x0 : Nat) (x1 : Nat) (x2 : Int32) : Option St :=
  (if 8 ≤ x2 then (f_X6_keep_l101 FU σ x0 x1 0) else ((ldI σ 101 x2).bind fun v_91 => ((stI σ x1 (48 + x2) v_91).bind fun s_92 => ((some (x2 + 1) : Option Int32).bind fun y_93 => (k_75 s_92 x0 x1 y_93)))))
noncomputable def f_X6_keep_l75 (n : Nat) : St → Nat → Nat → Int32 → Option St :=
  Nat.rec (fun _ _ _ _ => none) (fun _ ih => f_X6_keep_b75 ih) n
noncomputable def f_X6_keep_b49 (k_49 : St → Nat → Nat → Int32 → Option St) (σ : St) (x0 : Nat) (x1 : Nat) (x2 : Int32) : Option St :=
  (if 30 ≤ x2 then (f_X6_keep_l75 FU σ x0 x1 0) else ((ldI σ 100 x2).bind fun v_65 => ((stI σ x1 (18 + x2) v_65).bind fun s_66 => ((some (x2 + 1) : Option Int32).bind fun y_67 => (k_49 s_66 x0 x1 y_67)))))
noncomputable def f_X6_keep_l49 (n : Nat) : St → Nat → Nat → Int32 → Option St :=
  Nat.rec (fun _ _ _ _ => none) (fun _ ih => f_X6_keep_b49 ih) n
noncomputable def f_X6_keep_b2 (k_2 : St → Nat → Nat → Int32 → Option St) (σ : St) (x0 : Nat) (x1 : Nat) (x2 : Int32) : Option St :=
  (if 6 ≤ x2 then (f_X6_keep_l49 FU σ x0 x1 0) else ((ldI σ 97 x2).bind fun v_15 => ((stI σ x1 x2 v_15).bind fun s_16 => ((ldI s_16 98 x2).bind fun v_27 => ((stI s_16 x1 (6 + x2) v_27).bind fun s_28 => ((ldI s_28 99 x2).bind fun v_39 => ((stI s_28 x1 (12 + x2) v_39).bind fun s_40 => ((some (x2 + 1) : Option Int32).bind fun y_41 => (k_2 s_40 x0 x1 y_41)))))))))
noncomputable def f_X6_keep_l2 (n : Nat) : St → Nat → Nat → Int32 → Option St :=
  Nat.rec (fun _ _ _ _ => none) (fun _ ih => f_X6_keep_b2 ih) n
noncomputable def f_X6_keep (σ : St) (x0 : Nat) (x1 : Nat) : Option St :=
  (f_X6_keep_l2 FU σ x0 x1 0)
noncomputable def f_X6_again_b101 (k_101 : St → Nat → Nat → Int32 → Option St) (σ : St) (x0 : Nat) (x1 : Nat) (x2 : Int32) : Option St :=
  (if 40 ≤ x2 then ((ldI σ x1 96).bind fun v_129 => ((ptI σ x0 6 v_129).bind fun s_130 => ((ldI s_130 x1 97).bind fun v_137 => ((ptI s_130 x0 11 v_137).bind fun s_138 => ((ldI s_138 x1 98).bind fun v_145 => ((ptI s_138 x0 3 v_145).bind fun s_146 => ((ldI s_146 x1 99).bind fun v_153 => ((ptI s_146 x0 4 v_153).bind fun s_154 => ((ldI s_154 x1 100).bind fun v_161 => ((ptI s_154 x0 5 v_161).bind fun s_162 => ((ldI s_162 x1 101).bind fun v_169 => ((ptI s_162 x0 14 v_169).bind fun s_170 => ((ldI s_170 x1 102).bind fun v_177 => ((ptI s_170 x0 15 v_177).bind fun s_178 => (some s_178))))))))))))))) else ((ldI σ x1 (56 + x2)).bind fun v_117 => ((stI σ 102 x2 v_117).bind fun s_118 => ((some (x2 + 1) : Option Int32).bind fun y_119 => (k_101 s_118 x0 x1 y_119)))))
noncomputable def f_X6_again_l101 (n : Nat) : St → Nat → Nat → Int32 → Option St :=
  Nat.rec (fun _ _ _ _ => none) (fun _ ih => f_X6_again_b101 ih) n
noncomputable def f_X6_again_b75 (k_75 : St → Nat → Nat → Int32 → Option St) (σ : St) (x0 : Nat) (x1 : Nat) (x2 : Int32) : Option St :=
  (if 8 ≤ x2 then (f_X6_again_l101 FU σ x0 x1 0) else ((ldI σ x1 (48 + x2)).bind fun v_91 => ((stI σ 101 x2 v_91).bind fun s_92 => ((some (x2 + 1) : Option Int32).bind fun y_93 => (k_75 s_92 x0 x1 y_93)))))
noncomputable def f_X6_again_l75 (n : Nat) : St → Nat → Nat → Int32 → Option St :=
  Nat.rec (fun _ _ _ _ => none) (fun _ ih => f_X6_again_b75 ih) n
noncomputable def f_X6_again_b49 (k_49 : St → Nat → Nat → Int32 → Option St) (σ : St) (x0 : Nat) (x1 : Nat) (x2 : Int32) : Option St :=
  (if 30 ≤ x2 then (f_X6_again_l75 FU σ x0 x1 0) else ((ldI σ x1 (18 + x2)).bind fun v_65 => ((stI σ 100 x2 v_65).bind fun s_66 => ((some (x2 + 1) : Option Int32).bind fun y_67 => (k_49 s_66 x0 x1 y_67)))))
noncomputable def f_X6_again_l49 (n : Nat) : St → Nat → Nat → Int32 → Option St :=
  Nat.rec (fun _ _ _ _ => none) (fun _ ih => f_X6_again_b49 ih) n
noncomputable def f_X6_again_b2 (k_2 : St → Nat → Nat → Int32 → Option St) (σ : St) (x0 : Nat) (x1 : Nat) (x2 : Int32) : Option St :=
  (if 6 ≤ x2 then (f_X6_again_l49 FU σ x0 x1 0) else ((ldI σ x1 x2).bind fun v_15 => ((stI σ 97 x2 v_15).bind fun s_16 => ((ldI s_16 x1 (6 + x2)).bind fun v_27 => ((stI s_16 98 x2 v_27).bind fun s_28 => ((ldI s_28 x1 (12 + x2)).bind fun v_39 => ((stI s_28 99 x2 v_39).bind fun s_40 => ((some (x2 + 1) : Option Int32).bind fun y_41 => (k_2 s_40 x0 x1 y_41)))))))))
noncomputable def f_X6_again_l2 (n : Nat) : St → Nat → Nat → Int32 → Option St :=
  Nat.rec (fun _ _ _ _ => none) (fun _ ih => f_X6_again_b2 ih) n
noncomputable def f_X6_again (σ : St) (x0 : Nat) (x1 : Nat) : Option St :=
  (f_X6_again_l2 FU σ x0 x1 0)
noncomputable def f_X6_house_b72 (k_17 : St → Nat → Int32 → Int32 → Option (Int32 × St)) (σ : St) (x0 : Nat) (x1 : Int32) (t0 : Int32) : Option (Int32 × St) :=
  (k_17 σ x0 x1 t0)
noncomputable def f_X6_house_b71 (k_17 : St → Nat → Int32 → Int32 → Option (Int32 × St)) (σ : St) (x0 : Nat) (x1 : Int32) : Option (Int32 × St) :=
  (f_X6_house_b72 k_17 σ x0 x1 0)
noncomputable def f_X6_house_b55 (k_17 : St → Nat → Int32 → Int32 → Option (Int32 × St)) (σ : St) (x0 : Nat) (x1 : Int32) (x2 : Int32) : Option (Int32 × St) :=
  (if x2 = 0 then (f_X6_house_b71 k_17 σ x0 x1) else (if (σ.1 x0 20) = 3 then (f_X6_house_b72 k_17 σ x0 x1 1) else (f_X6_house_b71 k_17 σ x0 x1)))
noncomputable def f_X6_house_b37 (k_17 : St → Nat → Int32 → Int32 → Option (Int32 × St)) (σ : St) (x0 : Nat) (x1 : Int32) (x2 : Int32) : Option (Int32 × St) :=
  (if x2 = 0 then (f_X6_house_b55 k_17 σ x0 x1 x2) else (if (σ.1 x0 20) = 0 then ((ptI σ x0 16 0).bind fun s_50 => (some (x1, s_50))) else (f_X6_house_b55 k_17 σ x0 x1 x2)))
noncomputable def f_X6_house_b17 (k_17 : St → Nat → Int32 → Int32 → Option (Int32 × St)) (σ : St) (x0 : Nat) (x1 : Int32) (x2 : Int32) : Option (Int32 × St) :=
  (if x2 = 0 then ((f_X6_again σ x0 106).bind fun s_81 => ((ptI s_81 x0 16 0).bind fun s_86 => (b2 (f_X6_no s_86 x0 (-2)) fun v_92 s_92 => (some (((-20) - (s_92.1 x0 19)), s_92))))) else ((f_X6_next σ x0).bind fun s_22 => (b2 (f_X6_statement s_22 x0) fun v_26 s_26 => (if v_26 = 0 then (f_X6_house_b37 k_17 s_26 x0 x1 v_26) else ((some (x1 + 1) : Option Int32).bind fun y_34 => (f_X6_house_b37 k_17 s_26 x0 y_34 v_26))))))
noncomputable def f_X6_house_l17 (n : Nat) : St → Nat → Int32 → Int32 → Option (Int32 × St) :=
  Nat.rec (fun _ _ _ _ => none) (fun _ ih => f_X6_house_b17 ih) n
noncomputable def f_X6_house (σ : St) (x0 : Nat) : Option (Int32 × St) :=
  ((f_X6_keep σ x0 106).bind fun s_5 => ((ptI s_5 x0 18 0).bind fun s_10 => (f_X6_house_l17 FU s_10 x0 0 1)))
noncomputable def f_X6_keyOf_b73 (σ : St) (x0 : Nat) (x1 : Int32) (x2 : Int32) : Option (Int32 × St) :=
  (if x2 = 0 then ((ldI σ 97 x1).bind fun v_113 => (some (v_113, σ))) else (if x2 = 1 then ((ldI σ 98 x1).bind fun v_120 => (some (v_120, σ))) else (if x2 = 2 then ((f_X6_gone σ x0 x1).bind fun v_124 => (some (v_124, σ))) else (if x2 = 3 then ((f_X6_broken σ x0 x1).bind fun v_130 => (if v_130 = 0 then (some (0, σ)) else (some (1, σ)))) else (if x2 = 4 then ((ldI σ 99 x1).bind fun v_147 => (some (v_147, σ))) else (b2 (f_X6_no σ x0 (-2)) fun v_152 s_152 => (some (v_152, s_152))))))))
noncomputable def f_X6_keyOf_b42 (σ : St) (x0 : Nat) (x1 : Int32) (x2 : Int32) : Option (Int32 × St) :=
  (if x2 < 10 then (f_X6_keyOf_b73 σ x0 x1 x2) else ((f_X6_isPlace σ x0 (x2 - 10)).bind fun v_53 => (if v_53 = 0 then (f_X6_keyOf_b73 σ x0 x1 x2) else ((ldI σ 100 (((5 * x1) + x2) - 10)).bind fun v_71 => (some (v_71, σ))))))
noncomputable def f_X6_keyOf (σ : St) (x0 : Nat) (x1 : Int32) (x2 : Int32) : Option (Int32 × St) :=
  ((f_X6_isKey σ x0 x1).bind fun v_2 => (if v_2 = 0 then (b2 (f_X6_no σ x0 (-2)) fun v_11 s_11 => (some (v_11, s_11))) else (if x2 < 20 then (f_X6_keyOf_b42 σ x0 x1 x2) else ((f_X6_isPlace σ x0 (x2 - 20)).bind fun v_26 => (if v_26 = 0 then (f_X6_keyOf_b42 σ x0 x1 x2) else ((f_X6_depth σ x0 x1 (x2 - 20)).bind fun v_38 => (some (v_38, σ))))))))
noncomputable def f_X6_lockOf_b74 (k_74 : St → Nat → Int32 → Int32 → Int32 → Option (Int32 × St)) (σ : St) (x0 : Nat) (x1 : Int32) (x3 : Int32) (x4 : Int32) : Option (Int32 × St) :=
  (if (σ.1 x0 3) ≤ x4 then (some (x3, σ)) else ((ldI σ 102 ((5 * x1) + x4)).bind fun v_94 => ((some (x3 + v_94) : Option Int32).bind fun y_96 => ((some (x4 + 1) : Option Int32).bind fun y_97 => (k_74 σ x0 x1 y_96 y_97)))))
noncomputable def f_X6_lockOf_l74 (n : Nat) : St → Nat → Int32 → Int32 → Int32 → Option (Int32 × St) :=
  Nat.rec (fun _ _ _ _ _ => none) (fun _ ih => f_X6_lockOf_b74 ih) n
noncomputable def f_X6_lockOf_b46 (σ : St) (x0 : Nat) (x1 : Int32) (x2 : Int32) : Option (Int32 × St) :=
  (if x2 = 0 then ((ldI σ 101 x1).bind fun v_55 => (some (v_55, σ))) else (if x2 = 1 then (f_X6_lockOf_l74 FU σ x0 x1 0 0) else (b2 (f_X6_no σ x0 (-2)) fun v_65 s_65 => (some (v_65, s_65)))))
noncomputable def f_X6_lockOf (σ : St) (x0 : Nat) (x1 : Int32) (x2 : Int32) : Option (Int32 × St) :=
  ((f_X6_isLock σ x0 x1).bind fun v_2 => (if v_2 = 0 then (b2 (f_X6_no σ x0 (-2)) fun v_11 s_11 => (some (v_11, s_11))) else (if x2 < 10 then (f_X6_lockOf_b46 σ x0 x1 x2) else ((f_X6_isPlace σ x0 (x2 - 10)).bind fun v_26 => (if v_26 = 0 then (f_X6_lockOf_b46 σ x0 x1 x2) else ((ldI σ 102 (((5 * x1) + x2) - 10)).bind fun v_44 => (some (v_44, σ))))))))
noncomputable def f_X6_opens_b57 (σ : St) : Option (Int32 × St) :=
  (some (1, σ))
noncomputable def f_X6_opens_b25 (σ : St) (x0 : Nat) : Option (Int32 × St) :=
  (b2 (f_X6_no σ x0 (-2)) fun v_28 s_28 => (some (v_28, s_28)))
noncomputable def f_X6_opens (σ : St) (x0 : Nat) (x1 : Int32) (x2 : Int32) (x3 : Int32) : Option (Int32 × St) :=
  ((f_X6_isKey σ x0 x1).bind fun v_2 => (if v_2 = 0 then (f_X6_opens_b25 σ x0) else ((f_X6_isLock σ x0 x2).bind fun v_10 => (if v_10 = 0 then (f_X6_opens_b25 σ x0) else ((f_X6_within x3 0 1).bind fun v_19 => (if v_19 = 0 then (f_X6_opens_b25 σ x0) else (if x3 = 0 then ((f_X6_fits σ x0 x1 x2).bind fun v_39 => (if v_39 = 0 then (some (0, σ)) else (f_X6_opens_b57 σ ))) else ((f_X6_opensIt σ x0 x1 x2).bind fun v_51 => (if v_51 = 0 then (some (0, σ)) else (f_X6_opens_b57 σ ))))))))))
noncomputable def f_X6_opened (σ : St) (x0 : Nat) (x1 : Int32) : Option (Int32 × St) :=
  ((f_X6_isKey σ x0 x1).bind fun v_2 => (if v_2 = 0 then (b2 (f_X6_no σ x0 (-2)) fun v_19 s_19 => (some (v_19, s_19))) else ((f_X6_openedBy σ x0 x1).bind fun v_10 => (some (v_10, σ)))))
noncomputable def f_X6_whoOpens_b27 (σ : St) (k_4 : Nat → Int32 → Int32 → Int32 → Option Int32) (x0 : Nat) (x1 : Int32) (x2 : Int32) (x3 : Int32) : Option Int32 :=
  ((some (x3 + 1) : Option Int32).bind fun y_27 => (k_4 x0 x1 x2 y_27))
noncomputable def f_X6_whoOpens_b4 (σ : St) (k_4 : Nat → Int32 → Int32 → Int32 → Option Int32) (x0 : Nat) (x1 : Int32) (x2 : Int32) (x3 : Int32) : Option Int32 :=
  (if (σ.1 x0 6) ≤ x3 then (some x2) else ((f_X6_opensIt σ x0 x3 x1).bind fun v_15 => (if v_15 = 0 then (f_X6_whoOpens_b27 σ k_4 x0 x1 x2 x3) else ((some (x2 ||| (1 <<< (x3 &&& 31))) : Option Int32).bind fun y_26 => (f_X6_whoOpens_b27 σ k_4 x0 x1 y_26 x3)))))
noncomputable def f_X6_whoOpens_l4 (σ : St) (n : Nat) : Nat → Int32 → Int32 → Int32 → Option Int32 :=
  Nat.rec (fun _ _ _ _ => none) (fun _ ih => f_X6_whoOpens_b4 σ ih) n
noncomputable def f_X6_whoOpens (σ : St) (x0 : Nat) (x1 : Int32) : Option Int32 :=
  (f_X6_whoOpens_l4 σ FU x0 x1 0 0)
noncomputable def f_X6_who (σ : St) (x0 : Nat) (x1 : Int32) : Option (Int32 × St) :=
  ((f_X6_isLock σ x0 x1).bind fun v_2 => (if v_2 = 0 then (b2 (f_X6_no σ x0 (-2)) fun v_19 s_19 => (some (v_19, s_19))) else ((f_X6_whoOpens σ x0 x1).bind fun v_10 => (some (v_10, σ)))))
noncomputable def f_X6_wrong_b12 (σ : St) (k_2 : Nat → Int32 → Option Int32) (k_12 : Nat → Int32 → Int32 → Option Int32) (x0 : Nat) (x1 : Int32) (x2 : Int32) : Option Int32 :=
  (if (σ.1 x0 11) ≤ x2 then ((some (x1 + 1) : Option Int32).bind fun y_52 => (k_2 x0 y_52)) else ((ldI σ 99 x1).bind fun v_25 => ((f_X6_has v_25 x2).bind fun v_27 => ((f_X6_opensIt σ x0 x1 x2).bind fun v_33 => (if v_27 = v_33 then ((some (x2 + 1) : Option Int32).bind fun y_46 => (k_12 x0 x1 y_46)) else (some ((10 * x1) + x2)))))))
noncomputable def f_X6_wrong_l12 (σ : St) (k_2 : Nat → Int32 → Option Int32) (n : Nat) : Nat → Int32 → Int32 → Option Int32 :=
  Nat.rec (fun _ _ _ => none) (fun _ ih => f_X6_wrong_b12 σ k_2 ih) n
noncomputable def f_X6_wrong_b2 (σ : St) (k_2 : Nat → Int32 → Option Int32) (x0 : Nat) (x1 : Int32) : Option Int32 :=
  (if (σ.1 x0 6) ≤ x1 then (some (-1)) else (f_X6_wrong_l12 σ k_2 FU x0 x1 0))
noncomputable def f_X6_wrong_l2 (σ : St) (n : Nat) : Nat → Int32 → Option Int32 :=
  Nat.rec (fun _ _ => none) (fun _ ih => f_X6_wrong_b2 σ ih) n
noncomputable def f_X6_wrong (σ : St) (x0 : Nat) : Option Int32 :=
  (f_X6_wrong_l2 σ FU x0 0)
noncomputable def f_X6_wrongs_b4 (σ : St) (k_4 : Nat → Int32 → Int32 → Option Int32) (x0 : Nat) (x1 : Int32) (x2 : Int32) : Option Int32 :=
  (if (σ.1 x0 6) ≤ x2 then (some x1) else ((ldI σ 99 x2).bind fun v_18 => ((f_X6_openedBy σ x0 x2).bind fun v_21 => ((f_J6_bitCount_0f7a4 (v_18 ^^^ v_21)).bind fun v_25 => ((some (x1 + v_25) : Option Int32).bind fun y_29 => ((some (x2 + 1) : Option Int32).bind fun y_30 => (k_4 x0 y_29 y_30)))))))
noncomputable def f_X6_wrongs_l4 (σ : St) (n : Nat) : Nat → Int32 → Int32 → Option Int32 :=
  Nat.rec (fun _ _ _ => none) (fun _ ih => f_X6_wrongs_b4 σ ih) n
noncomputable def f_X6_wrongs (σ : St) (x0 : Nat) : Option Int32 :=
  (f_X6_wrongs_l4 σ FU x0 0 0)
noncomputable def f_X6_noList (σ : St) (x0 : Nat) (x1 : Int32) : Option Int32 :=
  ((f_X6_noRow σ x0 x1).bind fun v_2 => (if 0 ≤ v_2 then ((ldI σ 95 x1).bind fun v_17 => (if (σ.1 x0 6) ≤ v_17 then (some 0) else (some (-2)))) else (some v_2)))
noncomputable def f_X6_listed (σ : St) (x0 : Nat) (x1 : Int32) (x2 : Int32) : Option Int32 :=
  ((ldJ σ 96 ((40 * x1) + x2)).bind fun v_10 => (some ((Int64.toInt32 v_10) &&& ((1 <<< ((σ.1 x0 11) &&& 31)) - 1))))
noncomputable def f_X6_judge_b18 (k_18 : St → Nat → Int32 → Int32 → Option (Int32 × St)) (σ : St) (x0 : Nat) (x1 : Int32) (x3 : Int32) : Option (Int32 × St) :=
  (if (σ.1 x0 6) ≤ x3 then (some ((-1), σ)) else ((f_X6_openedBy σ x0 x3).bind fun v_28 => ((f_X6_listed σ x0 x1 x3).bind fun v_34 => (if v_28 = v_34 then ((some (x3 + 1) : Option Int32).bind fun y_42 => (k_18 σ x0 x1 y_42)) else (some (x3, σ))))))
noncomputable def f_X6_judge_l18 (n : Nat) : St → Nat → Int32 → Int32 → Option (Int32 × St) :=
  Nat.rec (fun _ _ _ _ => none) (fun _ ih => f_X6_judge_b18 ih) n
noncomputable def f_X6_judge (σ : St) (x0 : Nat) (x1 : Int32) : Option (Int32 × St) :=
  ((f_X6_noList σ x0 x1).bind fun v_2 => (if 0 ≤ v_2 then (f_X6_judge_l18 FU σ x0 x1 0) else (b2 (f_X6_no σ x0 v_2) fun v_12 s_12 => (some (v_12, s_12)))))
noncomputable def f_X6_list_b18 (k_18 : St → Nat → Int32 → Int32 → Option (Int32 × St)) (σ : St) (x0 : Nat) (x1 : Int32) (x3 : Int32) : Option (Int32 × St) :=
  (if (σ.1 x0 6) ≤ x3 then (some ((σ.1 x0 6), σ)) else ((f_X6_listed σ x0 x1 x3).bind fun v_34 => ((stI σ 99 x3 v_34).bind fun s_37 => ((some (x3 + 1) : Option Int32).bind fun y_38 => (k_18 s_37 x0 x1 y_38)))))
noncomputable def f_X6_list_l18 (n : Nat) : St → Nat → Int32 → Int32 → Option (Int32 × St) :=
  Nat.rec (fun _ _ _ _ => none) (fun _ ih => f_X6_list_b18 ih) n
noncomputable def f_X6_list (σ : St) (x0 : Nat) (x1 : Int32) : Option (Int32 × St) :=
  ((f_X6_noList σ x0 x1).bind fun v_2 => (if 0 ≤ v_2 then (f_X6_list_l18 FU σ x0 x1 0) else (b2 (f_X6_no σ x0 v_2) fun v_12 s_12 => (some (v_12, s_12)))))
noncomputable def f_X6_rows_b4 (σ : St) (k_4 : Nat → Int32 → Int32 → Option Int32) (x0 : Nat) (x1 : Int32) (x2 : Int32) : Option Int32 :=
  (if (σ.1 x0 3) ≤ x2 then (some x1) else ((some (x1 * ((σ.1 x0 4) + 1)) : Option Int32).bind fun y_20 => ((some (x2 + 1) : Option Int32).bind fun y_21 => (k_4 x0 y_20 y_21))))
noncomputable def f_X6_rows_l4 (σ : St) (n : Nat) : Nat → Int32 → Int32 → Option Int32 :=
  Nat.rec (fun _ _ _ => none) (fun _ ih => f_X6_rows_b4 σ ih) n
noncomputable def f_X6_rows (σ : St) (x0 : Nat) : Option Int32 :=
  (f_X6_rows_l4 σ FU x0 1 0)
noncomputable def f_X6_of_b7 (σ : St) (k_7 : Nat → Int32 → Int32 → Int32 → Option Int32) (x0 : Nat) (x1 : Int32) (x2 : Int32) (x3 : Int32) : Option Int32 :=
  (if x3 ≤ x2 then ((rmI x1 ((σ.1 x0 4) + 1)).bind fun v_34 => (some v_34)) else ((dvI x1 ((σ.1 x0 4) + 1)).bind fun v_19 => ((some (x3 + (-1)) : Option Int32).bind fun y_21 => (k_7 x0 v_19 x2 y_21))))
noncomputable def f_X6_of_l7 (σ : St) (n : Nat) : Nat → Int32 → Int32 → Int32 → Option Int32 :=
  Nat.rec (fun _ _ _ _ => none) (fun _ ih => f_X6_of_b7 σ ih) n
noncomputable def f_X6_of (σ : St) (x0 : Nat) (x1 : Int32) (x2 : Int32) : Option Int32 :=
  ((some ((σ.1 x0 3) - 1) : Option Int32).bind fun y_6 => (f_X6_of_l7 σ FU x0 x1 x2 y_6))
noncomputable def f_X6_sum_b4 (σ : St) (k_4 : Nat → Int32 → Int32 → Int32 → Option Int32) (x0 : Nat) (x1 : Int32) (x2 : Int32) (x3 : Int32) : Option Int32 :=
  (if (σ.1 x0 3) ≤ x3 then (some x2) else ((f_X6_of σ x0 x1 x3).bind fun v_16 => ((some (x2 + v_16) : Option Int32).bind fun y_20 => ((some (x3 + 1) : Option Int32).bind fun y_21 => (k_4 x0 x1 y_20 y_21)))))
noncomputable def f_X6_sum_l4 (σ : St) (n : Nat) : Nat → Int32 → Int32 → Int32 → Option Int32 :=
  Nat.rec (fun _ _ _ _ => none) (fun _ ih => f_X6_sum_b4 σ ih) n
noncomputable def f_X6_sum (σ : St) (x0 : Nat) (x1 : Int32) : Option Int32 :=
  (f_X6_sum_l4 σ FU x0 x1 0 0)
noncomputable def f_X6_rowFits_b2 (σ : St) (k_2 : Nat → Int32 → Int32 → Int32 → Option Int32) (x0 : Nat) (x1 : Int32) (x2 : Int32) (x3 : Int32) : Option Int32 :=
  (if (σ.1 x0 3) ≤ x3 then (some 1) else ((f_X6_of σ x0 x1 x3).bind fun v_13 => ((ldI σ 102 ((5 * x2) + x3)).bind fun v_25 => (if v_25 ≤ v_13 then ((some (x3 + 1) : Option Int32).bind fun y_31 => (k_2 x0 x1 x2 y_31)) else (some 0)))))
noncomputable def f_X6_rowFits_l2 (σ : St) (n : Nat) : Nat → Int32 → Int32 → Int32 → Option Int32 :=
  Nat.rec (fun _ _ _ _ => none) (fun _ ih => f_X6_rowFits_b2 σ ih) n
noncomputable def f_X6_rowFits (σ : St) (x0 : Nat) (x1 : Int32) (x2 : Int32) : Option Int32 :=
  (f_X6_rowFits_l2 σ FU x0 x1 x2 0)
noncomputable def f_X6_fitsJust_b2 (σ : St) (k_2 : Nat → Int32 → Int32 → Int32 → Option Int32) (x0 : Nat) (x1 : Int32) (x2 : Int32) (x3 : Int32) : Option Int32 :=
  (if (σ.1 x0 11) ≤ x3 then (some 1) else ((f_X6_rowFits σ x0 x1 x3).bind fun v_13 => ((f_X6_has x2 x3).bind fun v_18 => (if v_13 = v_18 then ((some (x3 + 1) : Option Int32).bind fun y_26 => (k_2 x0 x1 x2 y_26)) else (some 0)))))
noncomputable def f_X6_fitsJust_l2 (σ : St) (n : Nat) : Nat → Int32 → Int32 → Int32 → Option Int32 :=
  Nat.rec (fun _ _ _ _ => none) (fun _ ih => f_X6_fitsJust_b2 σ ih) n
noncomputable def f_X6_fitsJust (σ : St) (x0 : Nat) (x1 : Int32) (x2 : Int32) : Option Int32 :=
  (f_X6_fitsJust_l2 σ FU x0 x1 x2 0)
noncomputable def f_X6_cuts_b81 (k_41 : St → Nat → Int32 → Int32 → Int32 → Int32 → Option (Int32 × St)) (σ : St) (x0 : Nat) (x1 : Int32) (x2 : Int32) (x3 : Int32) (x4 : Int32) : Option (Int32 × St) :=
  ((some (x4 + 1) : Option Int32).bind fun y_81 => (k_41 σ x0 x1 x2 x3 y_81))
noncomputable def f_X6_cuts_b78 (k_41 : St → Nat → Int32 → Int32 → Int32 → Int32 → Option (Int32 × St)) (σ : St) (x0 : Nat) (x1 : Int32) (x2 : Int32) (x4 : Int32) : Option (Int32 × St) :=
  (f_X6_cuts_b81 k_41 σ x0 x1 x2 x4 x4)
noncomputable def f_X6_cuts_b41 (k_41 : St → Nat → Int32 → Int32 → Int32 → Int32 → Option (Int32 × St)) (σ : St) (x0 : Nat) (x1 : Int32) (x2 : Int32) (x3 : Int32) (x4 : Int32) : Option (Int32 × St) :=
  ((f_X6_rows σ x0).bind fun v_44 => (if v_44 ≤ x4 then (if 0 ≤ x3 then (if x2 = (-1) then ((f_X6_sum σ x0 x3).bind fun v_102 => (some (v_102, σ))) else ((f_X6_of σ x0 x3 x2).bind fun v_111 => (some (v_111, σ)))) else (some ((-1), σ))) else ((f_X6_fitsJust σ x0 x4 x1).bind fun v_54 => (if v_54 = 0 then (f_X6_cuts_b81 k_41 σ x0 x1 x2 x3 x4) else (if x3 < 0 then (f_X6_cuts_b78 k_41 σ x0 x1 x2 x4) else ((f_X6_sum σ x0 x4).bind fun v_67 => ((f_X6_sum σ x0 x3).bind fun v_72 => (if v_72 ≤ v_67 then (f_X6_cuts_b81 k_41 σ x0 x1 x2 x3 x4) else (f_X6_cuts_b78 k_41 σ x0 x1 x2 x4)))))))))
noncomputable def f_X6_cuts_l41 (n : Nat) : St → Nat → Int32 → Int32 → Int32 → Int32 → Option (Int32 × St) :=
  Nat.rec (fun _ _ _ _ _ _ => none) (fun _ ih => f_X6_cuts_b41 ih) n
noncomputable def f_X6_cuts_b36 (σ : St) (x0 : Nat) (x1 : Int32) (x2 : Int32) : Option (Int32 × St) :=
  (f_X6_cuts_l41 FU σ x0 x1 x2 (-1) 0)
noncomputable def f_X6_cuts_b29 (σ : St) (x0 : Nat) : Option (Int32 × St) :=
  (b2 (f_X6_no σ x0 (-2)) fun v_32 s_32 => (some (v_32, s_32)))
noncomputable def f_X6_cuts (σ : St) (x0 : Nat) (x1 : Int32) (x2 : Int32) : Option (Int32 × St) :=
  ((f_X6_within x1 0 ((1 <<< ((σ.1 x0 11) &&& 31)) - 1)).bind fun v_10 => (if v_10 = 0 then (f_X6_cuts_b29 σ x0) else (if x2 = (-1) then (f_X6_cuts_b36 σ x0 x1 x2) else ((f_X6_isPlace σ x0 x2).bind fun v_23 => (if v_23 = 0 then (f_X6_cuts_b29 σ x0) else (f_X6_cuts_b36 σ x0 x1 x2))))))
noncomputable def f_X6_many_b47 (k_27 : St → Nat → Int32 → Int32 → Int32 → Option (Int32 × St)) (σ : St) (x0 : Nat) (x1 : Int32) (x2 : Int32) (x3 : Int32) : Option (Int32 × St) :=
  ((some (x3 + 1) : Option Int32).bind fun y_47 => (k_27 σ x0 x1 x2 y_47))
noncomputable def f_X6_many_b27 (k_27 : St → Nat → Int32 → Int32 → Int32 → Option (Int32 × St)) (σ : St) (x0 : Nat) (x1 : Int32) (x2 : Int32) (x3 : Int32) : Option (Int32 × St) :=
  ((f_X6_rows σ x0).bind fun v_29 => (if v_29 ≤ x3 then (some (x2, σ)) else ((f_X6_fitsJust σ x0 x3 x1).bind fun v_38 => (if v_38 = 0 then (f_X6_many_b47 k_27 σ x0 x1 x2 x3) else ((some (x2 + 1) : Option Int32).bind fun y_44 => (f_X6_many_b47 k_27 σ x0 x1 y_44 x3))))))
noncomputable def f_X6_many_l27 (n : Nat) : St → Nat → Int32 → Int32 → Int32 → Option (Int32 × St) :=
  Nat.rec (fun _ _ _ _ _ => none) (fun _ ih => f_X6_many_b27 ih) n
noncomputable def f_X6_many (σ : St) (x0 : Nat) (x1 : Int32) : Option (Int32 × St) :=
  ((f_X6_within x1 0 ((1 <<< ((σ.1 x0 11) &&& 31)) - 1)).bind fun v_10 => (if v_10 = 0 then (b2 (f_X6_no σ x0 (-2)) fun v_19 s_19 => (some (v_19, s_19))) else (f_X6_many_l27 FU σ x0 x1 0 0)))
noncomputable def f_X6_asked_b154 (k_41 : St → Nat → Int32 → Int32 → Int32 → Int32 → Option (Int32 × St)) (σ : St) (x0 : Nat) (x1 : Int32) (x2 : Int32) (x3 : Int32) (x4 : Int32) : Option (Int32 × St) :=
  ((some (x4 + 1) : Option Int32).bind fun y_154 => (k_41 σ x0 x1 x2 x3 y_154))
noncomputable def f_X6_asked_b151 (k_41 : St → Nat → Int32 → Int32 → Int32 → Int32 → Option (Int32 × St)) (σ : St) (x0 : Nat) (x1 : Int32) (x2 : Int32) (x4 : Int32) : Option (Int32 × St) :=
  (f_X6_asked_b154 k_41 σ x0 x1 x2 x4 x4)
noncomputable def f_X6_asked_b122 (k_56 : St → Nat → Int32 → Int32 → Int32 → Int32 → Int32 → Int32 → Option (Int32 × St)) (σ : St) (x0 : Nat) (x1 : Int32) (x2 : Int32) (x3 : Int32) (x4 : Int32) (x5 : Int32) (x6 : Int32) : Option (Int32 × St) :=
  ((some (x6 + 1) : Option Int32).bind fun y_122 => (k_56 σ x0 x1 x2 x3 x4 x5 y_122))
noncomputable def f_X6_asked_b102 (k_71 : St → Nat → Int32 → Int32 → Int32 → Int32 → Int32 → Int32 → Int32 → Int32 → Option (Int32 × St)) (σ : St) (x0 : Nat) (x1 : Int32) (x2 : Int32) (x3 : Int32) (x4 : Int32) (x5 : Int32) (x6 : Int32) (x7 : Int32) (x8 : Int32) : Option (Int32 × St) :=
  ((some (x8 + 1) : Option Int32).bind fun y_102 => (k_71 σ x0 x1 x2 x3 x4 x5 x6 x7 y_102))
noncomputable def f_X6_asked_b71 (k_56 : St → Nat → Int32 → Int32 → Int32 → Int32 → Int32 → Int32 → Option (Int32 × St)) (k_71 : St → Nat → Int32 → Int32 → Int32 → Int32 → Int32 → Int32 → Int32 → Int32 → Option (Int32 × St)) (σ : St) (x0 : Nat) (x1 : Int32) (x2 : Int32) (x3 : Int32) (x4 : Int32) (x5 : Int32) (x6 : Int32) (x7 : Int32) (x8 : Int32) : Option (Int32 × St) :=
  (if (σ.1 x0 3) ≤ x8 then ((f_X6_has x1 x6).bind fun v_113 => (if x7 = v_113 then (f_X6_asked_b122 k_56 σ x0 x1 x2 x3 x4 x5 x6) else (f_X6_asked_b122 k_56 σ x0 x1 x2 x3 x4 0 x6))) else ((f_X6_depth σ x0 x6 x8).bind fun v_85 => ((f_X6_of σ x0 x4 x8).bind fun v_93 => (if v_93 ≤ v_85 then (f_X6_asked_b102 k_71 σ x0 x1 x2 x3 x4 x5 x6 x7 x8) else (f_X6_asked_b102 k_71 σ x0 x1 x2 x3 x4 x5 x6 0 x8)))))
noncomputable def f_X6_asked_l71 (k_56 : St → Nat → Int32 → Int32 → Int32 → Int32 → Int32 → Int32 → Option (Int32 × St)) (n : Nat) : St → Nat → Int32 → Int32 → Int32 → Int32 → Int32 → Int32 → Int32 → Int32 → Option (Int32 × St) :=
  Nat.rec (fun _ _ _ _ _ _ _ _ _ _ => none) (fun _ ih => f_X6_asked_b71 k_56 ih) n
noncomputable def f_X6_asked_b56 (k_41 : St → Nat → Int32 → Int32 → Int32 → Int32 → Option (Int32 × St)) (k_56 : St → Nat → Int32 → Int32 → Int32 → Int32 → Int32 → Int32 → Option (Int32 × St)) (σ : St) (x0 : Nat) (x1 : Int32) (x2 : Int32) (x3 : Int32) (x4 : Int32) (x5 : Int32) (x6 : Int32) : Option (Int32 × St) :=
  (if (σ.1 x0 6) ≤ x6 then (if x5 = 0 then (f_X6_asked_b154 k_41 σ x0 x1 x2 x3 x4) else (if x3 < 0 then (f_X6_asked_b151 k_41 σ x0 x1 x2 x4) else ((f_X6_sum σ x0 x4).bind fun v_140 => ((f_X6_sum σ x0 x3).bind fun v_145 => (if v_145 ≤ v_140 then (f_X6_asked_b154 k_41 σ x0 x1 x2 x3 x4) else (f_X6_asked_b151 k_41 σ x0 x1 x2 x4)))))) else (f_X6_asked_l71 k_56 FU σ x0 x1 x2 x3 x4 x5 x6 1 0))
noncomputable def f_X6_asked_l56 (k_41 : St → Nat → Int32 → Int32 → Int32 → Int32 → Option (Int32 × St)) (n : Nat) : St → Nat → Int32 → Int32 → Int32 → Int32 → Int32 → Int32 → Option (Int32 × St) :=
  Nat.rec (fun _ _ _ _ _ _ _ _ => none) (fun _ ih => f_X6_asked_b56 k_41 ih) n
noncomputable def f_X6_asked_b41 (k_41 : St → Nat → Int32 → Int32 → Int32 → Int32 → Option (Int32 × St)) (σ : St) (x0 : Nat) (x1 : Int32) (x2 : Int32) (x3 : Int32) (x4 : Int32) : Option (Int32 × St) :=
  ((f_X6_rows σ x0).bind fun v_44 => (if v_44 ≤ x4 then (if 0 ≤ x3 then (if x2 = (-1) then ((f_X6_sum σ x0 x3).bind fun v_175 => (some (v_175, σ))) else ((f_X6_of σ x0 x3 x2).bind fun v_184 => (some (v_184, σ)))) else (some ((-1), σ))) else (f_X6_asked_l56 k_41 FU σ x0 x1 x2 x3 x4 1 0)))
noncomputable def f_X6_asked_l41 (n : Nat) : St → Nat → Int32 → Int32 → Int32 → Int32 → Option (Int32 × St) :=
  Nat.rec (fun _ _ _ _ _ _ => none) (fun _ ih => f_X6_asked_b41 ih) n
noncomputable def f_X6_asked_b36 (σ : St) (x0 : Nat) (x1 : Int32) (x2 : Int32) : Option (Int32 × St) :=
  (f_X6_asked_l41 FU σ x0 x1 x2 (-1) 0)
noncomputable def f_X6_asked_b29 (σ : St) (x0 : Nat) : Option (Int32 × St) :=
  (b2 (f_X6_no σ x0 (-2)) fun v_32 s_32 => (some (v_32, s_32)))
noncomputable def f_X6_asked (σ : St) (x0 : Nat) (x1 : Int32) (x2 : Int32) : Option (Int32 × St) :=
  ((f_X6_within x1 0 ((1 <<< ((σ.1 x0 6) &&& 31)) - 1)).bind fun v_10 => (if v_10 = 0 then (f_X6_asked_b29 σ x0) else (if x2 = (-1) then (f_X6_asked_b36 σ x0 x1 x2) else ((f_X6_isPlace σ x0 x2).bind fun v_23 => (if v_23 = 0 then (f_X6_asked_b29 σ x0) else (f_X6_asked_b36 σ x0 x1 x2))))))
noncomputable def f_X6_filing_b68 (σ : St) (k_5 : Nat → Int32 → Int32 → Int32 → Int32 → Option Int32) (k_68 : Nat → Int32 → Int32 → Int32 → Int32 → Int32 → Int32 → Option Int32) (x0 : Nat) (x1 : Int32) (x2 : Int32) (x3 : Int32) (x4 : Int32) (x6 : Int32) (x7 : Int32) : Option Int32 :=
  (if x6 < x7 then ((some (x4 + 1) : Option Int32).bind fun y_86 => (k_5 x0 x1 x2 x3 y_86)) else ((some (x3 + x7) : Option Int32).bind fun y_79 => ((some (x7 + 1) : Option Int32).bind fun y_80 => (k_68 x0 x1 x2 y_79 x4 x6 y_80))))
noncomputable def f_X6_filing_l68 (σ : St) (k_5 : Nat → Int32 → Int32 → Int32 → Int32 → Option Int32) (n : Nat) : Nat → Int32 → Int32 → Int32 → Int32 → Int32 → Int32 → Option Int32 :=
  Nat.rec (fun _ _ _ _ _ _ _ => none) (fun _ ih => f_X6_filing_b68 σ k_5 ih) n
noncomputable def f_X6_filing_b62 (σ : St) (k_5 : Nat → Int32 → Int32 → Int32 → Int32 → Option Int32) (x0 : Nat) (x1 : Int32) (x2 : Int32) (x3 : Int32) (x4 : Int32) (x5 : Int32) (x6 : Int32) : Option Int32 :=
  ((some (x5 + 1) : Option Int32).bind fun y_66 => (f_X6_filing_l68 σ k_5 FU x0 x1 x2 x3 x4 x6 y_66))
noncomputable def f_X6_filing_b5 (σ : St) (k_5 : Nat → Int32 → Int32 → Int32 → Int32 → Option Int32) (x0 : Nat) (x1 : Int32) (x2 : Int32) (x3 : Int32) (x4 : Int32) : Option Int32 :=
  (if (σ.1 x0 3) ≤ x4 then (some x3) else ((ldI σ 100 ((5 * x1) + x4)).bind fun v_24 => ((f_X6_of σ x0 x2 x4).bind fun v_31 => (if v_31 < v_24 then (some (-1)) else (if v_31 ≤ v_24 then (f_X6_filing_b62 σ k_5 x0 x1 x2 x3 x4 v_24 v_31) else ((ldI σ 97 x1).bind fun v_55 => (if v_55 = 4 then (some (-1)) else (f_X6_filing_b62 σ k_5 x0 x1 x2 x3 x4 v_24 v_31))))))))
noncomputable def f_X6_filing_l5 (σ : St) (n : Nat) : Nat → Int32 → Int32 → Int32 → Int32 → Option Int32 :=
  Nat.rec (fun _ _ _ _ _ => none) (fun _ ih => f_X6_filing_b5 σ ih) n
noncomputable def f_X6_filing (σ : St) (x0 : Nat) (x1 : Int32) (x2 : Int32) : Option Int32 :=
  (f_X6_filing_l5 σ FU x0 x1 x2 0 0)
noncomputable def f_X6_least_b231 (k_41 : St → Nat → Int32 → Int32 → Int32 → Int32 → Option (Int32 × St)) (σ : St) (x0 : Nat) (x1 : Int32) (x2 : Int32) (x3 : Int32) (x4 : Int32) : Option (Int32 × St) :=
  ((some (x4 + 1) : Option Int32).bind fun y_231 => (k_41 σ x0 x1 x2 x3 y_231))
noncomputable def f_X6_least_b190 (k_41 : St → Nat → Int32 → Int32 → Int32 → Int32 → Option (Int32 × St)) (k_190 : St → Nat → Int32 → Int32 → Int32 → Int32 → Int32 → Int32 → Int32 → Option (Int32 × St)) (σ : St) (x0 : Nat) (x1 : Int32) (x2 : Int32) (x3 : Int32) (x4 : Int32) (x5 : Int32) (x6 : Int32) (x7 : Int32) : Option (Int32 × St) :=
  (if (σ.1 x0 3) ≤ x7 then (if x6 = 0 then (f_X6_least_b231 k_41 σ x0 x1 x2 x3 x4) else (f_X6_least_b231 k_41 σ x0 x1 x2 x5 x4)) else ((ldI σ 107 x7).bind fun v_215 => ((stI σ 100 ((5 * x1) + x7) v_215).bind fun s_216 => ((some (x7 + 1) : Option Int32).bind fun y_217 => (k_190 s_216 x0 x1 x2 x3 x4 x5 x6 y_217)))))
noncomputable def f_X6_least_l190 (k_41 : St → Nat → Int32 → Int32 → Int32 → Int32 → Option (Int32 × St)) (n : Nat) : St → Nat → Int32 → Int32 → Int32 → Int32 → Int32 → Int32 → Int32 → Option (Int32 × St) :=
  Nat.rec (fun _ _ _ _ _ _ _ _ _ => none) (fun _ ih => f_X6_least_b190 k_41 ih) n
noncomputable def f_X6_least_b187 (k_41 : St → Nat → Int32 → Int32 → Int32 → Int32 → Option (Int32 × St)) (σ : St) (x0 : Nat) (x1 : Int32) (x2 : Int32) (x3 : Int32) (x4 : Int32) (x5 : Int32) (x6 : Int32) : Option (Int32 × St) :=
  (f_X6_least_l190 k_41 FU σ x0 x1 x2 x3 x4 x5 x6 0)
noncomputable def f_X6_least_b157 (k_41 : St → Nat → Int32 → Int32 → Int32 → Int32 → Option (Int32 × St)) (k_157 : St → Nat → Int32 → Int32 → Int32 → Int32 → Int32 → Int32 → Int32 → Option (Int32 × St)) (σ : St) (x0 : Nat) (x1 : Int32) (x2 : Int32) (x3 : Int32) (x4 : Int32) (x5 : Int32) (x6 : Int32) (x7 : Int32) : Option (Int32 × St) :=
  (if (σ.1 x0 3) ≤ x7 then (f_X6_least_b187 k_41 σ x0 x1 x2 x3 x4 x5 x6) else ((f_X6_of σ x0 x4 x7).bind fun v_177 => ((stI σ 108 x7 v_177).bind fun s_180 => ((some (x7 + 1) : Option Int32).bind fun y_181 => (k_157 s_180 x0 x1 x2 x3 x4 x5 x6 y_181)))))
noncomputable def f_X6_least_l157 (k_41 : St → Nat → Int32 → Int32 → Int32 → Int32 → Option (Int32 × St)) (n : Nat) : St → Nat → Int32 → Int32 → Int32 → Int32 → Int32 → Int32 → Int32 → Option (Int32 × St) :=
  Nat.rec (fun _ _ _ _ _ _ _ _ _ => none) (fun _ ih => f_X6_least_b157 k_41 ih) n
noncomputable def f_X6_least_b147 (k_41 : St → Nat → Int32 → Int32 → Int32 → Int32 → Option (Int32 × St)) (σ : St) (x0 : Nat) (x1 : Int32) (x2 : Int32) (x3 : Int32) (x4 : Int32) (x5 : Int32) (t0 : Int32) : Option (Int32 × St) :=
  (if t0 = 0 then (f_X6_least_b187 k_41 σ x0 x1 x2 x3 x4 x5 t0) else (f_X6_least_l157 k_41 FU σ x0 x1 x2 x3 x4 x5 t0 0))
noncomputable def f_X6_least_b80 (k_41 : St → Nat → Int32 → Int32 → Int32 → Int32 → Option (Int32 × St)) (k_80 : St → Nat → Int32 → Int32 → Int32 → Int32 → Int32 → Int32 → Option (Int32 × St)) (σ : St) (x0 : Nat) (x1 : Int32) (x2 : Int32) (x3 : Int32) (x4 : Int32) (x5 : Int32) (x6 : Int32) : Option (Int32 × St) :=
  (if (σ.1 x0 3) ≤ x6 then (if x2 = (-1) then ((f_X6_openedBy σ x0 x1).bind fun v_121 => ((ldI σ 99 x1).bind fun v_129 => (if v_121 = v_129 then (f_X6_least_b147 k_41 σ x0 x1 x2 x3 x4 x5 1) else (f_X6_least_b147 k_41 σ x0 x1 x2 x3 x4 x5 0)))) else ((f_X6_opensIt σ x0 x1 x2).bind fun v_144 => (f_X6_least_b147 k_41 σ x0 x1 x2 x3 x4 x5 v_144))) else ((f_X6_of σ x0 x4 x6).bind fun v_104 => ((stI σ 100 ((5 * x1) + x6) v_104).bind fun s_107 => ((some (x6 + 1) : Option Int32).bind fun y_108 => (k_80 s_107 x0 x1 x2 x3 x4 x5 y_108)))))
noncomputable def f_X6_least_l80 (k_41 : St → Nat → Int32 → Int32 → Int32 → Int32 → Option (Int32 × St)) (n : Nat) : St → Nat → Int32 → Int32 → Int32 → Int32 → Int32 → Int32 → Option (Int32 × St) :=
  Nat.rec (fun _ _ _ _ _ _ _ _ => none) (fun _ ih => f_X6_least_b80 k_41 ih) n
noncomputable def f_X6_least_b77 (k_41 : St → Nat → Int32 → Int32 → Int32 → Int32 → Option (Int32 × St)) (σ : St) (x0 : Nat) (x1 : Int32) (x2 : Int32) (x3 : Int32) (x4 : Int32) (x5 : Int32) : Option (Int32 × St) :=
  (f_X6_least_l80 k_41 FU σ x0 x1 x2 x3 x4 x5 0)
noncomputable def f_X6_least_b41 (k_41 : St → Nat → Int32 → Int32 → Int32 → Int32 → Option (Int32 × St)) (σ : St) (x0 : Nat) (x1 : Int32) (x2 : Int32) (x3 : Int32) (x4 : Int32) : Option (Int32 × St) :=
  ((f_X6_rows σ x0).bind fun v_44 => (if v_44 ≤ x4 then (some (x3, σ)) else ((f_X6_filing σ x0 x1 x4).bind fun v_54 => (if v_54 < 0 then (f_X6_least_b231 k_41 σ x0 x1 x2 x3 x4) else (if x3 < 0 then (f_X6_least_b77 k_41 σ x0 x1 x2 x3 x4 v_54) else (if v_54 < x3 then (f_X6_least_b77 k_41 σ x0 x1 x2 x3 x4 v_54) else (f_X6_least_b231 k_41 σ x0 x1 x2 x3 x4)))))))
noncomputable def f_X6_least_l41 (n : Nat) : St → Nat → Int32 → Int32 → Int32 → Int32 → Option (Int32 × St) :=
  Nat.rec (fun _ _ _ _ _ _ => none) (fun _ ih => f_X6_least_b41 ih) n
noncomputable def f_X6_least_b5 (k_5 : St → Nat → Int32 → Int32 → Int32 → Int32 → Option (Int32 × St)) (σ : St) (x0 : Nat) (x1 : Int32) (x2 : Int32) (x3 : Int32) (x4 : Int32) : Option (Int32 × St) :=
  (if (σ.1 x0 3) ≤ x4 then (f_X6_least_l41 FU σ x0 x1 x2 x3 0) else ((ldI σ 100 ((5 * x1) + x4)).bind fun v_30 => ((stI σ 107 x4 v_30).bind fun s_31 => ((some (x4 + 1) : Option Int32).bind fun y_32 => (k_5 s_31 x0 x1 x2 x3 y_32)))))
noncomputable def f_X6_least_l5 (n : Nat) : St → Nat → Int32 → Int32 → Int32 → Int32 → Option (Int32 × St) :=
  Nat.rec (fun _ _ _ _ _ _ => none) (fun _ ih => f_X6_least_b5 ih) n
noncomputable def f_X6_least (σ : St) (x0 : Nat) (x1 : Int32) (x2 : Int32) : Option (Int32 × St) :=
  (f_X6_least_l5 FU σ x0 x1 x2 (-1) 0)
noncomputable def f_X6_toOpen_b25 (σ : St) (x0 : Nat) : Option (Int32 × St) :=
  (b2 (f_X6_no σ x0 (-2)) fun v_28 s_28 => (some (v_28, s_28)))
noncomputable def f_X6_toOpen (σ : St) (x0 : Nat) (x1 : Int32) (x2 : Int32) : Option (Int32 × St) :=
  ((f_X6_isKey σ x0 x1).bind fun v_2 => (if v_2 = 0 then (f_X6_toOpen_b25 σ x0) else ((f_X6_isLock σ x0 x2).bind fun v_10 => (if v_10 = 0 then (f_X6_toOpen_b25 σ x0) else (b2 (f_X6_least σ x0 x1 x2) fun v_19 s_19 => (some (v_19, s_19)))))))
noncomputable def f_X6_safeOf_b28 (k_4 : St → Nat → Int32 → Int32 → Int32 → Option (Int32 × St)) (σ : St) (x0 : Nat) (x1 : Int32) (x2 : Int32) (x3 : Int32) : Option (Int32 × St) :=
  ((some (x3 + 1) : Option Int32).bind fun y_28 => (k_4 σ x0 x1 x2 y_28))
noncomputable def f_X6_safeOf_b4 (k_4 : St → Nat → Int32 → Int32 → Int32 → Option (Int32 × St)) (σ : St) (x0 : Nat) (x1 : Int32) (x2 : Int32) (x3 : Int32) : Option (Int32 × St) :=
  (if (σ.1 x0 6) ≤ x3 then (some (x2, σ)) else (b2 (f_X6_least σ x0 x3 x1) fun v_15 s_15 => (if v_15 = (-1) then ((some (x2 ||| (1 <<< (x3 &&& 31))) : Option Int32).bind fun y_27 => (f_X6_safeOf_b28 k_4 s_15 x0 x1 y_27 x3)) else (f_X6_safeOf_b28 k_4 s_15 x0 x1 x2 x3))))
noncomputable def f_X6_safeOf_l4 (n : Nat) : St → Nat → Int32 → Int32 → Int32 → Option (Int32 × St) :=
  Nat.rec (fun _ _ _ _ _ => none) (fun _ ih => f_X6_safeOf_b4 ih) n
noncomputable def f_X6_safeOf (σ : St) (x0 : Nat) (x1 : Int32) : Option (Int32 × St) :=
  (f_X6_safeOf_l4 FU σ x0 x1 0 0)
noncomputable def f_X6_safe (σ : St) (x0 : Nat) (x1 : Int32) : Option (Int32 × St) :=
  ((f_X6_isLock σ x0 x1).bind fun v_2 => (if v_2 = 0 then (b2 (f_X6_no σ x0 (-2)) fun v_19 s_19 => (some (v_19, s_19))) else (b2 (f_X6_safeOf σ x0 x1) fun v_10 s_10 => (some (v_10, s_10)))))
noncomputable def f_X6_safest_b38 (k_6 : St → Nat → Int32 → Int32 → Int32 → Option (Int32 × St)) (σ : St) (x0 : Nat) (x1 : Int32) (x2 : Int32) (x3 : Int32) : Option (Int32 × St) :=
  ((some (x3 + 1) : Option Int32).bind fun y_38 => (k_6 σ x0 x1 x2 y_38))
noncomputable def f_X6_safest_b6 (k_6 : St → Nat → Int32 → Int32 → Int32 → Option (Int32 × St)) (σ : St) (x0 : Nat) (x1 : Int32) (x2 : Int32) (x3 : Int32) : Option (Int32 × St) :=
  (if (σ.1 x0 11) ≤ x3 then (some (x1, σ)) else (b2 (f_X6_safeOf σ x0 x3) fun v_16 s_16 => ((f_J6_bitCount_0f7a4 v_16).bind fun v_19 => (if x2 < v_19 then (f_X6_safest_b38 k_6 s_16 x0 x3 v_19 x3) else (f_X6_safest_b38 k_6 s_16 x0 x1 x2 x3)))))
noncomputable def f_X6_safest_l6 (n : Nat) : St → Nat → Int32 → Int32 → Int32 → Option (Int32 × St) :=
  Nat.rec (fun _ _ _ _ _ => none) (fun _ ih => f_X6_safest_b6 ih) n
noncomputable def f_X6_safest (σ : St) (x0 : Nat) : Option (Int32 × St) :=
  (f_X6_safest_l6 FU σ x0 (-1) (-1) 0)
noncomputable def f_X6_mended_b61 (k_23 : St → Nat → Int32 → Int32 → Int32 → Int32 → Option (Int32 × St)) (σ : St) (x0 : Nat) (x1 : Int32) (x2 : Int32) (x3 : Int32) (x4 : Int32) : Option (Int32 × St) :=
  ((some (x4 + 1) : Option Int32).bind fun y_61 => (k_23 σ x0 x1 x2 x3 y_61))
noncomputable def f_X6_mended_b23 (k_23 : St → Nat → Int32 → Int32 → Int32 → Int32 → Option (Int32 × St)) (σ : St) (x0 : Nat) (x1 : Int32) (x2 : Int32) (x3 : Int32) (x4 : Int32) : Option (Int32 × St) :=
  (if (σ.1 x0 6) ≤ x4 then (if x1 = 0 then (some (x2, σ)) else (some (x3, σ))) else (b2 (f_X6_least σ x0 x4 (-1)) fun v_36 s_36 => (if 0 ≤ v_36 then ((some (x2 + v_36) : Option Int32).bind fun y_60 => (f_X6_mended_b61 k_23 s_36 x0 x1 y_60 x3 x4)) else ((some (x3 ||| (1 <<< (x4 &&& 31))) : Option Int32).bind fun y_52 => (f_X6_mended_b61 k_23 s_36 x0 x1 x2 y_52 x4)))))
noncomputable def f_X6_mended_l23 (n : Nat) : St → Nat → Int32 → Int32 → Int32 → Int32 → Option (Int32 × St) :=
  Nat.rec (fun _ _ _ _ _ _ => none) (fun _ ih => f_X6_mended_b23 ih) n
noncomputable def f_X6_mended (σ : St) (x0 : Nat) (x1 : Int32) : Option (Int32 × St) :=
  ((f_X6_within x1 0 1).bind fun v_3 => (if v_3 = 0 then (b2 (f_X6_no σ x0 (-2)) fun v_12 s_12 => (some (v_12, s_12))) else (f_X6_mended_l23 FU σ x0 x1 0 0 0)))
noncomputable def f_X6_mend_b99 (k_89 : St → Nat → Int32 → Int32 → Option (Int32 × St)) (k_99 : St → Nat → Int32 → Int32 → Int32 → Option (Int32 × St)) (σ : St) (x0 : Nat) (x1 : Int32) (x2 : Int32) (x3 : Int32) : Option (Int32 × St) :=
  (if (σ.1 x0 3) ≤ x3 then ((some (x2 + 1) : Option Int32).bind fun y_133 => (k_89 σ x0 x1 y_133)) else ((ldI σ 109 ((5 * x2) + x3)).bind fun v_125 => ((stI σ 100 ((5 * x2) + x3) v_125).bind fun s_126 => ((some (x3 + 1) : Option Int32).bind fun y_127 => (k_99 s_126 x0 x1 x2 y_127)))))
noncomputable def f_X6_mend_l99 (k_89 : St → Nat → Int32 → Int32 → Option (Int32 × St)) (n : Nat) : St → Nat → Int32 → Int32 → Int32 → Option (Int32 × St) :=
  Nat.rec (fun _ _ _ _ _ => none) (fun _ ih => f_X6_mend_b99 k_89 ih) n
noncomputable def f_X6_mend_b89 (k_89 : St → Nat → Int32 → Int32 → Option (Int32 × St)) (σ : St) (x0 : Nat) (x1 : Int32) (x2 : Int32) : Option (Int32 × St) :=
  (if (σ.1 x0 6) ≤ x2 then ((ptI σ x0 14 ((σ.1 x0 14) + x1)).bind fun s_146 => (some (x1, s_146))) else (f_X6_mend_l99 k_89 FU σ x0 x1 x2 0))
noncomputable def f_X6_mend_l89 (n : Nat) : St → Nat → Int32 → Int32 → Option (Int32 × St) :=
  Nat.rec (fun _ _ _ _ => none) (fun _ ih => f_X6_mend_b89 ih) n
noncomputable def f_X6_mend_b66 (k_22 : St → Nat → Int32 → Int32 → Int32 → Int32 → Option (Int32 × St)) (σ : St) (x0 : Nat) (x1 : Int32) (x2 : Int32) (x3 : Int32) (x4 : Int32) (t0 : Nat) (t1 : Int32) (t2 : Int32) : Option (Int32 × St) :=
  ((stI σ t0 t1 t2).bind fun s_66 => ((some (x4 + 1) : Option Int32).bind fun y_67 => (k_22 s_66 x0 x1 x2 x3 y_67)))
noncomputable def f_X6_mend_b22 (k_4 : St → Nat → Int32 → Int32 → Option (Int32 × St)) (k_22 : St → Nat → Int32 → Int32 → Int32 → Int32 → Option (Int32 × St)) (σ : St) (x0 : Nat) (x1 : Int32) (x2 : Int32) (x3 : Int32) (x4 : Int32) : Option (Int32 × St) :=
  (if (σ.1 x0 3) ≤ x4 then ((some (x1 + (mxI 0 x3)) : Option Int32).bind fun y_80 => ((some (x2 + 1) : Option Int32).bind fun y_81 => (k_4 σ x0 y_80 y_81))) else (if 0 ≤ x3 then ((ldI σ 108 x4).bind fun v_65 => (f_X6_mend_b66 k_22 σ x0 x1 x2 x3 x4 109 ((5 * x2) + x4) v_65)) else ((ldI σ 100 ((5 * x2) + x4)).bind fun v_55 => (f_X6_mend_b66 k_22 σ x0 x1 x2 x3 x4 109 ((5 * x2) + x4) v_55))))
noncomputable def f_X6_mend_l22 (k_4 : St → Nat → Int32 → Int32 → Option (Int32 × St)) (n : Nat) : St → Nat → Int32 → Int32 → Int32 → Int32 → Option (Int32 × St) :=
  Nat.rec (fun _ _ _ _ _ _ => none) (fun _ ih => f_X6_mend_b22 k_4 ih) n
noncomputable def f_X6_mend_b4 (k_4 : St → Nat → Int32 → Int32 → Option (Int32 × St)) (σ : St) (x0 : Nat) (x1 : Int32) (x2 : Int32) : Option (Int32 × St) :=
  (if (σ.1 x0 6) ≤ x2 then (f_X6_mend_l89 FU σ x0 x1 0) else (b2 (f_X6_least σ x0 x2 (-1)) fun v_15 s_15 => (f_X6_mend_l22 k_4 FU s_15 x0 x1 x2 v_15 0)))
noncomputable def f_X6_mend_l4 (n : Nat) : St → Nat → Int32 → Int32 → Option (Int32 × St) :=
  Nat.rec (fun _ _ _ _ => none) (fun _ ih => f_X6_mend_b4 ih) n
noncomputable def f_X6_mend (σ : St) (x0 : Nat) : Option (Int32 × St) :=
  (f_X6_mend_l4 FU σ x0 0 0)
noncomputable def f_X6_left (σ : St) (x0 : Nat) (x1 : Int32) : Option (Int32 × St) :=
  ((f_X6_isKey σ x0 x1).bind fun v_2 => (if v_2 = 0 then (b2 (f_X6_no σ x0 (-2)) fun v_29 s_29 => (some (v_29, s_29))) else ((f_X6_bears σ x0 x1).bind fun v_11 => ((f_X6_gone σ x0 x1).bind fun v_16 => (some ((mxI 0 (v_11 - v_16)), σ))))))
noncomputable def f_X6_idle_b43 (k_19 : St → Nat → Int32 → Int32 → Int32 → Option (Int32 × St)) (σ : St) (x0 : Nat) (x1 : Int32) (x2 : Int32) (x3 : Int32) : Option (Int32 × St) :=
  ((some (x3 + 1) : Option Int32).bind fun y_43 => (k_19 σ x0 x1 x2 y_43))
noncomputable def f_X6_idle_b19 (k_19 : St → Nat → Int32 → Int32 → Int32 → Option (Int32 × St)) (σ : St) (x0 : Nat) (x1 : Int32) (x2 : Int32) (x3 : Int32) : Option (Int32 × St) :=
  (if (σ.1 x0 11) ≤ x3 then (some (x2, σ)) else ((ldI σ 102 ((5 * x3) + x1)).bind fun v_36 => (if v_36 = 0 then ((some (x2 + 1) : Option Int32).bind fun y_40 => (f_X6_idle_b43 k_19 σ x0 x1 y_40 x3)) else (f_X6_idle_b43 k_19 σ x0 x1 x2 x3))))
noncomputable def f_X6_idle_l19 (n : Nat) : St → Nat → Int32 → Int32 → Int32 → Option (Int32 × St) :=
  Nat.rec (fun _ _ _ _ _ => none) (fun _ ih => f_X6_idle_b19 ih) n
noncomputable def f_X6_idle (σ : St) (x0 : Nat) (x1 : Int32) : Option (Int32 × St) :=
  ((f_X6_isPlace σ x0 x1).bind fun v_2 => (if v_2 = 0 then (b2 (f_X6_no σ x0 (-2)) fun v_11 s_11 => (some (v_11, s_11))) else (f_X6_idle_l19 FU σ x0 x1 0 0)))
noncomputable def f_X6_bothOpen_b164 (σ : St) (k_56 : Nat → Int32 → Int32 → Int32 → Int32 → Int32 → Option Int32) (x0 : Nat) (x1 : Int32) (x2 : Int32) (x3 : Int32) (x4 : Int32) (x5 : Int32) : Option Int32 :=
  ((some (x5 + 1) : Option Int32).bind fun y_164 => (k_56 x0 x1 x2 x3 x4 y_164))
noncomputable def f_X6_bothOpen_b146 (σ : St) (k_94 : Nat → Int32 → Int32 → Int32 → Int32 → Int32 → Int32 → Int32 → Option Int32) (x0 : Nat) (x1 : Int32) (x2 : Int32) (x3 : Int32) (x4 : Int32) (x5 : Int32) (x6 : Int32) (x7 : Int32) : Option Int32 :=
  ((some (x7 + 1) : Option Int32).bind fun y_146 => (k_94 x0 x1 x2 x3 x4 x5 x6 y_146))
noncomputable def f_X6_bothOpen_b94 (σ : St) (k_56 : Nat → Int32 → Int32 → Int32 → Int32 → Int32 → Option Int32) (k_94 : Nat → Int32 → Int32 → Int32 → Int32 → Int32 → Int32 → Int32 → Option Int32) (x0 : Nat) (x1 : Int32) (x2 : Int32) (x3 : Int32) (x4 : Int32) (x5 : Int32) (x6 : Int32) (x7 : Int32) : Option Int32 :=
  (if (σ.1 x0 3) ≤ x7 then (if x6 = 0 then (f_X6_bothOpen_b164 σ k_56 x0 x1 x2 x3 x4 x5) else ((some (x3 ||| (1 <<< (x5 &&& 31))) : Option Int32).bind fun y_163 => (f_X6_bothOpen_b164 σ k_56 x0 x1 x2 y_163 x4 x5))) else ((ldI σ 100 ((5 * x1) + x7)).bind fun v_113 => ((ldI σ 100 ((5 * x2) + x7)).bind fun v_124 => ((ldI σ 102 ((5 * x5) + x7)).bind fun v_139 => (if v_139 ≤ (mxI v_113 v_124) then (f_X6_bothOpen_b146 σ k_94 x0 x1 x2 x3 x4 x5 x6 x7) else (f_X6_bothOpen_b146 σ k_94 x0 x1 x2 x3 x4 x5 0 x7))))))
noncomputable def f_X6_bothOpen_l94 (σ : St) (k_56 : Nat → Int32 → Int32 → Int32 → Int32 → Int32 → Option Int32) (n : Nat) : Nat → Int32 → Int32 → Int32 → Int32 → Int32 → Int32 → Int32 → Option Int32 :=
  Nat.rec (fun _ _ _ _ _ _ _ _ => none) (fun _ ih => f_X6_bothOpen_b94 σ k_56 ih) n
noncomputable def f_X6_bothOpen_b89 (σ : St) (k_56 : Nat → Int32 → Int32 → Int32 → Int32 → Int32 → Option Int32) (x0 : Nat) (x1 : Int32) (x2 : Int32) (x3 : Int32) (x4 : Int32) (x5 : Int32) (t0 : Int32) : Option Int32 :=
  (f_X6_bothOpen_l94 σ k_56 FU x0 x1 x2 x3 x4 x5 t0 0)
noncomputable def f_X6_bothOpen_b56 (σ : St) (k_56 : Nat → Int32 → Int32 → Int32 → Int32 → Int32 → Option Int32) (x0 : Nat) (x1 : Int32) (x2 : Int32) (x3 : Int32) (x4 : Int32) (x5 : Int32) : Option Int32 :=
  (if (σ.1 x0 11) ≤ x5 then (some x3) else (if (σ.1 x0 5) < x4 then (some x3) else ((ldI σ 101 x5).bind fun v_80 => (if v_80 = 0 then (f_X6_bothOpen_b89 σ k_56 x0 x1 x2 x3 x4 x5 1) else (f_X6_bothOpen_b89 σ k_56 x0 x1 x2 x3 x4 x5 0)))))
noncomputable def f_X6_bothOpen_l56 (σ : St) (n : Nat) : Nat → Int32 → Int32 → Int32 → Int32 → Int32 → Option Int32 :=
  Nat.rec (fun _ _ _ _ _ _ => none) (fun _ ih => f_X6_bothOpen_b56 σ ih) n
noncomputable def f_X6_bothOpen_b8 (σ : St) (k_8 : Nat → Int32 → Int32 → Int32 → Int32 → Int32 → Option Int32) (x0 : Nat) (x1 : Int32) (x2 : Int32) (x3 : Int32) (x4 : Int32) (x5 : Int32) : Option Int32 :=
  (if (σ.1 x0 3) ≤ x5 then (f_X6_bothOpen_l56 σ FU x0 x1 x2 x3 x4 0) else ((ldI σ 100 ((5 * x1) + x5)).bind fun v_29 => ((ldI σ 100 ((5 * x2) + x5)).bind fun v_40 => ((some (x4 + (mxI v_29 v_40)) : Option Int32).bind fun y_45 => ((some (x5 + 1) : Option Int32).bind fun y_47 => (k_8 x0 x1 x2 x3 y_45 y_47))))))
noncomputable def f_X6_bothOpen_l8 (σ : St) (n : Nat) : Nat → Int32 → Int32 → Int32 → Int32 → Int32 → Option Int32 :=
  Nat.rec (fun _ _ _ _ _ _ => none) (fun _ ih => f_X6_bothOpen_b8 σ ih) n
noncomputable def f_X6_bothOpen (σ : St) (x0 : Nat) (x1 : Int32) (x2 : Int32) : Option Int32 :=
  (f_X6_bothOpen_l8 σ FU x0 x1 x2 0 0 0)
noncomputable def f_X6_together_b30 (σ : St) (x0 : Nat) : Option (Int32 × St) :=
  (b2 (f_X6_no σ x0 (-2)) fun v_33 s_33 => (some (v_33, s_33)))
noncomputable def f_X6_together (σ : St) (x0 : Nat) (x1 : Int32) (x2 : Int32) : Option (Int32 × St) :=
  ((f_X6_isKey σ x0 x1).bind fun v_2 => (if v_2 = 0 then (f_X6_together_b30 σ x0) else ((f_X6_isKey σ x0 x2).bind fun v_10 => (if v_10 = 0 then (f_X6_together_b30 σ x0) else (if x1 = x2 then (f_X6_together_b30 σ x0) else ((f_X6_bothOpen σ x0 x1 x2).bind fun v_24 => (some (v_24, σ))))))))
noncomputable def f_X6_pair_b75 (k_34 : St → Nat → Int32 → Int32 → Int32 → Int32 → Option (Int32 × St)) (σ : St) (x0 : Nat) (x1 : Int32) (x2 : Int32) (x3 : Int32) (x4 : Int32) : Option (Int32 × St) :=
  ((some (x4 + 1) : Option Int32).bind fun y_75 => (k_34 σ x0 x1 x2 x3 y_75))
noncomputable def f_X6_pair_b34 (k_21 : St → Nat → Int32 → Int32 → Int32 → Option (Int32 × St)) (k_34 : St → Nat → Int32 → Int32 → Int32 → Int32 → Option (Int32 × St)) (σ : St) (x0 : Nat) (x1 : Int32) (x2 : Int32) (x3 : Int32) (x4 : Int32) : Option (Int32 × St) :=
  (if (σ.1 x0 6) ≤ x4 then ((some (x3 + 1) : Option Int32).bind fun y_81 => (k_21 σ x0 x1 x2 y_81)) else ((f_X6_bothOpen σ x0 x3 x4).bind fun v_47 => ((f_J6_bitCount_0f7a4 v_47).bind fun v_50 => (if x2 < v_50 then ((some ((10 * x3) + x4) : Option Int32).bind fun y_74 => (f_X6_pair_b75 k_34 σ x0 y_74 v_50 x3 x4)) else (f_X6_pair_b75 k_34 σ x0 x1 x2 x3 x4)))))
noncomputable def f_X6_pair_l34 (k_21 : St → Nat → Int32 → Int32 → Int32 → Option (Int32 × St)) (n : Nat) : St → Nat → Int32 → Int32 → Int32 → Int32 → Option (Int32 × St) :=
  Nat.rec (fun _ _ _ _ _ _ => none) (fun _ ih => f_X6_pair_b34 k_21 ih) n
noncomputable def f_X6_pair_b21 (k_21 : St → Nat → Int32 → Int32 → Int32 → Option (Int32 × St)) (σ : St) (x0 : Nat) (x1 : Int32) (x2 : Int32) (x3 : Int32) : Option (Int32 × St) :=
  (if (σ.1 x0 6) ≤ x3 then (some (x1, σ)) else ((some (x3 + 1) : Option Int32).bind fun y_32 => (f_X6_pair_l34 k_21 FU σ x0 x1 x2 x3 y_32)))
noncomputable def f_X6_pair_l21 (n : Nat) : St → Nat → Int32 → Int32 → Int32 → Option (Int32 × St) :=
  Nat.rec (fun _ _ _ _ _ => none) (fun _ ih => f_X6_pair_b21 ih) n
noncomputable def f_X6_pair (σ : St) (x0 : Nat) : Option (Int32 × St) :=
  (if 2 ≤ (σ.1 x0 6) then (f_X6_pair_l21 FU σ x0 (-1) (-1) 0) else (b2 (f_X6_no σ x0 (-5)) fun v_11 s_11 => (some (v_11, s_11))))
noncomputable def f_X6_unlike_b34 (σ : St) (k_4 : Nat → Int32 → Int32 → Option Int32) (x0 : Nat) (x1 : Int32) (x2 : Int32) : Option Int32 :=
  ((some (x2 + 1) : Option Int32).bind fun y_34 => (k_4 x0 x1 y_34))
noncomputable def f_X6_unlike_b4 (σ : St) (k_4 : Nat → Int32 → Int32 → Option Int32) (x0 : Nat) (x1 : Int32) (x2 : Int32) : Option Int32 :=
  ((f_X6_rows σ x0).bind fun v_6 => (if v_6 ≤ x2 then (some x1) else ((f_X6_sum σ x0 x2).bind fun v_14 => ((dvI ((σ.1 x0 3) * (σ.1 x0 4)) 2).bind fun v_27 => (if v_14 = v_27 then ((some (x1 + 1) : Option Int32).bind fun y_31 => (f_X6_unlike_b34 σ k_4 x0 y_31 x2)) else (f_X6_unlike_b34 σ k_4 x0 x1 x2))))))
noncomputable def f_X6_unlike_l4 (σ : St) (n : Nat) : Nat → Int32 → Int32 → Option Int32 :=
  Nat.rec (fun _ _ _ => none) (fun _ ih => f_X6_unlike_b4 σ ih) n
noncomputable def f_X6_unlike (σ : St) (x0 : Nat) : Option Int32 :=
  (f_X6_unlike_l4 σ FU x0 0 0)
noncomputable def f_X6_alike_b70 (σ : St) (k_34 : Nat → Int32 → Int32 → Int32 → Int32 → Option Int32) (x0 : Nat) (x1 : Int32) (x2 : Int32) (x3 : Int32) (x4 : Int32) : Option Int32 :=
  ((some (x4 + 1) : Option Int32).bind fun y_70 => (k_34 x0 x1 x2 x3 y_70))
noncomputable def f_X6_alike_b34 (σ : St) (k_12 : Nat → Int32 → Int32 → Option Int32) (k_34 : Nat → Int32 → Int32 → Int32 → Int32 → Option Int32) (x0 : Nat) (x1 : Int32) (x2 : Int32) (x3 : Int32) (x4 : Int32) : Option Int32 :=
  (if (σ.1 x0 3) ≤ x4 then (if x3 = 0 then ((some (x2 + 1) : Option Int32).bind fun y_87 => (k_12 x0 x1 y_87)) else (some ((10 * x1) + x2))) else ((ldI σ 102 ((5 * x1) + x4)).bind fun v_53 => ((ldI σ 102 ((5 * x2) + x4)).bind fun v_64 => (if v_64 ≤ v_53 then (f_X6_alike_b70 σ k_34 x0 x1 x2 x3 x4) else (f_X6_alike_b70 σ k_34 x0 x1 x2 0 x4)))))
noncomputable def f_X6_alike_l34 (σ : St) (k_12 : Nat → Int32 → Int32 → Option Int32) (n : Nat) : Nat → Int32 → Int32 → Int32 → Int32 → Option Int32 :=
  Nat.rec (fun _ _ _ _ _ => none) (fun _ ih => f_X6_alike_b34 σ k_12 ih) n
noncomputable def f_X6_alike_b30 (σ : St) (k_12 : Nat → Int32 → Int32 → Option Int32) (x0 : Nat) (x1 : Int32) (x2 : Int32) (t0 : Int32) : Option Int32 :=
  (f_X6_alike_l34 σ k_12 FU x0 x1 x2 t0 0)
noncomputable def f_X6_alike_b12 (σ : St) (k_2 : Nat → Int32 → Option Int32) (k_12 : Nat → Int32 → Int32 → Option Int32) (x0 : Nat) (x1 : Int32) (x2 : Int32) : Option Int32 :=
  (if (σ.1 x0 11) ≤ x2 then ((some (x1 + 1) : Option Int32).bind fun y_93 => (k_2 x0 y_93)) else (if x1 = x2 then (f_X6_alike_b30 σ k_12 x0 x1 x2 0) else (f_X6_alike_b30 σ k_12 x0 x1 x2 1)))
noncomputable def f_X6_alike_l12 (σ : St) (k_2 : Nat → Int32 → Option Int32) (n : Nat) : Nat → Int32 → Int32 → Option Int32 :=
  Nat.rec (fun _ _ _ => none) (fun _ ih => f_X6_alike_b12 σ k_2 ih) n
noncomputable def f_X6_alike_b2 (σ : St) (k_2 : Nat → Int32 → Option Int32) (x0 : Nat) (x1 : Int32) : Option Int32 :=
  (if (σ.1 x0 11) ≤ x1 then (some (-1)) else (f_X6_alike_l12 σ k_2 FU x0 x1 0))
noncomputable def f_X6_alike_l2 (σ : St) (n : Nat) : Nat → Int32 → Option Int32 :=
  Nat.rec (fun _ _ => none) (fun _ ih => f_X6_alike_b2 σ ih) n
noncomputable def f_X6_alike (σ : St) (x0 : Nat) : Option Int32 :=
  (f_X6_alike_l2 σ FU x0 0)
noncomputable def f_X6_over_b54 (k_19 : St → Nat → Int32 → Int32 → Int32 → Option (Int32 × St)) (σ : St) (x0 : Nat) (x1 : Int32) (x2 : Int32) (x3 : Int32) : Option (Int32 × St) :=
  ((some (x3 + 1) : Option Int32).bind fun y_54 => (k_19 σ x0 x1 x2 y_54))
noncomputable def f_X6_over_b19 (k_19 : St → Nat → Int32 → Int32 → Int32 → Option (Int32 × St)) (σ : St) (x0 : Nat) (x1 : Int32) (x2 : Int32) (x3 : Int32) : Option (Int32 × St) :=
  (if (σ.1 x0 6) ≤ x3 then (some (x2, σ)) else (if x3 = x1 then (f_X6_over_b54 k_19 σ x0 x1 x2 x3) else ((f_X6_openedBy σ x0 x1).bind fun v_34 => ((f_X6_openedBy σ x0 x3).bind fun v_39 => (if (v_34 &&& (v_39 ^^^ (-1))) = 0 then ((some (x2 ||| (1 <<< (x3 &&& 31))) : Option Int32).bind fun y_53 => (f_X6_over_b54 k_19 σ x0 x1 y_53 x3)) else (f_X6_over_b54 k_19 σ x0 x1 x2 x3))))))
noncomputable def f_X6_over_l19 (n : Nat) : St → Nat → Int32 → Int32 → Int32 → Option (Int32 × St) :=
  Nat.rec (fun _ _ _ _ _ => none) (fun _ ih => f_X6_over_b19 ih) n
noncomputable def f_X6_over (σ : St) (x0 : Nat) (x1 : Int32) : Option (Int32 × St) :=
  ((f_X6_isKey σ x0 x1).bind fun v_2 => (if v_2 = 0 then (b2 (f_X6_no σ x0 (-2)) fun v_11 s_11 => (some (v_11, s_11))) else (f_X6_over_l19 FU σ x0 x1 0 0)))
noncomputable def f_X6_chain_b128 (k_14 : St → Nat → Int32 → Int32 → Int32 → Option (Int32 × St)) (σ : St) (x0 : Nat) (x1 : Int32) (x2 : Int32) (x3 : Int32) : Option (Int32 × St) :=
  ((some (x3 + 1) : Option Int32).bind fun y_128 => (k_14 σ x0 x1 x2 y_128))
noncomputable def f_X6_chain_b111 (k_47 : St → Nat → Int32 → Int32 → Int32 → Int32 → Option (Int32 × St)) (σ : St) (x0 : Nat) (x1 : Int32) (x2 : Int32) (x3 : Int32) (x4 : Int32) : Option (Int32 × St) :=
  ((some (x4 + 1) : Option Int32).bind fun y_111 => (k_47 σ x0 x1 x2 x3 y_111))
noncomputable def f_X6_chain_b47 (k_14 : St → Nat → Int32 → Int32 → Int32 → Option (Int32 × St)) (k_47 : St → Nat → Int32 → Int32 → Int32 → Int32 → Option (Int32 × St)) (σ : St) (x0 : Nat) (x1 : Int32) (x2 : Int32) (x3 : Int32) (x4 : Int32) : Option (Int32 × St) :=
  (if (σ.1 x0 6) ≤ x4 then ((ldI σ 109 x3).bind fun v_123 => ((some (mxI x1 v_123) : Option Int32).bind fun y_127 => (f_X6_chain_b128 k_14 σ x0 y_127 x2 x3))) else ((f_X6_openedBy σ x0 x4).bind fun v_59 => ((f_X6_openedBy σ x0 x3).bind fun v_68 => (if v_59 = v_68 then (f_X6_chain_b111 k_47 σ x0 x1 x2 x3 x4) else ((f_X6_openedBy σ x0 x3).bind fun v_78 => (if (v_59 &&& (v_78 ^^^ (-1))) = 0 then ((ldI σ 109 x3).bind fun v_97 => ((ldI σ 109 x4).bind fun v_104 => ((stI σ 109 x3 (mxI v_97 (v_104 + 1))).bind fun s_110 => (f_X6_chain_b111 k_47 s_110 x0 x1 x2 x3 x4)))) else (f_X6_chain_b111 k_47 σ x0 x1 x2 x3 x4)))))))
noncomputable def f_X6_chain_l47 (k_14 : St → Nat → Int32 → Int32 → Int32 → Option (Int32 × St)) (n : Nat) : St → Nat → Int32 → Int32 → Int32 → Int32 → Option (Int32 × St) :=
  Nat.rec (fun _ _ _ _ _ _ => none) (fun _ ih => f_X6_chain_b47 k_14 ih) n
noncomputable def f_X6_chain_b14 (k_4 : St → Nat → Int32 → Int32 → Option (Int32 × St)) (k_14 : St → Nat → Int32 → Int32 → Int32 → Option (Int32 × St)) (σ : St) (x0 : Nat) (x1 : Int32) (x2 : Int32) (x3 : Int32) : Option (Int32 × St) :=
  (if (σ.1 x0 6) ≤ x3 then ((some (x2 + 1) : Option Int32).bind fun y_134 => (k_4 σ x0 x1 y_134)) else ((f_X6_openedBy σ x0 x3).bind fun v_24 => ((f_J6_bitCount_0f7a4 v_24).bind fun v_27 => (if v_27 = x2 then ((stI σ 109 x3 1).bind fun s_43 => (f_X6_chain_l47 k_14 FU s_43 x0 x1 x2 x3 0)) else (f_X6_chain_b128 k_14 σ x0 x1 x2 x3)))))
noncomputable def f_X6_chain_l14 (k_4 : St → Nat → Int32 → Int32 → Option (Int32 × St)) (n : Nat) : St → Nat → Int32 → Int32 → Int32 → Option (Int32 × St) :=
  Nat.rec (fun _ _ _ _ _ => none) (fun _ ih => f_X6_chain_b14 k_4 ih) n
noncomputable def f_X6_chain_b4 (k_4 : St → Nat → Int32 → Int32 → Option (Int32 × St)) (σ : St) (x0 : Nat) (x1 : Int32) (x2 : Int32) : Option (Int32 × St) :=
  (if (σ.1 x0 11) < x2 then (some (x1, σ)) else (f_X6_chain_l14 k_4 FU σ x0 x1 x2 0))
noncomputable def f_X6_chain_l4 (n : Nat) : St → Nat → Int32 → Int32 → Option (Int32 × St) :=
  Nat.rec (fun _ _ _ _ => none) (fun _ ih => f_X6_chain_b4 ih) n
noncomputable def f_X6_chain (σ : St) (x0 : Nat) : Option (Int32 × St) :=
  (f_X6_chain_l4 FU σ x0 0 0)
noncomputable def f_X6_pairs_b4 (σ : St) (k_4 : Nat → Int32 → Int32 → Option Int32) (x0 : Nat) (x1 : Int32) (x2 : Int32) : Option Int32 :=
  (if (σ.1 x0 6) ≤ x2 then (some x1) else ((f_X6_openedBy σ x0 x2).bind fun v_15 => ((f_J6_bitCount_0f7a4 v_15).bind fun v_18 => ((some (x1 + v_18) : Option Int32).bind fun y_22 => ((some (x2 + 1) : Option Int32).bind fun y_23 => (k_4 x0 y_22 y_23))))))
noncomputable def f_X6_pairs_l4 (σ : St) (n : Nat) : Nat → Int32 → Int32 → Option Int32 :=
  Nat.rec (fun _ _ _ => none) (fun _ ih => f_X6_pairs_b4 σ ih) n
noncomputable def f_X6_pairs (σ : St) (x0 : Nat) : Option Int32 :=
  (f_X6_pairs_l4 σ FU x0 0 0)
noncomputable def f_X6_ward (σ : St) (x0 : Nat) (x1 : Int32) : Option (Int32 × St) :=
  ((f_X6_isLock σ x0 x1).bind fun v_2 => (if v_2 = 0 then (b2 (f_X6_no σ x0 (-2)) fun v_11 s_11 => (some (v_11, s_11))) else ((ldI σ 101 x1).bind fun v_20 => (if v_20 = 1 then (b2 (f_X6_no σ x0 (-5)) fun v_28 s_28 => (some (v_28, s_28))) else ((f_X6_pairs σ x0).bind fun v_33 => ((stI σ 101 x1 1).bind fun s_43 => ((f_X6_pairs s_43 x0).bind fun v_45 => ((stI s_43 101 x1 0).bind fun s_55 => (some ((v_33 - v_45), s_55))))))))))
noncomputable def f_X6_found_b350 (k_138 : St → Nat → Int32 → Int32 → Int32 → Int32 → Option (Int32 × St)) (σ : St) (x0 : Nat) (x1 : Int32) (x2 : Int32) (x4 : Int32) (x5 : Int32) : Option (Int32 × St) :=
  ((some (x5 + 1) : Option Int32).bind fun y_350 => (k_138 σ x0 x1 x2 x4 y_350))
noncomputable def f_X6_found_b316 (k_138 : St → Nat → Int32 → Int32 → Int32 → Int32 → Option (Int32 × St)) (k_316 : St → Nat → Int32 → Int32 → Int32 → Int32 → Int32 → Option (Int32 × St)) (σ : St) (x0 : Nat) (x1 : Int32) (x2 : Int32) (x4 : Int32) (x5 : Int32) (x7 : Int32) : Option (Int32 × St) :=
  (if (σ.1 x0 3) ≤ x7 then (f_X6_found_b350 k_138 σ x0 x1 x2 x4 x5) else ((ldI σ 107 x7).bind fun v_342 => ((stI σ 100 ((5 * x5) + x7) v_342).bind fun s_343 => ((some (x7 + 1) : Option Int32).bind fun y_344 => (k_316 s_343 x0 x1 x2 x4 x5 y_344)))))
noncomputable def f_X6_found_l316 (k_138 : St → Nat → Int32 → Int32 → Int32 → Int32 → Option (Int32 × St)) (n : Nat) : St → Nat → Int32 → Int32 → Int32 → Int32 → Int32 → Option (Int32 × St) :=
  Nat.rec (fun _ _ _ _ _ _ _ => none) (fun _ ih => f_X6_found_b316 k_138 ih) n
noncomputable def f_X6_found_b313 (k_138 : St → Nat → Int32 → Int32 → Int32 → Int32 → Option (Int32 × St)) (σ : St) (x0 : Nat) (x1 : Int32) (x2 : Int32) (x4 : Int32) (x5 : Int32) : Option (Int32 × St) :=
  (f_X6_found_l316 k_138 FU σ x0 x1 x2 x4 x5 0)
noncomputable def f_X6_found_b251 (k_138 : St → Nat → Int32 → Int32 → Int32 → Int32 → Option (Int32 × St)) (k_251 : St → Nat → Int32 → Int32 → Int32 → Int32 → Int32 → Option (Int32 × St)) (σ : St) (x0 : Nat) (x1 : Int32) (x2 : Int32) (x4 : Int32) (x5 : Int32) (x7 : Int32) : Option (Int32 × St) :=
  (if (σ.1 x0 3) ≤ x7 then ((f_X6_openedBy σ x0 x5).bind fun v_295 => (if (x2 &&& (v_295 ^^^ (-1))) = 0 then ((some (x4 ||| (1 <<< (x5 &&& 31))) : Option Int32).bind fun y_311 => (f_X6_found_b313 k_138 σ x0 x1 x2 y_311 x5)) else (f_X6_found_b313 k_138 σ x0 x1 x2 x4 x5))) else ((ldJ σ 96 ((40 * x1) + x7)).bind fun v_282 => ((stI σ 100 ((5 * x5) + x7) (Int64.toInt32 v_282)).bind fun s_284 => ((some (x7 + 1) : Option Int32).bind fun y_285 => (k_251 s_284 x0 x1 x2 x4 x5 y_285)))))
noncomputable def f_X6_found_l251 (k_138 : St → Nat → Int32 → Int32 → Int32 → Int32 → Option (Int32 × St)) (n : Nat) : St → Nat → Int32 → Int32 → Int32 → Int32 → Int32 → Option (Int32 × St) :=
  Nat.rec (fun _ _ _ _ _ _ _ => none) (fun _ ih => f_X6_found_b251 k_138 ih) n
noncomputable def f_X6_found_b234 (k_153 : St → Nat → Int32 → Int32 → Int32 → Int32 → Int32 → Int32 → Option (Int32 × St)) (σ : St) (x0 : Nat) (x1 : Int32) (x2 : Int32) (x4 : Int32) (x5 : Int32) (x6 : Int32) (x7 : Int32) : Option (Int32 × St) :=
  ((some (x7 + 1) : Option Int32).bind fun y_234 => (k_153 σ x0 x1 x2 x4 x5 x6 y_234))
noncomputable def f_X6_found_b231 (k_153 : St → Nat → Int32 → Int32 → Int32 → Int32 → Int32 → Int32 → Option (Int32 × St)) (σ : St) (x0 : Nat) (x1 : Int32) (x2 : Int32) (x4 : Int32) (x5 : Int32) (x7 : Int32) : Option (Int32 × St) :=
  (f_X6_found_b234 k_153 σ x0 x1 x2 x4 x5 0 x7)
noncomputable def f_X6_found_b153 (k_138 : St → Nat → Int32 → Int32 → Int32 → Int32 → Option (Int32 × St)) (k_153 : St → Nat → Int32 → Int32 → Int32 → Int32 → Int32 → Int32 → Option (Int32 × St)) (σ : St) (x0 : Nat) (x1 : Int32) (x2 : Int32) (x4 : Int32) (x5 : Int32) (x6 : Int32) (x7 : Int32) : Option (Int32 × St) :=
  (if (σ.1 x0 3) ≤ x7 then (if x6 = 0 then (f_X6_found_b350 k_138 σ x0 x1 x2 x4 x5) else (f_X6_found_l251 k_138 FU σ x0 x1 x2 x4 x5 0)) else ((ldI σ 100 ((5 * x5) + x7)).bind fun v_179 => ((stI σ 107 x7 v_179).bind fun s_180 => ((ldJ s_180 96 ((40 * x1) + x7)).bind fun v_192 => ((some (Int64.toInt32 v_192) : Option Int32).bind fun y_194 => ((ldI s_180 107 x7).bind fun v_202 => (if y_194 < v_202 then (f_X6_found_b231 k_153 s_180 x0 x1 x2 x4 x5 x7) else ((ldI s_180 107 x7).bind fun v_214 => (if y_194 ≤ v_214 then (f_X6_found_b234 k_153 s_180 x0 x1 x2 x4 x5 x6 x7) else ((ldI s_180 97 x5).bind fun v_226 => (if v_226 = 4 then (f_X6_found_b231 k_153 s_180 x0 x1 x2 x4 x5 x7) else (f_X6_found_b234 k_153 s_180 x0 x1 x2 x4 x5 x6 x7))))))))))))
noncomputable def f_X6_found_l153 (k_138 : St → Nat → Int32 → Int32 → Int32 → Int32 → Option (Int32 × St)) (n : Nat) : St → Nat → Int32 → Int32 → Int32 → Int32 → Int32 → Int32 → Option (Int32 × St) :=
  Nat.rec (fun _ _ _ _ _ _ _ _ => none) (fun _ ih => f_X6_found_b153 k_138 ih) n
noncomputable def f_X6_found_b138 (k_138 : St → Nat → Int32 → Int32 → Int32 → Int32 → Option (Int32 × St)) (σ : St) (x0 : Nat) (x1 : Int32) (x2 : Int32) (x4 : Int32) (x5 : Int32) : Option (Int32 × St) :=
  (if (σ.1 x0 6) ≤ x5 then (some (x4, σ)) else (f_X6_found_l153 k_138 FU σ x0 x1 x2 x4 x5 1 0))
noncomputable def f_X6_found_l138 (n : Nat) : St → Nat → Int32 → Int32 → Int32 → Int32 → Option (Int32 × St) :=
  Nat.rec (fun _ _ _ _ _ _ => none) (fun _ ih => f_X6_found_b138 ih) n
noncomputable def f_X6_found_b119 (σ : St) (x0 : Nat) : Option (Int32 × St) :=
  (b2 (f_X6_no σ x0 (-2)) fun v_122 s_122 => (some (v_122, s_122)))
noncomputable def f_X6_found_b72 (k_72 : St → Nat → Int32 → Int32 → Int32 → Option (Int32 × St)) (σ : St) (x0 : Nat) (x1 : Int32) (x2 : Int32) (x4 : Int32) : Option (Int32 × St) :=
  (if (σ.1 x0 3) ≤ x4 then (f_X6_found_l138 FU σ x0 x1 x2 0 0) else ((ldJ σ 96 ((40 * x1) + x4)).bind fun v_92 => (if (lg_cmp v_92 0) < 0 then (f_X6_found_b119 σ x0) else ((ldJ σ 96 ((40 * x1) + x4)).bind fun v_109 => (if (lg_cmp v_109 (Int32.toInt64 (σ.1 x0 4))) ≤ 0 then ((some (x4 + 1) : Option Int32).bind fun y_126 => (k_72 σ x0 x1 x2 y_126)) else (f_X6_found_b119 σ x0))))))
noncomputable def f_X6_found_l72 (n : Nat) : St → Nat → Int32 → Int32 → Int32 → Option (Int32 × St) :=
  Nat.rec (fun _ _ _ _ _ => none) (fun _ ih => f_X6_found_b72 ih) n
noncomputable def f_X6_found_b26 (σ : St) (x0 : Nat) : Option (Int32 × St) :=
  (b2 (f_X6_no σ x0 (-2)) fun v_29 s_29 => (some (v_29, s_29)))
noncomputable def f_X6_found (σ : St) (x0 : Nat) (x1 : Int32) (x2 : Int32) : Option (Int32 × St) :=
  ((f_X6_within x1 0 7).bind fun v_4 => (if v_4 = 0 then (f_X6_found_b26 σ x0) else ((f_X6_within x2 0 ((1 <<< ((σ.1 x0 11) &&& 31)) - 1)).bind fun v_20 => (if v_20 = 0 then (f_X6_found_b26 σ x0) else ((f_X6_noRow σ x0 x1).bind fun v_35 => (if 0 ≤ v_35 then ((ldI σ 95 x1).bind fun v_54 => (if (σ.1 x0 3) ≤ v_54 then (f_X6_found_l72 FU σ x0 x1 x2 0) else (b2 (f_X6_no σ x0 (-2)) fun v_65 s_65 => (some (v_65, s_65))))) else (b2 (f_X6_no σ x0 v_35) fun v_45 s_45 => (some (v_45, s_45)))))))))
noncomputable def f_X6_draw (σ : St) (x0 : Nat) (x1 : Int32) : Option (Int32 × St) :=
  ((ptI σ x0 15 (((σ.1 x0 15) * 1103515245) + 12345)).bind fun s_13 => ((rmI ((Int32.toUInt32 (s_13.1 x0 15) >>> (Int32.toUInt32 16 &&& Int32.toUInt32 31)).toInt32) x1).bind fun v_24 => (some (v_24, s_13))))
noncomputable def f_X6_wears (σ : St) (x0 : Nat) (x1 : Int32) : Option (Int32 × St) :=
  (b2 (f_X6_draw σ x0 4) fun v_2 s_2 => (if v_2 = 0 then (b2 (f_X6_draw s_2 x0 (s_2.1 x0 3)) fun v_15 s_15 => ((ldI s_15 100 ((5 * x1) + v_15)).bind fun v_28 => (if v_28 = (s_15.1 x0 4) then (some (0, s_15)) else ((ldI s_15 100 ((5 * x1) + v_15)).bind fun v_48 => ((stI s_15 100 ((5 * x1) + v_15) (v_48 + 1)).bind fun s_51 => (some (1, s_51))))))) else (some (0, s_2))))
noncomputable def f_X6_use_b16 (σ : St) (x0 : Nat) : Option (Int32 × St) :=
  (b2 (f_X6_no σ x0 (-2)) fun v_19 s_19 => (some (v_19, s_19)))
noncomputable def f_X6_use (σ : St) (x0 : Nat) (x1 : Int32) (x2 : Int32) : Option (Int32 × St) :=
  ((f_X6_isKey σ x0 x1).bind fun v_2 => (if v_2 = 0 then (f_X6_use_b16 σ x0) else ((f_X6_isLock σ x0 x2).bind fun v_10 => (if v_10 = 0 then (f_X6_use_b16 σ x0) else ((f_X6_opensIt σ x0 x1 x2).bind fun v_26 => (if v_26 = 0 then (b2 (f_X6_no σ x0 (-5)) fun v_43 s_43 => (some (v_43, s_43))) else (b2 (f_X6_wears σ x0 x1) fun v_34 s_34 => (some (v_34, s_34)))))))))
noncomputable def f_X6_days_b91 (k_42 : St → Nat → Int32 → Int32 → Int32 → Option (Int32 × St)) (σ : St) (x0 : Nat) (x1 : Int32) (x2 : Int32) (x3 : Int32) : Option (Int32 × St) :=
  ((some (x3 + 1) : Option Int32).bind fun y_91 => (k_42 σ x0 x1 x2 y_91))
noncomputable def f_X6_days_b42 (k_42 : St → Nat → Int32 → Int32 → Int32 → Option (Int32 × St)) (σ : St) (x0 : Nat) (x1 : Int32) (x2 : Int32) (x3 : Int32) : Option (Int32 × St) :=
  (if x1 ≤ x3 then (some (x2, σ)) else (b2 (f_X6_draw σ x0 (σ.1 x0 6)) fun v_52 s_52 => (b2 (f_X6_draw s_52 x0 (s_52.1 x0 11)) fun v_62 s_62 => ((f_X6_opensIt s_62 x0 v_52 v_62).bind fun v_72 => (if v_72 = 0 then (f_X6_days_b91 k_42 s_62 x0 x1 x2 x3) else ((some (x2 + 1) : Option Int32).bind fun y_81 => (b2 (f_X6_wears s_62 x0 v_52) fun v_87 s_87 => (f_X6_days_b91 k_42 s_87 x0 x1 y_81 x3))))))))
noncomputable def f_X6_days_l42 (n : Nat) : St → Nat → Int32 → Int32 → Int32 → Option (Int32 × St) :=
  Nat.rec (fun _ _ _ _ _ => none) (fun _ ih => f_X6_days_b42 ih) n
noncomputable def f_X6_days_b31 (σ : St) (x0 : Nat) : Option (Int32 × St) :=
  (b2 (f_X6_no σ x0 (-5)) fun v_34 s_34 => (some (v_34, s_34)))
noncomputable def f_X6_days (σ : St) (x0 : Nat) (x1 : Int32) : Option (Int32 × St) :=
  ((f_X6_within x1 1 40).bind fun v_4 => (if v_4 = 0 then (b2 (f_X6_no σ x0 (-2)) fun v_13 s_13 => (some (v_13, s_13))) else (if (σ.1 x0 6) = 0 then (f_X6_days_b31 σ x0) else (if (σ.1 x0 11) = 0 then (f_X6_days_b31 σ x0) else (f_X6_days_l42 FU σ x0 x1 0 0)))))
noncomputable def f_X6_renew_b46 (k_46 : St → Nat → Int32 → Int32 → Int32 → Option (Int32 × St)) (σ : St) (x0 : Nat) (x1 : Int32) (x2 : Int32) (x3 : Int32) : Option (Int32 × St) :=
  (if 5 ≤ x3 then (some (x2, σ)) else ((stI σ 100 ((5 * x1) + x3) 0).bind fun s_61 => ((some (x3 + 1) : Option Int32).bind fun y_62 => (k_46 s_61 x0 x1 x2 y_62))))
noncomputable def f_X6_renew_l46 (n : Nat) : St → Nat → Int32 → Int32 → Int32 → Option (Int32 × St) :=
  Nat.rec (fun _ _ _ _ _ => none) (fun _ ih => f_X6_renew_b46 ih) n
noncomputable def f_X6_renew (σ : St) (x0 : Nat) (x1 : Int32) : Option (Int32 × St) :=
  ((f_X6_isKey σ x0 x1).bind fun v_2 => (if v_2 = 0 then (b2 (f_X6_no σ x0 (-2)) fun v_11 s_11 => (some (v_11, s_11))) else ((f_X6_broken σ x0 x1).bind fun v_17 => (if v_17 = 0 then (b2 (f_X6_no σ x0 (-5)) fun v_26 s_26 => (some (v_26, s_26))) else ((ldI σ 97 x1).bind fun v_35 => ((stI σ 97 x1 0).bind fun s_43 => (f_X6_renew_l46 FU s_43 x0 x1 v_35 0)))))))
noncomputable def f_X6_seed (σ : St) (x0 : Nat) (x1 : Int32) : Option (Int32 × St) :=
  ((some (σ.1 x0 15) : Option Int32).bind fun y_4 => ((ptI σ x0 15 x1).bind fun s_7 => (some (y_4, s_7))))
noncomputable def f_X6_image (σ : St) (x0 : Nat) : Option (Int32 × St) :=
  ((ptI σ x0 23 1).bind fun s_2 => ((f_X6_keep s_2 x0 105).bind fun s_10 => (some (1, s_10))))
noncomputable def f_X6_back_b53 (k_24 : St → Nat → Int32 → Option (Int32 × St)) (σ : St) (x0 : Nat) (x1 : Int32) : Option (Int32 × St) :=
  ((some (x1 + 1) : Option Int32).bind fun y_53 => (k_24 σ x0 y_53))
noncomputable def f_X6_back_b24 (k_24 : St → Nat → Int32 → Option (Int32 × St)) (σ : St) (x0 : Nat) (x1 : Int32) : Option (Int32 × St) :=
  (if 8 ≤ x1 then (some (1, σ)) else ((ldI σ 94 x1).bind fun v_35 => (if v_35 < (10 + (σ.1 x0 6)) then (f_X6_back_b53 k_24 σ x0 x1) else ((stI σ 94 x1 (-1)).bind fun s_52 => (f_X6_back_b53 k_24 s_52 x0 x1)))))
noncomputable def f_X6_back_l24 (n : Nat) : St → Nat → Int32 → Option (Int32 × St) :=
  Nat.rec (fun _ _ _ => none) (fun _ ih => f_X6_back_b24 ih) n
noncomputable def f_X6_back (σ : St) (x0 : Nat) : Option (Int32 × St) :=
  (if (σ.1 x0 23) = 0 then (b2 (f_X6_no σ x0 (-5)) fun v_10 s_10 => (some (v_10, s_10))) else ((f_X6_again σ x0 105).bind fun s_19 => (f_X6_back_l24 FU s_19 x0 0)))
noncomputable def f_X6_status_b182 (σ : St) (k_163 : Nat → Int32 → Int32 → Option Int32) (x0 : Nat) (x2 : Int32) (x3 : Int32) : Option Int32 :=
  ((some (x3 + 1) : Option Int32).bind fun y_182 => (k_163 x0 x2 y_182))
noncomputable def f_X6_status_b163 (σ : St) (k_163 : Nat → Int32 → Int32 → Option Int32) (x0 : Nat) (x2 : Int32) (x3 : Int32) : Option Int32 :=
  (if 8 ≤ x3 then (some x2) else ((ldI σ 94 x3).bind fun v_174 => (if v_174 = (-1) then (f_X6_status_b182 σ k_163 x0 x2 x3) else ((some (x2 + 1) : Option Int32).bind fun y_179 => (f_X6_status_b182 σ k_163 x0 y_179 x3)))))
noncomputable def f_X6_status_l163 (σ : St) (n : Nat) : Nat → Int32 → Int32 → Option Int32 :=
  Nat.rec (fun _ _ _ => none) (fun _ ih => f_X6_status_b163 σ ih) n
noncomputable def f_X6_status_b124 (σ : St) (k_124 : Nat → Int32 → Int32 → Option Int32) (x0 : Nat) (x2 : Int32) (x3 : Int32) : Option Int32 :=
  (if (σ.1 x0 11) ≤ x3 then (some x2) else ((ldI σ 101 x3).bind fun v_138 => ((some (x2 ||| (v_138 <<< (x3 &&& 31))) : Option Int32).bind fun y_142 => ((some (x3 + 1) : Option Int32).bind fun y_143 => (k_124 x0 y_142 y_143)))))
noncomputable def f_X6_status_l124 (σ : St) (n : Nat) : Nat → Int32 → Int32 → Option Int32 :=
  Nat.rec (fun _ _ _ => none) (fun _ ih => f_X6_status_b124 σ ih) n
noncomputable def f_X6_status_b114 (σ : St) (k_92 : Nat → Int32 → Int32 → Option Int32) (x0 : Nat) (x2 : Int32) (x3 : Int32) : Option Int32 :=
  ((some (x3 + 1) : Option Int32).bind fun y_114 => (k_92 x0 x2 y_114))
noncomputable def f_X6_status_b92 (σ : St) (k_92 : Nat → Int32 → Int32 → Option Int32) (x0 : Nat) (x2 : Int32) (x3 : Int32) : Option Int32 :=
  (if (σ.1 x0 6) ≤ x3 then (some x2) else ((f_X6_broken σ x0 x3).bind fun v_102 => (if v_102 = 0 then (f_X6_status_b114 σ k_92 x0 x2 x3) else ((some (x2 ||| (1 <<< (x3 &&& 31))) : Option Int32).bind fun y_113 => (f_X6_status_b114 σ k_92 x0 y_113 x3)))))
noncomputable def f_X6_status_l92 (σ : St) (n : Nat) : Nat → Int32 → Int32 → Option Int32 :=
  Nat.rec (fun _ _ _ => none) (fun _ ih => f_X6_status_b92 σ ih) n
noncomputable def f_X6_status (σ : St) (x0 : Nat) (x1 : Int32) : Option Int32 :=
  (if x1 = 0 then (some (σ.1 x0 6)) else (if x1 = 1 then (some (σ.1 x0 11)) else (if x1 = 2 then (some (σ.1 x0 3)) else (if x1 = 3 then (some (σ.1 x0 4)) else (if x1 = 4 then (some (σ.1 x0 5)) else (if x1 = 5 then (some (σ.1 x0 14)) else (if x1 = 6 then (f_X6_status_l92 σ FU x0 0 0) else (if x1 = 7 then (f_X6_status_l124 σ FU x0 0 0) else (if x1 = 8 then (some (σ.1 x0 16)) else (if x1 = 9 then (some (σ.1 x0 15)) else (if x1 = 10 then (f_X6_status_l163 σ FU x0 0 0) else ((f_X6_within x1 12 16).bind fun v_195 => (if v_195 = 0 then (some (-1)) else ((ldI σ 104 (x1 - 10)).bind fun v_209 => (some v_209)))))))))))))))
