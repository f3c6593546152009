theorem ak_1 : ∀ k, aKind 1 k = true → aTag k = 0 := fun k h => by simp only [aKind, decide_eq_true_eq] at h; subst h; rfl
theorem ak_2 : ∀ k, aKind 2 k = true → aTag k = 1 := fun k h => by simp only [aKind, decide_eq_true_eq] at h; subst h; rfl
theorem ak_6 : ∀ k, aKind 6 k = true → aTag k = 0 := fun k h => by simp only [aKind, decide_eq_true_eq] at h; subst h; rfl
theorem ak_3 : ∀ k, aKind 3 k = true → aTag k = 3 := fun k h => by simp only [aKind, decide_eq_true_eq] at h; rcases h with rfl | rfl | rfl <;> rfl
theorem r_216 (μ : Mem) (x0 : Int) (x1 : Int) : qR 216 [(0, x0), (0, x1)] μ = (if x0 < x1 then some ((0, x1), μ) else some ((0, x0), μ)) := by
  show qE 216 0 [(0, x0), (0, x1)] [] μ = _
  refine Eq.trans (s_load (y := 216) (pc := 0) (nx := 1) (a := 0) (b := 0) (x := x0) rfl rfl) ?_
  refine Eq.trans (s_load (y := 216) (pc := 1) (nx := 2) (a := 0) (b := 1) (x := x1) rfl rfl) ?_
  refine Eq.trans (s_iclt (y := 216) (pc := 2) (nx := 5) (b := 9) (tg := 9) rfl rfl) (ite_c ?_ ?_)
  · refine Eq.trans (s_load (y := 216) (pc := 9) (nx := 10) (a := 0) (b := 1) (x := x1) rfl rfl) ?_
    exact s_ret (y := 216) (pc := 10) (nx := 11) (a := 0) rfl (by decide)
  · refine Eq.trans (s_load (y := 216) (pc := 5) (nx := 6) (a := 0) (b := 0) (x := x0) rfl rfl) ?_
    refine Eq.trans (s_goto (y := 216) (pc := 6) (nx := 9) (a := 0) (b := 10) (tg := 10) rfl rfl) ?_
    exact s_ret (y := 216) (pc := 10) (nx := 11) (a := 0) rfl (by decide)
theorem r_217 (μ : Mem) (x0 : Int) (x1 : Int) : qR 217 [(0, x0), (0, x1)] μ = (if x0 ≤ x1 then some ((0, x0), μ) else some ((0, x1), μ)) := by
  show qE 217 0 [(0, x0), (0, x1)] [] μ = _
  refine Eq.trans (s_load (y := 217) (pc := 0) (nx := 1) (a := 0) (b := 0) (x := x0) rfl rfl) ?_
  refine Eq.trans (s_load (y := 217) (pc := 1) (nx := 2) (a := 0) (b := 1) (x := x1) rfl rfl) ?_
  refine Eq.trans (s_icgt (y := 217) (pc := 2) (nx := 5) (b := 9) (tg := 9) rfl rfl) (ite_c ?_ ?_)
  · refine Eq.trans (s_load (y := 217) (pc := 5) (nx := 6) (a := 0) (b := 0) (x := x0) rfl rfl) ?_
    refine Eq.trans (s_goto (y := 217) (pc := 6) (nx := 9) (a := 0) (b := 10) (tg := 10) rfl rfl) ?_
    exact s_ret (y := 217) (pc := 10) (nx := 11) (a := 0) rfl (by decide)
  · refine Eq.trans (s_load (y := 217) (pc := 9) (nx := 10) (a := 0) (b := 1) (x := x1) rfl rfl) ?_
    exact s_ret (y := 217) (pc := 10) (nx := 11) (a := 0) rfl (by decide)
theorem r_218 (μ : Mem) (x0 : Int) (x1 : Int) : qR 218 [(3, x0), (0, x1)] μ = (if 1 ≤ μ (-x0) 0 ∧ μ (-x0) 0 ≤ 6 then qE 218 5 [(3, x0), (0, x1), (0, 0), (0, (μ (-x0) 1))] [] μ else none) := by
  show qE 218 0 [(3, x0), (0, x1), (9, 0), (9, 0)] [] μ = _
  refine Eq.trans (s_push (y := 218) (pc := 0) (nx := 1) (a := 0) (b := 0) rfl) ?_
  refine Eq.trans (s_store (y := 218) (pc := 1) (nx := 2) (a := 0) (b := 2) (ls' := [(3, x0), (0, x1), (0, 0), (9, 0)]) rfl (Nat.le_of_ble_eq_true rfl) rfl) ?_
  refine Eq.trans (s_load (y := 218) (pc := 2) (nx := 3) (a := 3) (b := 0) (x := x0) rfl rfl) ?_
  refine Eq.trans (s_lenq (y := 218) (pc := 3) (nx := 4) (a := 0) (b := 0) rfl) (ite_c ?_ rfl)
  refine Eq.trans (s_store (y := 218) (pc := 4) (nx := 5) (a := 0) (b := 3) (ls' := [(3, x0), (0, x1), (0, 0), (0, (μ (-x0) 1))]) rfl (Nat.le_of_ble_eq_true rfl) rfl) ?_
  rfl
theorem e_218_5 (μ : Mem) (x0 : Int) (x1 : Int) (x2 : Int) (x3 : Int) : qE 218 5 [(3, x0), (0, x1), (0, x2), (0, x3)] [] μ = (if x2 < x3 then (if (x0 : Int) ≠ 1 ∧ aPut μ 1 (μ (-x0) 0) (0, x1) = true ∧ 0 ≤ x2 ∧ x2 < μ (-x0) 1 then qE 218 5 [(3, x0), (0, x1), (0, (w32 (x2 + 1))), (0, x3)] [] (mU μ x0 x2 x1) else none) else some ((9, 0), μ)) := by
  refine Eq.trans (s_load (y := 218) (pc := 5) (nx := 6) (a := 0) (b := 2) (x := x2) rfl rfl) ?_
  refine Eq.trans (s_load (y := 218) (pc := 6) (nx := 7) (a := 0) (b := 3) (x := x3) rfl rfl) ?_
  refine Eq.trans (s_icge (y := 218) (pc := 7) (nx := 10) (b := 20) (tg := 20) rfl rfl) (ite_c ?_ ?_)
  · refine Eq.trans (s_load (y := 218) (pc := 10) (nx := 11) (a := 3) (b := 0) (x := x0) rfl rfl) ?_
    refine Eq.trans (s_load (y := 218) (pc := 11) (nx := 12) (a := 0) (b := 2) (x := x2) rfl rfl) ?_
    refine Eq.trans (s_load (y := 218) (pc := 12) (nx := 13) (a := 0) (b := 1) (x := x1) rfl rfl) ?_
    refine Eq.trans (s_astq (y := 218) (pc := 13) (nx := 14) (a := 1) (b := 0) rfl) (ite_c ?_ rfl)
    refine Eq.trans (s_iinc (y := 218) (pc := 14) (nx := 17) (a := 2) (b := 1) (x := x2) (ls' := [(3, x0), (0, x1), (0, (w32 (x2 + 1))), (0, x3)]) rfl rfl rfl) ?_
    refine Eq.trans (s_goto (y := 218) (pc := 17) (nx := 20) (a := 0) (b := 5) (tg := 5) rfl rfl) ?_
    rfl
  · exact s_retv (y := 218) (pc := 20) (nx := 21) (b := 0) rfl
theorem r_14 (μ : Mem) (x0 : Int) (x2 : Int) : qR 14 [(1, x0), (0, x2)] μ = some ((1, ((Int64.ofInt (lshl x0 4) ||| Int64.ofInt x2).toInt)), μ) := by
  show qE 14 0 [(1, x0), (9, 0), (0, x2)] [] μ = _
  refine Eq.trans (s_load (y := 14) (pc := 0) (nx := 1) (a := 1) (b := 0) (x := x0) rfl rfl) ?_
  refine Eq.trans (s_push (y := 14) (pc := 1) (nx := 2) (a := 0) (b := 4) rfl) ?_
  refine Eq.trans (s_lshl (y := 14) (pc := 2) (nx := 3) (b := 0) rfl) ?_
  refine Eq.trans (s_load (y := 14) (pc := 3) (nx := 4) (a := 0) (b := 2) (x := x2) rfl rfl) ?_
  refine Eq.trans (s_i2l (y := 14) (pc := 4) (nx := 5) (b := 0) rfl) ?_
  refine Eq.trans (s_lor (y := 14) (pc := 5) (nx := 6) (b := 0) rfl) ?_
  exact s_ret (y := 14) (pc := 6) (nx := 7) (a := 1) rfl (by decide)
theorem r_15 (D : Mem) : qR 15 [(3, 100)] (mk D) = qE 15 4 [(3, 100), (1, 0), (9, 0), (0, 0)] [] (mk D) := by
  show qE 15 0 [(3, 100), (9, 0), (9, 0), (9, 0)] [] (mk D) = _
  refine Eq.trans (s_push (y := 15) (pc := 0) (nx := 1) (a := 1) (b := 0) rfl) ?_
  refine Eq.trans (s_store (y := 15) (pc := 1) (nx := 2) (a := 1) (b := 1) (ls' := [(3, 100), (1, 0), (9, 0), (9, 0)]) rfl (Nat.le_of_ble_eq_true rfl) rfl) ?_
  refine Eq.trans (s_push (y := 15) (pc := 2) (nx := 3) (a := 0) (b := 0) rfl) ?_
  refine Eq.trans (s_store (y := 15) (pc := 3) (nx := 4) (a := 0) (b := 3) (ls' := [(3, 100), (1, 0), (9, 0), (0, 0)]) rfl (Nat.le_of_ble_eq_true rfl) rfl) ?_
  rfl
theorem e_15_4 (D : Mem) (x1 : Int) (x3 : Int) : qE 15 4 [(3, 100), (1, x1), (9, 0), (0, x3)] [] (mk D) = ((qR 55 [(3, 100)] (mk D)).bind fun w => qE 15 9 [(3, 100), (1, x1), (9, 0), (0, x3)] (psh w.1 [(0, x3)]) w.2) := by
  refine Eq.trans (s_load (y := 15) (pc := 4) (nx := 5) (a := 0) (b := 3) (x := x3) rfl rfl) ?_
  refine Eq.trans (s_load (y := 15) (pc := 5) (nx := 6) (a := 3) (b := 0) (x := 100) rfl rfl) ?_
  exact s_call (y := 15) (pc := 6) (nx := 9) (a := 55) (b := 0) (as := [(3, 100)]) (r := [(0, x3)]) rfl (Nat.le_of_ble_eq_true rfl) rfl rfl (Nat.le_of_ble_eq_true rfl) (Nat.le_of_ble_eq_true rfl) (Or.inr ⟨rfl, mk_k100 _⟩)
theorem e_15_9 (D : Mem) (x1 : Int) (x3 : Int) (s0 : Int) (s1 : Int) : qE 15 9 [(3, 100), (1, x1), (9, 0), (0, x3)] [(0, s1), (0, s0)] (mk D) = (if s0 < s1 then ((qR 58 [(3, 100), (0, x3)] (mk D)).bind fun w => qE 15 18 [(3, 100), (1, x1), (9, 0), (0, x3)] (psh w.1 [(1, x1)]) w.2) else some ((1, x1), (mk D))) := by
  refine Eq.trans (s_icge (y := 15) (pc := 9) (nx := 12) (b := 28) (tg := 28) rfl rfl) (ite_c ?_ ?_)
  · refine Eq.trans (s_load (y := 15) (pc := 12) (nx := 13) (a := 1) (b := 1) (x := x1) rfl rfl) ?_
    refine Eq.trans (s_load (y := 15) (pc := 13) (nx := 14) (a := 3) (b := 0) (x := 100) rfl rfl) ?_
    refine Eq.trans (s_load (y := 15) (pc := 14) (nx := 15) (a := 0) (b := 3) (x := x3) rfl rfl) ?_
    exact s_call (y := 15) (pc := 15) (nx := 18) (a := 58) (b := 0) (as := [(3, 100), (0, x3)]) (r := [(1, x1)]) rfl (Nat.le_of_ble_eq_true rfl) rfl rfl (Nat.le_of_ble_eq_true rfl) (Nat.le_of_ble_eq_true rfl) (Or.inr ⟨rfl, mk_k100 _⟩)
  · refine Eq.trans (s_load (y := 15) (pc := 28) (nx := 29) (a := 1) (b := 1) (x := x1) rfl rfl) ?_
    exact s_ret (y := 15) (pc := 29) (nx := 30) (a := 1) rfl (by decide)
theorem e_15_18 (D : Mem) (x1 : Int) (x3 : Int) (s0 : Int) (s1 : Int) : qE 15 18 [(3, 100), (1, x1), (9, 0), (0, x3)] [(0, s1), (1, s0)] (mk D) = ((qR 14 [(1, s0), (0, s1)] (mk D)).bind fun w => qE 15 21 [(3, 100), (1, x1), (9, 0), (0, x3)] (psh w.1 []) w.2) := by
  exact s_call (y := 15) (pc := 18) (nx := 21) (a := 14) (b := 0) (as := [(1, s0), (0, s1)]) (r := []) rfl (Nat.le_of_ble_eq_true rfl) rfl rfl (Nat.le_of_ble_eq_true rfl) (Nat.le_of_ble_eq_true rfl) (Or.inl rfl)
theorem e_15_21 (D : Mem) (x1 : Int) (x3 : Int) (s0 : Int) : qE 15 21 [(3, 100), (1, x1), (9, 0), (0, x3)] [(1, s0)] (mk D) = qE 15 4 [(3, 100), (1, s0), (9, 0), (0, (w32 (x3 + 1)))] [] (mk D) := by
  refine Eq.trans (s_store (y := 15) (pc := 21) (nx := 22) (a := 1) (b := 1) (ls' := [(3, 100), (1, s0), (9, 0), (0, x3)]) rfl (Nat.le_of_ble_eq_true rfl) rfl) ?_
  refine Eq.trans (s_iinc (y := 15) (pc := 22) (nx := 25) (a := 3) (b := 1) (x := x3) (ls' := [(3, 100), (1, s0), (9, 0), (0, (w32 (x3 + 1)))]) rfl rfl rfl) ?_
  refine Eq.trans (s_goto (y := 15) (pc := 25) (nx := 28) (a := 0) (b := 4) (tg := 4) rfl rfl) ?_
  rfl
theorem r_16 (μ : Mem) (x0 : Int) : qR 16 [(1, x0)] μ = qE 16 2 [(1, x0), (9, 0), (0, 0)] [] μ := by
  show qE 16 0 [(1, x0), (9, 0), (9, 0)] [] μ = _
  refine Eq.trans (s_push (y := 16) (pc := 0) (nx := 1) (a := 0) (b := 0) rfl) ?_
  refine Eq.trans (s_store (y := 16) (pc := 1) (nx := 2) (a := 0) (b := 2) (ls' := [(1, x0), (9, 0), (0, 0)]) rfl (Nat.le_of_ble_eq_true rfl) rfl) ?_
  rfl
theorem e_16_2 (μ : Mem) (x0 : Int) (x2 : Int) : qE 16 2 [(1, x0), (9, 0), (0, x2)] [] μ = (if x2 < 16 then (if (cmpL (lushr x0 (w32 (4 * x2))) 0) = 0 then some ((0, x2), μ) else qE 16 2 [(1, x0), (9, 0), (0, (w32 (x2 + 1)))] [] μ) else some ((0, x2), μ)) := by
  refine Eq.trans (s_load (y := 16) (pc := 2) (nx := 3) (a := 0) (b := 2) (x := x2) rfl rfl) ?_
  refine Eq.trans (s_push (y := 16) (pc := 3) (nx := 5) (a := 0) (b := 16) rfl) ?_
  refine Eq.trans (s_icge (y := 16) (pc := 5) (nx := 8) (b := 24) (tg := 24) rfl rfl) (ite_c ?_ ?_)
  · refine Eq.trans (s_load (y := 16) (pc := 8) (nx := 9) (a := 1) (b := 0) (x := x0) rfl rfl) ?_
    refine Eq.trans (s_push (y := 16) (pc := 9) (nx := 10) (a := 0) (b := 4) rfl) ?_
    refine Eq.trans (s_load (y := 16) (pc := 10) (nx := 11) (a := 0) (b := 2) (x := x2) rfl rfl) ?_
    refine Eq.trans (s_mul (y := 16) (pc := 11) (nx := 12) (b := 0) rfl) ?_
    refine Eq.trans (s_lushr (y := 16) (pc := 12) (nx := 13) (b := 0) rfl) ?_
    refine Eq.trans (s_push (y := 16) (pc := 13) (nx := 14) (a := 1) (b := 0) rfl) ?_
    refine Eq.trans (s_lcmp (y := 16) (pc := 14) (nx := 15) (a := 0) (b := 0) rfl) ?_
    refine Eq.trans (s_ifeq (y := 16) (pc := 15) (nx := 18) (b := 24) (tg := 24) rfl rfl) (ite_c ?_ ?_)
    · refine Eq.trans (s_load (y := 16) (pc := 24) (nx := 25) (a := 0) (b := 2) (x := x2) rfl rfl) ?_
      exact s_ret (y := 16) (pc := 25) (nx := 26) (a := 0) rfl (by decide)
    · refine Eq.trans (s_iinc (y := 16) (pc := 18) (nx := 21) (a := 2) (b := 1) (x := x2) (ls' := [(1, x0), (9, 0), (0, (w32 (x2 + 1)))]) rfl rfl rfl) ?_
      refine Eq.trans (s_goto (y := 16) (pc := 21) (nx := 24) (a := 0) (b := 2) (tg := 2) rfl rfl) ?_
      rfl
  · refine Eq.trans (s_load (y := 16) (pc := 24) (nx := 25) (a := 0) (b := 2) (x := x2) rfl rfl) ?_
    exact s_ret (y := 16) (pc := 25) (nx := 26) (a := 0) rfl (by decide)
theorem r_17 (μ : Mem) (x0 : Int) (x2 : Int) : qR 17 [(1, x0), (0, x2)] μ = some ((0, (w32 ((Int64.ofInt (lushr x0 (w32 (4 * x2))) &&& Int64.ofInt 15).toInt))), μ) := by
  show qE 17 0 [(1, x0), (9, 0), (0, x2)] [] μ = _
  refine Eq.trans (s_load (y := 17) (pc := 0) (nx := 1) (a := 1) (b := 0) (x := x0) rfl rfl) ?_
  refine Eq.trans (s_push (y := 17) (pc := 1) (nx := 2) (a := 0) (b := 4) rfl) ?_
  refine Eq.trans (s_load (y := 17) (pc := 2) (nx := 3) (a := 0) (b := 2) (x := x2) rfl rfl) ?_
  refine Eq.trans (s_mul (y := 17) (pc := 3) (nx := 4) (b := 0) rfl) ?_
  refine Eq.trans (s_lushr (y := 17) (pc := 4) (nx := 5) (b := 0) rfl) ?_
  refine Eq.trans (s_push (y := 17) (pc := 5) (nx := 8) (a := 1) (b := 15) rfl) ?_
  refine Eq.trans (s_land (y := 17) (pc := 8) (nx := 9) (b := 0) rfl) ?_
  refine Eq.trans (s_l2i (y := 17) (pc := 9) (nx := 10) (b := 0) rfl) ?_
  exact s_ret (y := 17) (pc := 10) (nx := 11) (a := 0) rfl (by decide)
theorem r_18 (μ : Mem) (x0 : Int) (x2 : Int) : qR 18 [(1, x0), (0, x2)] μ = some ((1, ((Int64.ofInt (lshl (lushr (lushr x0 (w32 (4 * x2))) 4) (w32 (4 * x2))) ||| Int64.ofInt ((Int64.ofInt x0 &&& Int64.ofInt (w64 ((lshl 1 (w32 (4 * x2))) - 1))).toInt)).toInt)), μ) := by
  show qE 18 0 [(1, x0), (9, 0), (0, x2), (9, 0), (9, 0), (9, 0)] [] μ = _
  refine Eq.trans (s_push (y := 18) (pc := 0) (nx := 1) (a := 0) (b := 4) rfl) ?_
  refine Eq.trans (s_load (y := 18) (pc := 1) (nx := 2) (a := 0) (b := 2) (x := x2) rfl rfl) ?_
  refine Eq.trans (s_mul (y := 18) (pc := 2) (nx := 3) (b := 0) rfl) ?_
  refine Eq.trans (s_store (y := 18) (pc := 3) (nx := 4) (a := 0) (b := 3) (ls' := [(1, x0), (9, 0), (0, x2), (0, (w32 (4 * x2))), (9, 0), (9, 0)]) rfl (Nat.le_of_ble_eq_true rfl) rfl) ?_
  refine Eq.trans (s_load (y := 18) (pc := 4) (nx := 5) (a := 1) (b := 0) (x := x0) rfl rfl) ?_
  refine Eq.trans (s_push (y := 18) (pc := 5) (nx := 6) (a := 1) (b := 1) rfl) ?_
  refine Eq.trans (s_load (y := 18) (pc := 6) (nx := 7) (a := 0) (b := 3) (x := (w32 (4 * x2))) rfl rfl) ?_
  refine Eq.trans (s_lshl (y := 18) (pc := 7) (nx := 8) (b := 0) rfl) ?_
  refine Eq.trans (s_push (y := 18) (pc := 8) (nx := 9) (a := 1) (b := 1) rfl) ?_
  refine Eq.trans (s_lsub (y := 18) (pc := 9) (nx := 10) (b := 0) rfl) ?_
  refine Eq.trans (s_land (y := 18) (pc := 10) (nx := 11) (b := 0) rfl) ?_
  refine Eq.trans (s_store (y := 18) (pc := 11) (nx := 13) (a := 1) (b := 4) (ls' := [(1, x0), (9, 0), (0, x2), (0, (w32 (4 * x2))), (1, ((Int64.ofInt x0 &&& Int64.ofInt (w64 ((lshl 1 (w32 (4 * x2))) - 1))).toInt)), (9, 0)]) rfl (Nat.le_of_ble_eq_true rfl) rfl) ?_
  refine Eq.trans (s_load (y := 18) (pc := 13) (nx := 14) (a := 1) (b := 0) (x := x0) rfl rfl) ?_
  refine Eq.trans (s_load (y := 18) (pc := 14) (nx := 15) (a := 0) (b := 3) (x := (w32 (4 * x2))) rfl rfl) ?_
  refine Eq.trans (s_lushr (y := 18) (pc := 15) (nx := 16) (b := 0) rfl) ?_
  refine Eq.trans (s_push (y := 18) (pc := 16) (nx := 17) (a := 0) (b := 4) rfl) ?_
  refine Eq.trans (s_lushr (y := 18) (pc := 17) (nx := 18) (b := 0) rfl) ?_
  refine Eq.trans (s_load (y := 18) (pc := 18) (nx := 19) (a := 0) (b := 3) (x := (w32 (4 * x2))) rfl rfl) ?_
  refine Eq.trans (s_lshl (y := 18) (pc := 19) (nx := 20) (b := 0) rfl) ?_
  refine Eq.trans (s_load (y := 18) (pc := 20) (nx := 22) (a := 1) (b := 4) (x := ((Int64.ofInt x0 &&& Int64.ofInt (w64 ((lshl 1 (w32 (4 * x2))) - 1))).toInt)) rfl rfl) ?_
  refine Eq.trans (s_lor (y := 18) (pc := 22) (nx := 23) (b := 0) rfl) ?_
  exact s_ret (y := 18) (pc := 23) (nx := 24) (a := 1) rfl (by decide)
theorem r_19 (μ : Mem) (x0 : Int) (x2 : Int) : qR 19 [(1, x0), (1, x2)] μ = ((qR 16 [(1, x0)] μ).bind fun w => qE 19 4 [(1, x0), (9, 0), (1, x2), (9, 0), (9, 0), (9, 0), (9, 0), (9, 0), (9, 0), (9, 0), (9, 0)] (psh w.1 []) w.2) := by
  show qE 19 0 [(1, x0), (9, 0), (1, x2), (9, 0), (9, 0), (9, 0), (9, 0), (9, 0), (9, 0), (9, 0), (9, 0)] [] μ = _
  refine Eq.trans (s_load (y := 19) (pc := 0) (nx := 1) (a := 1) (b := 0) (x := x0) rfl rfl) ?_
  exact s_call (y := 19) (pc := 1) (nx := 4) (a := 16) (b := 0) (as := [(1, x0)]) (r := []) rfl (Nat.le_of_ble_eq_true rfl) rfl rfl (Nat.le_of_ble_eq_true rfl) (Nat.le_of_ble_eq_true rfl) (Or.inl rfl)
theorem e_19_4 (μ : Mem) (x0 : Int) (x2 : Int) (s0 : Int) : qE 19 4 [(1, x0), (9, 0), (1, x2), (9, 0), (9, 0), (9, 0), (9, 0), (9, 0), (9, 0), (9, 0), (9, 0)] [(0, s0)] μ = ((qR 16 [(1, x2)] μ).bind fun w => qE 19 10 [(1, x0), (9, 0), (1, x2), (9, 0), (0, s0), (9, 0), (9, 0), (9, 0), (9, 0), (9, 0), (9, 0)] (psh w.1 []) w.2) := by
  refine Eq.trans (s_store (y := 19) (pc := 4) (nx := 6) (a := 0) (b := 4) (ls' := [(1, x0), (9, 0), (1, x2), (9, 0), (0, s0), (9, 0), (9, 0), (9, 0), (9, 0), (9, 0), (9, 0)]) rfl (Nat.le_of_ble_eq_true rfl) rfl) ?_
  refine Eq.trans (s_load (y := 19) (pc := 6) (nx := 7) (a := 1) (b := 2) (x := x2) rfl rfl) ?_
  exact s_call (y := 19) (pc := 7) (nx := 10) (a := 16) (b := 0) (as := [(1, x2)]) (r := []) rfl (Nat.le_of_ble_eq_true rfl) rfl rfl (Nat.le_of_ble_eq_true rfl) (Nat.le_of_ble_eq_true rfl) (Or.inl rfl)
theorem e_19_10 (μ : Mem) (x0 : Int) (x2 : Int) (x4 : Int) (s0 : Int) : qE 19 10 [(1, x0), (9, 0), (1, x2), (9, 0), (0, x4), (9, 0), (9, 0), (9, 0), (9, 0), (9, 0), (9, 0)] [(0, s0)] μ = ((qR 217 [(0, x4), (0, s0)] μ).bind fun w => qE 19 19 [(1, x0), (9, 0), (1, x2), (9, 0), (0, x4), (0, s0), (9, 0), (9, 0), (9, 0), (9, 0), (9, 0)] (psh w.1 []) w.2) := by
  refine Eq.trans (s_store (y := 19) (pc := 10) (nx := 12) (a := 0) (b := 5) (ls' := [(1, x0), (9, 0), (1, x2), (9, 0), (0, x4), (0, s0), (9, 0), (9, 0), (9, 0), (9, 0), (9, 0)]) rfl (Nat.le_of_ble_eq_true rfl) rfl) ?_
  refine Eq.trans (s_load (y := 19) (pc := 12) (nx := 14) (a := 0) (b := 4) (x := x4) rfl rfl) ?_
  refine Eq.trans (s_load (y := 19) (pc := 14) (nx := 16) (a := 0) (b := 5) (x := s0) rfl rfl) ?_
  exact s_call (y := 19) (pc := 16) (nx := 19) (a := 217) (b := 0) (as := [(0, x4), (0, s0)]) (r := []) rfl (Nat.le_of_ble_eq_true rfl) rfl rfl (Nat.le_of_ble_eq_true rfl) (Nat.le_of_ble_eq_true rfl) (Or.inl rfl)
theorem e_19_19 (μ : Mem) (x0 : Int) (x2 : Int) (x4 : Int) (x5 : Int) (s0 : Int) : qE 19 19 [(1, x0), (9, 0), (1, x2), (9, 0), (0, x4), (0, x5), (9, 0), (9, 0), (9, 0), (9, 0), (9, 0)] [(0, s0)] μ = qE 19 43 [(1, x0), (9, 0), (1, x2), (9, 0), (0, x4), (0, x5), (0, s0), (1, (lushr x0 (w32 (4 * (w32 (x4 - s0)))))), (9, 0), (1, (lushr x2 (w32 (4 * (w32 (x5 - s0)))))), (9, 0)] [] μ := by
  refine Eq.trans (s_store (y := 19) (pc := 19) (nx := 21) (a := 0) (b := 6) (ls' := [(1, x0), (9, 0), (1, x2), (9, 0), (0, x4), (0, x5), (0, s0), (9, 0), (9, 0), (9, 0), (9, 0)]) rfl (Nat.le_of_ble_eq_true rfl) rfl) ?_
  refine Eq.trans (s_load (y := 19) (pc := 21) (nx := 22) (a := 1) (b := 0) (x := x0) rfl rfl) ?_
  refine Eq.trans (s_push (y := 19) (pc := 22) (nx := 23) (a := 0) (b := 4) rfl) ?_
  refine Eq.trans (s_load (y := 19) (pc := 23) (nx := 25) (a := 0) (b := 4) (x := x4) rfl rfl) ?_
  refine Eq.trans (s_load (y := 19) (pc := 25) (nx := 27) (a := 0) (b := 6) (x := s0) rfl rfl) ?_
  refine Eq.trans (s_sub (y := 19) (pc := 27) (nx := 28) (b := 0) rfl) ?_
  refine Eq.trans (s_mul (y := 19) (pc := 28) (nx := 29) (b := 0) rfl) ?_
  refine Eq.trans (s_lushr (y := 19) (pc := 29) (nx := 30) (b := 0) rfl) ?_
  refine Eq.trans (s_store (y := 19) (pc := 30) (nx := 32) (a := 1) (b := 7) (ls' := [(1, x0), (9, 0), (1, x2), (9, 0), (0, x4), (0, x5), (0, s0), (1, (lushr x0 (w32 (4 * (w32 (x4 - s0)))))), (9, 0), (9, 0), (9, 0)]) rfl (Nat.le_of_ble_eq_true rfl) rfl) ?_
  refine Eq.trans (s_load (y := 19) (pc := 32) (nx := 33) (a := 1) (b := 2) (x := x2) rfl rfl) ?_
  refine Eq.trans (s_push (y := 19) (pc := 33) (nx := 34) (a := 0) (b := 4) rfl) ?_
  refine Eq.trans (s_load (y := 19) (pc := 34) (nx := 36) (a := 0) (b := 5) (x := x5) rfl rfl) ?_
  refine Eq.trans (s_load (y := 19) (pc := 36) (nx := 38) (a := 0) (b := 6) (x := s0) rfl rfl) ?_
  refine Eq.trans (s_sub (y := 19) (pc := 38) (nx := 39) (b := 0) rfl) ?_
  refine Eq.trans (s_mul (y := 19) (pc := 39) (nx := 40) (b := 0) rfl) ?_
  refine Eq.trans (s_lushr (y := 19) (pc := 40) (nx := 41) (b := 0) rfl) ?_
  refine Eq.trans (s_store (y := 19) (pc := 41) (nx := 43) (a := 1) (b := 9) (ls' := [(1, x0), (9, 0), (1, x2), (9, 0), (0, x4), (0, x5), (0, s0), (1, (lushr x0 (w32 (4 * (w32 (x4 - s0)))))), (9, 0), (1, (lushr x2 (w32 (4 * (w32 (x5 - s0)))))), (9, 0)]) rfl (Nat.le_of_ble_eq_true rfl) rfl) ?_
  rfl
theorem e_19_43 (μ : Mem) (x0 : Int) (x2 : Int) (x4 : Int) (x5 : Int) (x6 : Int) (x7 : Int) (x9 : Int) : qE 19 43 [(1, x0), (9, 0), (1, x2), (9, 0), (0, x4), (0, x5), (0, x6), (1, x7), (9, 0), (1, x9), (9, 0)] [] μ = (if x6 ≤ 0 then some ((0, x6), μ) else (if (cmpL x7 x9) = 0 then some ((0, x6), μ) else qE 19 43 [(1, x0), (9, 0), (1, x2), (9, 0), (0, x4), (0, x5), (0, (w32 (x6 + (-1)))), (1, (lushr x7 4)), (9, 0), (1, (lushr x9 4)), (9, 0)] [] μ)) := by
  refine Eq.trans (s_load (y := 19) (pc := 43) (nx := 45) (a := 0) (b := 6) (x := x6) rfl rfl) ?_
  refine Eq.trans (s_ifle (y := 19) (pc := 45) (nx := 48) (b := 74) (tg := 74) rfl rfl) (ite_c ?_ ?_)
  · refine Eq.trans (s_load (y := 19) (pc := 74) (nx := 76) (a := 0) (b := 6) (x := x6) rfl rfl) ?_
    exact s_ret (y := 19) (pc := 76) (nx := 77) (a := 0) rfl (by decide)
  · refine Eq.trans (s_load (y := 19) (pc := 48) (nx := 50) (a := 1) (b := 7) (x := x7) rfl rfl) ?_
    refine Eq.trans (s_load (y := 19) (pc := 50) (nx := 52) (a := 1) (b := 9) (x := x9) rfl rfl) ?_
    refine Eq.trans (s_lcmp (y := 19) (pc := 52) (nx := 53) (a := 0) (b := 0) rfl) ?_
    refine Eq.trans (s_ifeq (y := 19) (pc := 53) (nx := 56) (b := 74) (tg := 74) rfl rfl) (ite_c ?_ ?_)
    · refine Eq.trans (s_load (y := 19) (pc := 74) (nx := 76) (a := 0) (b := 6) (x := x6) rfl rfl) ?_
      exact s_ret (y := 19) (pc := 76) (nx := 77) (a := 0) rfl (by decide)
    · refine Eq.trans (s_load (y := 19) (pc := 56) (nx := 58) (a := 1) (b := 7) (x := x7) rfl rfl) ?_
      refine Eq.trans (s_push (y := 19) (pc := 58) (nx := 59) (a := 0) (b := 4) rfl) ?_
      refine Eq.trans (s_lushr (y := 19) (pc := 59) (nx := 60) (b := 0) rfl) ?_
      refine Eq.trans (s_store (y := 19) (pc := 60) (nx := 62) (a := 1) (b := 7) (ls' := [(1, x0), (9, 0), (1, x2), (9, 0), (0, x4), (0, x5), (0, x6), (1, (lushr x7 4)), (9, 0), (1, x9), (9, 0)]) rfl (Nat.le_of_ble_eq_true rfl) rfl) ?_
      refine Eq.trans (s_load (y := 19) (pc := 62) (nx := 64) (a := 1) (b := 9) (x := x9) rfl rfl) ?_
      refine Eq.trans (s_push (y := 19) (pc := 64) (nx := 65) (a := 0) (b := 4) rfl) ?_
      refine Eq.trans (s_lushr (y := 19) (pc := 65) (nx := 66) (b := 0) rfl) ?_
      refine Eq.trans (s_store (y := 19) (pc := 66) (nx := 68) (a := 1) (b := 9) (ls' := [(1, x0), (9, 0), (1, x2), (9, 0), (0, x4), (0, x5), (0, x6), (1, (lushr x7 4)), (9, 0), (1, (lushr x9 4)), (9, 0)]) rfl (Nat.le_of_ble_eq_true rfl) rfl) ?_
      refine Eq.trans (s_iinc (y := 19) (pc := 68) (nx := 71) (a := 6) (b := (-1)) (x := x6) (ls' := [(1, x0), (9, 0), (1, x2), (9, 0), (0, x4), (0, x5), (0, (w32 (x6 + (-1)))), (1, (lushr x7 4)), (9, 0), (1, (lushr x9 4)), (9, 0)]) rfl rfl rfl) ?_
      refine Eq.trans (s_goto (y := 19) (pc := 71) (nx := 74) (a := 0) (b := 43) (tg := 43) rfl rfl) ?_
      rfl
theorem r_20 (μ : Mem) (x0 : Int) (x2 : Int) : qR 20 [(1, x0), (1, x2)] μ = ((qR 19 [(1, x0), (1, x2)] μ).bind fun w => qE 20 5 [(1, x0), (9, 0), (1, x2), (9, 0)] (psh w.1 []) w.2) := by
  show qE 20 0 [(1, x0), (9, 0), (1, x2), (9, 0)] [] μ = _
  refine Eq.trans (s_load (y := 20) (pc := 0) (nx := 1) (a := 1) (b := 0) (x := x0) rfl rfl) ?_
  refine Eq.trans (s_load (y := 20) (pc := 1) (nx := 2) (a := 1) (b := 2) (x := x2) rfl rfl) ?_
  exact s_call (y := 20) (pc := 2) (nx := 5) (a := 19) (b := 0) (as := [(1, x0), (1, x2)]) (r := []) rfl (Nat.le_of_ble_eq_true rfl) rfl rfl (Nat.le_of_ble_eq_true rfl) (Nat.le_of_ble_eq_true rfl) (Or.inl rfl)
theorem e_20_5 (μ : Mem) (x0 : Int) (x2 : Int) (s0 : Int) : qE 20 5 [(1, x0), (9, 0), (1, x2), (9, 0)] [(0, s0)] μ = ((qR 16 [(1, x2)] μ).bind fun w => qE 20 9 [(1, x0), (9, 0), (1, x2), (9, 0)] (psh w.1 [(0, s0)]) w.2) := by
  refine Eq.trans (s_load (y := 20) (pc := 5) (nx := 6) (a := 1) (b := 2) (x := x2) rfl rfl) ?_
  exact s_call (y := 20) (pc := 6) (nx := 9) (a := 16) (b := 0) (as := [(1, x2)]) (r := [(0, s0)]) rfl (Nat.le_of_ble_eq_true rfl) rfl rfl (Nat.le_of_ble_eq_true rfl) (Nat.le_of_ble_eq_true rfl) (Or.inl rfl)
theorem e_20_9 (μ : Mem) (x0 : Int) (x2 : Int) (s0 : Int) (s1 : Int) : qE 20 9 [(1, x0), (9, 0), (1, x2), (9, 0)] [(0, s1), (0, s0)] μ = (if s0 = s1 then some ((0, 1), μ) else some ((0, 0), μ)) := by
  refine Eq.trans (s_icne (y := 20) (pc := 9) (nx := 12) (b := 16) (tg := 16) rfl rfl) (ite_c ?_ ?_)
  · refine Eq.trans (s_push (y := 20) (pc := 12) (nx := 13) (a := 0) (b := 1) rfl) ?_
    refine Eq.trans (s_goto (y := 20) (pc := 13) (nx := 16) (a := 0) (b := 17) (tg := 17) rfl rfl) ?_
    exact s_retz (y := 20) (pc := 17) (nx := 18) rfl (by decide)
  · refine Eq.trans (s_push (y := 20) (pc := 16) (nx := 17) (a := 0) (b := 0) rfl) ?_
    exact s_retz (y := 20) (pc := 17) (nx := 18) rfl (by decide)
theorem r_21 (μ : Mem) (x0 : Int) (x2 : Int) : qR 21 [(1, x0), (1, x2)] μ = ((qR 16 [(1, x0)] μ).bind fun w => qE 21 4 [(1, x0), (9, 0), (1, x2), (9, 0), (9, 0)] (psh w.1 []) w.2) := by
  show qE 21 0 [(1, x0), (9, 0), (1, x2), (9, 0), (9, 0)] [] μ = _
  refine Eq.trans (s_load (y := 21) (pc := 0) (nx := 1) (a := 1) (b := 0) (x := x0) rfl rfl) ?_
  exact s_call (y := 21) (pc := 1) (nx := 4) (a := 16) (b := 0) (as := [(1, x0)]) (r := []) rfl (Nat.le_of_ble_eq_true rfl) rfl rfl (Nat.le_of_ble_eq_true rfl) (Nat.le_of_ble_eq_true rfl) (Or.inl rfl)
theorem e_21_4 (μ : Mem) (x0 : Int) (x2 : Int) (s0 : Int) : qE 21 4 [(1, x0), (9, 0), (1, x2), (9, 0), (9, 0)] [(0, s0)] μ = ((qR 16 [(1, x2)] μ).bind fun w => qE 21 8 [(1, x0), (9, 0), (1, x2), (9, 0), (9, 0)] (psh w.1 [(0, s0)]) w.2) := by
  refine Eq.trans (s_load (y := 21) (pc := 4) (nx := 5) (a := 1) (b := 2) (x := x2) rfl rfl) ?_
  exact s_call (y := 21) (pc := 5) (nx := 8) (a := 16) (b := 0) (as := [(1, x2)]) (r := [(0, s0)]) rfl (Nat.le_of_ble_eq_true rfl) rfl rfl (Nat.le_of_ble_eq_true rfl) (Nat.le_of_ble_eq_true rfl) (Or.inl rfl)
theorem e_21_8 (μ : Mem) (x0 : Int) (x2 : Int) (s0 : Int) (s1 : Int) : qE 21 8 [(1, x0), (9, 0), (1, x2), (9, 0), (9, 0)] [(0, s1), (0, s0)] μ = (if (w32 (s0 - s1)) = 0 then ((qR 22 [(1, x0), (1, x2)] μ).bind fun w => qE 21 21 [(1, x0), (9, 0), (1, x2), (9, 0), (0, (w32 (s0 - s1)))] (psh w.1 []) w.2) else (if (w32 (s0 - s1)) = (-1) then ((qR 23 [(1, x0), (1, x2)] μ).bind fun w => qE 21 37 [(1, x0), (9, 0), (1, x2), (9, 0), (0, (w32 (s0 - s1)))] (psh w.1 []) w.2) else qE 21 42 [(1, x0), (9, 0), (1, x2), (9, 0), (0, (w32 (s0 - s1)))] [] μ)) := by
  refine Eq.trans (s_sub (y := 21) (pc := 8) (nx := 9) (b := 0) rfl) ?_
  refine Eq.trans (s_store (y := 21) (pc := 9) (nx := 11) (a := 0) (b := 4) (ls' := [(1, x0), (9, 0), (1, x2), (9, 0), (0, (w32 (s0 - s1)))]) rfl (Nat.le_of_ble_eq_true rfl) rfl) ?_
  refine Eq.trans (s_load (y := 21) (pc := 11) (nx := 13) (a := 0) (b := 4) (x := (w32 (s0 - s1))) rfl rfl) ?_
  refine Eq.trans (s_ifne (y := 21) (pc := 13) (nx := 16) (b := 26) (tg := 26) rfl rfl) (ite_c ?_ ?_)
  · refine Eq.trans (s_load (y := 21) (pc := 16) (nx := 17) (a := 1) (b := 0) (x := x0) rfl rfl) ?_
    refine Eq.trans (s_load (y := 21) (pc := 17) (nx := 18) (a := 1) (b := 2) (x := x2) rfl rfl) ?_
    exact s_call (y := 21) (pc := 18) (nx := 21) (a := 22) (b := 0) (as := [(1, x0), (1, x2)]) (r := []) rfl (Nat.le_of_ble_eq_true rfl) rfl rfl (Nat.le_of_ble_eq_true rfl) (Nat.le_of_ble_eq_true rfl) (Or.inl rfl)
  · refine Eq.trans (s_load (y := 21) (pc := 26) (nx := 28) (a := 0) (b := 4) (x := (w32 (s0 - s1))) rfl rfl) ?_
    refine Eq.trans (s_push (y := 21) (pc := 28) (nx := 29) (a := 0) (b := (-1)) rfl) ?_
    refine Eq.trans (s_icne (y := 21) (pc := 29) (nx := 32) (b := 42) (tg := 42) rfl rfl) (ite_c ?_ ?_)
    · refine Eq.trans (s_load (y := 21) (pc := 32) (nx := 33) (a := 1) (b := 0) (x := x0) rfl rfl) ?_
      refine Eq.trans (s_load (y := 21) (pc := 33) (nx := 34) (a := 1) (b := 2) (x := x2) rfl rfl) ?_
      exact s_call (y := 21) (pc := 34) (nx := 37) (a := 23) (b := 0) (as := [(1, x0), (1, x2)]) (r := []) rfl (Nat.le_of_ble_eq_true rfl) rfl rfl (Nat.le_of_ble_eq_true rfl) (Nat.le_of_ble_eq_true rfl) (Or.inl rfl)
    · rfl
theorem e_21_21 (μ : Mem) (x0 : Int) (x2 : Int) (x4 : Int) (s0 : Int) : qE 21 21 [(1, x0), (9, 0), (1, x2), (9, 0), (0, x4)] [(0, s0)] μ = (if s0 = 0 then (if x4 = (-1) then ((qR 23 [(1, x0), (1, x2)] μ).bind fun w => qE 21 37 [(1, x0), (9, 0), (1, x2), (9, 0), (0, x4)] (psh w.1 []) w.2) else qE 21 42 [(1, x0), (9, 0), (1, x2), (9, 0), (0, x4)] [] μ) else some ((0, 0), μ)) := by
  refine Eq.trans (s_ifeq (y := 21) (pc := 21) (nx := 24) (b := 26) (tg := 26) rfl rfl) (ite_c ?_ ?_)
  · refine Eq.trans (s_load (y := 21) (pc := 26) (nx := 28) (a := 0) (b := 4) (x := x4) rfl rfl) ?_
    refine Eq.trans (s_push (y := 21) (pc := 28) (nx := 29) (a := 0) (b := (-1)) rfl) ?_
    refine Eq.trans (s_icne (y := 21) (pc := 29) (nx := 32) (b := 42) (tg := 42) rfl rfl) (ite_c ?_ ?_)
    · refine Eq.trans (s_load (y := 21) (pc := 32) (nx := 33) (a := 1) (b := 0) (x := x0) rfl rfl) ?_
      refine Eq.trans (s_load (y := 21) (pc := 33) (nx := 34) (a := 1) (b := 2) (x := x2) rfl rfl) ?_
      exact s_call (y := 21) (pc := 34) (nx := 37) (a := 23) (b := 0) (as := [(1, x0), (1, x2)]) (r := []) rfl (Nat.le_of_ble_eq_true rfl) rfl rfl (Nat.le_of_ble_eq_true rfl) (Nat.le_of_ble_eq_true rfl) (Or.inl rfl)
    · rfl
  · refine Eq.trans (s_push (y := 21) (pc := 24) (nx := 25) (a := 0) (b := 0) rfl) ?_
    exact s_ret (y := 21) (pc := 25) (nx := 26) (a := 0) rfl (by decide)
theorem e_21_37 (μ : Mem) (x0 : Int) (x2 : Int) (x4 : Int) (s0 : Int) : qE 21 37 [(1, x0), (9, 0), (1, x2), (9, 0), (0, x4)] [(0, s0)] μ = (if s0 = 0 then qE 21 42 [(1, x0), (9, 0), (1, x2), (9, 0), (0, x4)] [] μ else some ((0, 1), μ)) := by
  refine Eq.trans (s_ifeq (y := 21) (pc := 37) (nx := 40) (b := 42) (tg := 42) rfl rfl) (ite_c ?_ ?_)
  · rfl
  · refine Eq.trans (s_push (y := 21) (pc := 40) (nx := 41) (a := 0) (b := 1) rfl) ?_
    exact s_ret (y := 21) (pc := 41) (nx := 42) (a := 0) rfl (by decide)
theorem e_21_42 (μ : Mem) (x0 : Int) (x2 : Int) (x4 : Int) : qE 21 42 [(1, x0), (9, 0), (1, x2), (9, 0), (0, x4)] [] μ = (if x4 = 1 then ((qR 24 [(1, x0), (1, x2)] μ).bind fun w => qE 21 53 [(1, x0), (9, 0), (1, x2), (9, 0), (0, x4)] (psh w.1 []) w.2) else some ((0, (-1)), μ)) := by
  refine Eq.trans (s_load (y := 21) (pc := 42) (nx := 44) (a := 0) (b := 4) (x := x4) rfl rfl) ?_
  refine Eq.trans (s_push (y := 21) (pc := 44) (nx := 45) (a := 0) (b := 1) rfl) ?_
  refine Eq.trans (s_icne (y := 21) (pc := 45) (nx := 48) (b := 58) (tg := 58) rfl rfl) (ite_c ?_ ?_)
  · refine Eq.trans (s_load (y := 21) (pc := 48) (nx := 49) (a := 1) (b := 0) (x := x0) rfl rfl) ?_
    refine Eq.trans (s_load (y := 21) (pc := 49) (nx := 50) (a := 1) (b := 2) (x := x2) rfl rfl) ?_
    exact s_call (y := 21) (pc := 50) (nx := 53) (a := 24) (b := 0) (as := [(1, x0), (1, x2)]) (r := []) rfl (Nat.le_of_ble_eq_true rfl) rfl rfl (Nat.le_of_ble_eq_true rfl) (Nat.le_of_ble_eq_true rfl) (Or.inl rfl)
  · refine Eq.trans (s_push (y := 21) (pc := 58) (nx := 59) (a := 0) (b := (-1)) rfl) ?_
    exact s_ret (y := 21) (pc := 59) (nx := 60) (a := 0) rfl (by decide)
theorem e_21_53 (μ : Mem) (x0 : Int) (x2 : Int) (x4 : Int) (s0 : Int) : qE 21 53 [(1, x0), (9, 0), (1, x2), (9, 0), (0, x4)] [(0, s0)] μ = (if s0 = 0 then some ((0, (-1)), μ) else some ((0, 2), μ)) := by
  refine Eq.trans (s_ifeq (y := 21) (pc := 53) (nx := 56) (b := 58) (tg := 58) rfl rfl) (ite_c ?_ ?_)
  · refine Eq.trans (s_push (y := 21) (pc := 58) (nx := 59) (a := 0) (b := (-1)) rfl) ?_
    exact s_ret (y := 21) (pc := 59) (nx := 60) (a := 0) rfl (by decide)
  · refine Eq.trans (s_push (y := 21) (pc := 56) (nx := 57) (a := 0) (b := 2) rfl) ?_
    exact s_ret (y := 21) (pc := 57) (nx := 58) (a := 0) rfl (by decide)
theorem r_22 (μ : Mem) (x0 : Int) (x2 : Int) : qR 22 [(1, x0), (1, x2)] μ = ((qR 16 [(1, x0)] μ).bind fun w => qE 22 4 [(1, x0), (9, 0), (1, x2), (9, 0), (9, 0), (9, 0), (9, 0)] (psh w.1 []) w.2) := by
  show qE 22 0 [(1, x0), (9, 0), (1, x2), (9, 0), (9, 0), (9, 0), (9, 0)] [] μ = _
  refine Eq.trans (s_load (y := 22) (pc := 0) (nx := 1) (a := 1) (b := 0) (x := x0) rfl rfl) ?_
  exact s_call (y := 22) (pc := 1) (nx := 4) (a := 16) (b := 0) (as := [(1, x0)]) (r := []) rfl (Nat.le_of_ble_eq_true rfl) rfl rfl (Nat.le_of_ble_eq_true rfl) (Nat.le_of_ble_eq_true rfl) (Or.inl rfl)
theorem e_22_4 (μ : Mem) (x0 : Int) (x2 : Int) (s0 : Int) : qE 22 4 [(1, x0), (9, 0), (1, x2), (9, 0), (9, 0), (9, 0), (9, 0)] [(0, s0)] μ = qE 22 12 [(1, x0), (9, 0), (1, x2), (9, 0), (0, s0), (0, (-1)), (0, 0)] [] μ := by
  refine Eq.trans (s_store (y := 22) (pc := 4) (nx := 6) (a := 0) (b := 4) (ls' := [(1, x0), (9, 0), (1, x2), (9, 0), (0, s0), (9, 0), (9, 0)]) rfl (Nat.le_of_ble_eq_true rfl) rfl) ?_
  refine Eq.trans (s_push (y := 22) (pc := 6) (nx := 7) (a := 0) (b := (-1)) rfl) ?_
  refine Eq.trans (s_store (y := 22) (pc := 7) (nx := 9) (a := 0) (b := 5) (ls' := [(1, x0), (9, 0), (1, x2), (9, 0), (0, s0), (0, (-1)), (9, 0)]) rfl (Nat.le_of_ble_eq_true rfl) rfl) ?_
  refine Eq.trans (s_push (y := 22) (pc := 9) (nx := 10) (a := 0) (b := 0) rfl) ?_
  refine Eq.trans (s_store (y := 22) (pc := 10) (nx := 12) (a := 0) (b := 6) (ls' := [(1, x0), (9, 0), (1, x2), (9, 0), (0, s0), (0, (-1)), (0, 0)]) rfl (Nat.le_of_ble_eq_true rfl) rfl) ?_
  rfl
theorem e_22_12 (μ : Mem) (x0 : Int) (x2 : Int) (x4 : Int) (x5 : Int) (x6 : Int) : qE 22 12 [(1, x0), (9, 0), (1, x2), (9, 0), (0, x4), (0, x5), (0, x6)] [] μ = (if x6 < x4 then ((qR 17 [(1, x0), (0, x6)] μ).bind fun w => qE 22 25 [(1, x0), (9, 0), (1, x2), (9, 0), (0, x4), (0, x5), (0, x6)] (psh w.1 []) w.2) else (if x5 < 0 then some ((0, 0), μ) else ((qR 17 [(1, x0), (0, x5)] μ).bind fun w => qE 22 62 [(1, x0), (9, 0), (1, x2), (9, 0), (0, x4), (0, x5), (0, x6)] (psh w.1 []) w.2))) := by
  refine Eq.trans (s_load (y := 22) (pc := 12) (nx := 14) (a := 0) (b := 6) (x := x6) rfl rfl) ?_
  refine Eq.trans (s_load (y := 22) (pc := 14) (nx := 16) (a := 0) (b := 4) (x := x4) rfl rfl) ?_
  refine Eq.trans (s_icge (y := 22) (pc := 16) (nx := 19) (b := 51) (tg := 51) rfl rfl) (ite_c ?_ ?_)
  · refine Eq.trans (s_load (y := 22) (pc := 19) (nx := 20) (a := 1) (b := 0) (x := x0) rfl rfl) ?_
    refine Eq.trans (s_load (y := 22) (pc := 20) (nx := 22) (a := 0) (b := 6) (x := x6) rfl rfl) ?_
    exact s_call (y := 22) (pc := 22) (nx := 25) (a := 17) (b := 0) (as := [(1, x0), (0, x6)]) (r := []) rfl (Nat.le_of_ble_eq_true rfl) rfl rfl (Nat.le_of_ble_eq_true rfl) (Nat.le_of_ble_eq_true rfl) (Or.inl rfl)
  · refine Eq.trans (s_load (y := 22) (pc := 51) (nx := 53) (a := 0) (b := 5) (x := x5) rfl rfl) ?_
    refine Eq.trans (s_iflt (y := 22) (pc := 53) (nx := 56) (b := 78) (tg := 78) rfl rfl) (ite_c ?_ ?_)
    · refine Eq.trans (s_push (y := 22) (pc := 78) (nx := 79) (a := 0) (b := 0) rfl) ?_
      exact s_retz (y := 22) (pc := 79) (nx := 80) rfl (by decide)
    · refine Eq.trans (s_load (y := 22) (pc := 56) (nx := 57) (a := 1) (b := 0) (x := x0) rfl rfl) ?_
      refine Eq.trans (s_load (y := 22) (pc := 57) (nx := 59) (a := 0) (b := 5) (x := x5) rfl rfl) ?_
      exact s_call (y := 22) (pc := 59) (nx := 62) (a := 17) (b := 0) (as := [(1, x0), (0, x5)]) (r := []) rfl (Nat.le_of_ble_eq_true rfl) rfl rfl (Nat.le_of_ble_eq_true rfl) (Nat.le_of_ble_eq_true rfl) (Or.inl rfl)
theorem e_22_25 (μ : Mem) (x0 : Int) (x2 : Int) (x4 : Int) (x5 : Int) (x6 : Int) (s0 : Int) : qE 22 25 [(1, x0), (9, 0), (1, x2), (9, 0), (0, x4), (0, x5), (0, x6)] [(0, s0)] μ = ((qR 17 [(1, x2), (0, x6)] μ).bind fun w => qE 22 31 [(1, x0), (9, 0), (1, x2), (9, 0), (0, x4), (0, x5), (0, x6)] (psh w.1 [(0, s0)]) w.2) := by
  refine Eq.trans (s_load (y := 22) (pc := 25) (nx := 26) (a := 1) (b := 2) (x := x2) rfl rfl) ?_
  refine Eq.trans (s_load (y := 22) (pc := 26) (nx := 28) (a := 0) (b := 6) (x := x6) rfl rfl) ?_
  exact s_call (y := 22) (pc := 28) (nx := 31) (a := 17) (b := 0) (as := [(1, x2), (0, x6)]) (r := [(0, s0)]) rfl (Nat.le_of_ble_eq_true rfl) rfl rfl (Nat.le_of_ble_eq_true rfl) (Nat.le_of_ble_eq_true rfl) (Or.inl rfl)
theorem e_22_31 (μ : Mem) (x0 : Int) (x2 : Int) (x4 : Int) (x5 : Int) (x6 : Int) (s0 : Int) (s1 : Int) : qE 22 31 [(1, x0), (9, 0), (1, x2), (9, 0), (0, x4), (0, x5), (0, x6)] [(0, s1), (0, s0)] μ = (if s0 = s1 then qE 22 12 [(1, x0), (9, 0), (1, x2), (9, 0), (0, x4), (0, x5), (0, (w32 (x6 + 1)))] [] μ else (if x5 < 0 then qE 22 12 [(1, x0), (9, 0), (1, x2), (9, 0), (0, x4), (0, x6), (0, (w32 (x6 + 1)))] [] μ else some ((0, 0), μ))) := by
  refine Eq.trans (s_iceq (y := 22) (pc := 31) (nx := 34) (b := 45) (tg := 45) rfl rfl) (ite_c ?_ ?_)
  · refine Eq.trans (s_iinc (y := 22) (pc := 45) (nx := 48) (a := 6) (b := 1) (x := x6) (ls' := [(1, x0), (9, 0), (1, x2), (9, 0), (0, x4), (0, x5), (0, (w32 (x6 + 1)))]) rfl rfl rfl) ?_
    refine Eq.trans (s_goto (y := 22) (pc := 48) (nx := 51) (a := 0) (b := 12) (tg := 12) rfl rfl) ?_
    rfl
  · refine Eq.trans (s_load (y := 22) (pc := 34) (nx := 36) (a := 0) (b := 5) (x := x5) rfl rfl) ?_
    refine Eq.trans (s_iflt (y := 22) (pc := 36) (nx := 39) (b := 41) (tg := 41) rfl rfl) (ite_c ?_ ?_)
    · refine Eq.trans (s_load (y := 22) (pc := 41) (nx := 43) (a := 0) (b := 6) (x := x6) rfl rfl) ?_
      refine Eq.trans (s_store (y := 22) (pc := 43) (nx := 45) (a := 0) (b := 5) (ls' := [(1, x0), (9, 0), (1, x2), (9, 0), (0, x4), (0, x6), (0, x6)]) rfl (Nat.le_of_ble_eq_true rfl) rfl) ?_
      refine Eq.trans (s_iinc (y := 22) (pc := 45) (nx := 48) (a := 6) (b := 1) (x := x6) (ls' := [(1, x0), (9, 0), (1, x2), (9, 0), (0, x4), (0, x6), (0, (w32 (x6 + 1)))]) rfl rfl rfl) ?_
      refine Eq.trans (s_goto (y := 22) (pc := 48) (nx := 51) (a := 0) (b := 12) (tg := 12) rfl rfl) ?_
      rfl
    · refine Eq.trans (s_push (y := 22) (pc := 39) (nx := 40) (a := 0) (b := 0) rfl) ?_
      exact s_retz (y := 22) (pc := 40) (nx := 41) rfl (by decide)
theorem e_22_62 (μ : Mem) (x0 : Int) (x2 : Int) (x4 : Int) (x5 : Int) (x6 : Int) (s0 : Int) : qE 22 62 [(1, x0), (9, 0), (1, x2), (9, 0), (0, x4), (0, x5), (0, x6)] [(0, s0)] μ = ((qR 17 [(1, x2), (0, x5)] μ).bind fun w => qE 22 68 [(1, x0), (9, 0), (1, x2), (9, 0), (0, x4), (0, x5), (0, x6)] (psh w.1 [(0, s0)]) w.2) := by
  refine Eq.trans (s_load (y := 22) (pc := 62) (nx := 63) (a := 1) (b := 2) (x := x2) rfl rfl) ?_
  refine Eq.trans (s_load (y := 22) (pc := 63) (nx := 65) (a := 0) (b := 5) (x := x5) rfl rfl) ?_
  exact s_call (y := 22) (pc := 65) (nx := 68) (a := 17) (b := 0) (as := [(1, x2), (0, x5)]) (r := [(0, s0)]) rfl (Nat.le_of_ble_eq_true rfl) rfl rfl (Nat.le_of_ble_eq_true rfl) (Nat.le_of_ble_eq_true rfl) (Or.inl rfl)
theorem e_22_68 (μ : Mem) (x0 : Int) (x2 : Int) (x4 : Int) (x5 : Int) (x6 : Int) (s0 : Int) (s1 : Int) : qE 22 68 [(1, x0), (9, 0), (1, x2), (9, 0), (0, x4), (0, x5), (0, x6)] [(0, s1), (0, s0)] μ = ((qR 134 [(0, s0), (0, s1)] μ).bind fun w => qE 22 71 [(1, x0), (9, 0), (1, x2), (9, 0), (0, x4), (0, x5), (0, x6)] (psh w.1 []) w.2) := by
  exact s_call (y := 22) (pc := 68) (nx := 71) (a := 134) (b := 0) (as := [(0, s0), (0, s1)]) (r := []) rfl (Nat.le_of_ble_eq_true rfl) rfl rfl (Nat.le_of_ble_eq_true rfl) (Nat.le_of_ble_eq_true rfl) (Or.inl rfl)
theorem e_22_71 (μ : Mem) (x0 : Int) (x2 : Int) (x4 : Int) (x5 : Int) (x6 : Int) (s0 : Int) : qE 22 71 [(1, x0), (9, 0), (1, x2), (9, 0), (0, x4), (0, x5), (0, x6)] [(0, s0)] μ = (if s0 = 0 then some ((0, 0), μ) else some ((0, 1), μ)) := by
  refine Eq.trans (s_ifeq (y := 22) (pc := 71) (nx := 74) (b := 78) (tg := 78) rfl rfl) (ite_c ?_ ?_)
  · refine Eq.trans (s_push (y := 22) (pc := 78) (nx := 79) (a := 0) (b := 0) rfl) ?_
    exact s_retz (y := 22) (pc := 79) (nx := 80) rfl (by decide)
  · refine Eq.trans (s_push (y := 22) (pc := 74) (nx := 75) (a := 0) (b := 1) rfl) ?_
    refine Eq.trans (s_goto (y := 22) (pc := 75) (nx := 78) (a := 0) (b := 79) (tg := 79) rfl rfl) ?_
    exact s_retz (y := 22) (pc := 79) (nx := 80) rfl (by decide)
theorem r_23 (μ : Mem) (x0 : Int) (x2 : Int) : qR 23 [(1, x0), (1, x2)] μ = ((qR 16 [(1, x2)] μ).bind fun w => qE 23 4 [(1, x0), (9, 0), (1, x2), (9, 0), (9, 0), (9, 0)] (psh w.1 []) w.2) := by
  show qE 23 0 [(1, x0), (9, 0), (1, x2), (9, 0), (9, 0), (9, 0)] [] μ = _
  refine Eq.trans (s_load (y := 23) (pc := 0) (nx := 1) (a := 1) (b := 2) (x := x2) rfl rfl) ?_
  exact s_call (y := 23) (pc := 1) (nx := 4) (a := 16) (b := 0) (as := [(1, x2)]) (r := []) rfl (Nat.le_of_ble_eq_true rfl) rfl rfl (Nat.le_of_ble_eq_true rfl) (Nat.le_of_ble_eq_true rfl) (Or.inl rfl)
theorem e_23_4 (μ : Mem) (x0 : Int) (x2 : Int) (s0 : Int) : qE 23 4 [(1, x0), (9, 0), (1, x2), (9, 0), (9, 0), (9, 0)] [(0, s0)] μ = qE 23 9 [(1, x0), (9, 0), (1, x2), (9, 0), (0, s0), (0, 0)] [] μ := by
  refine Eq.trans (s_store (y := 23) (pc := 4) (nx := 6) (a := 0) (b := 4) (ls' := [(1, x0), (9, 0), (1, x2), (9, 0), (0, s0), (9, 0)]) rfl (Nat.le_of_ble_eq_true rfl) rfl) ?_
  refine Eq.trans (s_push (y := 23) (pc := 6) (nx := 7) (a := 0) (b := 0) rfl) ?_
  refine Eq.trans (s_store (y := 23) (pc := 7) (nx := 9) (a := 0) (b := 5) (ls' := [(1, x0), (9, 0), (1, x2), (9, 0), (0, s0), (0, 0)]) rfl (Nat.le_of_ble_eq_true rfl) rfl) ?_
  rfl
theorem e_23_9 (μ : Mem) (x0 : Int) (x2 : Int) (x4 : Int) (x5 : Int) : qE 23 9 [(1, x0), (9, 0), (1, x2), (9, 0), (0, x4), (0, x5)] [] μ = (if x5 < x4 then ((qR 18 [(1, x2), (0, x5)] μ).bind fun w => qE 23 22 [(1, x0), (9, 0), (1, x2), (9, 0), (0, x4), (0, x5)] (psh w.1 []) w.2) else some ((0, 0), μ)) := by
  refine Eq.trans (s_load (y := 23) (pc := 9) (nx := 11) (a := 0) (b := 5) (x := x5) rfl rfl) ?_
  refine Eq.trans (s_load (y := 23) (pc := 11) (nx := 13) (a := 0) (b := 4) (x := x4) rfl rfl) ?_
  refine Eq.trans (s_icge (y := 23) (pc := 13) (nx := 16) (b := 35) (tg := 35) rfl rfl) (ite_c ?_ ?_)
  · refine Eq.trans (s_load (y := 23) (pc := 16) (nx := 17) (a := 1) (b := 2) (x := x2) rfl rfl) ?_
    refine Eq.trans (s_load (y := 23) (pc := 17) (nx := 19) (a := 0) (b := 5) (x := x5) rfl rfl) ?_
    exact s_call (y := 23) (pc := 19) (nx := 22) (a := 18) (b := 0) (as := [(1, x2), (0, x5)]) (r := []) rfl (Nat.le_of_ble_eq_true rfl) rfl rfl (Nat.le_of_ble_eq_true rfl) (Nat.le_of_ble_eq_true rfl) (Or.inl rfl)
  · refine Eq.trans (s_push (y := 23) (pc := 35) (nx := 36) (a := 0) (b := 0) rfl) ?_
    exact s_retz (y := 23) (pc := 36) (nx := 37) rfl (by decide)
theorem e_23_22 (μ : Mem) (x0 : Int) (x2 : Int) (x4 : Int) (x5 : Int) (s0 : Int) : qE 23 22 [(1, x0), (9, 0), (1, x2), (9, 0), (0, x4), (0, x5)] [(1, s0)] μ = (if (cmpL s0 x0) = 0 then some ((0, 1), μ) else qE 23 9 [(1, x0), (9, 0), (1, x2), (9, 0), (0, x4), (0, (w32 (x5 + 1)))] [] μ) := by
  refine Eq.trans (s_load (y := 23) (pc := 22) (nx := 23) (a := 1) (b := 0) (x := x0) rfl rfl) ?_
  refine Eq.trans (s_lcmp (y := 23) (pc := 23) (nx := 24) (a := 0) (b := 0) rfl) ?_
  refine Eq.trans (s_ifne (y := 23) (pc := 24) (nx := 27) (b := 29) (tg := 29) rfl rfl) (ite_c ?_ ?_)
  · refine Eq.trans (s_push (y := 23) (pc := 27) (nx := 28) (a := 0) (b := 1) rfl) ?_
    exact s_retz (y := 23) (pc := 28) (nx := 29) rfl (by decide)
  · refine Eq.trans (s_iinc (y := 23) (pc := 29) (nx := 32) (a := 5) (b := 1) (x := x5) (ls' := [(1, x0), (9, 0), (1, x2), (9, 0), (0, x4), (0, (w32 (x5 + 1)))]) rfl rfl rfl) ?_
    refine Eq.trans (s_goto (y := 23) (pc := 32) (nx := 35) (a := 0) (b := 9) (tg := 9) rfl rfl) ?_
    rfl
theorem r_24 (μ : Mem) (x0 : Int) (x2 : Int) : qR 24 [(1, x0), (1, x2)] μ = ((qR 16 [(1, x0)] μ).bind fun w => qE 24 4 [(1, x0), (9, 0), (1, x2), (9, 0), (9, 0), (9, 0)] (psh w.1 []) w.2) := by
  show qE 24 0 [(1, x0), (9, 0), (1, x2), (9, 0), (9, 0), (9, 0)] [] μ = _
  refine Eq.trans (s_load (y := 24) (pc := 0) (nx := 1) (a := 1) (b := 0) (x := x0) rfl rfl) ?_
  exact s_call (y := 24) (pc := 1) (nx := 4) (a := 16) (b := 0) (as := [(1, x0)]) (r := []) rfl (Nat.le_of_ble_eq_true rfl) rfl rfl (Nat.le_of_ble_eq_true rfl) (Nat.le_of_ble_eq_true rfl) (Or.inl rfl)
theorem e_24_4 (μ : Mem) (x0 : Int) (x2 : Int) (s0 : Int) : qE 24 4 [(1, x0), (9, 0), (1, x2), (9, 0), (9, 0), (9, 0)] [(0, s0)] μ = qE 24 9 [(1, x0), (9, 0), (1, x2), (9, 0), (0, s0), (0, 0)] [] μ := by
  refine Eq.trans (s_store (y := 24) (pc := 4) (nx := 6) (a := 0) (b := 4) (ls' := [(1, x0), (9, 0), (1, x2), (9, 0), (0, s0), (9, 0)]) rfl (Nat.le_of_ble_eq_true rfl) rfl) ?_
  refine Eq.trans (s_push (y := 24) (pc := 6) (nx := 7) (a := 0) (b := 0) rfl) ?_
  refine Eq.trans (s_store (y := 24) (pc := 7) (nx := 9) (a := 0) (b := 5) (ls' := [(1, x0), (9, 0), (1, x2), (9, 0), (0, s0), (0, 0)]) rfl (Nat.le_of_ble_eq_true rfl) rfl) ?_
  rfl
theorem e_24_9 (μ : Mem) (x0 : Int) (x2 : Int) (x4 : Int) (x5 : Int) : qE 24 9 [(1, x0), (9, 0), (1, x2), (9, 0), (0, x4), (0, x5)] [] μ = (if (w32 (x5 + 1)) < x4 then ((qR 17 [(1, x0), (0, x5)] μ).bind fun w => qE 24 24 [(1, x0), (9, 0), (1, x2), (9, 0), (0, x4), (0, x5)] (psh w.1 []) w.2) else some ((0, 0), μ)) := by
  refine Eq.trans (s_load (y := 24) (pc := 9) (nx := 11) (a := 0) (b := 5) (x := x5) rfl rfl) ?_
  refine Eq.trans (s_push (y := 24) (pc := 11) (nx := 12) (a := 0) (b := 1) rfl) ?_
  refine Eq.trans (s_add (y := 24) (pc := 12) (nx := 13) (b := 0) rfl) ?_
  refine Eq.trans (s_load (y := 24) (pc := 13) (nx := 15) (a := 0) (b := 4) (x := x4) rfl rfl) ?_
  refine Eq.trans (s_icge (y := 24) (pc := 15) (nx := 18) (b := 54) (tg := 54) rfl rfl) (ite_c ?_ ?_)
  · refine Eq.trans (s_load (y := 24) (pc := 18) (nx := 19) (a := 1) (b := 0) (x := x0) rfl rfl) ?_
    refine Eq.trans (s_load (y := 24) (pc := 19) (nx := 21) (a := 0) (b := 5) (x := x5) rfl rfl) ?_
    exact s_call (y := 24) (pc := 21) (nx := 24) (a := 17) (b := 0) (as := [(1, x0), (0, x5)]) (r := []) rfl (Nat.le_of_ble_eq_true rfl) rfl rfl (Nat.le_of_ble_eq_true rfl) (Nat.le_of_ble_eq_true rfl) (Or.inl rfl)
  · refine Eq.trans (s_push (y := 24) (pc := 54) (nx := 55) (a := 0) (b := 0) rfl) ?_
    exact s_retz (y := 24) (pc := 55) (nx := 56) rfl (by decide)
theorem e_24_24 (μ : Mem) (x0 : Int) (x2 : Int) (x4 : Int) (x5 : Int) (s0 : Int) : qE 24 24 [(1, x0), (9, 0), (1, x2), (9, 0), (0, x4), (0, x5)] [(0, s0)] μ = ((qR 17 [(1, x0), (0, (w32 (x5 + 1)))] μ).bind fun w => qE 24 32 [(1, x0), (9, 0), (1, x2), (9, 0), (0, x4), (0, x5)] (psh w.1 [(0, s0)]) w.2) := by
  refine Eq.trans (s_load (y := 24) (pc := 24) (nx := 25) (a := 1) (b := 0) (x := x0) rfl rfl) ?_
  refine Eq.trans (s_load (y := 24) (pc := 25) (nx := 27) (a := 0) (b := 5) (x := x5) rfl rfl) ?_
  refine Eq.trans (s_push (y := 24) (pc := 27) (nx := 28) (a := 0) (b := 1) rfl) ?_
  refine Eq.trans (s_add (y := 24) (pc := 28) (nx := 29) (b := 0) rfl) ?_
  exact s_call (y := 24) (pc := 29) (nx := 32) (a := 17) (b := 0) (as := [(1, x0), (0, (w32 (x5 + 1)))]) (r := [(0, s0)]) rfl (Nat.le_of_ble_eq_true rfl) rfl rfl (Nat.le_of_ble_eq_true rfl) (Nat.le_of_ble_eq_true rfl) (Or.inl rfl)
theorem e_24_32 (μ : Mem) (x0 : Int) (x2 : Int) (x4 : Int) (x5 : Int) (s0 : Int) (s1 : Int) : qE 24 32 [(1, x0), (9, 0), (1, x2), (9, 0), (0, x4), (0, x5)] [(0, s1), (0, s0)] μ = (if s0 = s1 then ((qR 18 [(1, x0), (0, x5)] μ).bind fun w => qE 24 41 [(1, x0), (9, 0), (1, x2), (9, 0), (0, x4), (0, x5)] (psh w.1 []) w.2) else qE 24 9 [(1, x0), (9, 0), (1, x2), (9, 0), (0, x4), (0, (w32 (x5 + 1)))] [] μ) := by
  refine Eq.trans (s_icne (y := 24) (pc := 32) (nx := 35) (b := 48) (tg := 48) rfl rfl) (ite_c ?_ ?_)
  · refine Eq.trans (s_load (y := 24) (pc := 35) (nx := 36) (a := 1) (b := 0) (x := x0) rfl rfl) ?_
    refine Eq.trans (s_load (y := 24) (pc := 36) (nx := 38) (a := 0) (b := 5) (x := x5) rfl rfl) ?_
    exact s_call (y := 24) (pc := 38) (nx := 41) (a := 18) (b := 0) (as := [(1, x0), (0, x5)]) (r := []) rfl (Nat.le_of_ble_eq_true rfl) rfl rfl (Nat.le_of_ble_eq_true rfl) (Nat.le_of_ble_eq_true rfl) (Or.inl rfl)
  · refine Eq.trans (s_iinc (y := 24) (pc := 48) (nx := 51) (a := 5) (b := 1) (x := x5) (ls' := [(1, x0), (9, 0), (1, x2), (9, 0), (0, x4), (0, (w32 (x5 + 1)))]) rfl rfl rfl) ?_
    refine Eq.trans (s_goto (y := 24) (pc := 51) (nx := 54) (a := 0) (b := 9) (tg := 9) rfl rfl) ?_
    rfl
theorem e_24_41 (μ : Mem) (x0 : Int) (x2 : Int) (x4 : Int) (x5 : Int) (s0 : Int) : qE 24 41 [(1, x0), (9, 0), (1, x2), (9, 0), (0, x4), (0, x5)] [(1, s0)] μ = (if (cmpL s0 x2) = 0 then some ((0, 1), μ) else qE 24 9 [(1, x0), (9, 0), (1, x2), (9, 0), (0, x4), (0, (w32 (x5 + 1)))] [] μ) := by
  refine Eq.trans (s_load (y := 24) (pc := 41) (nx := 42) (a := 1) (b := 2) (x := x2) rfl rfl) ?_
  refine Eq.trans (s_lcmp (y := 24) (pc := 42) (nx := 43) (a := 0) (b := 0) rfl) ?_
  refine Eq.trans (s_ifne (y := 24) (pc := 43) (nx := 46) (b := 48) (tg := 48) rfl rfl) (ite_c ?_ ?_)
  · refine Eq.trans (s_push (y := 24) (pc := 46) (nx := 47) (a := 0) (b := 1) rfl) ?_
    exact s_retz (y := 24) (pc := 47) (nx := 48) rfl (by decide)
  · refine Eq.trans (s_iinc (y := 24) (pc := 48) (nx := 51) (a := 5) (b := 1) (x := x5) (ls' := [(1, x0), (9, 0), (1, x2), (9, 0), (0, x4), (0, (w32 (x5 + 1)))]) rfl rfl rfl) ?_
    refine Eq.trans (s_goto (y := 24) (pc := 51) (nx := 54) (a := 0) (b := 9) (tg := 9) rfl rfl) ?_
    rfl
theorem r_54 (μ : Mem) (x0 : Int) (x1 : Int) : qR 54 [(3, x0), (0, x1)] μ = (if 1 ≤ x0 then ((qR 216 [(0, x1), (0, 0)] μ).bind fun w => qE 54 10 [(3, x0), (0, x1)] (psh w.1 [(3, x0)]) w.2) else none) := by
  show qE 54 0 [(3, x0), (0, x1)] [] μ = _
  refine Eq.trans (s_load (y := 54) (pc := 0) (nx := 1) (a := 3) (b := 0) (x := x0) rfl rfl) ?_
  refine Eq.trans (s_objq (y := 54) (pc := 1) (nx := 4) (a := 0) (b := 0) rfl (Nat.le_of_ble_eq_true rfl)) (ite_c ?_ rfl)
  refine Eq.trans (s_load (y := 54) (pc := 4) (nx := 5) (a := 3) (b := 0) (x := x0) rfl rfl) ?_
  refine Eq.trans (s_load (y := 54) (pc := 5) (nx := 6) (a := 0) (b := 1) (x := x1) rfl rfl) ?_
  refine Eq.trans (s_push (y := 54) (pc := 6) (nx := 7) (a := 0) (b := 0) rfl) ?_
  exact s_call (y := 54) (pc := 7) (nx := 10) (a := 216) (b := 0) (as := [(0, x1), (0, 0)]) (r := [(3, x0)]) rfl (Nat.le_of_ble_eq_true rfl) rfl rfl (Nat.le_of_ble_eq_true rfl) (Nat.le_of_ble_eq_true rfl) (Or.inl rfl)
theorem e_54_10 (μ : Mem) (x0 : Int) (x1 : Int) (s0 : Int) (s1 : Int) : qE 54 10 [(3, x0), (0, x1)] [(0, s1), (3, s0)] μ = (if 0 ≤ s1 ∧ s1 ≤ 10000 then (if (mNew μ 1 s1) (-s0) 0 = 15 then some ((9, 0), (mU (mNew μ 1 s1) s0 0 (μ 0 2))) else none) else none) := by
  refine Eq.trans (s_newaq (y := 54) (pc := 10) (nx := 12) (a := 1) (b := 0) rfl) (ite_c ?_ rfl)
  refine Eq.trans (s_putq (y := 54) (pc := 12) (nx := 15) (a := 5) (b := 0) (t := 3) (k := 15) rfl rfl rfl) (ite_c ?_ rfl)
  exact s_retv (y := 54) (pc := 15) (nx := 16) (b := 0) rfl
theorem r_55 (μ : Mem) (x0 : Int) : qR 55 [(3, x0)] μ = (if μ (-x0) 0 = 15 then some ((0, (μ x0 1)), μ) else none) := by
  show qE 55 0 [(3, x0)] [] μ = _
  refine Eq.trans (s_load (y := 55) (pc := 0) (nx := 1) (a := 3) (b := 0) (x := x0) rfl rfl) ?_
  refine Eq.trans (s_getq (y := 55) (pc := 1) (nx := 4) (a := 5) (b := 1) (t := 0) (k := 15) rfl rfl rfl) (ite_c ?_ rfl)
  exact s_ret (y := 55) (pc := 4) (nx := 5) (a := 0) rfl (by decide)
theorem r_56 (μ : Mem) (x0 : Int) : qR 56 [(3, x0)] μ = (if μ (-x0) 0 = 15 then (if (μ x0 1) = 0 then some ((0, 1), μ) else some ((0, 0), μ)) else none) := by
  show qE 56 0 [(3, x0)] [] μ = _
  refine Eq.trans (s_load (y := 56) (pc := 0) (nx := 1) (a := 3) (b := 0) (x := x0) rfl rfl) ?_
  refine Eq.trans (s_getq (y := 56) (pc := 1) (nx := 4) (a := 5) (b := 1) (t := 0) (k := 15) rfl rfl rfl) (ite_c ?_ rfl)
  refine Eq.trans (s_ifne (y := 56) (pc := 4) (nx := 7) (b := 11) (tg := 11) rfl rfl) (ite_c ?_ ?_)
  · refine Eq.trans (s_push (y := 56) (pc := 7) (nx := 8) (a := 0) (b := 1) rfl) ?_
    refine Eq.trans (s_goto (y := 56) (pc := 8) (nx := 11) (a := 0) (b := 12) (tg := 12) rfl rfl) ?_
    exact s_retz (y := 56) (pc := 12) (nx := 13) rfl (by decide)
  · refine Eq.trans (s_push (y := 56) (pc := 11) (nx := 12) (a := 0) (b := 0) rfl) ?_
    exact s_retz (y := 56) (pc := 12) (nx := 13) rfl (by decide)
theorem r_57 (μ : Mem) (x0 : Int) : qR 57 [(3, x0)] μ = (if μ (-x0) 0 = 15 then (if μ (-x0) 0 = 15 then (if 1 ≤ μ (-(μ x0 0)) 0 ∧ μ (-(μ x0 0)) 0 ≤ 6 then (if (μ x0 1) < (μ (-(μ x0 0)) 1) then some ((0, 0), μ) else some ((0, 1), μ)) else none) else none) else none) := by
  show qE 57 0 [(3, x0)] [] μ = _
  refine Eq.trans (s_load (y := 57) (pc := 0) (nx := 1) (a := 3) (b := 0) (x := x0) rfl rfl) ?_
  refine Eq.trans (s_getq (y := 57) (pc := 1) (nx := 4) (a := 5) (b := 1) (t := 0) (k := 15) rfl rfl rfl) (ite_c ?_ rfl)
  refine Eq.trans (s_load (y := 57) (pc := 4) (nx := 5) (a := 3) (b := 0) (x := x0) rfl rfl) ?_
  refine Eq.trans (s_getq (y := 57) (pc := 5) (nx := 8) (a := 5) (b := 0) (t := 3) (k := 15) rfl rfl rfl) (ite_c ?_ rfl)
  refine Eq.trans (s_lenq (y := 57) (pc := 8) (nx := 9) (a := 0) (b := 0) rfl) (ite_c ?_ rfl)
  refine Eq.trans (s_iclt (y := 57) (pc := 9) (nx := 12) (b := 16) (tg := 16) rfl rfl) (ite_c ?_ ?_)
  · refine Eq.trans (s_push (y := 57) (pc := 16) (nx := 17) (a := 0) (b := 0) rfl) ?_
    exact s_retz (y := 57) (pc := 17) (nx := 18) rfl (by decide)
  · refine Eq.trans (s_push (y := 57) (pc := 12) (nx := 13) (a := 0) (b := 1) rfl) ?_
    refine Eq.trans (s_goto (y := 57) (pc := 13) (nx := 16) (a := 0) (b := 17) (tg := 17) rfl rfl) ?_
    exact s_retz (y := 57) (pc := 17) (nx := 18) rfl (by decide)
theorem r_58 (μ : Mem) (x0 : Int) (x1 : Int) : qR 58 [(3, x0), (0, x1)] μ = (if x1 < 0 then some ((0, (-1)), μ) else (if μ (-x0) 0 = 15 then (if x1 < (μ x0 1) then (if μ (-x0) 0 = 15 then (if aKind 1 (μ (-(μ x0 0)) 0) = true ∧ 0 ≤ x1 ∧ x1 < μ (-(μ x0 0)) 1 then some ((0, (μ (μ x0 0) x1)), μ) else none) else none) else some ((0, (-1)), μ)) else none)) := by
  show qE 58 0 [(3, x0), (0, x1)] [] μ = _
  refine Eq.trans (s_load (y := 58) (pc := 0) (nx := 1) (a := 0) (b := 1) (x := x1) rfl rfl) ?_
  refine Eq.trans (s_iflt (y := 58) (pc := 1) (nx := 4) (b := 21) (tg := 21) rfl rfl) (ite_c ?_ ?_)
  · refine Eq.trans (s_push (y := 58) (pc := 21) (nx := 22) (a := 0) (b := (-1)) rfl) ?_
    exact s_ret (y := 58) (pc := 22) (nx := 23) (a := 0) rfl (by decide)
  · refine Eq.trans (s_load (y := 58) (pc := 4) (nx := 5) (a := 0) (b := 1) (x := x1) rfl rfl) ?_
    refine Eq.trans (s_load (y := 58) (pc := 5) (nx := 6) (a := 3) (b := 0) (x := x0) rfl rfl) ?_
    refine Eq.trans (s_getq (y := 58) (pc := 6) (nx := 9) (a := 5) (b := 1) (t := 0) (k := 15) rfl rfl rfl) (ite_c ?_ rfl)
    refine Eq.trans (s_icge (y := 58) (pc := 9) (nx := 12) (b := 21) (tg := 21) rfl rfl) (ite_c ?_ ?_)
    · refine Eq.trans (s_load (y := 58) (pc := 12) (nx := 13) (a := 3) (b := 0) (x := x0) rfl rfl) ?_
      refine Eq.trans (s_getq (y := 58) (pc := 13) (nx := 16) (a := 5) (b := 0) (t := 3) (k := 15) rfl rfl rfl) (ite_c ?_ rfl)
      refine Eq.trans (s_load (y := 58) (pc := 16) (nx := 17) (a := 0) (b := 1) (x := x1) rfl rfl) ?_
      refine Eq.trans (s_aldq (y := 58) (pc := 17) (nx := 18) (a := 1) (b := 0) (t := 0) rfl ak_1) (ite_c ?_ rfl)
      refine Eq.trans (s_goto (y := 58) (pc := 18) (nx := 21) (a := 0) (b := 22) (tg := 22) rfl rfl) ?_
      exact s_ret (y := 58) (pc := 22) (nx := 23) (a := 0) rfl (by decide)
    · refine Eq.trans (s_push (y := 58) (pc := 21) (nx := 22) (a := 0) (b := (-1)) rfl) ?_
      exact s_ret (y := 58) (pc := 22) (nx := 23) (a := 0) rfl (by decide)
theorem r_59 (μ : Mem) (x0 : Int) (x1 : Int) : qR 59 [(3, x0), (0, x1)] μ = (if μ (-x0) 0 = 15 then (if μ (-x0) 0 = 15 then (if 1 ≤ μ (-(μ x0 0)) 0 ∧ μ (-(μ x0 0)) 0 ≤ 6 then (if (μ x0 1) < (μ (-(μ x0 0)) 1) then (if μ (-x0) 0 = 15 then (if μ (-x0) 0 = 15 then (if ((μ x0 0) : Int) ≠ 1 ∧ aPut μ 1 (μ (-(μ x0 0)) 0) (0, x1) = true ∧ 0 ≤ (μ x0 1) ∧ (μ x0 1) < μ (-(μ x0 0)) 1 then (if (mU μ (μ x0 0) (μ x0 1) x1) (-x0) 0 = 15 then (if (mU μ (μ x0 0) (μ x0 1) x1) (-x0) 0 = 15 then some ((9, 0), (mU (mU μ (μ x0 0) (μ x0 1) x1) x0 1 (w32 (((mU μ (μ x0 0) (μ x0 1) x1) x0 1) + 1)))) else none) else none) else none) else none) else none) else some ((9, 0), μ)) else none) else none) else none) := by
  show qE 59 0 [(3, x0), (0, x1)] [] μ = _
  refine Eq.trans (s_load (y := 59) (pc := 0) (nx := 1) (a := 3) (b := 0) (x := x0) rfl rfl) ?_
  refine Eq.trans (s_getq (y := 59) (pc := 1) (nx := 4) (a := 5) (b := 1) (t := 0) (k := 15) rfl rfl rfl) (ite_c ?_ rfl)
  refine Eq.trans (s_load (y := 59) (pc := 4) (nx := 5) (a := 3) (b := 0) (x := x0) rfl rfl) ?_
  refine Eq.trans (s_getq (y := 59) (pc := 5) (nx := 8) (a := 5) (b := 0) (t := 3) (k := 15) rfl rfl rfl) (ite_c ?_ rfl)
  refine Eq.trans (s_lenq (y := 59) (pc := 8) (nx := 9) (a := 0) (b := 0) rfl) (ite_c ?_ rfl)
  refine Eq.trans (s_icge (y := 59) (pc := 9) (nx := 12) (b := 32) (tg := 32) rfl rfl) (ite_c ?_ ?_)
  · refine Eq.trans (s_load (y := 59) (pc := 12) (nx := 13) (a := 3) (b := 0) (x := x0) rfl rfl) ?_
    refine Eq.trans (s_getq (y := 59) (pc := 13) (nx := 16) (a := 5) (b := 0) (t := 3) (k := 15) rfl rfl rfl) (ite_c ?_ rfl)
    refine Eq.trans (s_load (y := 59) (pc := 16) (nx := 17) (a := 3) (b := 0) (x := x0) rfl rfl) ?_
    refine Eq.trans (s_getq (y := 59) (pc := 17) (nx := 20) (a := 5) (b := 1) (t := 0) (k := 15) rfl rfl rfl) (ite_c ?_ rfl)
    refine Eq.trans (s_load (y := 59) (pc := 20) (nx := 21) (a := 0) (b := 1) (x := x1) rfl rfl) ?_
    refine Eq.trans (s_astq (y := 59) (pc := 21) (nx := 22) (a := 1) (b := 0) rfl) (ite_c ?_ rfl)
    refine Eq.trans (s_load (y := 59) (pc := 22) (nx := 23) (a := 3) (b := 0) (x := x0) rfl rfl) ?_
    refine Eq.trans (s_dup (y := 59) (pc := 23) (nx := 24) (a := 0) (b := 0) rfl (by decide)) ?_
    refine Eq.trans (s_getq (y := 59) (pc := 24) (nx := 27) (a := 5) (b := 1) (t := 0) (k := 15) rfl rfl rfl) (ite_c ?_ rfl)
    refine Eq.trans (s_push (y := 59) (pc := 27) (nx := 28) (a := 0) (b := 1) rfl) ?_
    refine Eq.trans (s_add (y := 59) (pc := 28) (nx := 29) (b := 0) rfl) ?_
    refine Eq.trans (s_putq (y := 59) (pc := 29) (nx := 32) (a := 5) (b := 1) (t := 0) (k := 15) rfl rfl rfl) (ite_c ?_ rfl)
    exact s_retv (y := 59) (pc := 32) (nx := 33) (b := 0) rfl
  · exact s_retv (y := 59) (pc := 32) (nx := 33) (b := 0) rfl
theorem r_60 (μ : Mem) (x0 : Int) : qR 60 [(3, x0)] μ = (if μ (-x0) 0 = 15 then (if (μ x0 1) ≤ 0 then some ((9, 0), μ) else (if μ (-x0) 0 = 15 then (if μ (-x0) 0 = 15 then some ((9, 0), (mU μ x0 1 (w32 ((μ x0 1) - 1)))) else none) else none)) else none) := by
  show qE 60 0 [(3, x0)] [] μ = _
  refine Eq.trans (s_load (y := 60) (pc := 0) (nx := 1) (a := 3) (b := 0) (x := x0) rfl rfl) ?_
  refine Eq.trans (s_getq (y := 60) (pc := 1) (nx := 4) (a := 5) (b := 1) (t := 0) (k := 15) rfl rfl rfl) (ite_c ?_ rfl)
  refine Eq.trans (s_ifle (y := 60) (pc := 4) (nx := 7) (b := 17) (tg := 17) rfl rfl) (ite_c ?_ ?_)
  · exact s_retv (y := 60) (pc := 17) (nx := 18) (b := 0) rfl
  · refine Eq.trans (s_load (y := 60) (pc := 7) (nx := 8) (a := 3) (b := 0) (x := x0) rfl rfl) ?_
    refine Eq.trans (s_dup (y := 60) (pc := 8) (nx := 9) (a := 0) (b := 0) rfl (by decide)) ?_
    refine Eq.trans (s_getq (y := 60) (pc := 9) (nx := 12) (a := 5) (b := 1) (t := 0) (k := 15) rfl rfl rfl) (ite_c ?_ rfl)
    refine Eq.trans (s_push (y := 60) (pc := 12) (nx := 13) (a := 0) (b := 1) rfl) ?_
    refine Eq.trans (s_sub (y := 60) (pc := 13) (nx := 14) (b := 0) rfl) ?_
    refine Eq.trans (s_putq (y := 60) (pc := 14) (nx := 17) (a := 5) (b := 1) (t := 0) (k := 15) rfl rfl rfl) (ite_c ?_ rfl)
    exact s_retv (y := 60) (pc := 17) (nx := 18) (b := 0) rfl
theorem r_61 (μ : Mem) (x0 : Int) : qR 61 [(3, x0)] μ = (if μ (-x0) 0 = 15 then (if μ (-x0) 0 = 15 then some ((0, (μ x0 1)), (mU μ x0 1 0)) else none) else none) := by
  show qE 61 0 [(3, x0), (9, 0)] [] μ = _
  refine Eq.trans (s_load (y := 61) (pc := 0) (nx := 1) (a := 3) (b := 0) (x := x0) rfl rfl) ?_
  refine Eq.trans (s_getq (y := 61) (pc := 1) (nx := 4) (a := 5) (b := 1) (t := 0) (k := 15) rfl rfl rfl) (ite_c ?_ rfl)
  refine Eq.trans (s_store (y := 61) (pc := 4) (nx := 5) (a := 0) (b := 1) (ls' := [(3, x0), (0, (μ x0 1))]) rfl (Nat.le_of_ble_eq_true rfl) rfl) ?_
  refine Eq.trans (s_load (y := 61) (pc := 5) (nx := 6) (a := 3) (b := 0) (x := x0) rfl rfl) ?_
  refine Eq.trans (s_push (y := 61) (pc := 6) (nx := 7) (a := 0) (b := 0) rfl) ?_
  refine Eq.trans (s_putq (y := 61) (pc := 7) (nx := 10) (a := 5) (b := 1) (t := 0) (k := 15) rfl rfl rfl) (ite_c ?_ rfl)
  refine Eq.trans (s_load (y := 61) (pc := 10) (nx := 11) (a := 0) (b := 1) (x := (μ x0 1)) rfl rfl) ?_
  exact s_ret (y := 61) (pc := 11) (nx := 12) (a := 0) rfl (by decide)
theorem r_62 (μ : Mem) (x0 : Int) (x1 : Int) : qR 62 [(3, x0), (3, x1)] μ = (if μ (-x0) 0 = 15 then qE 62 7 [(3, x0), (3, x1), (0, 0)] [] (mU μ x0 1 0) else none) := by
  show qE 62 0 [(3, x0), (3, x1), (9, 0)] [] μ = _
  refine Eq.trans (s_load (y := 62) (pc := 0) (nx := 1) (a := 3) (b := 0) (x := x0) rfl rfl) ?_
  refine Eq.trans (s_push (y := 62) (pc := 1) (nx := 2) (a := 0) (b := 0) rfl) ?_
  refine Eq.trans (s_putq (y := 62) (pc := 2) (nx := 5) (a := 5) (b := 1) (t := 0) (k := 15) rfl rfl rfl) (ite_c ?_ rfl)
  refine Eq.trans (s_push (y := 62) (pc := 5) (nx := 6) (a := 0) (b := 0) rfl) ?_
  refine Eq.trans (s_store (y := 62) (pc := 6) (nx := 7) (a := 0) (b := 2) (ls' := [(3, x0), (3, x1), (0, 0)]) rfl (Nat.le_of_ble_eq_true rfl) rfl) ?_
  rfl
theorem e_62_7 (μ : Mem) (x0 : Int) (x1 : Int) (x2 : Int) : qE 62 7 [(3, x0), (3, x1), (0, x2)] [] μ = (if μ (-x1) 0 = 15 then (if x2 < (μ x1 1) then (if μ (-x1) 0 = 15 then (if aKind 1 (μ (-(μ x1 0)) 0) = true ∧ 0 ≤ x2 ∧ x2 < μ (-(μ x1 0)) 1 then (if μ (-x0) 0 = 15 then (qR 59 [(3, x0), (0, (μ (μ x1 0) x2))] μ).bind fun w => qE 62 25 [(3, x0), (3, x1), (0, x2)] (psh w.1 []) w.2 else none) else none) else none) else some ((9, 0), μ)) else none) := by
  refine Eq.trans (s_load (y := 62) (pc := 7) (nx := 8) (a := 0) (b := 2) (x := x2) rfl rfl) ?_
  refine Eq.trans (s_load (y := 62) (pc := 8) (nx := 9) (a := 3) (b := 1) (x := x1) rfl rfl) ?_
  refine Eq.trans (s_getq (y := 62) (pc := 9) (nx := 12) (a := 5) (b := 1) (t := 0) (k := 15) rfl rfl rfl) (ite_c ?_ rfl)
  refine Eq.trans (s_icge (y := 62) (pc := 12) (nx := 15) (b := 31) (tg := 31) rfl rfl) (ite_c ?_ ?_)
  · refine Eq.trans (s_load (y := 62) (pc := 15) (nx := 16) (a := 3) (b := 0) (x := x0) rfl rfl) ?_
    refine Eq.trans (s_load (y := 62) (pc := 16) (nx := 17) (a := 3) (b := 1) (x := x1) rfl rfl) ?_
    refine Eq.trans (s_getq (y := 62) (pc := 17) (nx := 20) (a := 5) (b := 0) (t := 3) (k := 15) rfl rfl rfl) (ite_c ?_ rfl)
    refine Eq.trans (s_load (y := 62) (pc := 20) (nx := 21) (a := 0) (b := 2) (x := x2) rfl rfl) ?_
    refine Eq.trans (s_aldq (y := 62) (pc := 21) (nx := 22) (a := 1) (b := 0) (t := 0) rfl ak_1) (ite_c ?_ rfl)
    exact s_callq (k := 15) (y := 62) (pc := 22) (nx := 25) (a := 59) (b := 0) (as := [(3, x0), (0, (μ (μ x1 0) x2))]) (r := []) rfl (Nat.le_of_ble_eq_true rfl) rfl rfl (Nat.le_of_ble_eq_true rfl) (Nat.le_of_ble_eq_true rfl) (by decide) rfl rfl
  · exact s_retv (y := 62) (pc := 31) (nx := 32) (b := 0) rfl
theorem e_62_25 (μ : Mem) (x0 : Int) (x1 : Int) (x2 : Int) : qE 62 25 [(3, x0), (3, x1), (0, x2)] [] μ = qE 62 7 [(3, x0), (3, x1), (0, (w32 (x2 + 1)))] [] μ := by
  refine Eq.trans (s_iinc (y := 62) (pc := 25) (nx := 28) (a := 2) (b := 1) (x := x2) (ls' := [(3, x0), (3, x1), (0, (w32 (x2 + 1)))]) rfl rfl rfl) ?_
  refine Eq.trans (s_goto (y := 62) (pc := 28) (nx := 31) (a := 0) (b := 7) (tg := 7) rfl rfl) ?_
  rfl
theorem r_63 (μ : Mem) (x0 : Int) (x1 : Int) : qR 63 [(3, x0), (3, x1)] μ = (if μ (-x0) 0 = 15 then (if μ (-x1) 0 = 15 then (if (μ x0 1) = (μ x1 1) then qE 63 15 [(3, x0), (3, x1), (0, 0)] [] μ else some ((0, 0), μ)) else none) else none) := by
  show qE 63 0 [(3, x0), (3, x1), (9, 0)] [] μ = _
  refine Eq.trans (s_load (y := 63) (pc := 0) (nx := 1) (a := 3) (b := 0) (x := x0) rfl rfl) ?_
  refine Eq.trans (s_getq (y := 63) (pc := 1) (nx := 4) (a := 5) (b := 1) (t := 0) (k := 15) rfl rfl rfl) (ite_c ?_ rfl)
  refine Eq.trans (s_load (y := 63) (pc := 4) (nx := 5) (a := 3) (b := 1) (x := x1) rfl rfl) ?_
  refine Eq.trans (s_getq (y := 63) (pc := 5) (nx := 8) (a := 5) (b := 1) (t := 0) (k := 15) rfl rfl rfl) (ite_c ?_ rfl)
  refine Eq.trans (s_iceq (y := 63) (pc := 8) (nx := 11) (b := 13) (tg := 13) rfl rfl) (ite_c ?_ ?_)
  · refine Eq.trans (s_push (y := 63) (pc := 13) (nx := 14) (a := 0) (b := 0) rfl) ?_
    refine Eq.trans (s_store (y := 63) (pc := 14) (nx := 15) (a := 0) (b := 2) (ls' := [(3, x0), (3, x1), (0, 0)]) rfl (Nat.le_of_ble_eq_true rfl) rfl) ?_
    rfl
  · refine Eq.trans (s_push (y := 63) (pc := 11) (nx := 12) (a := 0) (b := 0) rfl) ?_
    exact s_retz (y := 63) (pc := 12) (nx := 13) rfl (by decide)
theorem e_63_15 (μ : Mem) (x0 : Int) (x1 : Int) (x2 : Int) : qE 63 15 [(3, x0), (3, x1), (0, x2)] [] μ = (if μ (-x0) 0 = 15 then (if x2 < (μ x0 1) then (if μ (-x0) 0 = 15 then (if aKind 1 (μ (-(μ x0 0)) 0) = true ∧ 0 ≤ x2 ∧ x2 < μ (-(μ x0 0)) 1 then (if μ (-x1) 0 = 15 then (if aKind 1 (μ (-(μ x1 0)) 0) = true ∧ 0 ≤ x2 ∧ x2 < μ (-(μ x1 0)) 1 then (if (μ (μ x0 0) x2) = (μ (μ x1 0) x2) then qE 63 15 [(3, x0), (3, x1), (0, (w32 (x2 + 1)))] [] μ else some ((0, 0), μ)) else none) else none) else none) else none) else some ((0, 1), μ)) else none) := by
  refine Eq.trans (s_load (y := 63) (pc := 15) (nx := 16) (a := 0) (b := 2) (x := x2) rfl rfl) ?_
  refine Eq.trans (s_load (y := 63) (pc := 16) (nx := 17) (a := 3) (b := 0) (x := x0) rfl rfl) ?_
  refine Eq.trans (s_getq (y := 63) (pc := 17) (nx := 20) (a := 5) (b := 1) (t := 0) (k := 15) rfl rfl rfl) (ite_c ?_ rfl)
  refine Eq.trans (s_icge (y := 63) (pc := 20) (nx := 23) (b := 46) (tg := 46) rfl rfl) (ite_c ?_ ?_)
  · refine Eq.trans (s_load (y := 63) (pc := 23) (nx := 24) (a := 3) (b := 0) (x := x0) rfl rfl) ?_
    refine Eq.trans (s_getq (y := 63) (pc := 24) (nx := 27) (a := 5) (b := 0) (t := 3) (k := 15) rfl rfl rfl) (ite_c ?_ rfl)
    refine Eq.trans (s_load (y := 63) (pc := 27) (nx := 28) (a := 0) (b := 2) (x := x2) rfl rfl) ?_
    refine Eq.trans (s_aldq (y := 63) (pc := 28) (nx := 29) (a := 1) (b := 0) (t := 0) rfl ak_1) (ite_c ?_ rfl)
    refine Eq.trans (s_load (y := 63) (pc := 29) (nx := 30) (a := 3) (b := 1) (x := x1) rfl rfl) ?_
    refine Eq.trans (s_getq (y := 63) (pc := 30) (nx := 33) (a := 5) (b := 0) (t := 3) (k := 15) rfl rfl rfl) (ite_c ?_ rfl)
    refine Eq.trans (s_load (y := 63) (pc := 33) (nx := 34) (a := 0) (b := 2) (x := x2) rfl rfl) ?_
    refine Eq.trans (s_aldq (y := 63) (pc := 34) (nx := 35) (a := 1) (b := 0) (t := 0) rfl ak_1) (ite_c ?_ rfl)
    refine Eq.trans (s_iceq (y := 63) (pc := 35) (nx := 38) (b := 40) (tg := 40) rfl rfl) (ite_c ?_ ?_)
    · refine Eq.trans (s_iinc (y := 63) (pc := 40) (nx := 43) (a := 2) (b := 1) (x := x2) (ls' := [(3, x0), (3, x1), (0, (w32 (x2 + 1)))]) rfl rfl rfl) ?_
      refine Eq.trans (s_goto (y := 63) (pc := 43) (nx := 46) (a := 0) (b := 15) (tg := 15) rfl rfl) ?_
      rfl
    · refine Eq.trans (s_push (y := 63) (pc := 38) (nx := 39) (a := 0) (b := 0) rfl) ?_
      exact s_retz (y := 63) (pc := 39) (nx := 40) rfl (by decide)
  · refine Eq.trans (s_push (y := 63) (pc := 46) (nx := 47) (a := 0) (b := 1) rfl) ?_
    exact s_retz (y := 63) (pc := 47) (nx := 48) rfl (by decide)
theorem r_64 (μ : Mem) (x0 : Int) (x1 : Int) : qR 64 [(3, x0), (3, x1)] μ = qE 64 2 [(3, x0), (3, x1), (0, 0)] [] μ := by
  show qE 64 0 [(3, x0), (3, x1), (9, 0)] [] μ = _
  refine Eq.trans (s_push (y := 64) (pc := 0) (nx := 1) (a := 0) (b := 0) rfl) ?_
  refine Eq.trans (s_store (y := 64) (pc := 1) (nx := 2) (a := 0) (b := 2) (ls' := [(3, x0), (3, x1), (0, 0)]) rfl (Nat.le_of_ble_eq_true rfl) rfl) ?_
  rfl
theorem e_64_2 (μ : Mem) (x0 : Int) (x1 : Int) (x2 : Int) : qE 64 2 [(3, x0), (3, x1), (0, x2)] [] μ = (if μ (-x0) 0 = 15 then (if x2 < (μ x0 1) then (if μ (-x1) 0 = 15 then (if x2 < (μ x1 1) then (if μ (-x0) 0 = 15 then (if aKind 1 (μ (-(μ x0 0)) 0) = true ∧ 0 ≤ x2 ∧ x2 < μ (-(μ x0 0)) 1 then (if μ (-x1) 0 = 15 then (if aKind 1 (μ (-(μ x1 0)) 0) = true ∧ 0 ≤ x2 ∧ x2 < μ (-(μ x1 0)) 1 then (if (μ (μ x0 0) x2) = (μ (μ x1 0) x2) then qE 64 2 [(3, x0), (3, x1), (0, (w32 (x2 + 1)))] [] μ else (if μ (-x0) 0 = 15 then (if aKind 1 (μ (-(μ x0 0)) 0) = true ∧ 0 ≤ x2 ∧ x2 < μ (-(μ x0 0)) 1 then (if μ (-x1) 0 = 15 then (if aKind 1 (μ (-(μ x1 0)) 0) = true ∧ 0 ≤ x2 ∧ x2 < μ (-(μ x1 0)) 1 then (if (μ (μ x0 0) x2) < (μ (μ x1 0) x2) then some ((0, 1), μ) else some ((0, 0), μ)) else none) else none) else none) else none)) else none) else none) else none) else none) else qE 64 60 [(3, x0), (3, x1), (0, x2)] [] μ) else none) else qE 64 60 [(3, x0), (3, x1), (0, x2)] [] μ) else none) := by
  refine Eq.trans (s_load (y := 64) (pc := 2) (nx := 3) (a := 0) (b := 2) (x := x2) rfl rfl) ?_
  refine Eq.trans (s_load (y := 64) (pc := 3) (nx := 4) (a := 3) (b := 0) (x := x0) rfl rfl) ?_
  refine Eq.trans (s_getq (y := 64) (pc := 4) (nx := 7) (a := 5) (b := 1) (t := 0) (k := 15) rfl rfl rfl) (ite_c ?_ rfl)
  refine Eq.trans (s_icge (y := 64) (pc := 7) (nx := 10) (b := 60) (tg := 60) rfl rfl) (ite_c ?_ ?_)
  · refine Eq.trans (s_load (y := 64) (pc := 10) (nx := 11) (a := 0) (b := 2) (x := x2) rfl rfl) ?_
    refine Eq.trans (s_load (y := 64) (pc := 11) (nx := 12) (a := 3) (b := 1) (x := x1) rfl rfl) ?_
    refine Eq.trans (s_getq (y := 64) (pc := 12) (nx := 15) (a := 5) (b := 1) (t := 0) (k := 15) rfl rfl rfl) (ite_c ?_ rfl)
    refine Eq.trans (s_icge (y := 64) (pc := 15) (nx := 18) (b := 60) (tg := 60) rfl rfl) (ite_c ?_ ?_)
    · refine Eq.trans (s_load (y := 64) (pc := 18) (nx := 19) (a := 3) (b := 0) (x := x0) rfl rfl) ?_
      refine Eq.trans (s_getq (y := 64) (pc := 19) (nx := 22) (a := 5) (b := 0) (t := 3) (k := 15) rfl rfl rfl) (ite_c ?_ rfl)
      refine Eq.trans (s_load (y := 64) (pc := 22) (nx := 23) (a := 0) (b := 2) (x := x2) rfl rfl) ?_
      refine Eq.trans (s_aldq (y := 64) (pc := 23) (nx := 24) (a := 1) (b := 0) (t := 0) rfl ak_1) (ite_c ?_ rfl)
      refine Eq.trans (s_load (y := 64) (pc := 24) (nx := 25) (a := 3) (b := 1) (x := x1) rfl rfl) ?_
      refine Eq.trans (s_getq (y := 64) (pc := 25) (nx := 28) (a := 5) (b := 0) (t := 3) (k := 15) rfl rfl rfl) (ite_c ?_ rfl)
      refine Eq.trans (s_load (y := 64) (pc := 28) (nx := 29) (a := 0) (b := 2) (x := x2) rfl rfl) ?_
      refine Eq.trans (s_aldq (y := 64) (pc := 29) (nx := 30) (a := 1) (b := 0) (t := 0) rfl ak_1) (ite_c ?_ rfl)
      refine Eq.trans (s_iceq (y := 64) (pc := 30) (nx := 33) (b := 54) (tg := 54) rfl rfl) (ite_c ?_ ?_)
      · refine Eq.trans (s_iinc (y := 64) (pc := 54) (nx := 57) (a := 2) (b := 1) (x := x2) (ls' := [(3, x0), (3, x1), (0, (w32 (x2 + 1)))]) rfl rfl rfl) ?_
        refine Eq.trans (s_goto (y := 64) (pc := 57) (nx := 60) (a := 0) (b := 2) (tg := 2) rfl rfl) ?_
        rfl
      · refine Eq.trans (s_load (y := 64) (pc := 33) (nx := 34) (a := 3) (b := 0) (x := x0) rfl rfl) ?_
        refine Eq.trans (s_getq (y := 64) (pc := 34) (nx := 37) (a := 5) (b := 0) (t := 3) (k := 15) rfl rfl rfl) (ite_c ?_ rfl)
        refine Eq.trans (s_load (y := 64) (pc := 37) (nx := 38) (a := 0) (b := 2) (x := x2) rfl rfl) ?_
        refine Eq.trans (s_aldq (y := 64) (pc := 38) (nx := 39) (a := 1) (b := 0) (t := 0) rfl ak_1) (ite_c ?_ rfl)
        refine Eq.trans (s_load (y := 64) (pc := 39) (nx := 40) (a := 3) (b := 1) (x := x1) rfl rfl) ?_
        refine Eq.trans (s_getq (y := 64) (pc := 40) (nx := 43) (a := 5) (b := 0) (t := 3) (k := 15) rfl rfl rfl) (ite_c ?_ rfl)
        refine Eq.trans (s_load (y := 64) (pc := 43) (nx := 44) (a := 0) (b := 2) (x := x2) rfl rfl) ?_
        refine Eq.trans (s_aldq (y := 64) (pc := 44) (nx := 45) (a := 1) (b := 0) (t := 0) rfl ak_1) (ite_c ?_ rfl)
        refine Eq.trans (s_icge (y := 64) (pc := 45) (nx := 48) (b := 52) (tg := 52) rfl rfl) (ite_c ?_ ?_)
        · refine Eq.trans (s_push (y := 64) (pc := 48) (nx := 49) (a := 0) (b := 1) rfl) ?_
          refine Eq.trans (s_goto (y := 64) (pc := 49) (nx := 52) (a := 0) (b := 53) (tg := 53) rfl rfl) ?_
          exact s_retz (y := 64) (pc := 53) (nx := 54) rfl (by decide)
        · refine Eq.trans (s_push (y := 64) (pc := 52) (nx := 53) (a := 0) (b := 0) rfl) ?_
          exact s_retz (y := 64) (pc := 53) (nx := 54) rfl (by decide)
    · rfl
  · rfl
theorem e_64_60 (μ : Mem) (x0 : Int) (x1 : Int) (x2 : Int) : qE 64 60 [(3, x0), (3, x1), (0, x2)] [] μ = (if μ (-x0) 0 = 15 then (if μ (-x1) 0 = 15 then (if (μ x0 1) < (μ x1 1) then some ((0, 1), μ) else some ((0, 0), μ)) else none) else none) := by
  refine Eq.trans (s_load (y := 64) (pc := 60) (nx := 61) (a := 3) (b := 0) (x := x0) rfl rfl) ?_
  refine Eq.trans (s_getq (y := 64) (pc := 61) (nx := 64) (a := 5) (b := 1) (t := 0) (k := 15) rfl rfl rfl) (ite_c ?_ rfl)
  refine Eq.trans (s_load (y := 64) (pc := 64) (nx := 65) (a := 3) (b := 1) (x := x1) rfl rfl) ?_
  refine Eq.trans (s_getq (y := 64) (pc := 65) (nx := 68) (a := 5) (b := 1) (t := 0) (k := 15) rfl rfl rfl) (ite_c ?_ rfl)
  refine Eq.trans (s_icge (y := 64) (pc := 68) (nx := 71) (b := 75) (tg := 75) rfl rfl) (ite_c ?_ ?_)
  · refine Eq.trans (s_push (y := 64) (pc := 71) (nx := 72) (a := 0) (b := 1) rfl) ?_
    refine Eq.trans (s_goto (y := 64) (pc := 72) (nx := 75) (a := 0) (b := 76) (tg := 76) rfl rfl) ?_
    exact s_retz (y := 64) (pc := 76) (nx := 77) rfl (by decide)
  · refine Eq.trans (s_push (y := 64) (pc := 75) (nx := 76) (a := 0) (b := 0) rfl) ?_
    exact s_retz (y := 64) (pc := 76) (nx := 77) rfl (by decide)
theorem r_26 (D : Mem) (x1 : Int) : qR 26 [(3, 3), (0, x1)] (mk D) = ((qR 130 [(0, x1)] (mk D)).bind fun w => qE 26 4 [(3, 3), (0, x1)] (psh w.1 []) w.2) := by
  show qE 26 0 [(3, 3), (0, x1)] [] (mk D) = _
  refine Eq.trans (s_load (y := 26) (pc := 0) (nx := 1) (a := 0) (b := 1) (x := x1) rfl rfl) ?_
  exact s_call (y := 26) (pc := 1) (nx := 4) (a := 130) (b := 0) (as := [(0, x1)]) (r := []) rfl (Nat.le_of_ble_eq_true rfl) rfl rfl (Nat.le_of_ble_eq_true rfl) (Nat.le_of_ble_eq_true rfl) (Or.inl rfl)
theorem e_26_4 (D : Mem) (x1 : Int) (s0 : Int) : qE 26 4 [(3, 3), (0, x1)] [(0, s0)] (mk D) = (if s0 = 0 then some ((0, 0), (mk D)) else (if 0 ≤ x1 ∧ x1 < 26 then some ((0, (D 4 x1)), (mk D)) else none)) := by
  refine Eq.trans (s_ifeq (y := 26) (pc := 4) (nx := 7) (b := 16) (tg := 16) rfl rfl) (ite_c ?_ ?_)
  · refine Eq.trans (s_push (y := 26) (pc := 16) (nx := 17) (a := 0) (b := 0) rfl) ?_
    exact s_ret (y := 26) (pc := 17) (nx := 18) (a := 0) rfl (by decide)
  · refine Eq.trans (s_load (y := 26) (pc := 7) (nx := 8) (a := 3) (b := 0) (x := 3) rfl rfl) ?_
    refine Eq.trans (s_get (y := 26) (pc := 8) (nx := 11) (a := 1) (b := 0) (t := 3) (v := 4) rfl (mk_k3 _) rfl (mk_3_0 _)) ?_
    refine Eq.trans (s_load (y := 26) (pc := 11) (nx := 12) (a := 0) (b := 1) (x := x1) rfl rfl) ?_
    refine Eq.trans (s_ald (y := 26) (pc := 12) (nx := 13) (a := 1) (b := 0) (k := 1) (n := 26) (t := 0) (v := (D 4 x1)) rfl (mk_k4 _) rfl rfl (mk_l4 _) (mk_c4 _ _)) (ite_c ?_ rfl)
    refine Eq.trans (s_goto (y := 26) (pc := 13) (nx := 16) (a := 0) (b := 17) (tg := 17) rfl rfl) ?_
    exact s_ret (y := 26) (pc := 17) (nx := 18) (a := 0) rfl (by decide)
theorem r_27 (D : Mem) (x1 : Int) (x2 : Int) : qR 27 [(3, 3), (0, x1), (0, x2)] (mk D) = ((qR 130 [(0, x1)] (mk D)).bind fun w => qE 27 4 [(3, 3), (0, x1), (0, x2)] (psh w.1 []) w.2) := by
  show qE 27 0 [(3, 3), (0, x1), (0, x2)] [] (mk D) = _
  refine Eq.trans (s_load (y := 27) (pc := 0) (nx := 1) (a := 0) (b := 1) (x := x1) rfl rfl) ?_
  exact s_call (y := 27) (pc := 1) (nx := 4) (a := 130) (b := 0) (as := [(0, x1)]) (r := []) rfl (Nat.le_of_ble_eq_true rfl) rfl rfl (Nat.le_of_ble_eq_true rfl) (Nat.le_of_ble_eq_true rfl) (Or.inl rfl)
theorem e_27_4 (D : Mem) (x1 : Int) (x2 : Int) (s0 : Int) : qE 27 4 [(3, 3), (0, x1), (0, x2)] [(0, s0)] (mk D) = (if s0 = 0 then some ((0, 0), (mk D)) else (if 0 ≤ x1 ∧ x1 < 26 then (if (D 4 x1) = x2 then some ((0, 0), (mk D)) else (if 0 ≤ x1 ∧ x1 < 26 then some ((0, 1), (mk (mU D 4 x1 x2))) else none)) else none)) := by
  refine Eq.trans (s_ifeq (y := 27) (pc := 4) (nx := 7) (b := 17) (tg := 17) rfl rfl) (ite_c ?_ ?_)
  · refine Eq.trans (s_push (y := 27) (pc := 17) (nx := 18) (a := 0) (b := 0) rfl) ?_
    exact s_retz (y := 27) (pc := 18) (nx := 19) rfl (by decide)
  · refine Eq.trans (s_load (y := 27) (pc := 7) (nx := 8) (a := 3) (b := 0) (x := 3) rfl rfl) ?_
    refine Eq.trans (s_get (y := 27) (pc := 8) (nx := 11) (a := 1) (b := 0) (t := 3) (v := 4) rfl (mk_k3 _) rfl (mk_3_0 _)) ?_
    refine Eq.trans (s_load (y := 27) (pc := 11) (nx := 12) (a := 0) (b := 1) (x := x1) rfl rfl) ?_
    refine Eq.trans (s_ald (y := 27) (pc := 12) (nx := 13) (a := 1) (b := 0) (k := 1) (n := 26) (t := 0) (v := (D 4 x1)) rfl (mk_k4 _) rfl rfl (mk_l4 _) (mk_c4 _ _)) (ite_c ?_ rfl)
    refine Eq.trans (s_load (y := 27) (pc := 13) (nx := 14) (a := 0) (b := 2) (x := x2) rfl rfl) ?_
    refine Eq.trans (s_icne (y := 27) (pc := 14) (nx := 17) (b := 19) (tg := 19) rfl rfl) (ite_c ?_ ?_)
    · refine Eq.trans (s_push (y := 27) (pc := 17) (nx := 18) (a := 0) (b := 0) rfl) ?_
      exact s_retz (y := 27) (pc := 18) (nx := 19) rfl (by decide)
    · refine Eq.trans (s_load (y := 27) (pc := 19) (nx := 20) (a := 3) (b := 0) (x := 3) rfl rfl) ?_
      refine Eq.trans (s_get (y := 27) (pc := 20) (nx := 23) (a := 1) (b := 0) (t := 3) (v := 4) rfl (mk_k3 _) rfl (mk_3_0 _)) ?_
      refine Eq.trans (s_load (y := 27) (pc := 23) (nx := 24) (a := 0) (b := 1) (x := x1) rfl rfl) ?_
      refine Eq.trans (s_load (y := 27) (pc := 24) (nx := 25) (a := 0) (b := 2) (x := x2) rfl rfl) ?_
      refine Eq.trans (s_ast (y := 27) (pc := 25) (nx := 26) (a := 1) (b := 0) (k := 1) (n := 26) (t := 0) (v := x2) (μ' := mk (mU D 4 x1 x2)) rfl (by decide) (mk_k4 _) rfl (mk_l4 _) (mu_4 _ _ _)) (ite_c ?_ rfl)
      refine Eq.trans (s_push (y := 27) (pc := 26) (nx := 27) (a := 0) (b := 1) rfl) ?_
      exact s_retz (y := 27) (pc := 27) (nx := 28) rfl (by decide)
theorem r_28 (D : Mem) (x1 : Int) (x2 : Int) : qR 28 [(3, 3), (0, x1), (0, x2)] (mk D) = ((qR 26 [(3, 3), (0, x1)] (mk D)).bind fun w => qE 28 5 [(3, 3), (0, x1), (0, x2), (9, 0)] (psh w.1 []) w.2) := by
  show qE 28 0 [(3, 3), (0, x1), (0, x2), (9, 0)] [] (mk D) = _
  refine Eq.trans (s_load (y := 28) (pc := 0) (nx := 1) (a := 3) (b := 0) (x := 3) rfl rfl) ?_
  refine Eq.trans (s_load (y := 28) (pc := 1) (nx := 2) (a := 0) (b := 1) (x := x1) rfl rfl) ?_
  exact s_call (y := 28) (pc := 2) (nx := 5) (a := 26) (b := 0) (as := [(3, 3), (0, x1)]) (r := []) rfl (Nat.le_of_ble_eq_true rfl) rfl rfl (Nat.le_of_ble_eq_true rfl) (Nat.le_of_ble_eq_true rfl) (Or.inr ⟨rfl, mk_k3 _⟩)
theorem e_28_5 (D : Mem) (x1 : Int) (x2 : Int) (s0 : Int) : qE 28 5 [(3, 3), (0, x1), (0, x2), (9, 0)] [(0, s0)] (mk D) = ((qR 26 [(3, 3), (0, x2)] (mk D)).bind fun w => qE 28 13 [(3, 3), (0, x1), (0, x2), (0, s0)] (psh w.1 [(0, x1), (3, 3)]) w.2) := by
  refine Eq.trans (s_store (y := 28) (pc := 5) (nx := 6) (a := 0) (b := 3) (ls' := [(3, 3), (0, x1), (0, x2), (0, s0)]) rfl (Nat.le_of_ble_eq_true rfl) rfl) ?_
  refine Eq.trans (s_load (y := 28) (pc := 6) (nx := 7) (a := 3) (b := 0) (x := 3) rfl rfl) ?_
  refine Eq.trans (s_load (y := 28) (pc := 7) (nx := 8) (a := 0) (b := 1) (x := x1) rfl rfl) ?_
  refine Eq.trans (s_load (y := 28) (pc := 8) (nx := 9) (a := 3) (b := 0) (x := 3) rfl rfl) ?_
  refine Eq.trans (s_load (y := 28) (pc := 9) (nx := 10) (a := 0) (b := 2) (x := x2) rfl rfl) ?_
  exact s_call (y := 28) (pc := 10) (nx := 13) (a := 26) (b := 0) (as := [(3, 3), (0, x2)]) (r := [(0, x1), (3, 3)]) rfl (Nat.le_of_ble_eq_true rfl) rfl rfl (Nat.le_of_ble_eq_true rfl) (Nat.le_of_ble_eq_true rfl) (Or.inr ⟨rfl, mk_k3 _⟩)
theorem e_28_13 (D : Mem) (x1 : Int) (x2 : Int) (x3 : Int) (s1 : Int) (s2 : Int) : qE 28 13 [(3, 3), (0, x1), (0, x2), (0, x3)] [(0, s2), (0, s1), (3, 3)] (mk D) = ((qR 27 [(3, 3), (0, s1), (0, s2)] (mk D)).bind fun w => qE 28 16 [(3, 3), (0, x1), (0, x2), (0, x3)] (psh w.1 []) w.2) := by
  exact s_call (y := 28) (pc := 13) (nx := 16) (a := 27) (b := 0) (as := [(3, 3), (0, s1), (0, s2)]) (r := []) rfl (Nat.le_of_ble_eq_true rfl) rfl rfl (Nat.le_of_ble_eq_true rfl) (Nat.le_of_ble_eq_true rfl) (Or.inr ⟨rfl, mk_k3 _⟩)
theorem e_28_16 (D : Mem) (x1 : Int) (x2 : Int) (x3 : Int) (s0 : Int) : qE 28 16 [(3, 3), (0, x1), (0, x2), (0, x3)] [(0, s0)] (mk D) = ((qR 27 [(3, 3), (0, x2), (0, x3)] (mk D)).bind fun w => qE 28 23 [(3, 3), (0, x1), (0, x2), (0, x3)] (psh w.1 []) w.2) := by
  refine Eq.trans (s_pop (y := 28) (pc := 16) (nx := 17) (a := 0) (b := 0) rfl (by decide)) ?_
  refine Eq.trans (s_load (y := 28) (pc := 17) (nx := 18) (a := 3) (b := 0) (x := 3) rfl rfl) ?_
  refine Eq.trans (s_load (y := 28) (pc := 18) (nx := 19) (a := 0) (b := 2) (x := x2) rfl rfl) ?_
  refine Eq.trans (s_load (y := 28) (pc := 19) (nx := 20) (a := 0) (b := 3) (x := x3) rfl rfl) ?_
  exact s_call (y := 28) (pc := 20) (nx := 23) (a := 27) (b := 0) (as := [(3, 3), (0, x2), (0, x3)]) (r := []) rfl (Nat.le_of_ble_eq_true rfl) rfl rfl (Nat.le_of_ble_eq_true rfl) (Nat.le_of_ble_eq_true rfl) (Or.inr ⟨rfl, mk_k3 _⟩)
theorem e_28_23 (D : Mem) (x1 : Int) (x2 : Int) (x3 : Int) (s0 : Int) : qE 28 23 [(3, 3), (0, x1), (0, x2), (0, x3)] [(0, s0)] (mk D) = some ((9, 0), (mk D)) := by
  refine Eq.trans (s_pop (y := 28) (pc := 23) (nx := 24) (a := 0) (b := 0) rfl (by decide)) ?_
  exact s_retv (y := 28) (pc := 24) (nx := 25) (b := 0) rfl
theorem r_29 (D : Mem) (x1 : Int) : qR 29 [(3, 3), (0, x1)] (mk D) = ((qR 26 [(3, 3), (0, x1)] (mk D)).bind fun w => qE 29 5 [(3, 3), (0, x1), (9, 0), (9, 0), (9, 0)] (psh w.1 []) w.2) := by
  show qE 29 0 [(3, 3), (0, x1), (9, 0), (9, 0), (9, 0)] [] (mk D) = _
  refine Eq.trans (s_load (y := 29) (pc := 0) (nx := 1) (a := 3) (b := 0) (x := 3) rfl rfl) ?_
  refine Eq.trans (s_load (y := 29) (pc := 1) (nx := 2) (a := 0) (b := 1) (x := x1) rfl rfl) ?_
  exact s_call (y := 29) (pc := 2) (nx := 5) (a := 26) (b := 0) (as := [(3, 3), (0, x1)]) (r := []) rfl (Nat.le_of_ble_eq_true rfl) rfl rfl (Nat.le_of_ble_eq_true rfl) (Nat.le_of_ble_eq_true rfl) (Or.inr ⟨rfl, mk_k3 _⟩)
theorem e_29_5 (D : Mem) (x1 : Int) (s0 : Int) : qE 29 5 [(3, 3), (0, x1), (9, 0), (9, 0), (9, 0)] [(0, s0)] (mk D) = qE 29 11 [(3, 3), (0, x1), (0, s0), (0, 0), (0, 0)] [] (mk D) := by
  refine Eq.trans (s_store (y := 29) (pc := 5) (nx := 6) (a := 0) (b := 2) (ls' := [(3, 3), (0, x1), (0, s0), (9, 0), (9, 0)]) rfl (Nat.le_of_ble_eq_true rfl) rfl) ?_
  refine Eq.trans (s_push (y := 29) (pc := 6) (nx := 7) (a := 0) (b := 0) rfl) ?_
  refine Eq.trans (s_store (y := 29) (pc := 7) (nx := 8) (a := 0) (b := 3) (ls' := [(3, 3), (0, x1), (0, s0), (0, 0), (9, 0)]) rfl (Nat.le_of_ble_eq_true rfl) rfl) ?_
  refine Eq.trans (s_push (y := 29) (pc := 8) (nx := 9) (a := 0) (b := 0) rfl) ?_
  refine Eq.trans (s_store (y := 29) (pc := 9) (nx := 11) (a := 0) (b := 4) (ls' := [(3, 3), (0, x1), (0, s0), (0, 0), (0, 0)]) rfl (Nat.le_of_ble_eq_true rfl) rfl) ?_
  rfl
theorem e_29_11 (D : Mem) (x1 : Int) (x2 : Int) (x3 : Int) (x4 : Int) : qE 29 11 [(3, 3), (0, x1), (0, x2), (0, x3), (0, x4)] [] (mk D) = (if x4 ≤ x1 then (if x4 < 26 then (if 0 ≤ x4 ∧ x4 < 26 then (if (D 4 x4) = x2 then qE 29 11 [(3, 3), (0, x1), (0, x2), (0, (w32 (x3 + 1))), (0, (w32 (x4 + 1)))] [] (mk D) else qE 29 11 [(3, 3), (0, x1), (0, x2), (0, x3), (0, (w32 (x4 + 1)))] [] (mk D)) else none) else some ((0, x3), (mk D))) else some ((0, x3), (mk D))) := by
  refine Eq.trans (s_load (y := 29) (pc := 11) (nx := 13) (a := 0) (b := 4) (x := x4) rfl rfl) ?_
  refine Eq.trans (s_load (y := 29) (pc := 13) (nx := 14) (a := 0) (b := 1) (x := x1) rfl rfl) ?_
  refine Eq.trans (s_icgt (y := 29) (pc := 14) (nx := 17) (b := 44) (tg := 44) rfl rfl) (ite_c ?_ ?_)
  · refine Eq.trans (s_load (y := 29) (pc := 17) (nx := 19) (a := 0) (b := 4) (x := x4) rfl rfl) ?_
    refine Eq.trans (s_push (y := 29) (pc := 19) (nx := 21) (a := 0) (b := 26) rfl) ?_
    refine Eq.trans (s_icge (y := 29) (pc := 21) (nx := 24) (b := 44) (tg := 44) rfl rfl) (ite_c ?_ ?_)
    · refine Eq.trans (s_load (y := 29) (pc := 24) (nx := 25) (a := 3) (b := 0) (x := 3) rfl rfl) ?_
      refine Eq.trans (s_get (y := 29) (pc := 25) (nx := 28) (a := 1) (b := 0) (t := 3) (v := 4) rfl (mk_k3 _) rfl (mk_3_0 _)) ?_
      refine Eq.trans (s_load (y := 29) (pc := 28) (nx := 30) (a := 0) (b := 4) (x := x4) rfl rfl) ?_
      refine Eq.trans (s_ald (y := 29) (pc := 30) (nx := 31) (a := 1) (b := 0) (k := 1) (n := 26) (t := 0) (v := (D 4 x4)) rfl (mk_k4 _) rfl rfl (mk_l4 _) (mk_c4 _ _)) (ite_c ?_ rfl)
      refine Eq.trans (s_load (y := 29) (pc := 31) (nx := 32) (a := 0) (b := 2) (x := x2) rfl rfl) ?_
      refine Eq.trans (s_icne (y := 29) (pc := 32) (nx := 35) (b := 38) (tg := 38) rfl rfl) (ite_c ?_ ?_)
      · refine Eq.trans (s_iinc (y := 29) (pc := 35) (nx := 38) (a := 3) (b := 1) (x := x3) (ls' := [(3, 3), (0, x1), (0, x2), (0, (w32 (x3 + 1))), (0, x4)]) rfl rfl rfl) ?_
        refine Eq.trans (s_iinc (y := 29) (pc := 38) (nx := 41) (a := 4) (b := 1) (x := x4) (ls' := [(3, 3), (0, x1), (0, x2), (0, (w32 (x3 + 1))), (0, (w32 (x4 + 1)))]) rfl rfl rfl) ?_
        refine Eq.trans (s_goto (y := 29) (pc := 41) (nx := 44) (a := 0) (b := 11) (tg := 11) rfl rfl) ?_
        rfl
      · refine Eq.trans (s_iinc (y := 29) (pc := 38) (nx := 41) (a := 4) (b := 1) (x := x4) (ls' := [(3, 3), (0, x1), (0, x2), (0, x3), (0, (w32 (x4 + 1)))]) rfl rfl rfl) ?_
        refine Eq.trans (s_goto (y := 29) (pc := 41) (nx := 44) (a := 0) (b := 11) (tg := 11) rfl rfl) ?_
        rfl
    · refine Eq.trans (s_load (y := 29) (pc := 44) (nx := 45) (a := 0) (b := 3) (x := x3) rfl rfl) ?_
      exact s_ret (y := 29) (pc := 45) (nx := 46) (a := 0) rfl (by decide)
  · refine Eq.trans (s_load (y := 29) (pc := 44) (nx := 45) (a := 0) (b := 3) (x := x3) rfl rfl) ?_
    exact s_ret (y := 29) (pc := 45) (nx := 46) (a := 0) rfl (by decide)
theorem r_30 (D : Mem) (x1 : Int) : qR 30 [(3, 3), (3, x1)] (mk D) = qE 30 7 [(3, 3), (3, x1), (0, 1), (0, 0), (0, 0), (9, 0)] [] (mk D) := by
  show qE 30 0 [(3, 3), (3, x1), (9, 0), (9, 0), (9, 0), (9, 0)] [] (mk D) = _
  refine Eq.trans (s_push (y := 30) (pc := 0) (nx := 1) (a := 0) (b := 1) rfl) ?_
  refine Eq.trans (s_store (y := 30) (pc := 1) (nx := 2) (a := 0) (b := 2) (ls' := [(3, 3), (3, x1), (0, 1), (9, 0), (9, 0), (9, 0)]) rfl (Nat.le_of_ble_eq_true rfl) rfl) ?_
  refine Eq.trans (s_push (y := 30) (pc := 2) (nx := 3) (a := 0) (b := 0) rfl) ?_
  refine Eq.trans (s_store (y := 30) (pc := 3) (nx := 4) (a := 0) (b := 3) (ls' := [(3, 3), (3, x1), (0, 1), (0, 0), (9, 0), (9, 0)]) rfl (Nat.le_of_ble_eq_true rfl) rfl) ?_
  refine Eq.trans (s_push (y := 30) (pc := 4) (nx := 5) (a := 0) (b := 0) rfl) ?_
  refine Eq.trans (s_store (y := 30) (pc := 5) (nx := 7) (a := 0) (b := 4) (ls' := [(3, 3), (3, x1), (0, 1), (0, 0), (0, 0), (9, 0)]) rfl (Nat.le_of_ble_eq_true rfl) rfl) ?_
  rfl
theorem e_30_7 (D : Mem) (x1 : Int) (x2 : Int) (x3 : Int) (x4 : Int) (v5 : PV) : qE 30 7 [(3, 3), (3, x1), (0, x2), (0, x3), (0, x4), v5] [] (mk D) = (if (mk D) (-x1) 0 = 15 then (qR 55 [(3, x1)] (mk D)).bind fun w => qE 30 13 [(3, 3), (3, x1), (0, x2), (0, x3), (0, x4), v5] (psh w.1 [(0, x4)]) w.2 else none) := by
  refine Eq.trans (s_load (y := 30) (pc := 7) (nx := 9) (a := 0) (b := 4) (x := x4) rfl rfl) ?_
  refine Eq.trans (s_load (y := 30) (pc := 9) (nx := 10) (a := 3) (b := 1) (x := x1) rfl rfl) ?_
  exact s_callq (k := 15) (y := 30) (pc := 10) (nx := 13) (a := 55) (b := 0) (as := [(3, x1)]) (r := [(0, x4)]) rfl (Nat.le_of_ble_eq_true rfl) rfl rfl (Nat.le_of_ble_eq_true rfl) (Nat.le_of_ble_eq_true rfl) (by decide) rfl rfl
theorem e_30_13 (D : Mem) (x1 : Int) (x2 : Int) (x3 : Int) (x4 : Int) (v5 : PV) (s0 : Int) (s1 : Int) : qE 30 13 [(3, 3), (3, x1), (0, x2), (0, x3), (0, x4), v5] [(0, s1), (0, s0)] (mk D) = (if s0 < s1 then (if (mk D) (-x1) 0 = 15 then (qR 58 [(3, x1), (0, x4)] (mk D)).bind fun w => qE 30 23 [(3, 3), (3, x1), (0, x2), (0, x3), (0, x4), v5] (psh w.1 [(3, 3)]) w.2 else none) else some ((0, x2), (mk D))) := by
  refine Eq.trans (s_icge (y := 30) (pc := 13) (nx := 16) (b := 59) (tg := 59) rfl rfl) (ite_c ?_ ?_)
  · refine Eq.trans (s_load (y := 30) (pc := 16) (nx := 17) (a := 3) (b := 0) (x := 3) rfl rfl) ?_
    refine Eq.trans (s_load (y := 30) (pc := 17) (nx := 18) (a := 3) (b := 1) (x := x1) rfl rfl) ?_
    refine Eq.trans (s_load (y := 30) (pc := 18) (nx := 20) (a := 0) (b := 4) (x := x4) rfl rfl) ?_
    exact s_callq (k := 15) (y := 30) (pc := 20) (nx := 23) (a := 58) (b := 0) (as := [(3, x1), (0, x4)]) (r := [(3, 3)]) rfl (Nat.le_of_ble_eq_true rfl) rfl rfl (Nat.le_of_ble_eq_true rfl) (Nat.le_of_ble_eq_true rfl) (by decide) rfl rfl
  · refine Eq.trans (s_load (y := 30) (pc := 59) (nx := 60) (a := 0) (b := 2) (x := x2) rfl rfl) ?_
    exact s_ret (y := 30) (pc := 60) (nx := 61) (a := 0) rfl (by decide)
theorem e_30_23 (D : Mem) (x1 : Int) (x2 : Int) (x3 : Int) (x4 : Int) (v5 : PV) (s1 : Int) : qE 30 23 [(3, 3), (3, x1), (0, x2), (0, x3), (0, x4), v5] [(0, s1), (3, 3)] (mk D) = ((qR 26 [(3, 3), (0, s1)] (mk D)).bind fun w => qE 30 26 [(3, 3), (3, x1), (0, x2), (0, x3), (0, x4), v5] (psh w.1 []) w.2) := by
  exact s_call (y := 30) (pc := 23) (nx := 26) (a := 26) (b := 0) (as := [(3, 3), (0, s1)]) (r := []) rfl (Nat.le_of_ble_eq_true rfl) rfl rfl (Nat.le_of_ble_eq_true rfl) (Nat.le_of_ble_eq_true rfl) (Or.inr ⟨rfl, mk_k3 _⟩)
theorem e_30_26 (D : Mem) (x1 : Int) (x2 : Int) (x3 : Int) (x4 : Int) (v5 : PV) (s0 : Int) : qE 30 26 [(3, 3), (3, x1), (0, x2), (0, x3), (0, x4), v5] [(0, s0)] (mk D) = (if (mk D) (-x1) 0 = 15 then (qR 58 [(3, x1), (0, x4)] (mk D)).bind fun w => qE 30 36 [(3, 3), (3, x1), (0, x2), (0, x3), (0, x4), (0, s0)] (psh w.1 [(3, 3), (0, x2)]) w.2 else none) := by
  refine Eq.trans (s_store (y := 30) (pc := 26) (nx := 28) (a := 0) (b := 5) (ls' := [(3, 3), (3, x1), (0, x2), (0, x3), (0, x4), (0, s0)]) rfl (Nat.le_of_ble_eq_true rfl) rfl) ?_
  refine Eq.trans (s_load (y := 30) (pc := 28) (nx := 29) (a := 0) (b := 2) (x := x2) rfl rfl) ?_
  refine Eq.trans (s_load (y := 30) (pc := 29) (nx := 30) (a := 3) (b := 0) (x := 3) rfl rfl) ?_
  refine Eq.trans (s_load (y := 30) (pc := 30) (nx := 31) (a := 3) (b := 1) (x := x1) rfl rfl) ?_
  refine Eq.trans (s_load (y := 30) (pc := 31) (nx := 33) (a := 0) (b := 4) (x := x4) rfl rfl) ?_
  exact s_callq (k := 15) (y := 30) (pc := 33) (nx := 36) (a := 58) (b := 0) (as := [(3, x1), (0, x4)]) (r := [(3, 3), (0, x2)]) rfl (Nat.le_of_ble_eq_true rfl) rfl rfl (Nat.le_of_ble_eq_true rfl) (Nat.le_of_ble_eq_true rfl) (by decide) rfl rfl
theorem e_30_36 (D : Mem) (x1 : Int) (x2 : Int) (x3 : Int) (x4 : Int) (x5 : Int) (s0 : Int) (s2 : Int) : qE 30 36 [(3, 3), (3, x1), (0, x2), (0, x3), (0, x4), (0, x5)] [(0, s2), (3, 3), (0, s0)] (mk D) = ((qR 29 [(3, 3), (0, s2)] (mk D)).bind fun w => qE 30 39 [(3, 3), (3, x1), (0, x2), (0, x3), (0, x4), (0, x5)] (psh w.1 [(0, s0)]) w.2) := by
  exact s_call (y := 30) (pc := 36) (nx := 39) (a := 29) (b := 0) (as := [(3, 3), (0, s2)]) (r := [(0, s0)]) rfl (Nat.le_of_ble_eq_true rfl) rfl rfl (Nat.le_of_ble_eq_true rfl) (Nat.le_of_ble_eq_true rfl) (Or.inr ⟨rfl, mk_k3 _⟩)
theorem e_30_39 (D : Mem) (x1 : Int) (x2 : Int) (x3 : Int) (x4 : Int) (x5 : Int) (s0 : Int) (s1 : Int) : qE 30 39 [(3, 3), (3, x1), (0, x2), (0, x3), (0, x4), (0, x5)] [(0, s1), (0, s0)] (mk D) = (if x5 = x3 then qE 30 7 [(3, 3), (3, x1), (0, (w32 ((w32 (s0 + s1)) + 1))), (0, x5), (0, (w32 (x4 + 1))), (0, x5)] [] (mk D) else qE 30 7 [(3, 3), (3, x1), (0, (w32 (s0 + s1))), (0, x5), (0, (w32 (x4 + 1))), (0, x5)] [] (mk D)) := by
  refine Eq.trans (s_add (y := 30) (pc := 39) (nx := 40) (b := 0) rfl) ?_
  refine Eq.trans (s_store (y := 30) (pc := 40) (nx := 41) (a := 0) (b := 2) (ls' := [(3, 3), (3, x1), (0, (w32 (s0 + s1))), (0, x3), (0, x4), (0, x5)]) rfl (Nat.le_of_ble_eq_true rfl) rfl) ?_
  refine Eq.trans (s_load (y := 30) (pc := 41) (nx := 43) (a := 0) (b := 5) (x := x5) rfl rfl) ?_
  refine Eq.trans (s_load (y := 30) (pc := 43) (nx := 44) (a := 0) (b := 3) (x := x3) rfl rfl) ?_
  refine Eq.trans (s_icne (y := 30) (pc := 44) (nx := 47) (b := 50) (tg := 50) rfl rfl) (ite_c ?_ ?_)
  · refine Eq.trans (s_iinc (y := 30) (pc := 47) (nx := 50) (a := 2) (b := 1) (x := (w32 (s0 + s1))) (ls' := [(3, 3), (3, x1), (0, (w32 ((w32 (s0 + s1)) + 1))), (0, x3), (0, x4), (0, x5)]) rfl rfl rfl) ?_
    refine Eq.trans (s_load (y := 30) (pc := 50) (nx := 52) (a := 0) (b := 5) (x := x5) rfl rfl) ?_
    refine Eq.trans (s_store (y := 30) (pc := 52) (nx := 53) (a := 0) (b := 3) (ls' := [(3, 3), (3, x1), (0, (w32 ((w32 (s0 + s1)) + 1))), (0, x5), (0, x4), (0, x5)]) rfl (Nat.le_of_ble_eq_true rfl) rfl) ?_
    refine Eq.trans (s_iinc (y := 30) (pc := 53) (nx := 56) (a := 4) (b := 1) (x := x4) (ls' := [(3, 3), (3, x1), (0, (w32 ((w32 (s0 + s1)) + 1))), (0, x5), (0, (w32 (x4 + 1))), (0, x5)]) rfl rfl rfl) ?_
    refine Eq.trans (s_goto (y := 30) (pc := 56) (nx := 59) (a := 0) (b := 7) (tg := 7) rfl rfl) ?_
    rfl
  · refine Eq.trans (s_load (y := 30) (pc := 50) (nx := 52) (a := 0) (b := 5) (x := x5) rfl rfl) ?_
    refine Eq.trans (s_store (y := 30) (pc := 52) (nx := 53) (a := 0) (b := 3) (ls' := [(3, 3), (3, x1), (0, (w32 (s0 + s1))), (0, x5), (0, x4), (0, x5)]) rfl (Nat.le_of_ble_eq_true rfl) rfl) ?_
    refine Eq.trans (s_iinc (y := 30) (pc := 53) (nx := 56) (a := 4) (b := 1) (x := x4) (ls' := [(3, 3), (3, x1), (0, (w32 (s0 + s1))), (0, x5), (0, (w32 (x4 + 1))), (0, x5)]) rfl rfl rfl) ?_
    refine Eq.trans (s_goto (y := 30) (pc := 56) (nx := 59) (a := 0) (b := 7) (tg := 7) rfl rfl) ?_
    rfl
theorem r_31 (D : Mem) (x1 : Int) : qR 31 [(3, 3), (3, x1)] (mk D) = qE 31 5 [(3, 3), (3, x1), (1, 0), (9, 0), (0, 0)] [] (mk D) := by
  show qE 31 0 [(3, 3), (3, x1), (9, 0), (9, 0), (9, 0)] [] (mk D) = _
  refine Eq.trans (s_push (y := 31) (pc := 0) (nx := 1) (a := 1) (b := 0) rfl) ?_
  refine Eq.trans (s_store (y := 31) (pc := 1) (nx := 2) (a := 1) (b := 2) (ls' := [(3, 3), (3, x1), (1, 0), (9, 0), (9, 0)]) rfl (Nat.le_of_ble_eq_true rfl) rfl) ?_
  refine Eq.trans (s_push (y := 31) (pc := 2) (nx := 3) (a := 0) (b := 0) rfl) ?_
  refine Eq.trans (s_store (y := 31) (pc := 3) (nx := 5) (a := 0) (b := 4) (ls' := [(3, 3), (3, x1), (1, 0), (9, 0), (0, 0)]) rfl (Nat.le_of_ble_eq_true rfl) rfl) ?_
  rfl
theorem e_31_5 (D : Mem) (x1 : Int) (x2 : Int) (x4 : Int) : qE 31 5 [(3, 3), (3, x1), (1, x2), (9, 0), (0, x4)] [] (mk D) = (if (mk D) (-x1) 0 = 15 then (qR 55 [(3, x1)] (mk D)).bind fun w => qE 31 11 [(3, 3), (3, x1), (1, x2), (9, 0), (0, x4)] (psh w.1 [(0, x4)]) w.2 else none) := by
  refine Eq.trans (s_load (y := 31) (pc := 5) (nx := 7) (a := 0) (b := 4) (x := x4) rfl rfl) ?_
  refine Eq.trans (s_load (y := 31) (pc := 7) (nx := 8) (a := 3) (b := 1) (x := x1) rfl rfl) ?_
  exact s_callq (k := 15) (y := 31) (pc := 8) (nx := 11) (a := 55) (b := 0) (as := [(3, x1)]) (r := [(0, x4)]) rfl (Nat.le_of_ble_eq_true rfl) rfl rfl (Nat.le_of_ble_eq_true rfl) (Nat.le_of_ble_eq_true rfl) (by decide) rfl rfl
theorem e_31_11 (D : Mem) (x1 : Int) (x2 : Int) (x4 : Int) (s0 : Int) (s1 : Int) : qE 31 11 [(3, 3), (3, x1), (1, x2), (9, 0), (0, x4)] [(0, s1), (0, s0)] (mk D) = (if s0 < s1 then (if (mk D) (-x1) 0 = 15 then (qR 58 [(3, x1), (0, x4)] (mk D)).bind fun w => qE 31 22 [(3, 3), (3, x1), (1, x2), (9, 0), (0, x4)] (psh w.1 [(3, 3), (1, x2)]) w.2 else none) else some ((1, x2), (mk D))) := by
  refine Eq.trans (s_icge (y := 31) (pc := 11) (nx := 14) (b := 35) (tg := 35) rfl rfl) (ite_c ?_ ?_)
  · refine Eq.trans (s_load (y := 31) (pc := 14) (nx := 15) (a := 1) (b := 2) (x := x2) rfl rfl) ?_
    refine Eq.trans (s_load (y := 31) (pc := 15) (nx := 16) (a := 3) (b := 0) (x := 3) rfl rfl) ?_
    refine Eq.trans (s_load (y := 31) (pc := 16) (nx := 17) (a := 3) (b := 1) (x := x1) rfl rfl) ?_
    refine Eq.trans (s_load (y := 31) (pc := 17) (nx := 19) (a := 0) (b := 4) (x := x4) rfl rfl) ?_
    exact s_callq (k := 15) (y := 31) (pc := 19) (nx := 22) (a := 58) (b := 0) (as := [(3, x1), (0, x4)]) (r := [(3, 3), (1, x2)]) rfl (Nat.le_of_ble_eq_true rfl) rfl rfl (Nat.le_of_ble_eq_true rfl) (Nat.le_of_ble_eq_true rfl) (by decide) rfl rfl
  · refine Eq.trans (s_load (y := 31) (pc := 35) (nx := 36) (a := 1) (b := 2) (x := x2) rfl rfl) ?_
    exact s_ret (y := 31) (pc := 36) (nx := 37) (a := 1) rfl (by decide)
theorem e_31_22 (D : Mem) (x1 : Int) (x2 : Int) (x4 : Int) (s0 : Int) (s2 : Int) : qE 31 22 [(3, 3), (3, x1), (1, x2), (9, 0), (0, x4)] [(0, s2), (3, 3), (1, s0)] (mk D) = ((qR 26 [(3, 3), (0, s2)] (mk D)).bind fun w => qE 31 25 [(3, 3), (3, x1), (1, x2), (9, 0), (0, x4)] (psh w.1 [(1, s0)]) w.2) := by
  exact s_call (y := 31) (pc := 22) (nx := 25) (a := 26) (b := 0) (as := [(3, 3), (0, s2)]) (r := [(1, s0)]) rfl (Nat.le_of_ble_eq_true rfl) rfl rfl (Nat.le_of_ble_eq_true rfl) (Nat.le_of_ble_eq_true rfl) (Or.inr ⟨rfl, mk_k3 _⟩)
theorem e_31_25 (D : Mem) (x1 : Int) (x2 : Int) (x4 : Int) (s0 : Int) (s1 : Int) : qE 31 25 [(3, 3), (3, x1), (1, x2), (9, 0), (0, x4)] [(0, s1), (1, s0)] (mk D) = ((qR 14 [(1, s0), (0, s1)] (mk D)).bind fun w => qE 31 28 [(3, 3), (3, x1), (1, x2), (9, 0), (0, x4)] (psh w.1 []) w.2) := by
  exact s_call (y := 31) (pc := 25) (nx := 28) (a := 14) (b := 0) (as := [(1, s0), (0, s1)]) (r := []) rfl (Nat.le_of_ble_eq_true rfl) rfl rfl (Nat.le_of_ble_eq_true rfl) (Nat.le_of_ble_eq_true rfl) (Or.inl rfl)
theorem e_31_28 (D : Mem) (x1 : Int) (x2 : Int) (x4 : Int) (s0 : Int) : qE 31 28 [(3, 3), (3, x1), (1, x2), (9, 0), (0, x4)] [(1, s0)] (mk D) = qE 31 5 [(3, 3), (3, x1), (1, s0), (9, 0), (0, (w32 (x4 + 1)))] [] (mk D) := by
  refine Eq.trans (s_store (y := 31) (pc := 28) (nx := 29) (a := 1) (b := 2) (ls' := [(3, 3), (3, x1), (1, s0), (9, 0), (0, x4)]) rfl (Nat.le_of_ble_eq_true rfl) rfl) ?_
  refine Eq.trans (s_iinc (y := 31) (pc := 29) (nx := 32) (a := 4) (b := 1) (x := x4) (ls' := [(3, 3), (3, x1), (1, s0), (9, 0), (0, (w32 (x4 + 1)))]) rfl rfl rfl) ?_
  refine Eq.trans (s_goto (y := 31) (pc := 32) (nx := 35) (a := 0) (b := 5) (tg := 5) rfl rfl) ?_
  rfl
theorem r_32 (D : Mem) (x1 : Int) : qR 32 [(3, 3), (3, x1)] (mk D) = qE 32 8 [(3, 3), (3, x1), (1, 0), (9, 0), (0, 0), (0, 0), (9, 0)] [] (mk D) := by
  show qE 32 0 [(3, 3), (3, x1), (9, 0), (9, 0), (9, 0), (9, 0), (9, 0)] [] (mk D) = _
  refine Eq.trans (s_push (y := 32) (pc := 0) (nx := 1) (a := 1) (b := 0) rfl) ?_
  refine Eq.trans (s_store (y := 32) (pc := 1) (nx := 2) (a := 1) (b := 2) (ls' := [(3, 3), (3, x1), (1, 0), (9, 0), (9, 0), (9, 0), (9, 0)]) rfl (Nat.le_of_ble_eq_true rfl) rfl) ?_
  refine Eq.trans (s_push (y := 32) (pc := 2) (nx := 3) (a := 0) (b := 0) rfl) ?_
  refine Eq.trans (s_store (y := 32) (pc := 3) (nx := 5) (a := 0) (b := 4) (ls' := [(3, 3), (3, x1), (1, 0), (9, 0), (0, 0), (9, 0), (9, 0)]) rfl (Nat.le_of_ble_eq_true rfl) rfl) ?_
  refine Eq.trans (s_push (y := 32) (pc := 5) (nx := 6) (a := 0) (b := 0) rfl) ?_
  refine Eq.trans (s_store (y := 32) (pc := 6) (nx := 8) (a := 0) (b := 5) (ls' := [(3, 3), (3, x1), (1, 0), (9, 0), (0, 0), (0, 0), (9, 0)]) rfl (Nat.le_of_ble_eq_true rfl) rfl) ?_
  rfl
theorem e_32_8 (D : Mem) (x1 : Int) (x2 : Int) (x4 : Int) (x5 : Int) (v6 : PV) : qE 32 8 [(3, 3), (3, x1), (1, x2), (9, 0), (0, x4), (0, x5), v6] [] (mk D) = (if (mk D) (-x1) 0 = 15 then (qR 55 [(3, x1)] (mk D)).bind fun w => qE 32 14 [(3, 3), (3, x1), (1, x2), (9, 0), (0, x4), (0, x5), v6] (psh w.1 [(0, x5)]) w.2 else none) := by
  refine Eq.trans (s_load (y := 32) (pc := 8) (nx := 10) (a := 0) (b := 5) (x := x5) rfl rfl) ?_
  refine Eq.trans (s_load (y := 32) (pc := 10) (nx := 11) (a := 3) (b := 1) (x := x1) rfl rfl) ?_
  exact s_callq (k := 15) (y := 32) (pc := 11) (nx := 14) (a := 55) (b := 0) (as := [(3, x1)]) (r := [(0, x5)]) rfl (Nat.le_of_ble_eq_true rfl) rfl rfl (Nat.le_of_ble_eq_true rfl) (Nat.le_of_ble_eq_true rfl) (by decide) rfl rfl
theorem e_32_14 (D : Mem) (x1 : Int) (x2 : Int) (x4 : Int) (x5 : Int) (v6 : PV) (s0 : Int) (s1 : Int) : qE 32 14 [(3, 3), (3, x1), (1, x2), (9, 0), (0, x4), (0, x5), v6] [(0, s1), (0, s0)] (mk D) = (if s0 < s1 then (if (mk D) (-x1) 0 = 15 then (qR 58 [(3, x1), (0, x5)] (mk D)).bind fun w => qE 32 24 [(3, 3), (3, x1), (1, x2), (9, 0), (0, x4), (0, x5), v6] (psh w.1 [(3, 3)]) w.2 else none) else some ((1, x2), (mk D))) := by
  refine Eq.trans (s_icge (y := 32) (pc := 14) (nx := 17) (b := 53) (tg := 53) rfl rfl) (ite_c ?_ ?_)
  · refine Eq.trans (s_load (y := 32) (pc := 17) (nx := 18) (a := 3) (b := 0) (x := 3) rfl rfl) ?_
    refine Eq.trans (s_load (y := 32) (pc := 18) (nx := 19) (a := 3) (b := 1) (x := x1) rfl rfl) ?_
    refine Eq.trans (s_load (y := 32) (pc := 19) (nx := 21) (a := 0) (b := 5) (x := x5) rfl rfl) ?_
    exact s_callq (k := 15) (y := 32) (pc := 21) (nx := 24) (a := 58) (b := 0) (as := [(3, x1), (0, x5)]) (r := [(3, 3)]) rfl (Nat.le_of_ble_eq_true rfl) rfl rfl (Nat.le_of_ble_eq_true rfl) (Nat.le_of_ble_eq_true rfl) (by decide) rfl rfl
  · refine Eq.trans (s_load (y := 32) (pc := 53) (nx := 54) (a := 1) (b := 2) (x := x2) rfl rfl) ?_
    exact s_ret (y := 32) (pc := 54) (nx := 55) (a := 1) rfl (by decide)
theorem e_32_24 (D : Mem) (x1 : Int) (x2 : Int) (x4 : Int) (x5 : Int) (v6 : PV) (s1 : Int) : qE 32 24 [(3, 3), (3, x1), (1, x2), (9, 0), (0, x4), (0, x5), v6] [(0, s1), (3, 3)] (mk D) = ((qR 26 [(3, 3), (0, s1)] (mk D)).bind fun w => qE 32 27 [(3, 3), (3, x1), (1, x2), (9, 0), (0, x4), (0, x5), v6] (psh w.1 []) w.2) := by
  exact s_call (y := 32) (pc := 24) (nx := 27) (a := 26) (b := 0) (as := [(3, 3), (0, s1)]) (r := []) rfl (Nat.le_of_ble_eq_true rfl) rfl rfl (Nat.le_of_ble_eq_true rfl) (Nat.le_of_ble_eq_true rfl) (Or.inr ⟨rfl, mk_k3 _⟩)
theorem e_32_27 (D : Mem) (x1 : Int) (x2 : Int) (x4 : Int) (x5 : Int) (v6 : PV) (s0 : Int) : qE 32 27 [(3, 3), (3, x1), (1, x2), (9, 0), (0, x4), (0, x5), v6] [(0, s0)] (mk D) = (if s0 = x4 then qE 32 8 [(3, 3), (3, x1), (1, x2), (9, 0), (0, s0), (0, (w32 (x5 + 1))), (0, s0)] [] (mk D) else ((qR 14 [(1, x2), (0, s0)] (mk D)).bind fun w => qE 32 42 [(3, 3), (3, x1), (1, x2), (9, 0), (0, x4), (0, x5), (0, s0)] (psh w.1 []) w.2)) := by
  refine Eq.trans (s_store (y := 32) (pc := 27) (nx := 29) (a := 0) (b := 6) (ls' := [(3, 3), (3, x1), (1, x2), (9, 0), (0, x4), (0, x5), (0, s0)]) rfl (Nat.le_of_ble_eq_true rfl) rfl) ?_
  refine Eq.trans (s_load (y := 32) (pc := 29) (nx := 31) (a := 0) (b := 6) (x := s0) rfl rfl) ?_
  refine Eq.trans (s_load (y := 32) (pc := 31) (nx := 33) (a := 0) (b := 4) (x := x4) rfl rfl) ?_
  refine Eq.trans (s_iceq (y := 32) (pc := 33) (nx := 36) (b := 43) (tg := 43) rfl rfl) (ite_c ?_ ?_)
  · refine Eq.trans (s_load (y := 32) (pc := 43) (nx := 45) (a := 0) (b := 6) (x := s0) rfl rfl) ?_
    refine Eq.trans (s_store (y := 32) (pc := 45) (nx := 47) (a := 0) (b := 4) (ls' := [(3, 3), (3, x1), (1, x2), (9, 0), (0, s0), (0, x5), (0, s0)]) rfl (Nat.le_of_ble_eq_true rfl) rfl) ?_
    refine Eq.trans (s_iinc (y := 32) (pc := 47) (nx := 50) (a := 5) (b := 1) (x := x5) (ls' := [(3, 3), (3, x1), (1, x2), (9, 0), (0, s0), (0, (w32 (x5 + 1))), (0, s0)]) rfl rfl rfl) ?_
    refine Eq.trans (s_goto (y := 32) (pc := 50) (nx := 53) (a := 0) (b := 8) (tg := 8) rfl rfl) ?_
    rfl
  · refine Eq.trans (s_load (y := 32) (pc := 36) (nx := 37) (a := 1) (b := 2) (x := x2) rfl rfl) ?_
    refine Eq.trans (s_load (y := 32) (pc := 37) (nx := 39) (a := 0) (b := 6) (x := s0) rfl rfl) ?_
    exact s_call (y := 32) (pc := 39) (nx := 42) (a := 14) (b := 0) (as := [(1, x2), (0, s0)]) (r := []) rfl (Nat.le_of_ble_eq_true rfl) rfl rfl (Nat.le_of_ble_eq_true rfl) (Nat.le_of_ble_eq_true rfl) (Or.inl rfl)
theorem e_32_42 (D : Mem) (x1 : Int) (x2 : Int) (x4 : Int) (x5 : Int) (x6 : Int) (s0 : Int) : qE 32 42 [(3, 3), (3, x1), (1, x2), (9, 0), (0, x4), (0, x5), (0, x6)] [(1, s0)] (mk D) = qE 32 8 [(3, 3), (3, x1), (1, s0), (9, 0), (0, x6), (0, (w32 (x5 + 1))), (0, x6)] [] (mk D) := by
  refine Eq.trans (s_store (y := 32) (pc := 42) (nx := 43) (a := 1) (b := 2) (ls' := [(3, 3), (3, x1), (1, s0), (9, 0), (0, x4), (0, x5), (0, x6)]) rfl (Nat.le_of_ble_eq_true rfl) rfl) ?_
  refine Eq.trans (s_load (y := 32) (pc := 43) (nx := 45) (a := 0) (b := 6) (x := x6) rfl rfl) ?_
  refine Eq.trans (s_store (y := 32) (pc := 45) (nx := 47) (a := 0) (b := 4) (ls' := [(3, 3), (3, x1), (1, s0), (9, 0), (0, x6), (0, x5), (0, x6)]) rfl (Nat.le_of_ble_eq_true rfl) rfl) ?_
  refine Eq.trans (s_iinc (y := 32) (pc := 47) (nx := 50) (a := 5) (b := 1) (x := x5) (ls' := [(3, 3), (3, x1), (1, s0), (9, 0), (0, x6), (0, (w32 (x5 + 1))), (0, x6)]) rfl rfl rfl) ?_
  refine Eq.trans (s_goto (y := 32) (pc := 50) (nx := 53) (a := 0) (b := 8) (tg := 8) rfl rfl) ?_
  rfl
theorem r_41 (D : Mem) : qR 41 [(3, 7)] (mk D) = some ((0, (D 7 3)), (mk D)) := by
  show qE 41 0 [(3, 7)] [] (mk D) = _
  refine Eq.trans (s_load (y := 41) (pc := 0) (nx := 1) (a := 3) (b := 0) (x := 7) rfl rfl) ?_
  refine Eq.trans (s_get (y := 41) (pc := 1) (nx := 4) (a := 3) (b := 3) (t := 0) (v := (D 7 3)) rfl (mk_k7 _) rfl (mk_7_3 _)) ?_
  exact s_ret (y := 41) (pc := 4) (nx := 5) (a := 0) rfl (by decide)
theorem r_42 (D : Mem) (x1 : Int) (x2 : Int) : qR 42 [(3, 7), (0, x1), (0, x2)] (mk D) = qE 42 2 [(3, 7), (0, x1), (0, x2), (0, 0)] [] (mk D) := by
  show qE 42 0 [(3, 7), (0, x1), (0, x2), (9, 0)] [] (mk D) = _
  refine Eq.trans (s_push (y := 42) (pc := 0) (nx := 1) (a := 0) (b := 0) rfl) ?_
  refine Eq.trans (s_store (y := 42) (pc := 1) (nx := 2) (a := 0) (b := 3) (ls' := [(3, 7), (0, x1), (0, x2), (0, 0)]) rfl (Nat.le_of_ble_eq_true rfl) rfl) ?_
  rfl
theorem e_42_2 (D : Mem) (x1 : Int) (x2 : Int) (x3 : Int) : qE 42 2 [(3, 7), (0, x1), (0, x2), (0, x3)] [] (mk D) = (if x3 < (D 7 3) then (if 0 ≤ x3 ∧ x3 < 150 then (if (D 8 x3) = x1 then (if 0 ≤ x3 ∧ x3 < 150 then (if (D 9 x3) = x2 then some ((0, x3), (mk D)) else qE 42 2 [(3, 7), (0, x1), (0, x2), (0, (w32 (x3 + 1)))] [] (mk D)) else none) else qE 42 2 [(3, 7), (0, x1), (0, x2), (0, (w32 (x3 + 1)))] [] (mk D)) else none) else some ((0, (-1)), (mk D))) := by
  refine Eq.trans (s_load (y := 42) (pc := 2) (nx := 3) (a := 0) (b := 3) (x := x3) rfl rfl) ?_
  refine Eq.trans (s_load (y := 42) (pc := 3) (nx := 4) (a := 3) (b := 0) (x := 7) rfl rfl) ?_
  refine Eq.trans (s_get (y := 42) (pc := 4) (nx := 7) (a := 3) (b := 3) (t := 0) (v := (D 7 3)) rfl (mk_k7 _) rfl (mk_7_3 _)) ?_
  refine Eq.trans (s_icge (y := 42) (pc := 7) (nx := 10) (b := 38) (tg := 38) rfl rfl) (ite_c ?_ ?_)
  · refine Eq.trans (s_load (y := 42) (pc := 10) (nx := 11) (a := 3) (b := 0) (x := 7) rfl rfl) ?_
    refine Eq.trans (s_get (y := 42) (pc := 11) (nx := 14) (a := 3) (b := 0) (t := 3) (v := 8) rfl (mk_k7 _) rfl (mk_7_0 _)) ?_
    refine Eq.trans (s_load (y := 42) (pc := 14) (nx := 15) (a := 0) (b := 3) (x := x3) rfl rfl) ?_
    refine Eq.trans (s_ald (y := 42) (pc := 15) (nx := 16) (a := 1) (b := 0) (k := 1) (n := 150) (t := 0) (v := (D 8 x3)) rfl (mk_k8 _) rfl rfl (mk_l8 _) (mk_c8 _ _)) (ite_c ?_ rfl)
    refine Eq.trans (s_load (y := 42) (pc := 16) (nx := 17) (a := 0) (b := 1) (x := x1) rfl rfl) ?_
    refine Eq.trans (s_icne (y := 42) (pc := 17) (nx := 20) (b := 32) (tg := 32) rfl rfl) (ite_c ?_ ?_)
    · refine Eq.trans (s_load (y := 42) (pc := 20) (nx := 21) (a := 3) (b := 0) (x := 7) rfl rfl) ?_
      refine Eq.trans (s_get (y := 42) (pc := 21) (nx := 24) (a := 3) (b := 1) (t := 3) (v := 9) rfl (mk_k7 _) rfl (mk_7_1 _)) ?_
      refine Eq.trans (s_load (y := 42) (pc := 24) (nx := 25) (a := 0) (b := 3) (x := x3) rfl rfl) ?_
      refine Eq.trans (s_ald (y := 42) (pc := 25) (nx := 26) (a := 1) (b := 0) (k := 1) (n := 150) (t := 0) (v := (D 9 x3)) rfl (mk_k9 _) rfl rfl (mk_l9 _) (mk_c9 _ _)) (ite_c ?_ rfl)
      refine Eq.trans (s_load (y := 42) (pc := 26) (nx := 27) (a := 0) (b := 2) (x := x2) rfl rfl) ?_
      refine Eq.trans (s_icne (y := 42) (pc := 27) (nx := 30) (b := 32) (tg := 32) rfl rfl) (ite_c ?_ ?_)
      · refine Eq.trans (s_load (y := 42) (pc := 30) (nx := 31) (a := 0) (b := 3) (x := x3) rfl rfl) ?_
        exact s_ret (y := 42) (pc := 31) (nx := 32) (a := 0) rfl (by decide)
      · refine Eq.trans (s_iinc (y := 42) (pc := 32) (nx := 35) (a := 3) (b := 1) (x := x3) (ls' := [(3, 7), (0, x1), (0, x2), (0, (w32 (x3 + 1)))]) rfl rfl rfl) ?_
        refine Eq.trans (s_goto (y := 42) (pc := 35) (nx := 38) (a := 0) (b := 2) (tg := 2) rfl rfl) ?_
        rfl
    · refine Eq.trans (s_iinc (y := 42) (pc := 32) (nx := 35) (a := 3) (b := 1) (x := x3) (ls' := [(3, 7), (0, x1), (0, x2), (0, (w32 (x3 + 1)))]) rfl rfl rfl) ?_
      refine Eq.trans (s_goto (y := 42) (pc := 35) (nx := 38) (a := 0) (b := 2) (tg := 2) rfl rfl) ?_
      rfl
  · refine Eq.trans (s_push (y := 42) (pc := 38) (nx := 39) (a := 0) (b := (-1)) rfl) ?_
    exact s_ret (y := 42) (pc := 39) (nx := 40) (a := 0) rfl (by decide)
theorem r_43 (D : Mem) (x1 : Int) (x2 : Int) : qR 43 [(3, 7), (0, x1), (0, x2)] (mk D) = ((qR 42 [(3, 7), (0, x1), (0, x2)] (mk D)).bind fun w => qE 43 6 [(3, 7), (0, x1), (0, x2), (9, 0)] (psh w.1 []) w.2) := by
  show qE 43 0 [(3, 7), (0, x1), (0, x2), (9, 0)] [] (mk D) = _
  refine Eq.trans (s_load (y := 43) (pc := 0) (nx := 1) (a := 3) (b := 0) (x := 7) rfl rfl) ?_
  refine Eq.trans (s_load (y := 43) (pc := 1) (nx := 2) (a := 0) (b := 1) (x := x1) rfl rfl) ?_
  refine Eq.trans (s_load (y := 43) (pc := 2) (nx := 3) (a := 0) (b := 2) (x := x2) rfl rfl) ?_
  exact s_call (y := 43) (pc := 3) (nx := 6) (a := 42) (b := 0) (as := [(3, 7), (0, x1), (0, x2)]) (r := []) rfl (Nat.le_of_ble_eq_true rfl) rfl rfl (Nat.le_of_ble_eq_true rfl) (Nat.le_of_ble_eq_true rfl) (Or.inr ⟨rfl, mk_k7 _⟩)
theorem e_43_6 (D : Mem) (x1 : Int) (x2 : Int) (s0 : Int) : qE 43 6 [(3, 7), (0, x1), (0, x2), (9, 0)] [(0, s0)] (mk D) = (if s0 < 0 then some ((0, 0), (mk D)) else (if 0 ≤ s0 ∧ s0 < 150 then some ((0, (D 10 s0)), (mk D)) else none)) := by
  refine Eq.trans (s_store (y := 43) (pc := 6) (nx := 7) (a := 0) (b := 3) (ls' := [(3, 7), (0, x1), (0, x2), (0, s0)]) rfl (Nat.le_of_ble_eq_true rfl) rfl) ?_
  refine Eq.trans (s_load (y := 43) (pc := 7) (nx := 8) (a := 0) (b := 3) (x := s0) rfl rfl) ?_
  refine Eq.trans (s_ifge (y := 43) (pc := 8) (nx := 11) (b := 15) (tg := 15) rfl rfl) (ite_c ?_ ?_)
  · refine Eq.trans (s_push (y := 43) (pc := 11) (nx := 12) (a := 0) (b := 0) rfl) ?_
    refine Eq.trans (s_goto (y := 43) (pc := 12) (nx := 15) (a := 0) (b := 21) (tg := 21) rfl rfl) ?_
    exact s_ret (y := 43) (pc := 21) (nx := 22) (a := 0) rfl (by decide)
  · refine Eq.trans (s_load (y := 43) (pc := 15) (nx := 16) (a := 3) (b := 0) (x := 7) rfl rfl) ?_
    refine Eq.trans (s_get (y := 43) (pc := 16) (nx := 19) (a := 3) (b := 2) (t := 3) (v := 10) rfl (mk_k7 _) rfl (mk_7_2 _)) ?_
    refine Eq.trans (s_load (y := 43) (pc := 19) (nx := 20) (a := 0) (b := 3) (x := s0) rfl rfl) ?_
    refine Eq.trans (s_ald (y := 43) (pc := 20) (nx := 21) (a := 1) (b := 0) (k := 1) (n := 150) (t := 0) (v := (D 10 s0)) rfl (mk_k10 _) rfl rfl (mk_l10 _) (mk_c10 _ _)) (ite_c ?_ rfl)
    exact s_ret (y := 43) (pc := 21) (nx := 22) (a := 0) rfl (by decide)
theorem r_44 (D : Mem) (x1 : Int) (x2 : Int) : qR 44 [(3, 7), (0, x1), (0, x2)] (mk D) = (if (D 7 3) < 150 then some ((0, 1), (mk D)) else ((qR 42 [(3, 7), (0, x1), (0, x2)] (mk D)).bind fun w => qE 44 16 [(3, 7), (0, x1), (0, x2)] (psh w.1 []) w.2)) := by
  show qE 44 0 [(3, 7), (0, x1), (0, x2)] [] (mk D) = _
  refine Eq.trans (s_load (y := 44) (pc := 0) (nx := 1) (a := 3) (b := 0) (x := 7) rfl rfl) ?_
  refine Eq.trans (s_get (y := 44) (pc := 1) (nx := 4) (a := 3) (b := 3) (t := 0) (v := (D 7 3)) rfl (mk_k7 _) rfl (mk_7_3 _)) ?_
  refine Eq.trans (s_push (y := 44) (pc := 4) (nx := 7) (a := 0) (b := 150) rfl) ?_
  refine Eq.trans (s_iclt (y := 44) (pc := 7) (nx := 10) (b := 19) (tg := 19) rfl rfl) (ite_c ?_ ?_)
  · refine Eq.trans (s_push (y := 44) (pc := 19) (nx := 20) (a := 0) (b := 1) rfl) ?_
    refine Eq.trans (s_goto (y := 44) (pc := 20) (nx := 23) (a := 0) (b := 24) (tg := 24) rfl rfl) ?_
    exact s_retz (y := 44) (pc := 24) (nx := 25) rfl (by decide)
  · refine Eq.trans (s_load (y := 44) (pc := 10) (nx := 11) (a := 3) (b := 0) (x := 7) rfl rfl) ?_
    refine Eq.trans (s_load (y := 44) (pc := 11) (nx := 12) (a := 0) (b := 1) (x := x1) rfl rfl) ?_
    refine Eq.trans (s_load (y := 44) (pc := 12) (nx := 13) (a := 0) (b := 2) (x := x2) rfl rfl) ?_
    exact s_call (y := 44) (pc := 13) (nx := 16) (a := 42) (b := 0) (as := [(3, 7), (0, x1), (0, x2)]) (r := []) rfl (Nat.le_of_ble_eq_true rfl) rfl rfl (Nat.le_of_ble_eq_true rfl) (Nat.le_of_ble_eq_true rfl) (Or.inr ⟨rfl, mk_k7 _⟩)
theorem e_44_16 (D : Mem) (x1 : Int) (x2 : Int) (s0 : Int) : qE 44 16 [(3, 7), (0, x1), (0, x2)] [(0, s0)] (mk D) = (if s0 < 0 then some ((0, 0), (mk D)) else some ((0, 1), (mk D))) := by
  refine Eq.trans (s_iflt (y := 44) (pc := 16) (nx := 19) (b := 23) (tg := 23) rfl rfl) (ite_c ?_ ?_)
  · refine Eq.trans (s_push (y := 44) (pc := 23) (nx := 24) (a := 0) (b := 0) rfl) ?_
    exact s_retz (y := 44) (pc := 24) (nx := 25) rfl (by decide)
  · refine Eq.trans (s_push (y := 44) (pc := 19) (nx := 20) (a := 0) (b := 1) rfl) ?_
    refine Eq.trans (s_goto (y := 44) (pc := 20) (nx := 23) (a := 0) (b := 24) (tg := 24) rfl rfl) ?_
    exact s_retz (y := 44) (pc := 24) (nx := 25) rfl (by decide)
theorem r_45 (D : Mem) (x1 : Int) (x2 : Int) (x3 : Int) : qR 45 [(3, 7), (0, x1), (0, x2), (0, x3)] (mk D) = ((qR 42 [(3, 7), (0, x1), (0, x2)] (mk D)).bind fun w => qE 45 6 [(3, 7), (0, x1), (0, x2), (0, x3), (9, 0)] (psh w.1 []) w.2) := by
  show qE 45 0 [(3, 7), (0, x1), (0, x2), (0, x3), (9, 0)] [] (mk D) = _
  refine Eq.trans (s_load (y := 45) (pc := 0) (nx := 1) (a := 3) (b := 0) (x := 7) rfl rfl) ?_
  refine Eq.trans (s_load (y := 45) (pc := 1) (nx := 2) (a := 0) (b := 1) (x := x1) rfl rfl) ?_
  refine Eq.trans (s_load (y := 45) (pc := 2) (nx := 3) (a := 0) (b := 2) (x := x2) rfl rfl) ?_
  exact s_call (y := 45) (pc := 3) (nx := 6) (a := 42) (b := 0) (as := [(3, 7), (0, x1), (0, x2)]) (r := []) rfl (Nat.le_of_ble_eq_true rfl) rfl rfl (Nat.le_of_ble_eq_true rfl) (Nat.le_of_ble_eq_true rfl) (Or.inr ⟨rfl, mk_k7 _⟩)
theorem e_45_6 (D : Mem) (x1 : Int) (x2 : Int) (x3 : Int) (s0 : Int) : qE 45 6 [(3, 7), (0, x1), (0, x2), (0, x3), (9, 0)] [(0, s0)] (mk D) = (if s0 < 0 then qE 45 28 [(3, 7), (0, x1), (0, x2), (0, x3), (0, s0)] [] (mk D) else (if x3 ≤ 0 then qE 45 28 [(3, 7), (0, x1), (0, x2), (0, x3), (0, s0)] [] (mk D) else (if 0 ≤ s0 ∧ s0 < 150 then some ((9, 0), (mk (mU D 10 s0 x3))) else none))) := by
  refine Eq.trans (s_store (y := 45) (pc := 6) (nx := 8) (a := 0) (b := 4) (ls' := [(3, 7), (0, x1), (0, x2), (0, x3), (0, s0)]) rfl (Nat.le_of_ble_eq_true rfl) rfl) ?_
  refine Eq.trans (s_load (y := 45) (pc := 8) (nx := 10) (a := 0) (b := 4) (x := s0) rfl rfl) ?_
  refine Eq.trans (s_iflt (y := 45) (pc := 10) (nx := 13) (b := 28) (tg := 28) rfl rfl) (ite_c ?_ ?_)
  · rfl
  · refine Eq.trans (s_load (y := 45) (pc := 13) (nx := 14) (a := 0) (b := 3) (x := x3) rfl rfl) ?_
    refine Eq.trans (s_ifle (y := 45) (pc := 14) (nx := 17) (b := 28) (tg := 28) rfl rfl) (ite_c ?_ ?_)
    · rfl
    · refine Eq.trans (s_load (y := 45) (pc := 17) (nx := 18) (a := 3) (b := 0) (x := 7) rfl rfl) ?_
      refine Eq.trans (s_get (y := 45) (pc := 18) (nx := 21) (a := 3) (b := 2) (t := 3) (v := 10) rfl (mk_k7 _) rfl (mk_7_2 _)) ?_
      refine Eq.trans (s_load (y := 45) (pc := 21) (nx := 23) (a := 0) (b := 4) (x := s0) rfl rfl) ?_
      refine Eq.trans (s_load (y := 45) (pc := 23) (nx := 24) (a := 0) (b := 3) (x := x3) rfl rfl) ?_
      refine Eq.trans (s_ast (y := 45) (pc := 24) (nx := 25) (a := 1) (b := 0) (k := 1) (n := 150) (t := 0) (v := x3) (μ' := mk (mU D 10 s0 x3)) rfl (by decide) (mk_k10 _) rfl (mk_l10 _) (mu_10 _ _ _)) (ite_c ?_ rfl)
      refine Eq.trans (s_goto (y := 45) (pc := 25) (nx := 28) (a := 0) (b := 96) (tg := 96) rfl rfl) ?_
      exact s_retv (y := 45) (pc := 96) (nx := 97) (b := 0) rfl
theorem e_45_28 (D : Mem) (x1 : Int) (x2 : Int) (x3 : Int) (x4 : Int) : qE 45 28 [(3, 7), (0, x1), (0, x2), (0, x3), (0, x4)] [] (mk D) = (if x4 < 0 then (if x3 ≤ 0 then some ((9, 0), (mk D)) else (if (D 7 3) < 150 then (if 0 ≤ (D 7 3) ∧ (D 7 3) < 150 then (if 0 ≤ ((mU D 8 (D 7 3) x1) 7 3) ∧ ((mU D 8 (D 7 3) x1) 7 3) < 150 then (if 0 ≤ ((mU (mU D 8 (D 7 3) x1) 9 ((mU D 8 (D 7 3) x1) 7 3) x2) 7 3) ∧ ((mU (mU D 8 (D 7 3) x1) 9 ((mU D 8 (D 7 3) x1) 7 3) x2) 7 3) < 150 then some ((9, 0), (mk (mU (mU (mU (mU D 8 (D 7 3) x1) 9 ((mU D 8 (D 7 3) x1) 7 3) x2) 10 ((mU (mU D 8 (D 7 3) x1) 9 ((mU D 8 (D 7 3) x1) 7 3) x2) 7 3) x3) 7 3 (w32 (((mU (mU (mU D 8 (D 7 3) x1) 9 ((mU D 8 (D 7 3) x1) 7 3) x2) 10 ((mU (mU D 8 (D 7 3) x1) 9 ((mU D 8 (D 7 3) x1) 7 3) x2) 7 3) x3) 7 3) + 1))))) else none) else none) else none) else some ((9, 0), (mk D)))) else ((qR 46 [(3, 7), (0, x4)] (mk D)).bind fun w => qE 45 39 [(3, 7), (0, x1), (0, x2), (0, x3), (0, x4)] (psh w.1 []) w.2)) := by
  refine Eq.trans (s_load (y := 45) (pc := 28) (nx := 30) (a := 0) (b := 4) (x := x4) rfl rfl) ?_
  refine Eq.trans (s_iflt (y := 45) (pc := 30) (nx := 33) (b := 42) (tg := 42) rfl rfl) (ite_c ?_ ?_)
  · refine Eq.trans (s_load (y := 45) (pc := 42) (nx := 43) (a := 0) (b := 3) (x := x3) rfl rfl) ?_
    refine Eq.trans (s_ifle (y := 45) (pc := 43) (nx := 46) (b := 96) (tg := 96) rfl rfl) (ite_c ?_ ?_)
    · exact s_retv (y := 45) (pc := 96) (nx := 97) (b := 0) rfl
    · refine Eq.trans (s_load (y := 45) (pc := 46) (nx := 47) (a := 3) (b := 0) (x := 7) rfl rfl) ?_
      refine Eq.trans (s_get (y := 45) (pc := 47) (nx := 50) (a := 3) (b := 3) (t := 0) (v := (D 7 3)) rfl (mk_k7 _) rfl (mk_7_3 _)) ?_
      refine Eq.trans (s_push (y := 45) (pc := 50) (nx := 53) (a := 0) (b := 150) rfl) ?_
      refine Eq.trans (s_icge (y := 45) (pc := 53) (nx := 56) (b := 96) (tg := 96) rfl rfl) (ite_c ?_ ?_)
      · refine Eq.trans (s_load (y := 45) (pc := 56) (nx := 57) (a := 3) (b := 0) (x := 7) rfl rfl) ?_
        refine Eq.trans (s_get (y := 45) (pc := 57) (nx := 60) (a := 3) (b := 0) (t := 3) (v := 8) rfl (mk_k7 _) rfl (mk_7_0 _)) ?_
        refine Eq.trans (s_load (y := 45) (pc := 60) (nx := 61) (a := 3) (b := 0) (x := 7) rfl rfl) ?_
        refine Eq.trans (s_get (y := 45) (pc := 61) (nx := 64) (a := 3) (b := 3) (t := 0) (v := (D 7 3)) rfl (mk_k7 _) rfl (mk_7_3 _)) ?_
        refine Eq.trans (s_load (y := 45) (pc := 64) (nx := 65) (a := 0) (b := 1) (x := x1) rfl rfl) ?_
        refine Eq.trans (s_ast (y := 45) (pc := 65) (nx := 66) (a := 1) (b := 0) (k := 1) (n := 150) (t := 0) (v := x1) (μ' := mk (mU D 8 (D 7 3) x1)) rfl (by decide) (mk_k8 _) rfl (mk_l8 _) (mu_8 _ _ _)) (ite_c ?_ rfl)
        refine Eq.trans (s_load (y := 45) (pc := 66) (nx := 67) (a := 3) (b := 0) (x := 7) rfl rfl) ?_
        refine Eq.trans (s_get (y := 45) (pc := 67) (nx := 70) (a := 3) (b := 1) (t := 3) (v := 9) rfl (mk_k7 _) rfl (mk_7_1 _)) ?_
        refine Eq.trans (s_load (y := 45) (pc := 70) (nx := 71) (a := 3) (b := 0) (x := 7) rfl rfl) ?_
        refine Eq.trans (s_get (y := 45) (pc := 71) (nx := 74) (a := 3) (b := 3) (t := 0) (v := ((mU D 8 (D 7 3) x1) 7 3)) rfl (mk_k7 _) rfl (mk_7_3 _)) ?_
        refine Eq.trans (s_load (y := 45) (pc := 74) (nx := 75) (a := 0) (b := 2) (x := x2) rfl rfl) ?_
        refine Eq.trans (s_ast (y := 45) (pc := 75) (nx := 76) (a := 1) (b := 0) (k := 1) (n := 150) (t := 0) (v := x2) (μ' := mk (mU (mU D 8 (D 7 3) x1) 9 ((mU D 8 (D 7 3) x1) 7 3) x2)) rfl (by decide) (mk_k9 _) rfl (mk_l9 _) (mu_9 _ _ _)) (ite_c ?_ rfl)
        refine Eq.trans (s_load (y := 45) (pc := 76) (nx := 77) (a := 3) (b := 0) (x := 7) rfl rfl) ?_
        refine Eq.trans (s_get (y := 45) (pc := 77) (nx := 80) (a := 3) (b := 2) (t := 3) (v := 10) rfl (mk_k7 _) rfl (mk_7_2 _)) ?_
        refine Eq.trans (s_load (y := 45) (pc := 80) (nx := 81) (a := 3) (b := 0) (x := 7) rfl rfl) ?_
        refine Eq.trans (s_get (y := 45) (pc := 81) (nx := 84) (a := 3) (b := 3) (t := 0) (v := ((mU (mU D 8 (D 7 3) x1) 9 ((mU D 8 (D 7 3) x1) 7 3) x2) 7 3)) rfl (mk_k7 _) rfl (mk_7_3 _)) ?_
        refine Eq.trans (s_load (y := 45) (pc := 84) (nx := 85) (a := 0) (b := 3) (x := x3) rfl rfl) ?_
        refine Eq.trans (s_ast (y := 45) (pc := 85) (nx := 86) (a := 1) (b := 0) (k := 1) (n := 150) (t := 0) (v := x3) (μ' := mk (mU (mU (mU D 8 (D 7 3) x1) 9 ((mU D 8 (D 7 3) x1) 7 3) x2) 10 ((mU (mU D 8 (D 7 3) x1) 9 ((mU D 8 (D 7 3) x1) 7 3) x2) 7 3) x3)) rfl (by decide) (mk_k10 _) rfl (mk_l10 _) (mu_10 _ _ _)) (ite_c ?_ rfl)
        refine Eq.trans (s_load (y := 45) (pc := 86) (nx := 87) (a := 3) (b := 0) (x := 7) rfl rfl) ?_
        refine Eq.trans (s_dup (y := 45) (pc := 87) (nx := 88) (a := 0) (b := 0) rfl (by decide)) ?_
        refine Eq.trans (s_get (y := 45) (pc := 88) (nx := 91) (a := 3) (b := 3) (t := 0) (v := ((mU (mU (mU D 8 (D 7 3) x1) 9 ((mU D 8 (D 7 3) x1) 7 3) x2) 10 ((mU (mU D 8 (D 7 3) x1) 9 ((mU D 8 (D 7 3) x1) 7 3) x2) 7 3) x3) 7 3)) rfl (mk_k7 _) rfl (mk_7_3 _)) ?_
        refine Eq.trans (s_push (y := 45) (pc := 91) (nx := 92) (a := 0) (b := 1) rfl) ?_
        refine Eq.trans (s_add (y := 45) (pc := 92) (nx := 93) (b := 0) rfl) ?_
        refine Eq.trans (s_put (y := 45) (pc := 93) (nx := 96) (a := 3) (b := 3) (t := 0) (v := (w32 (((mU (mU (mU D 8 (D 7 3) x1) 9 ((mU D 8 (D 7 3) x1) 7 3) x2) 10 ((mU (mU D 8 (D 7 3) x1) 9 ((mU D 8 (D 7 3) x1) 7 3) x2) 7 3) x3) 7 3) + 1))) (μ' := mk (mU (mU (mU (mU D 8 (D 7 3) x1) 9 ((mU D 8 (D 7 3) x1) 7 3) x2) 10 ((mU (mU D 8 (D 7 3) x1) 9 ((mU D 8 (D 7 3) x1) 7 3) x2) 7 3) x3) 7 3 (w32 (((mU (mU (mU D 8 (D 7 3) x1) 9 ((mU D 8 (D 7 3) x1) 7 3) x2) 10 ((mU (mU D 8 (D 7 3) x1) 9 ((mU D 8 (D 7 3) x1) 7 3) x2) 7 3) x3) 7 3) + 1)))) rfl (mk_k7 _) rfl (mu_7_3 _ _)) ?_
        exact s_retv (y := 45) (pc := 96) (nx := 97) (b := 0) rfl
      · exact s_retv (y := 45) (pc := 96) (nx := 97) (b := 0) rfl
  · refine Eq.trans (s_load (y := 45) (pc := 33) (nx := 34) (a := 3) (b := 0) (x := 7) rfl rfl) ?_
    refine Eq.trans (s_load (y := 45) (pc := 34) (nx := 36) (a := 0) (b := 4) (x := x4) rfl rfl) ?_
    exact s_call (y := 45) (pc := 36) (nx := 39) (a := 46) (b := 0) (as := [(3, 7), (0, x4)]) (r := []) rfl (Nat.le_of_ble_eq_true rfl) rfl rfl (Nat.le_of_ble_eq_true rfl) (Nat.le_of_ble_eq_true rfl) (Or.inr ⟨rfl, mk_k7 _⟩)
theorem e_45_39 (D : Mem) (x1 : Int) (x2 : Int) (x3 : Int) (x4 : Int) : qE 45 39 [(3, 7), (0, x1), (0, x2), (0, x3), (0, x4)] [] (mk D) = some ((9, 0), (mk D)) := by
  refine Eq.trans (s_goto (y := 45) (pc := 39) (nx := 42) (a := 0) (b := 96) (tg := 96) rfl rfl) ?_
  exact s_retv (y := 45) (pc := 96) (nx := 97) (b := 0) rfl
theorem r_46 (D : Mem) (x1 : Int) : qR 46 [(3, 7), (0, x1)] (mk D) = (if x1 < 0 then some ((9, 0), (mk D)) else (if x1 < (D 7 3) then (if 0 ≤ ((mU D 7 3 (w32 ((D 7 3) - 1))) 7 3) ∧ ((mU D 7 3 (w32 ((D 7 3) - 1))) 7 3) < 150 then (if 0 ≤ x1 ∧ x1 < 150 then (if 0 ≤ ((mU (mU D 7 3 (w32 ((D 7 3) - 1))) 8 x1 ((mU D 7 3 (w32 ((D 7 3) - 1))) 8 ((mU D 7 3 (w32 ((D 7 3) - 1))) 7 3))) 7 3) ∧ ((mU (mU D 7 3 (w32 ((D 7 3) - 1))) 8 x1 ((mU D 7 3 (w32 ((D 7 3) - 1))) 8 ((mU D 7 3 (w32 ((D 7 3) - 1))) 7 3))) 7 3) < 150 then (if 0 ≤ x1 ∧ x1 < 150 then (if 0 ≤ ((mU (mU (mU D 7 3 (w32 ((D 7 3) - 1))) 8 x1 ((mU D 7 3 (w32 ((D 7 3) - 1))) 8 ((mU D 7 3 (w32 ((D 7 3) - 1))) 7 3))) 9 x1 ((mU (mU D 7 3 (w32 ((D 7 3) - 1))) 8 x1 ((mU D 7 3 (w32 ((D 7 3) - 1))) 8 ((mU D 7 3 (w32 ((D 7 3) - 1))) 7 3))) 9 ((mU (mU D 7 3 (w32 ((D 7 3) - 1))) 8 x1 ((mU D 7 3 (w32 ((D 7 3) - 1))) 8 ((mU D 7 3 (w32 ((D 7 3) - 1))) 7 3))) 7 3))) 7 3) ∧ ((mU (mU (mU D 7 3 (w32 ((D 7 3) - 1))) 8 x1 ((mU D 7 3 (w32 ((D 7 3) - 1))) 8 ((mU D 7 3 (w32 ((D 7 3) - 1))) 7 3))) 9 x1 ((mU (mU D 7 3 (w32 ((D 7 3) - 1))) 8 x1 ((mU D 7 3 (w32 ((D 7 3) - 1))) 8 ((mU D 7 3 (w32 ((D 7 3) - 1))) 7 3))) 9 ((mU (mU D 7 3 (w32 ((D 7 3) - 1))) 8 x1 ((mU D 7 3 (w32 ((D 7 3) - 1))) 8 ((mU D 7 3 (w32 ((D 7 3) - 1))) 7 3))) 7 3))) 7 3) < 150 then (if 0 ≤ x1 ∧ x1 < 150 then some ((9, 0), (mk (mU (mU (mU (mU D 7 3 (w32 ((D 7 3) - 1))) 8 x1 ((mU D 7 3 (w32 ((D 7 3) - 1))) 8 ((mU D 7 3 (w32 ((D 7 3) - 1))) 7 3))) 9 x1 ((mU (mU D 7 3 (w32 ((D 7 3) - 1))) 8 x1 ((mU D 7 3 (w32 ((D 7 3) - 1))) 8 ((mU D 7 3 (w32 ((D 7 3) - 1))) 7 3))) 9 ((mU (mU D 7 3 (w32 ((D 7 3) - 1))) 8 x1 ((mU D 7 3 (w32 ((D 7 3) - 1))) 8 ((mU D 7 3 (w32 ((D 7 3) - 1))) 7 3))) 7 3))) 10 x1 ((mU (mU (mU D 7 3 (w32 ((D 7 3) - 1))) 8 x1 ((mU D 7 3 (w32 ((D 7 3) - 1))) 8 ((mU D 7 3 (w32 ((D 7 3) - 1))) 7 3))) 9 x1 ((mU (mU D 7 3 (w32 ((D 7 3) - 1))) 8 x1 ((mU D 7 3 (w32 ((D 7 3) - 1))) 8 ((mU D 7 3 (w32 ((D 7 3) - 1))) 7 3))) 9 ((mU (mU D 7 3 (w32 ((D 7 3) - 1))) 8 x1 ((mU D 7 3 (w32 ((D 7 3) - 1))) 8 ((mU D 7 3 (w32 ((D 7 3) - 1))) 7 3))) 7 3))) 10 ((mU (mU (mU D 7 3 (w32 ((D 7 3) - 1))) 8 x1 ((mU D 7 3 (w32 ((D 7 3) - 1))) 8 ((mU D 7 3 (w32 ((D 7 3) - 1))) 7 3))) 9 x1 ((mU (mU D 7 3 (w32 ((D 7 3) - 1))) 8 x1 ((mU D 7 3 (w32 ((D 7 3) - 1))) 8 ((mU D 7 3 (w32 ((D 7 3) - 1))) 7 3))) 9 ((mU (mU D 7 3 (w32 ((D 7 3) - 1))) 8 x1 ((mU D 7 3 (w32 ((D 7 3) - 1))) 8 ((mU D 7 3 (w32 ((D 7 3) - 1))) 7 3))) 7 3))) 7 3))))) else none) else none) else none) else none) else none) else none) else some ((9, 0), (mk D)))) := by
  show qE 46 0 [(3, 7), (0, x1)] [] (mk D) = _
  refine Eq.trans (s_load (y := 46) (pc := 0) (nx := 1) (a := 0) (b := 1) (x := x1) rfl rfl) ?_
  refine Eq.trans (s_iflt (y := 46) (pc := 1) (nx := 4) (b := 12) (tg := 12) rfl rfl) (ite_c ?_ ?_)
  · exact s_retv (y := 46) (pc := 12) (nx := 13) (b := 0) rfl
  · refine Eq.trans (s_load (y := 46) (pc := 4) (nx := 5) (a := 0) (b := 1) (x := x1) rfl rfl) ?_
    refine Eq.trans (s_load (y := 46) (pc := 5) (nx := 6) (a := 3) (b := 0) (x := 7) rfl rfl) ?_
    refine Eq.trans (s_get (y := 46) (pc := 6) (nx := 9) (a := 3) (b := 3) (t := 0) (v := (D 7 3)) rfl (mk_k7 _) rfl (mk_7_3 _)) ?_
    refine Eq.trans (s_iclt (y := 46) (pc := 9) (nx := 12) (b := 13) (tg := 13) rfl rfl) (ite_c ?_ ?_)
    · refine Eq.trans (s_load (y := 46) (pc := 13) (nx := 14) (a := 3) (b := 0) (x := 7) rfl rfl) ?_
      refine Eq.trans (s_dup (y := 46) (pc := 14) (nx := 15) (a := 0) (b := 0) rfl (by decide)) ?_
      refine Eq.trans (s_get (y := 46) (pc := 15) (nx := 18) (a := 3) (b := 3) (t := 0) (v := (D 7 3)) rfl (mk_k7 _) rfl (mk_7_3 _)) ?_
      refine Eq.trans (s_push (y := 46) (pc := 18) (nx := 19) (a := 0) (b := 1) rfl) ?_
      refine Eq.trans (s_sub (y := 46) (pc := 19) (nx := 20) (b := 0) rfl) ?_
      refine Eq.trans (s_put (y := 46) (pc := 20) (nx := 23) (a := 3) (b := 3) (t := 0) (v := (w32 ((D 7 3) - 1))) (μ' := mk (mU D 7 3 (w32 ((D 7 3) - 1)))) rfl (mk_k7 _) rfl (mu_7_3 _ _)) ?_
      refine Eq.trans (s_load (y := 46) (pc := 23) (nx := 24) (a := 3) (b := 0) (x := 7) rfl rfl) ?_
      refine Eq.trans (s_get (y := 46) (pc := 24) (nx := 27) (a := 3) (b := 0) (t := 3) (v := 8) rfl (mk_k7 _) rfl (mk_7_0 _)) ?_
      refine Eq.trans (s_load (y := 46) (pc := 27) (nx := 28) (a := 0) (b := 1) (x := x1) rfl rfl) ?_
      refine Eq.trans (s_load (y := 46) (pc := 28) (nx := 29) (a := 3) (b := 0) (x := 7) rfl rfl) ?_
      refine Eq.trans (s_get (y := 46) (pc := 29) (nx := 32) (a := 3) (b := 0) (t := 3) (v := 8) rfl (mk_k7 _) rfl (mk_7_0 _)) ?_
      refine Eq.trans (s_load (y := 46) (pc := 32) (nx := 33) (a := 3) (b := 0) (x := 7) rfl rfl) ?_
      refine Eq.trans (s_get (y := 46) (pc := 33) (nx := 36) (a := 3) (b := 3) (t := 0) (v := ((mU D 7 3 (w32 ((D 7 3) - 1))) 7 3)) rfl (mk_k7 _) rfl (mk_7_3 _)) ?_
      refine Eq.trans (s_ald (y := 46) (pc := 36) (nx := 37) (a := 1) (b := 0) (k := 1) (n := 150) (t := 0) (v := ((mU D 7 3 (w32 ((D 7 3) - 1))) 8 ((mU D 7 3 (w32 ((D 7 3) - 1))) 7 3))) rfl (mk_k8 _) rfl rfl (mk_l8 _) (mk_c8 _ _)) (ite_c ?_ rfl)
      refine Eq.trans (s_ast (y := 46) (pc := 37) (nx := 38) (a := 1) (b := 0) (k := 1) (n := 150) (t := 0) (v := ((mU D 7 3 (w32 ((D 7 3) - 1))) 8 ((mU D 7 3 (w32 ((D 7 3) - 1))) 7 3))) (μ' := mk (mU (mU D 7 3 (w32 ((D 7 3) - 1))) 8 x1 ((mU D 7 3 (w32 ((D 7 3) - 1))) 8 ((mU D 7 3 (w32 ((D 7 3) - 1))) 7 3)))) rfl (by decide) (mk_k8 _) rfl (mk_l8 _) (mu_8 _ _ _)) (ite_c ?_ rfl)
      refine Eq.trans (s_load (y := 46) (pc := 38) (nx := 39) (a := 3) (b := 0) (x := 7) rfl rfl) ?_
      refine Eq.trans (s_get (y := 46) (pc := 39) (nx := 42) (a := 3) (b := 1) (t := 3) (v := 9) rfl (mk_k7 _) rfl (mk_7_1 _)) ?_
      refine Eq.trans (s_load (y := 46) (pc := 42) (nx := 43) (a := 0) (b := 1) (x := x1) rfl rfl) ?_
      refine Eq.trans (s_load (y := 46) (pc := 43) (nx := 44) (a := 3) (b := 0) (x := 7) rfl rfl) ?_
      refine Eq.trans (s_get (y := 46) (pc := 44) (nx := 47) (a := 3) (b := 1) (t := 3) (v := 9) rfl (mk_k7 _) rfl (mk_7_1 _)) ?_
      refine Eq.trans (s_load (y := 46) (pc := 47) (nx := 48) (a := 3) (b := 0) (x := 7) rfl rfl) ?_
      refine Eq.trans (s_get (y := 46) (pc := 48) (nx := 51) (a := 3) (b := 3) (t := 0) (v := ((mU (mU D 7 3 (w32 ((D 7 3) - 1))) 8 x1 ((mU D 7 3 (w32 ((D 7 3) - 1))) 8 ((mU D 7 3 (w32 ((D 7 3) - 1))) 7 3))) 7 3)) rfl (mk_k7 _) rfl (mk_7_3 _)) ?_
      refine Eq.trans (s_ald (y := 46) (pc := 51) (nx := 52) (a := 1) (b := 0) (k := 1) (n := 150) (t := 0) (v := ((mU (mU D 7 3 (w32 ((D 7 3) - 1))) 8 x1 ((mU D 7 3 (w32 ((D 7 3) - 1))) 8 ((mU D 7 3 (w32 ((D 7 3) - 1))) 7 3))) 9 ((mU (mU D 7 3 (w32 ((D 7 3) - 1))) 8 x1 ((mU D 7 3 (w32 ((D 7 3) - 1))) 8 ((mU D 7 3 (w32 ((D 7 3) - 1))) 7 3))) 7 3))) rfl (mk_k9 _) rfl rfl (mk_l9 _) (mk_c9 _ _)) (ite_c ?_ rfl)
      refine Eq.trans (s_ast (y := 46) (pc := 52) (nx := 53) (a := 1) (b := 0) (k := 1) (n := 150) (t := 0) (v := ((mU (mU D 7 3 (w32 ((D 7 3) - 1))) 8 x1 ((mU D 7 3 (w32 ((D 7 3) - 1))) 8 ((mU D 7 3 (w32 ((D 7 3) - 1))) 7 3))) 9 ((mU (mU D 7 3 (w32 ((D 7 3) - 1))) 8 x1 ((mU D 7 3 (w32 ((D 7 3) - 1))) 8 ((mU D 7 3 (w32 ((D 7 3) - 1))) 7 3))) 7 3))) (μ' := mk (mU (mU (mU D 7 3 (w32 ((D 7 3) - 1))) 8 x1 ((mU D 7 3 (w32 ((D 7 3) - 1))) 8 ((mU D 7 3 (w32 ((D 7 3) - 1))) 7 3))) 9 x1 ((mU (mU D 7 3 (w32 ((D 7 3) - 1))) 8 x1 ((mU D 7 3 (w32 ((D 7 3) - 1))) 8 ((mU D 7 3 (w32 ((D 7 3) - 1))) 7 3))) 9 ((mU (mU D 7 3 (w32 ((D 7 3) - 1))) 8 x1 ((mU D 7 3 (w32 ((D 7 3) - 1))) 8 ((mU D 7 3 (w32 ((D 7 3) - 1))) 7 3))) 7 3)))) rfl (by decide) (mk_k9 _) rfl (mk_l9 _) (mu_9 _ _ _)) (ite_c ?_ rfl)
      refine Eq.trans (s_load (y := 46) (pc := 53) (nx := 54) (a := 3) (b := 0) (x := 7) rfl rfl) ?_
      refine Eq.trans (s_get (y := 46) (pc := 54) (nx := 57) (a := 3) (b := 2) (t := 3) (v := 10) rfl (mk_k7 _) rfl (mk_7_2 _)) ?_
      refine Eq.trans (s_load (y := 46) (pc := 57) (nx := 58) (a := 0) (b := 1) (x := x1) rfl rfl) ?_
      refine Eq.trans (s_load (y := 46) (pc := 58) (nx := 59) (a := 3) (b := 0) (x := 7) rfl rfl) ?_
      refine Eq.trans (s_get (y := 46) (pc := 59) (nx := 62) (a := 3) (b := 2) (t := 3) (v := 10) rfl (mk_k7 _) rfl (mk_7_2 _)) ?_
      refine Eq.trans (s_load (y := 46) (pc := 62) (nx := 63) (a := 3) (b := 0) (x := 7) rfl rfl) ?_
      refine Eq.trans (s_get (y := 46) (pc := 63) (nx := 66) (a := 3) (b := 3) (t := 0) (v := ((mU (mU (mU D 7 3 (w32 ((D 7 3) - 1))) 8 x1 ((mU D 7 3 (w32 ((D 7 3) - 1))) 8 ((mU D 7 3 (w32 ((D 7 3) - 1))) 7 3))) 9 x1 ((mU (mU D 7 3 (w32 ((D 7 3) - 1))) 8 x1 ((mU D 7 3 (w32 ((D 7 3) - 1))) 8 ((mU D 7 3 (w32 ((D 7 3) - 1))) 7 3))) 9 ((mU (mU D 7 3 (w32 ((D 7 3) - 1))) 8 x1 ((mU D 7 3 (w32 ((D 7 3) - 1))) 8 ((mU D 7 3 (w32 ((D 7 3) - 1))) 7 3))) 7 3))) 7 3)) rfl (mk_k7 _) rfl (mk_7_3 _)) ?_
      refine Eq.trans (s_ald (y := 46) (pc := 66) (nx := 67) (a := 1) (b := 0) (k := 1) (n := 150) (t := 0) (v := ((mU (mU (mU D 7 3 (w32 ((D 7 3) - 1))) 8 x1 ((mU D 7 3 (w32 ((D 7 3) - 1))) 8 ((mU D 7 3 (w32 ((D 7 3) - 1))) 7 3))) 9 x1 ((mU (mU D 7 3 (w32 ((D 7 3) - 1))) 8 x1 ((mU D 7 3 (w32 ((D 7 3) - 1))) 8 ((mU D 7 3 (w32 ((D 7 3) - 1))) 7 3))) 9 ((mU (mU D 7 3 (w32 ((D 7 3) - 1))) 8 x1 ((mU D 7 3 (w32 ((D 7 3) - 1))) 8 ((mU D 7 3 (w32 ((D 7 3) - 1))) 7 3))) 7 3))) 10 ((mU (mU (mU D 7 3 (w32 ((D 7 3) - 1))) 8 x1 ((mU D 7 3 (w32 ((D 7 3) - 1))) 8 ((mU D 7 3 (w32 ((D 7 3) - 1))) 7 3))) 9 x1 ((mU (mU D 7 3 (w32 ((D 7 3) - 1))) 8 x1 ((mU D 7 3 (w32 ((D 7 3) - 1))) 8 ((mU D 7 3 (w32 ((D 7 3) - 1))) 7 3))) 9 ((mU (mU D 7 3 (w32 ((D 7 3) - 1))) 8 x1 ((mU D 7 3 (w32 ((D 7 3) - 1))) 8 ((mU D 7 3 (w32 ((D 7 3) - 1))) 7 3))) 7 3))) 7 3))) rfl (mk_k10 _) rfl rfl (mk_l10 _) (mk_c10 _ _)) (ite_c ?_ rfl)
      refine Eq.trans (s_ast (y := 46) (pc := 67) (nx := 68) (a := 1) (b := 0) (k := 1) (n := 150) (t := 0) (v := ((mU (mU (mU D 7 3 (w32 ((D 7 3) - 1))) 8 x1 ((mU D 7 3 (w32 ((D 7 3) - 1))) 8 ((mU D 7 3 (w32 ((D 7 3) - 1))) 7 3))) 9 x1 ((mU (mU D 7 3 (w32 ((D 7 3) - 1))) 8 x1 ((mU D 7 3 (w32 ((D 7 3) - 1))) 8 ((mU D 7 3 (w32 ((D 7 3) - 1))) 7 3))) 9 ((mU (mU D 7 3 (w32 ((D 7 3) - 1))) 8 x1 ((mU D 7 3 (w32 ((D 7 3) - 1))) 8 ((mU D 7 3 (w32 ((D 7 3) - 1))) 7 3))) 7 3))) 10 ((mU (mU (mU D 7 3 (w32 ((D 7 3) - 1))) 8 x1 ((mU D 7 3 (w32 ((D 7 3) - 1))) 8 ((mU D 7 3 (w32 ((D 7 3) - 1))) 7 3))) 9 x1 ((mU (mU D 7 3 (w32 ((D 7 3) - 1))) 8 x1 ((mU D 7 3 (w32 ((D 7 3) - 1))) 8 ((mU D 7 3 (w32 ((D 7 3) - 1))) 7 3))) 9 ((mU (mU D 7 3 (w32 ((D 7 3) - 1))) 8 x1 ((mU D 7 3 (w32 ((D 7 3) - 1))) 8 ((mU D 7 3 (w32 ((D 7 3) - 1))) 7 3))) 7 3))) 7 3))) (μ' := mk (mU (mU (mU (mU D 7 3 (w32 ((D 7 3) - 1))) 8 x1 ((mU D 7 3 (w32 ((D 7 3) - 1))) 8 ((mU D 7 3 (w32 ((D 7 3) - 1))) 7 3))) 9 x1 ((mU (mU D 7 3 (w32 ((D 7 3) - 1))) 8 x1 ((mU D 7 3 (w32 ((D 7 3) - 1))) 8 ((mU D 7 3 (w32 ((D 7 3) - 1))) 7 3))) 9 ((mU (mU D 7 3 (w32 ((D 7 3) - 1))) 8 x1 ((mU D 7 3 (w32 ((D 7 3) - 1))) 8 ((mU D 7 3 (w32 ((D 7 3) - 1))) 7 3))) 7 3))) 10 x1 ((mU (mU (mU D 7 3 (w32 ((D 7 3) - 1))) 8 x1 ((mU D 7 3 (w32 ((D 7 3) - 1))) 8 ((mU D 7 3 (w32 ((D 7 3) - 1))) 7 3))) 9 x1 ((mU (mU D 7 3 (w32 ((D 7 3) - 1))) 8 x1 ((mU D 7 3 (w32 ((D 7 3) - 1))) 8 ((mU D 7 3 (w32 ((D 7 3) - 1))) 7 3))) 9 ((mU (mU D 7 3 (w32 ((D 7 3) - 1))) 8 x1 ((mU D 7 3 (w32 ((D 7 3) - 1))) 8 ((mU D 7 3 (w32 ((D 7 3) - 1))) 7 3))) 7 3))) 10 ((mU (mU (mU D 7 3 (w32 ((D 7 3) - 1))) 8 x1 ((mU D 7 3 (w32 ((D 7 3) - 1))) 8 ((mU D 7 3 (w32 ((D 7 3) - 1))) 7 3))) 9 x1 ((mU (mU D 7 3 (w32 ((D 7 3) - 1))) 8 x1 ((mU D 7 3 (w32 ((D 7 3) - 1))) 8 ((mU D 7 3 (w32 ((D 7 3) - 1))) 7 3))) 9 ((mU (mU D 7 3 (w32 ((D 7 3) - 1))) 8 x1 ((mU D 7 3 (w32 ((D 7 3) - 1))) 8 ((mU D 7 3 (w32 ((D 7 3) - 1))) 7 3))) 7 3))) 7 3)))) rfl (by decide) (mk_k10 _) rfl (mk_l10 _) (mu_10 _ _ _)) (ite_c ?_ rfl)
      exact s_retv (y := 46) (pc := 68) (nx := 69) (b := 0) rfl
    · exact s_retv (y := 46) (pc := 12) (nx := 13) (b := 0) rfl
theorem r_47 (D : Mem) (x1 : Int) : qR 47 [(3, 7), (0, x1)] (mk D) = qE 47 7 [(3, 7), (0, x1), (0, (w32 ((D 7 3) - 1)))] [] (mk D) := by
  show qE 47 0 [(3, 7), (0, x1), (9, 0)] [] (mk D) = _
  refine Eq.trans (s_load (y := 47) (pc := 0) (nx := 1) (a := 3) (b := 0) (x := 7) rfl rfl) ?_
  refine Eq.trans (s_get (y := 47) (pc := 1) (nx := 4) (a := 3) (b := 3) (t := 0) (v := (D 7 3)) rfl (mk_k7 _) rfl (mk_7_3 _)) ?_
  refine Eq.trans (s_push (y := 47) (pc := 4) (nx := 5) (a := 0) (b := 1) rfl) ?_
  refine Eq.trans (s_sub (y := 47) (pc := 5) (nx := 6) (b := 0) rfl) ?_
  refine Eq.trans (s_store (y := 47) (pc := 6) (nx := 7) (a := 0) (b := 2) (ls' := [(3, 7), (0, x1), (0, (w32 ((D 7 3) - 1)))]) rfl (Nat.le_of_ble_eq_true rfl) rfl) ?_
  rfl
theorem e_47_7 (D : Mem) (x1 : Int) (x2 : Int) : qE 47 7 [(3, 7), (0, x1), (0, x2)] [] (mk D) = (if x2 < 0 then some ((9, 0), (mk D)) else (if 0 ≤ x2 ∧ x2 < 150 then (if (D 8 x2) = x1 then ((qR 46 [(3, 7), (0, x2)] (mk D)).bind fun w => qE 47 36 [(3, 7), (0, x1), (0, x2)] (psh w.1 []) w.2) else (if 0 ≤ x2 ∧ x2 < 150 then (if (D 9 x2) = x1 then ((qR 46 [(3, 7), (0, x2)] (mk D)).bind fun w => qE 47 36 [(3, 7), (0, x1), (0, x2)] (psh w.1 []) w.2) else qE 47 36 [(3, 7), (0, x1), (0, x2)] [] (mk D)) else none)) else none)) := by
  refine Eq.trans (s_load (y := 47) (pc := 7) (nx := 8) (a := 0) (b := 2) (x := x2) rfl rfl) ?_
  refine Eq.trans (s_iflt (y := 47) (pc := 8) (nx := 11) (b := 42) (tg := 42) rfl rfl) (ite_c ?_ ?_)
  · exact s_retv (y := 47) (pc := 42) (nx := 43) (b := 0) rfl
  · refine Eq.trans (s_load (y := 47) (pc := 11) (nx := 12) (a := 3) (b := 0) (x := 7) rfl rfl) ?_
    refine Eq.trans (s_get (y := 47) (pc := 12) (nx := 15) (a := 3) (b := 0) (t := 3) (v := 8) rfl (mk_k7 _) rfl (mk_7_0 _)) ?_
    refine Eq.trans (s_load (y := 47) (pc := 15) (nx := 16) (a := 0) (b := 2) (x := x2) rfl rfl) ?_
    refine Eq.trans (s_ald (y := 47) (pc := 16) (nx := 17) (a := 1) (b := 0) (k := 1) (n := 150) (t := 0) (v := (D 8 x2)) rfl (mk_k8 _) rfl rfl (mk_l8 _) (mk_c8 _ _)) (ite_c ?_ rfl)
    refine Eq.trans (s_load (y := 47) (pc := 17) (nx := 18) (a := 0) (b := 1) (x := x1) rfl rfl) ?_
    refine Eq.trans (s_iceq (y := 47) (pc := 18) (nx := 21) (b := 31) (tg := 31) rfl rfl) (ite_c ?_ ?_)
    · refine Eq.trans (s_load (y := 47) (pc := 31) (nx := 32) (a := 3) (b := 0) (x := 7) rfl rfl) ?_
      refine Eq.trans (s_load (y := 47) (pc := 32) (nx := 33) (a := 0) (b := 2) (x := x2) rfl rfl) ?_
      exact s_call (y := 47) (pc := 33) (nx := 36) (a := 46) (b := 0) (as := [(3, 7), (0, x2)]) (r := []) rfl (Nat.le_of_ble_eq_true rfl) rfl rfl (Nat.le_of_ble_eq_true rfl) (Nat.le_of_ble_eq_true rfl) (Or.inr ⟨rfl, mk_k7 _⟩)
    · refine Eq.trans (s_load (y := 47) (pc := 21) (nx := 22) (a := 3) (b := 0) (x := 7) rfl rfl) ?_
      refine Eq.trans (s_get (y := 47) (pc := 22) (nx := 25) (a := 3) (b := 1) (t := 3) (v := 9) rfl (mk_k7 _) rfl (mk_7_1 _)) ?_
      refine Eq.trans (s_load (y := 47) (pc := 25) (nx := 26) (a := 0) (b := 2) (x := x2) rfl rfl) ?_
      refine Eq.trans (s_ald (y := 47) (pc := 26) (nx := 27) (a := 1) (b := 0) (k := 1) (n := 150) (t := 0) (v := (D 9 x2)) rfl (mk_k9 _) rfl rfl (mk_l9 _) (mk_c9 _ _)) (ite_c ?_ rfl)
      refine Eq.trans (s_load (y := 47) (pc := 27) (nx := 28) (a := 0) (b := 1) (x := x1) rfl rfl) ?_
      refine Eq.trans (s_icne (y := 47) (pc := 28) (nx := 31) (b := 36) (tg := 36) rfl rfl) (ite_c ?_ ?_)
      · refine Eq.trans (s_load (y := 47) (pc := 31) (nx := 32) (a := 3) (b := 0) (x := 7) rfl rfl) ?_
        refine Eq.trans (s_load (y := 47) (pc := 32) (nx := 33) (a := 0) (b := 2) (x := x2) rfl rfl) ?_
        exact s_call (y := 47) (pc := 33) (nx := 36) (a := 46) (b := 0) (as := [(3, 7), (0, x2)]) (r := []) rfl (Nat.le_of_ble_eq_true rfl) rfl rfl (Nat.le_of_ble_eq_true rfl) (Nat.le_of_ble_eq_true rfl) (Or.inr ⟨rfl, mk_k7 _⟩)
      · rfl
theorem e_47_36 (D : Mem) (x1 : Int) (x2 : Int) : qE 47 36 [(3, 7), (0, x1), (0, x2)] [] (mk D) = qE 47 7 [(3, 7), (0, x1), (0, (w32 (x2 + (-1))))] [] (mk D) := by
  refine Eq.trans (s_iinc (y := 47) (pc := 36) (nx := 39) (a := 2) (b := (-1)) (x := x2) (ls' := [(3, 7), (0, x1), (0, (w32 (x2 + (-1))))]) rfl rfl rfl) ?_
  refine Eq.trans (s_goto (y := 47) (pc := 39) (nx := 42) (a := 0) (b := 7) (tg := 7) rfl rfl) ?_
  rfl
theorem r_48 (D : Mem) (x1 : Int) : qR 48 [(3, 7), (0, x1), (3, 35)] (mk D) = ((qR 218 [(3, 35), (0, 0)] (mk D)).bind fun w => qE 48 5 [(3, 7), (0, x1), (3, 35), (9, 0), (9, 0)] (psh w.1 []) w.2) := by
  show qE 48 0 [(3, 7), (0, x1), (3, 35), (9, 0), (9, 0)] [] (mk D) = _
  refine Eq.trans (s_load (y := 48) (pc := 0) (nx := 1) (a := 3) (b := 2) (x := 35) rfl rfl) ?_
  refine Eq.trans (s_push (y := 48) (pc := 1) (nx := 2) (a := 0) (b := 0) rfl) ?_
  exact s_call (y := 48) (pc := 2) (nx := 5) (a := 218) (b := 0) (as := [(3, 35), (0, 0)]) (r := []) rfl (Nat.le_of_ble_eq_true rfl) rfl rfl (Nat.le_of_ble_eq_true rfl) (Nat.le_of_ble_eq_true rfl) (Or.inl rfl)
theorem e_48_5 (D : Mem) (x1 : Int) : qE 48 5 [(3, 7), (0, x1), (3, 35), (9, 0), (9, 0)] [] (mk D) = qE 48 7 [(3, 7), (0, x1), (3, 35), (0, 0), (9, 0)] [] (mk D) := by
  refine Eq.trans (s_push (y := 48) (pc := 5) (nx := 6) (a := 0) (b := 0) rfl) ?_
  refine Eq.trans (s_store (y := 48) (pc := 6) (nx := 7) (a := 0) (b := 3) (ls' := [(3, 7), (0, x1), (3, 35), (0, 0), (9, 0)]) rfl (Nat.le_of_ble_eq_true rfl) rfl) ?_
  rfl
theorem e_48_7 (D : Mem) (x1 : Int) (x3 : Int) (v4 : PV) : qE 48 7 [(3, 7), (0, x1), (3, 35), (0, x3), v4] [] (mk D) = (if x3 < (D 7 3) then (if 0 ≤ x3 ∧ x3 < 150 then (if 0 ≤ x3 ∧ x3 < 150 then (if (D 8 x3) = x1 then (if (D 9 x3) < 0 then qE 48 7 [(3, 7), (0, x1), (3, 35), (0, (w32 (x3 + 1))), (0, (D 9 x3))] [] (mk D) else (if (D 9 x3) < 80 then (if 0 ≤ x3 ∧ x3 < 150 then (if 0 ≤ (D 9 x3) ∧ (D 9 x3) < 80 then qE 48 7 [(3, 7), (0, x1), (3, 35), (0, (w32 (x3 + 1))), (0, (D 9 x3))] [] (mk (mU D 35 (D 9 x3) (D 10 x3))) else none) else none) else qE 48 7 [(3, 7), (0, x1), (3, 35), (0, (w32 (x3 + 1))), (0, (D 9 x3))] [] (mk D))) else qE 48 7 [(3, 7), (0, x1), (3, 35), (0, (w32 (x3 + 1))), (0, (D 9 x3))] [] (mk D)) else none) else none) else some ((9, 0), (mk D))) := by
  refine Eq.trans (s_load (y := 48) (pc := 7) (nx := 8) (a := 0) (b := 3) (x := x3) rfl rfl) ?_
  refine Eq.trans (s_load (y := 48) (pc := 8) (nx := 9) (a := 3) (b := 0) (x := 7) rfl rfl) ?_
  refine Eq.trans (s_get (y := 48) (pc := 9) (nx := 12) (a := 3) (b := 3) (t := 0) (v := (D 7 3)) rfl (mk_k7 _) rfl (mk_7_3 _)) ?_
  refine Eq.trans (s_icge (y := 48) (pc := 12) (nx := 15) (b := 61) (tg := 61) rfl rfl) (ite_c ?_ ?_)
  · refine Eq.trans (s_load (y := 48) (pc := 15) (nx := 16) (a := 3) (b := 0) (x := 7) rfl rfl) ?_
    refine Eq.trans (s_get (y := 48) (pc := 16) (nx := 19) (a := 3) (b := 1) (t := 3) (v := 9) rfl (mk_k7 _) rfl (mk_7_1 _)) ?_
    refine Eq.trans (s_load (y := 48) (pc := 19) (nx := 20) (a := 0) (b := 3) (x := x3) rfl rfl) ?_
    refine Eq.trans (s_ald (y := 48) (pc := 20) (nx := 21) (a := 1) (b := 0) (k := 1) (n := 150) (t := 0) (v := (D 9 x3)) rfl (mk_k9 _) rfl rfl (mk_l9 _) (mk_c9 _ _)) (ite_c ?_ rfl)
    refine Eq.trans (s_store (y := 48) (pc := 21) (nx := 23) (a := 0) (b := 4) (ls' := [(3, 7), (0, x1), (3, 35), (0, x3), (0, (D 9 x3))]) rfl (Nat.le_of_ble_eq_true rfl) rfl) ?_
    refine Eq.trans (s_load (y := 48) (pc := 23) (nx := 24) (a := 3) (b := 0) (x := 7) rfl rfl) ?_
    refine Eq.trans (s_get (y := 48) (pc := 24) (nx := 27) (a := 3) (b := 0) (t := 3) (v := 8) rfl (mk_k7 _) rfl (mk_7_0 _)) ?_
    refine Eq.trans (s_load (y := 48) (pc := 27) (nx := 28) (a := 0) (b := 3) (x := x3) rfl rfl) ?_
    refine Eq.trans (s_ald (y := 48) (pc := 28) (nx := 29) (a := 1) (b := 0) (k := 1) (n := 150) (t := 0) (v := (D 8 x3)) rfl (mk_k8 _) rfl rfl (mk_l8 _) (mk_c8 _ _)) (ite_c ?_ rfl)
    refine Eq.trans (s_load (y := 48) (pc := 29) (nx := 30) (a := 0) (b := 1) (x := x1) rfl rfl) ?_
    refine Eq.trans (s_icne (y := 48) (pc := 30) (nx := 33) (b := 55) (tg := 55) rfl rfl) (ite_c ?_ ?_)
    · refine Eq.trans (s_load (y := 48) (pc := 33) (nx := 35) (a := 0) (b := 4) (x := (D 9 x3)) rfl rfl) ?_
      refine Eq.trans (s_iflt (y := 48) (pc := 35) (nx := 38) (b := 55) (tg := 55) rfl rfl) (ite_c ?_ ?_)
      · refine Eq.trans (s_iinc (y := 48) (pc := 55) (nx := 58) (a := 3) (b := 1) (x := x3) (ls' := [(3, 7), (0, x1), (3, 35), (0, (w32 (x3 + 1))), (0, (D 9 x3))]) rfl rfl rfl) ?_
        refine Eq.trans (s_goto (y := 48) (pc := 58) (nx := 61) (a := 0) (b := 7) (tg := 7) rfl rfl) ?_
        rfl
      · refine Eq.trans (s_load (y := 48) (pc := 38) (nx := 40) (a := 0) (b := 4) (x := (D 9 x3)) rfl rfl) ?_
        refine Eq.trans (s_load (y := 48) (pc := 40) (nx := 41) (a := 3) (b := 2) (x := 35) rfl rfl) ?_
        refine Eq.trans (s_len (y := 48) (pc := 41) (nx := 42) (a := 0) (b := 0) (k := 1) (n := 80) rfl (mk_k35 _) (by decide) (mk_l35 _)) ?_
        refine Eq.trans (s_icge (y := 48) (pc := 42) (nx := 45) (b := 55) (tg := 55) rfl rfl) (ite_c ?_ ?_)
        · refine Eq.trans (s_load (y := 48) (pc := 45) (nx := 46) (a := 3) (b := 2) (x := 35) rfl rfl) ?_
          refine Eq.trans (s_load (y := 48) (pc := 46) (nx := 48) (a := 0) (b := 4) (x := (D 9 x3)) rfl rfl) ?_
          refine Eq.trans (s_load (y := 48) (pc := 48) (nx := 49) (a := 3) (b := 0) (x := 7) rfl rfl) ?_
          refine Eq.trans (s_get (y := 48) (pc := 49) (nx := 52) (a := 3) (b := 2) (t := 3) (v := 10) rfl (mk_k7 _) rfl (mk_7_2 _)) ?_
          refine Eq.trans (s_load (y := 48) (pc := 52) (nx := 53) (a := 0) (b := 3) (x := x3) rfl rfl) ?_
          refine Eq.trans (s_ald (y := 48) (pc := 53) (nx := 54) (a := 1) (b := 0) (k := 1) (n := 150) (t := 0) (v := (D 10 x3)) rfl (mk_k10 _) rfl rfl (mk_l10 _) (mk_c10 _ _)) (ite_c ?_ rfl)
          refine Eq.trans (s_ast (y := 48) (pc := 54) (nx := 55) (a := 1) (b := 0) (k := 1) (n := 80) (t := 0) (v := (D 10 x3)) (μ' := mk (mU D 35 (D 9 x3) (D 10 x3))) rfl (by decide) (mk_k35 _) rfl (mk_l35 _) (mu_35 _ _ _)) (ite_c ?_ rfl)
          refine Eq.trans (s_iinc (y := 48) (pc := 55) (nx := 58) (a := 3) (b := 1) (x := x3) (ls' := [(3, 7), (0, x1), (3, 35), (0, (w32 (x3 + 1))), (0, (D 9 x3))]) rfl rfl rfl) ?_
          refine Eq.trans (s_goto (y := 48) (pc := 58) (nx := 61) (a := 0) (b := 7) (tg := 7) rfl rfl) ?_
          rfl
        · refine Eq.trans (s_iinc (y := 48) (pc := 55) (nx := 58) (a := 3) (b := 1) (x := x3) (ls' := [(3, 7), (0, x1), (3, 35), (0, (w32 (x3 + 1))), (0, (D 9 x3))]) rfl rfl rfl) ?_
          refine Eq.trans (s_goto (y := 48) (pc := 58) (nx := 61) (a := 0) (b := 7) (tg := 7) rfl rfl) ?_
          rfl
    · refine Eq.trans (s_iinc (y := 48) (pc := 55) (nx := 58) (a := 3) (b := 1) (x := x3) (ls' := [(3, 7), (0, x1), (3, 35), (0, (w32 (x3 + 1))), (0, (D 9 x3))]) rfl rfl rfl) ?_
      refine Eq.trans (s_goto (y := 48) (pc := 58) (nx := 61) (a := 0) (b := 7) (tg := 7) rfl rfl) ?_
      rfl
  · exact s_retv (y := 48) (pc := 61) (nx := 62) (b := 0) rfl
theorem r_34 (D : Mem) : qR 34 [(3, 11)] (mk D) = qE 34 4 [(3, 11), (0, 0), (0, 0)] [] (mk D) := by
  show qE 34 0 [(3, 11), (9, 0), (9, 0)] [] (mk D) = _
  refine Eq.trans (s_push (y := 34) (pc := 0) (nx := 1) (a := 0) (b := 0) rfl) ?_
  refine Eq.trans (s_store (y := 34) (pc := 1) (nx := 2) (a := 0) (b := 1) (ls' := [(3, 11), (0, 0), (9, 0)]) rfl (Nat.le_of_ble_eq_true rfl) rfl) ?_
  refine Eq.trans (s_push (y := 34) (pc := 2) (nx := 3) (a := 0) (b := 0) rfl) ?_
  refine Eq.trans (s_store (y := 34) (pc := 3) (nx := 4) (a := 0) (b := 2) (ls' := [(3, 11), (0, 0), (0, 0)]) rfl (Nat.le_of_ble_eq_true rfl) rfl) ?_
  rfl
theorem e_34_4 (D : Mem) (x1 : Int) (x2 : Int) : qE 34 4 [(3, 11), (0, x1), (0, x2)] [] (mk D) = (if x2 < 8 then (if 0 ≤ x2 ∧ x2 < 8 then (if (D 13 x2) ≤ 0 then qE 34 4 [(3, 11), (0, x1), (0, (w32 (x2 + 1)))] [] (mk D) else qE 34 4 [(3, 11), (0, (w32 (x1 + 1))), (0, (w32 (x2 + 1)))] [] (mk D)) else none) else some ((0, x1), (mk D))) := by
  refine Eq.trans (s_load (y := 34) (pc := 4) (nx := 5) (a := 0) (b := 2) (x := x2) rfl rfl) ?_
  refine Eq.trans (s_push (y := 34) (pc := 5) (nx := 7) (a := 0) (b := 8) rfl) ?_
  refine Eq.trans (s_icge (y := 34) (pc := 7) (nx := 10) (b := 28) (tg := 28) rfl rfl) (ite_c ?_ ?_)
  · refine Eq.trans (s_load (y := 34) (pc := 10) (nx := 11) (a := 3) (b := 0) (x := 11) rfl rfl) ?_
    refine Eq.trans (s_get (y := 34) (pc := 11) (nx := 14) (a := 2) (b := 1) (t := 3) (v := 13) rfl (mk_k11 _) rfl (mk_11_1 _)) ?_
    refine Eq.trans (s_load (y := 34) (pc := 14) (nx := 15) (a := 0) (b := 2) (x := x2) rfl rfl) ?_
    refine Eq.trans (s_ald (y := 34) (pc := 15) (nx := 16) (a := 1) (b := 0) (k := 1) (n := 8) (t := 0) (v := (D 13 x2)) rfl (mk_k13 _) rfl rfl (mk_l13 _) (mk_c13 _ _)) (ite_c ?_ rfl)
    refine Eq.trans (s_ifle (y := 34) (pc := 16) (nx := 19) (b := 22) (tg := 22) rfl rfl) (ite_c ?_ ?_)
    · refine Eq.trans (s_iinc (y := 34) (pc := 22) (nx := 25) (a := 2) (b := 1) (x := x2) (ls' := [(3, 11), (0, x1), (0, (w32 (x2 + 1)))]) rfl rfl rfl) ?_
      refine Eq.trans (s_goto (y := 34) (pc := 25) (nx := 28) (a := 0) (b := 4) (tg := 4) rfl rfl) ?_
      rfl
    · refine Eq.trans (s_iinc (y := 34) (pc := 19) (nx := 22) (a := 1) (b := 1) (x := x1) (ls' := [(3, 11), (0, (w32 (x1 + 1))), (0, x2)]) rfl rfl rfl) ?_
      refine Eq.trans (s_iinc (y := 34) (pc := 22) (nx := 25) (a := 2) (b := 1) (x := x2) (ls' := [(3, 11), (0, (w32 (x1 + 1))), (0, (w32 (x2 + 1)))]) rfl rfl rfl) ?_
      refine Eq.trans (s_goto (y := 34) (pc := 25) (nx := 28) (a := 0) (b := 4) (tg := 4) rfl rfl) ?_
      rfl
  · refine Eq.trans (s_load (y := 34) (pc := 28) (nx := 29) (a := 0) (b := 1) (x := x1) rfl rfl) ?_
    exact s_ret (y := 34) (pc := 29) (nx := 30) (a := 0) rfl (by decide)
theorem r_35 (D : Mem) : qR 35 [(3, 11), (3, 98)] (mk D) = qE 35 2 [(3, 11), (3, 98), (0, 0), (9, 0)] [] (mk D) := by
  show qE 35 0 [(3, 11), (3, 98), (9, 0), (9, 0)] [] (mk D) = _
  refine Eq.trans (s_push (y := 35) (pc := 0) (nx := 1) (a := 0) (b := 0) rfl) ?_
  refine Eq.trans (s_store (y := 35) (pc := 1) (nx := 2) (a := 0) (b := 2) (ls' := [(3, 11), (3, 98), (0, 0), (9, 0)]) rfl (Nat.le_of_ble_eq_true rfl) rfl) ?_
  rfl
theorem e_35_2 (D : Mem) (x2 : Int) (v3 : PV) : qE 35 2 [(3, 11), (3, 98), (0, x2), v3] [] (mk D) = (if x2 < 8 then (if 0 ≤ x2 ∧ x2 < 8 then (if 0 ≤ x2 ∧ x2 < 8 then (if (D 13 x2) ≤ 0 then qE 35 2 [(3, 11), (3, 98), (0, (w32 (x2 + 1))), (3, (mk D 12 x2))] [] (mk D) else (if (mk D 12 x2) = 0 then qE 35 2 [(3, 11), (3, 98), (0, (w32 (x2 + 1))), (3, (mk D 12 x2))] [] (mk D) else (if (mk D) (-(mk D 12 x2)) 0 = 15 then (qR 63 [(3, (mk D 12 x2)), (3, 98)] (mk D)).bind fun w => qE 35 33 [(3, 11), (3, 98), (0, x2), (3, (mk D 12 x2))] (psh w.1 []) w.2 else none))) else none) else none) else some ((0, (-1)), (mk D))) := by
  refine Eq.trans (s_load (y := 35) (pc := 2) (nx := 3) (a := 0) (b := 2) (x := x2) rfl rfl) ?_
  refine Eq.trans (s_push (y := 35) (pc := 3) (nx := 5) (a := 0) (b := 8) rfl) ?_
  refine Eq.trans (s_icge (y := 35) (pc := 5) (nx := 8) (b := 44) (tg := 44) rfl rfl) (ite_c ?_ ?_)
  · refine Eq.trans (s_load (y := 35) (pc := 8) (nx := 9) (a := 3) (b := 0) (x := 11) rfl rfl) ?_
    refine Eq.trans (s_get (y := 35) (pc := 9) (nx := 12) (a := 2) (b := 0) (t := 3) (v := 12) rfl (mk_k11 _) rfl (mk_11_0 _)) ?_
    refine Eq.trans (s_load (y := 35) (pc := 12) (nx := 13) (a := 0) (b := 2) (x := x2) rfl rfl) ?_
    refine Eq.trans (s_ald (y := 35) (pc := 13) (nx := 14) (a := 3) (b := 0) (k := 3) (n := 8) (t := 3) (v := (mk D 12 x2)) rfl (mk_k12 _) rfl rfl (mk_l12 _) rfl) (ite_c ?_ rfl)
    refine Eq.trans (s_store (y := 35) (pc := 14) (nx := 15) (a := 3) (b := 3) (ls' := [(3, 11), (3, 98), (0, x2), (3, (mk D 12 x2))]) rfl (Nat.le_of_ble_eq_true rfl) rfl) ?_
    refine Eq.trans (s_load (y := 35) (pc := 15) (nx := 16) (a := 3) (b := 0) (x := 11) rfl rfl) ?_
    refine Eq.trans (s_get (y := 35) (pc := 16) (nx := 19) (a := 2) (b := 1) (t := 3) (v := 13) rfl (mk_k11 _) rfl (mk_11_1 _)) ?_
    refine Eq.trans (s_load (y := 35) (pc := 19) (nx := 20) (a := 0) (b := 2) (x := x2) rfl rfl) ?_
    refine Eq.trans (s_ald (y := 35) (pc := 20) (nx := 21) (a := 1) (b := 0) (k := 1) (n := 8) (t := 0) (v := (D 13 x2)) rfl (mk_k13 _) rfl rfl (mk_l13 _) (mk_c13 _ _)) (ite_c ?_ rfl)
    refine Eq.trans (s_ifle (y := 35) (pc := 21) (nx := 24) (b := 38) (tg := 38) rfl rfl) (ite_c ?_ ?_)
    · refine Eq.trans (s_iinc (y := 35) (pc := 38) (nx := 41) (a := 2) (b := 1) (x := x2) (ls' := [(3, 11), (3, 98), (0, (w32 (x2 + 1))), (3, (mk D 12 x2))]) rfl rfl rfl) ?_
      refine Eq.trans (s_goto (y := 35) (pc := 41) (nx := 44) (a := 0) (b := 2) (tg := 2) rfl rfl) ?_
      rfl
    · refine Eq.trans (s_load (y := 35) (pc := 24) (nx := 25) (a := 3) (b := 3) (x := (mk D 12 x2)) rfl rfl) ?_
      refine Eq.trans (s_null (y := 35) (pc := 25) (nx := 28) (b := 38) (tg := 38) rfl rfl) (ite_c ?_ ?_)
      · refine Eq.trans (s_iinc (y := 35) (pc := 38) (nx := 41) (a := 2) (b := 1) (x := x2) (ls' := [(3, 11), (3, 98), (0, (w32 (x2 + 1))), (3, (mk D 12 x2))]) rfl rfl rfl) ?_
        refine Eq.trans (s_goto (y := 35) (pc := 41) (nx := 44) (a := 0) (b := 2) (tg := 2) rfl rfl) ?_
        rfl
      · refine Eq.trans (s_load (y := 35) (pc := 28) (nx := 29) (a := 3) (b := 3) (x := (mk D 12 x2)) rfl rfl) ?_
        refine Eq.trans (s_load (y := 35) (pc := 29) (nx := 30) (a := 3) (b := 1) (x := 98) rfl rfl) ?_
        exact s_callq (k := 15) (y := 35) (pc := 30) (nx := 33) (a := 63) (b := 0) (as := [(3, (mk D 12 x2)), (3, 98)]) (r := []) rfl (Nat.le_of_ble_eq_true rfl) rfl rfl (Nat.le_of_ble_eq_true rfl) (Nat.le_of_ble_eq_true rfl) (by decide) rfl rfl
  · refine Eq.trans (s_push (y := 35) (pc := 44) (nx := 45) (a := 0) (b := (-1)) rfl) ?_
    exact s_ret (y := 35) (pc := 45) (nx := 46) (a := 0) rfl (by decide)
theorem e_35_33 (D : Mem) (x2 : Int) (x3 : Int) (s0 : Int) : qE 35 33 [(3, 11), (3, 98), (0, x2), (3, x3)] [(0, s0)] (mk D) = (if s0 = 0 then qE 35 2 [(3, 11), (3, 98), (0, (w32 (x2 + 1))), (3, x3)] [] (mk D) else some ((0, x2), (mk D))) := by
  refine Eq.trans (s_ifeq (y := 35) (pc := 33) (nx := 36) (b := 38) (tg := 38) rfl rfl) (ite_c ?_ ?_)
  · refine Eq.trans (s_iinc (y := 35) (pc := 38) (nx := 41) (a := 2) (b := 1) (x := x2) (ls' := [(3, 11), (3, 98), (0, (w32 (x2 + 1))), (3, x3)]) rfl rfl rfl) ?_
    refine Eq.trans (s_goto (y := 35) (pc := 41) (nx := 44) (a := 0) (b := 2) (tg := 2) rfl rfl) ?_
    rfl
  · refine Eq.trans (s_load (y := 35) (pc := 36) (nx := 37) (a := 0) (b := 2) (x := x2) rfl rfl) ?_
    exact s_ret (y := 35) (pc := 37) (nx := 38) (a := 0) rfl (by decide)
theorem r_36 (D : Mem) : qR 36 [(3, 11), (3, 98)] (mk D) = ((qR 35 [(3, 11), (3, 98)] (mk D)).bind fun w => qE 36 5 [(3, 11), (3, 98), (9, 0)] (psh w.1 []) w.2) := by
  show qE 36 0 [(3, 11), (3, 98), (9, 0)] [] (mk D) = _
  refine Eq.trans (s_load (y := 36) (pc := 0) (nx := 1) (a := 3) (b := 0) (x := 11) rfl rfl) ?_
  refine Eq.trans (s_load (y := 36) (pc := 1) (nx := 2) (a := 3) (b := 1) (x := 98) rfl rfl) ?_
  exact s_call (y := 36) (pc := 2) (nx := 5) (a := 35) (b := 0) (as := [(3, 11), (3, 98)]) (r := []) rfl (Nat.le_of_ble_eq_true rfl) rfl rfl (Nat.le_of_ble_eq_true rfl) (Nat.le_of_ble_eq_true rfl) (Or.inr ⟨rfl, mk_k11 _⟩)
theorem e_36_5 (D : Mem) (s0 : Int) : qE 36 5 [(3, 11), (3, 98), (9, 0)] [(0, s0)] (mk D) = (if s0 < 0 then some ((0, 0), (mk D)) else (if 0 ≤ s0 ∧ s0 < 8 then some ((0, (D 13 s0)), (mk D)) else none)) := by
  refine Eq.trans (s_store (y := 36) (pc := 5) (nx := 6) (a := 0) (b := 2) (ls' := [(3, 11), (3, 98), (0, s0)]) rfl (Nat.le_of_ble_eq_true rfl) rfl) ?_
  refine Eq.trans (s_load (y := 36) (pc := 6) (nx := 7) (a := 0) (b := 2) (x := s0) rfl rfl) ?_
  refine Eq.trans (s_ifge (y := 36) (pc := 7) (nx := 10) (b := 14) (tg := 14) rfl rfl) (ite_c ?_ ?_)
  · refine Eq.trans (s_push (y := 36) (pc := 10) (nx := 11) (a := 0) (b := 0) rfl) ?_
    refine Eq.trans (s_goto (y := 36) (pc := 11) (nx := 14) (a := 0) (b := 20) (tg := 20) rfl rfl) ?_
    exact s_ret (y := 36) (pc := 20) (nx := 21) (a := 0) rfl (by decide)
  · refine Eq.trans (s_load (y := 36) (pc := 14) (nx := 15) (a := 3) (b := 0) (x := 11) rfl rfl) ?_
    refine Eq.trans (s_get (y := 36) (pc := 15) (nx := 18) (a := 2) (b := 1) (t := 3) (v := 13) rfl (mk_k11 _) rfl (mk_11_1 _)) ?_
    refine Eq.trans (s_load (y := 36) (pc := 18) (nx := 19) (a := 0) (b := 2) (x := s0) rfl rfl) ?_
    refine Eq.trans (s_ald (y := 36) (pc := 19) (nx := 20) (a := 1) (b := 0) (k := 1) (n := 8) (t := 0) (v := (D 13 s0)) rfl (mk_k13 _) rfl rfl (mk_l13 _) (mk_c13 _ _)) (ite_c ?_ rfl)
    exact s_ret (y := 36) (pc := 20) (nx := 21) (a := 0) rfl (by decide)
theorem r_37 (D : Mem) : qR 37 [(3, 11), (3, 98)] (mk D) = ((qR 35 [(3, 11), (3, 98)] (mk D)).bind fun w => qE 37 5 [(3, 11), (3, 98), (9, 0)] (psh w.1 []) w.2) := by
  show qE 37 0 [(3, 11), (3, 98), (9, 0)] [] (mk D) = _
  refine Eq.trans (s_load (y := 37) (pc := 0) (nx := 1) (a := 3) (b := 0) (x := 11) rfl rfl) ?_
  refine Eq.trans (s_load (y := 37) (pc := 1) (nx := 2) (a := 3) (b := 1) (x := 98) rfl rfl) ?_
  exact s_call (y := 37) (pc := 2) (nx := 5) (a := 35) (b := 0) (as := [(3, 11), (3, 98)]) (r := []) rfl (Nat.le_of_ble_eq_true rfl) rfl rfl (Nat.le_of_ble_eq_true rfl) (Nat.le_of_ble_eq_true rfl) (Or.inr ⟨rfl, mk_k11 _⟩)
theorem e_37_5 (D : Mem) (s0 : Int) : qE 37 5 [(3, 11), (3, 98), (9, 0)] [(0, s0)] (mk D) = (if s0 < 0 then ((qR 38 [(3, 11)] (mk D)).bind fun w => qE 37 14 [(3, 11), (3, 98), (0, s0)] (psh w.1 []) w.2) else qE 37 41 [(3, 11), (3, 98), (0, s0)] [] (mk D)) := by
  refine Eq.trans (s_store (y := 37) (pc := 5) (nx := 6) (a := 0) (b := 2) (ls' := [(3, 11), (3, 98), (0, s0)]) rfl (Nat.le_of_ble_eq_true rfl) rfl) ?_
  refine Eq.trans (s_load (y := 37) (pc := 6) (nx := 7) (a := 0) (b := 2) (x := s0) rfl rfl) ?_
  refine Eq.trans (s_ifge (y := 37) (pc := 7) (nx := 10) (b := 41) (tg := 41) rfl rfl) (ite_c ?_ ?_)
  · refine Eq.trans (s_load (y := 37) (pc := 10) (nx := 11) (a := 3) (b := 0) (x := 11) rfl rfl) ?_
    exact s_call (y := 37) (pc := 11) (nx := 14) (a := 38) (b := 0) (as := [(3, 11)]) (r := []) rfl (Nat.le_of_ble_eq_true rfl) rfl rfl (Nat.le_of_ble_eq_true rfl) (Nat.le_of_ble_eq_true rfl) (Or.inr ⟨rfl, mk_k11 _⟩)
  · rfl
theorem e_37_14 (D : Mem) (x2 : Int) (s0 : Int) : qE 37 14 [(3, 11), (3, 98), (0, x2)] [(0, s0)] (mk D) = (if 0 ≤ s0 ∧ s0 < 8 then (if 0 ≤ s0 ∧ s0 < 8 then (if (mk (mU D 13 s0 0) 12 s0) = 0 then qE 37 41 [(3, 11), (3, 98), (0, s0)] [] (mk (mU D 13 s0 0)) else (if 0 ≤ s0 ∧ s0 < 8 then (if (mk (mU D 13 s0 0)) (-(mk (mU D 13 s0 0) 12 s0)) 0 = 15 then (qR 62 [(3, (mk (mU D 13 s0 0) 12 s0)), (3, 98)] (mk (mU D 13 s0 0))).bind fun w => qE 37 41 [(3, 11), (3, 98), (0, s0)] (psh w.1 []) w.2 else none) else none)) else none) else none) := by
  refine Eq.trans (s_store (y := 37) (pc := 14) (nx := 15) (a := 0) (b := 2) (ls' := [(3, 11), (3, 98), (0, s0)]) rfl (Nat.le_of_ble_eq_true rfl) rfl) ?_
  refine Eq.trans (s_load (y := 37) (pc := 15) (nx := 16) (a := 3) (b := 0) (x := 11) rfl rfl) ?_
  refine Eq.trans (s_get (y := 37) (pc := 16) (nx := 19) (a := 2) (b := 1) (t := 3) (v := 13) rfl (mk_k11 _) rfl (mk_11_1 _)) ?_
  refine Eq.trans (s_load (y := 37) (pc := 19) (nx := 20) (a := 0) (b := 2) (x := s0) rfl rfl) ?_
  refine Eq.trans (s_push (y := 37) (pc := 20) (nx := 21) (a := 0) (b := 0) rfl) ?_
  refine Eq.trans (s_ast (y := 37) (pc := 21) (nx := 22) (a := 1) (b := 0) (k := 1) (n := 8) (t := 0) (v := 0) (μ' := mk (mU D 13 s0 0)) rfl (by decide) (mk_k13 _) rfl (mk_l13 _) (mu_13 _ _ _)) (ite_c ?_ rfl)
  refine Eq.trans (s_load (y := 37) (pc := 22) (nx := 23) (a := 3) (b := 0) (x := 11) rfl rfl) ?_
  refine Eq.trans (s_get (y := 37) (pc := 23) (nx := 26) (a := 2) (b := 0) (t := 3) (v := 12) rfl (mk_k11 _) rfl (mk_11_0 _)) ?_
  refine Eq.trans (s_load (y := 37) (pc := 26) (nx := 27) (a := 0) (b := 2) (x := s0) rfl rfl) ?_
  refine Eq.trans (s_ald (y := 37) (pc := 27) (nx := 28) (a := 3) (b := 0) (k := 3) (n := 8) (t := 3) (v := (mk (mU D 13 s0 0) 12 s0)) rfl (mk_k12 _) rfl rfl (mk_l12 _) rfl) (ite_c ?_ rfl)
  refine Eq.trans (s_null (y := 37) (pc := 28) (nx := 31) (b := 41) (tg := 41) rfl rfl) (ite_c ?_ ?_)
  · rfl
  · refine Eq.trans (s_load (y := 37) (pc := 31) (nx := 32) (a := 3) (b := 0) (x := 11) rfl rfl) ?_
    refine Eq.trans (s_get (y := 37) (pc := 32) (nx := 35) (a := 2) (b := 0) (t := 3) (v := 12) rfl (mk_k11 _) rfl (mk_11_0 _)) ?_
    refine Eq.trans (s_load (y := 37) (pc := 35) (nx := 36) (a := 0) (b := 2) (x := s0) rfl rfl) ?_
    refine Eq.trans (s_ald (y := 37) (pc := 36) (nx := 37) (a := 3) (b := 0) (k := 3) (n := 8) (t := 3) (v := (mk (mU D 13 s0 0) 12 s0)) rfl (mk_k12 _) rfl rfl (mk_l12 _) rfl) (ite_c ?_ rfl)
    refine Eq.trans (s_load (y := 37) (pc := 37) (nx := 38) (a := 3) (b := 1) (x := 98) rfl rfl) ?_
    exact s_callq (k := 15) (y := 37) (pc := 38) (nx := 41) (a := 62) (b := 0) (as := [(3, (mk (mU D 13 s0 0) 12 s0)), (3, 98)]) (r := []) rfl (Nat.le_of_ble_eq_true rfl) rfl rfl (Nat.le_of_ble_eq_true rfl) (Nat.le_of_ble_eq_true rfl) (by decide) rfl rfl
theorem e_37_41 (D : Mem) (x2 : Int) : qE 37 41 [(3, 11), (3, 98), (0, x2)] [] (mk D) = (if 0 ≤ x2 ∧ x2 < 8 then (if 0 ≤ x2 ∧ x2 < 8 then (if 0 ≤ x2 ∧ x2 < 8 then (if 0 ≤ x2 ∧ x2 < 8 then some ((0, ((mU (mU (mU D 13 x2 (w32 ((D 13 x2) + 1))) 11 3 (w32 (((mU D 13 x2 (w32 ((D 13 x2) + 1))) 11 3) + 1))) 14 x2 ((mU (mU D 13 x2 (w32 ((D 13 x2) + 1))) 11 3 (w32 (((mU D 13 x2 (w32 ((D 13 x2) + 1))) 11 3) + 1))) 11 3)) 13 x2)), (mk (mU (mU (mU D 13 x2 (w32 ((D 13 x2) + 1))) 11 3 (w32 (((mU D 13 x2 (w32 ((D 13 x2) + 1))) 11 3) + 1))) 14 x2 ((mU (mU D 13 x2 (w32 ((D 13 x2) + 1))) 11 3 (w32 (((mU D 13 x2 (w32 ((D 13 x2) + 1))) 11 3) + 1))) 11 3)))) else none) else none) else none) else none) := by
  refine Eq.trans (s_load (y := 37) (pc := 41) (nx := 42) (a := 3) (b := 0) (x := 11) rfl rfl) ?_
  refine Eq.trans (s_get (y := 37) (pc := 42) (nx := 45) (a := 2) (b := 1) (t := 3) (v := 13) rfl (mk_k11 _) rfl (mk_11_1 _)) ?_
  refine Eq.trans (s_load (y := 37) (pc := 45) (nx := 46) (a := 0) (b := 2) (x := x2) rfl rfl) ?_
  refine Eq.trans (s_dup2 (y := 37) (pc := 46) (nx := 47) (a := 0) (b := 0) rfl (by decide) (by decide)) ?_
  refine Eq.trans (s_ald (y := 37) (pc := 47) (nx := 48) (a := 1) (b := 0) (k := 1) (n := 8) (t := 0) (v := (D 13 x2)) rfl (mk_k13 _) rfl rfl (mk_l13 _) (mk_c13 _ _)) (ite_c ?_ rfl)
  refine Eq.trans (s_push (y := 37) (pc := 48) (nx := 49) (a := 0) (b := 1) rfl) ?_
  refine Eq.trans (s_add (y := 37) (pc := 49) (nx := 50) (b := 0) rfl) ?_
  refine Eq.trans (s_ast (y := 37) (pc := 50) (nx := 51) (a := 1) (b := 0) (k := 1) (n := 8) (t := 0) (v := (w32 ((D 13 x2) + 1))) (μ' := mk (mU D 13 x2 (w32 ((D 13 x2) + 1)))) rfl (by decide) (mk_k13 _) rfl (mk_l13 _) (mu_13 _ _ _)) (ite_c ?_ rfl)
  refine Eq.trans (s_load (y := 37) (pc := 51) (nx := 52) (a := 3) (b := 0) (x := 11) rfl rfl) ?_
  refine Eq.trans (s_dup (y := 37) (pc := 52) (nx := 53) (a := 0) (b := 0) rfl (by decide)) ?_
  refine Eq.trans (s_get (y := 37) (pc := 53) (nx := 56) (a := 2) (b := 3) (t := 0) (v := ((mU D 13 x2 (w32 ((D 13 x2) + 1))) 11 3)) rfl (mk_k11 _) rfl (mk_11_3 _)) ?_
  refine Eq.trans (s_push (y := 37) (pc := 56) (nx := 57) (a := 0) (b := 1) rfl) ?_
  refine Eq.trans (s_add (y := 37) (pc := 57) (nx := 58) (b := 0) rfl) ?_
  refine Eq.trans (s_put (y := 37) (pc := 58) (nx := 61) (a := 2) (b := 3) (t := 0) (v := (w32 (((mU D 13 x2 (w32 ((D 13 x2) + 1))) 11 3) + 1))) (μ' := mk (mU (mU D 13 x2 (w32 ((D 13 x2) + 1))) 11 3 (w32 (((mU D 13 x2 (w32 ((D 13 x2) + 1))) 11 3) + 1)))) rfl (mk_k11 _) rfl (mu_11_3 _ _)) ?_
  refine Eq.trans (s_load (y := 37) (pc := 61) (nx := 62) (a := 3) (b := 0) (x := 11) rfl rfl) ?_
  refine Eq.trans (s_get (y := 37) (pc := 62) (nx := 65) (a := 2) (b := 2) (t := 3) (v := 14) rfl (mk_k11 _) rfl (mk_11_2 _)) ?_
  refine Eq.trans (s_load (y := 37) (pc := 65) (nx := 66) (a := 0) (b := 2) (x := x2) rfl rfl) ?_
  refine Eq.trans (s_load (y := 37) (pc := 66) (nx := 67) (a := 3) (b := 0) (x := 11) rfl rfl) ?_
  refine Eq.trans (s_get (y := 37) (pc := 67) (nx := 70) (a := 2) (b := 3) (t := 0) (v := ((mU (mU D 13 x2 (w32 ((D 13 x2) + 1))) 11 3 (w32 (((mU D 13 x2 (w32 ((D 13 x2) + 1))) 11 3) + 1))) 11 3)) rfl (mk_k11 _) rfl (mk_11_3 _)) ?_
  refine Eq.trans (s_ast (y := 37) (pc := 70) (nx := 71) (a := 1) (b := 0) (k := 1) (n := 8) (t := 0) (v := ((mU (mU D 13 x2 (w32 ((D 13 x2) + 1))) 11 3 (w32 (((mU D 13 x2 (w32 ((D 13 x2) + 1))) 11 3) + 1))) 11 3)) (μ' := mk (mU (mU (mU D 13 x2 (w32 ((D 13 x2) + 1))) 11 3 (w32 (((mU D 13 x2 (w32 ((D 13 x2) + 1))) 11 3) + 1))) 14 x2 ((mU (mU D 13 x2 (w32 ((D 13 x2) + 1))) 11 3 (w32 (((mU D 13 x2 (w32 ((D 13 x2) + 1))) 11 3) + 1))) 11 3))) rfl (by decide) (mk_k14 _) rfl (mk_l14 _) (mu_14 _ _ _)) (ite_c ?_ rfl)
  refine Eq.trans (s_load (y := 37) (pc := 71) (nx := 72) (a := 3) (b := 0) (x := 11) rfl rfl) ?_
  refine Eq.trans (s_get (y := 37) (pc := 72) (nx := 75) (a := 2) (b := 1) (t := 3) (v := 13) rfl (mk_k11 _) rfl (mk_11_1 _)) ?_
  refine Eq.trans (s_load (y := 37) (pc := 75) (nx := 76) (a := 0) (b := 2) (x := x2) rfl rfl) ?_
  refine Eq.trans (s_ald (y := 37) (pc := 76) (nx := 77) (a := 1) (b := 0) (k := 1) (n := 8) (t := 0) (v := ((mU (mU (mU D 13 x2 (w32 ((D 13 x2) + 1))) 11 3 (w32 (((mU D 13 x2 (w32 ((D 13 x2) + 1))) 11 3) + 1))) 14 x2 ((mU (mU D 13 x2 (w32 ((D 13 x2) + 1))) 11 3 (w32 (((mU D 13 x2 (w32 ((D 13 x2) + 1))) 11 3) + 1))) 11 3)) 13 x2)) rfl (mk_k13 _) rfl rfl (mk_l13 _) (mk_c13 _ _)) (ite_c ?_ rfl)
  exact s_ret (y := 37) (pc := 77) (nx := 78) (a := 0) rfl (by decide)
theorem r_38 (D : Mem) : qR 38 [(3, 11)] (mk D) = qE 38 4 [(3, 11), (0, 0), (0, 1)] [] (mk D) := by
  show qE 38 0 [(3, 11), (9, 0), (9, 0)] [] (mk D) = _
  refine Eq.trans (s_push (y := 38) (pc := 0) (nx := 1) (a := 0) (b := 0) rfl) ?_
  refine Eq.trans (s_store (y := 38) (pc := 1) (nx := 2) (a := 0) (b := 1) (ls' := [(3, 11), (0, 0), (9, 0)]) rfl (Nat.le_of_ble_eq_true rfl) rfl) ?_
  refine Eq.trans (s_push (y := 38) (pc := 2) (nx := 3) (a := 0) (b := 1) rfl) ?_
  refine Eq.trans (s_store (y := 38) (pc := 3) (nx := 4) (a := 0) (b := 2) (ls' := [(3, 11), (0, 0), (0, 1)]) rfl (Nat.le_of_ble_eq_true rfl) rfl) ?_
  rfl
theorem e_38_4 (D : Mem) (x1 : Int) (x2 : Int) : qE 38 4 [(3, 11), (0, x1), (0, x2)] [] (mk D) = (if x2 < 8 then (if 0 ≤ x2 ∧ x2 < 8 then (if 0 ≤ x1 ∧ x1 < 8 then (if (D 14 x2) < (D 14 x1) then qE 38 4 [(3, 11), (0, x2), (0, (w32 (x2 + 1)))] [] (mk D) else qE 38 4 [(3, 11), (0, x1), (0, (w32 (x2 + 1)))] [] (mk D)) else none) else none) else some ((0, x1), (mk D))) := by
  refine Eq.trans (s_load (y := 38) (pc := 4) (nx := 5) (a := 0) (b := 2) (x := x2) rfl rfl) ?_
  refine Eq.trans (s_push (y := 38) (pc := 5) (nx := 7) (a := 0) (b := 8) rfl) ?_
  refine Eq.trans (s_icge (y := 38) (pc := 7) (nx := 10) (b := 33) (tg := 33) rfl rfl) (ite_c ?_ ?_)
  · refine Eq.trans (s_load (y := 38) (pc := 10) (nx := 11) (a := 3) (b := 0) (x := 11) rfl rfl) ?_
    refine Eq.trans (s_get (y := 38) (pc := 11) (nx := 14) (a := 2) (b := 2) (t := 3) (v := 14) rfl (mk_k11 _) rfl (mk_11_2 _)) ?_
    refine Eq.trans (s_load (y := 38) (pc := 14) (nx := 15) (a := 0) (b := 2) (x := x2) rfl rfl) ?_
    refine Eq.trans (s_ald (y := 38) (pc := 15) (nx := 16) (a := 1) (b := 0) (k := 1) (n := 8) (t := 0) (v := (D 14 x2)) rfl (mk_k14 _) rfl rfl (mk_l14 _) (mk_c14 _ _)) (ite_c ?_ rfl)
    refine Eq.trans (s_load (y := 38) (pc := 16) (nx := 17) (a := 3) (b := 0) (x := 11) rfl rfl) ?_
    refine Eq.trans (s_get (y := 38) (pc := 17) (nx := 20) (a := 2) (b := 2) (t := 3) (v := 14) rfl (mk_k11 _) rfl (mk_11_2 _)) ?_
    refine Eq.trans (s_load (y := 38) (pc := 20) (nx := 21) (a := 0) (b := 1) (x := x1) rfl rfl) ?_
    refine Eq.trans (s_ald (y := 38) (pc := 21) (nx := 22) (a := 1) (b := 0) (k := 1) (n := 8) (t := 0) (v := (D 14 x1)) rfl (mk_k14 _) rfl rfl (mk_l14 _) (mk_c14 _ _)) (ite_c ?_ rfl)
    refine Eq.trans (s_icge (y := 38) (pc := 22) (nx := 25) (b := 27) (tg := 27) rfl rfl) (ite_c ?_ ?_)
    · refine Eq.trans (s_load (y := 38) (pc := 25) (nx := 26) (a := 0) (b := 2) (x := x2) rfl rfl) ?_
      refine Eq.trans (s_store (y := 38) (pc := 26) (nx := 27) (a := 0) (b := 1) (ls' := [(3, 11), (0, x2), (0, x2)]) rfl (Nat.le_of_ble_eq_true rfl) rfl) ?_
      refine Eq.trans (s_iinc (y := 38) (pc := 27) (nx := 30) (a := 2) (b := 1) (x := x2) (ls' := [(3, 11), (0, x2), (0, (w32 (x2 + 1)))]) rfl rfl rfl) ?_
      refine Eq.trans (s_goto (y := 38) (pc := 30) (nx := 33) (a := 0) (b := 4) (tg := 4) rfl rfl) ?_
      rfl
    · refine Eq.trans (s_iinc (y := 38) (pc := 27) (nx := 30) (a := 2) (b := 1) (x := x2) (ls' := [(3, 11), (0, x1), (0, (w32 (x2 + 1)))]) rfl rfl rfl) ?_
      refine Eq.trans (s_goto (y := 38) (pc := 30) (nx := 33) (a := 0) (b := 4) (tg := 4) rfl rfl) ?_
      rfl
  · refine Eq.trans (s_load (y := 38) (pc := 33) (nx := 34) (a := 0) (b := 1) (x := x1) rfl rfl) ?_
    exact s_ret (y := 38) (pc := 34) (nx := 35) (a := 0) rfl (by decide)
theorem r_39 (D : Mem) : qR 39 [(3, 11), (3, 98)] (mk D) = ((qR 35 [(3, 11), (3, 98)] (mk D)).bind fun w => qE 39 5 [(3, 11), (3, 98), (9, 0)] (psh w.1 []) w.2) := by
  show qE 39 0 [(3, 11), (3, 98), (9, 0)] [] (mk D) = _
  refine Eq.trans (s_load (y := 39) (pc := 0) (nx := 1) (a := 3) (b := 0) (x := 11) rfl rfl) ?_
  refine Eq.trans (s_load (y := 39) (pc := 1) (nx := 2) (a := 3) (b := 1) (x := 98) rfl rfl) ?_
  exact s_call (y := 39) (pc := 2) (nx := 5) (a := 35) (b := 0) (as := [(3, 11), (3, 98)]) (r := []) rfl (Nat.le_of_ble_eq_true rfl) rfl rfl (Nat.le_of_ble_eq_true rfl) (Nat.le_of_ble_eq_true rfl) (Or.inr ⟨rfl, mk_k11 _⟩)
theorem e_39_5 (D : Mem) (s0 : Int) : qE 39 5 [(3, 11), (3, 98), (9, 0)] [(0, s0)] (mk D) = (if s0 < 0 then some ((9, 0), (mk D)) else (if 0 ≤ s0 ∧ s0 < 8 then (if 0 ≤ s0 ∧ s0 < 8 then some ((9, 0), (mk (mU (mU D 13 s0 0) 14 s0 0))) else none) else none)) := by
  refine Eq.trans (s_store (y := 39) (pc := 5) (nx := 6) (a := 0) (b := 2) (ls' := [(3, 11), (3, 98), (0, s0)]) rfl (Nat.le_of_ble_eq_true rfl) rfl) ?_
  refine Eq.trans (s_load (y := 39) (pc := 6) (nx := 7) (a := 0) (b := 2) (x := s0) rfl rfl) ?_
  refine Eq.trans (s_iflt (y := 39) (pc := 7) (nx := 10) (b := 24) (tg := 24) rfl rfl) (ite_c ?_ ?_)
  · exact s_retv (y := 39) (pc := 24) (nx := 25) (b := 0) rfl
  · refine Eq.trans (s_load (y := 39) (pc := 10) (nx := 11) (a := 3) (b := 0) (x := 11) rfl rfl) ?_
    refine Eq.trans (s_get (y := 39) (pc := 11) (nx := 14) (a := 2) (b := 1) (t := 3) (v := 13) rfl (mk_k11 _) rfl (mk_11_1 _)) ?_
    refine Eq.trans (s_load (y := 39) (pc := 14) (nx := 15) (a := 0) (b := 2) (x := s0) rfl rfl) ?_
    refine Eq.trans (s_push (y := 39) (pc := 15) (nx := 16) (a := 0) (b := 0) rfl) ?_
    refine Eq.trans (s_ast (y := 39) (pc := 16) (nx := 17) (a := 1) (b := 0) (k := 1) (n := 8) (t := 0) (v := 0) (μ' := mk (mU D 13 s0 0)) rfl (by decide) (mk_k13 _) rfl (mk_l13 _) (mu_13 _ _ _)) (ite_c ?_ rfl)
    refine Eq.trans (s_load (y := 39) (pc := 17) (nx := 18) (a := 3) (b := 0) (x := 11) rfl rfl) ?_
    refine Eq.trans (s_get (y := 39) (pc := 18) (nx := 21) (a := 2) (b := 2) (t := 3) (v := 14) rfl (mk_k11 _) rfl (mk_11_2 _)) ?_
    refine Eq.trans (s_load (y := 39) (pc := 21) (nx := 22) (a := 0) (b := 2) (x := s0) rfl rfl) ?_
    refine Eq.trans (s_push (y := 39) (pc := 22) (nx := 23) (a := 0) (b := 0) rfl) ?_
    refine Eq.trans (s_ast (y := 39) (pc := 23) (nx := 24) (a := 1) (b := 0) (k := 1) (n := 8) (t := 0) (v := 0) (μ' := mk (mU (mU D 13 s0 0) 14 s0 0)) rfl (by decide) (mk_k14 _) rfl (mk_l14 _) (mu_14 _ _ _)) (ite_c ?_ rfl)
    exact s_retv (y := 39) (pc := 24) (nx := 25) (b := 0) rfl
theorem r_93 (μ : Mem) (x0 : Int) (x1 : Int) (x2 : Int) (x3 : Int) : qR 93 [(3, x0), (3, x1), (0, x2), (0, x3)] μ = (if 1 ≤ x0 then (if μ (-x0) 0 = 18 then (if (mNew (mU μ x0 3 1) 15 2) (-x1) 0 = 15 then (qR 55 [(3, x1)] (mNew (mU μ x0 3 1) 15 2)).bind fun w => qE 93 18 [(3, x0), (3, x1), (0, x2), (0, x3)] (psh w.1 [(3, ((mU μ x0 3 1) 0 2)), (3, ((mU μ x0 3 1) 0 2)), (3, x0)]) w.2 else none) else none) else none) := by
  show qE 93 0 [(3, x0), (3, x1), (0, x2), (0, x3)] [] μ = _
  refine Eq.trans (s_load (y := 93) (pc := 0) (nx := 1) (a := 3) (b := 0) (x := x0) rfl rfl) ?_
  refine Eq.trans (s_objq (y := 93) (pc := 1) (nx := 4) (a := 0) (b := 0) rfl (Nat.le_of_ble_eq_true rfl)) (ite_c ?_ rfl)
  refine Eq.trans (s_load (y := 93) (pc := 4) (nx := 5) (a := 3) (b := 0) (x := x0) rfl rfl) ?_
  refine Eq.trans (s_push (y := 93) (pc := 5) (nx := 6) (a := 0) (b := 1) rfl) ?_
  refine Eq.trans (s_putq (y := 93) (pc := 6) (nx := 9) (a := 8) (b := 3) (t := 0) (k := 18) rfl rfl rfl) (ite_c ?_ rfl)
  refine Eq.trans (s_load (y := 93) (pc := 9) (nx := 10) (a := 3) (b := 0) (x := x0) rfl rfl) ?_
  refine Eq.trans (s_new (y := 93) (pc := 10) (nx := 13) (a := 5) (b := 0) rfl) ?_
  refine Eq.trans (s_dup (y := 93) (pc := 13) (nx := 14) (a := 0) (b := 0) rfl (by decide)) ?_
  refine Eq.trans (s_load (y := 93) (pc := 14) (nx := 15) (a := 3) (b := 1) (x := x1) rfl rfl) ?_
  exact s_callq (k := 15) (y := 93) (pc := 15) (nx := 18) (a := 55) (b := 0) (as := [(3, x1)]) (r := [(3, ((mU μ x0 3 1) 0 2)), (3, ((mU μ x0 3 1) 0 2)), (3, x0)]) rfl (Nat.le_of_ble_eq_true rfl) rfl rfl (Nat.le_of_ble_eq_true rfl) (Nat.le_of_ble_eq_true rfl) (by decide) rfl rfl
theorem e_93_18 (μ : Mem) (x0 : Int) (x1 : Int) (x2 : Int) (x3 : Int) (s0 : Int) (s1 : Int) (s2 : Int) (s3 : Int) : qE 93 18 [(3, x0), (3, x1), (0, x2), (0, x3)] [(0, s3), (3, s2), (3, s1), (3, s0)] μ = (if μ (-s2) 0 = 15 then (qR 54 [(3, s2), (0, s3)] μ).bind fun w => qE 93 21 [(3, x0), (3, x1), (0, x2), (0, x3)] (psh w.1 [(3, s1), (3, s0)]) w.2 else none) := by
  exact s_callq (k := 15) (y := 93) (pc := 18) (nx := 21) (a := 54) (b := 0) (as := [(3, s2), (0, s3)]) (r := [(3, s1), (3, s0)]) rfl (Nat.le_of_ble_eq_true rfl) rfl rfl (Nat.le_of_ble_eq_true rfl) (Nat.le_of_ble_eq_true rfl) (by decide) rfl rfl
theorem e_93_21 (μ : Mem) (x0 : Int) (x1 : Int) (x2 : Int) (x3 : Int) (s0 : Int) (s1 : Int) : qE 93 21 [(3, x0), (3, x1), (0, x2), (0, x3)] [(3, s1), (3, s0)] μ = (if μ (-s0) 0 = 18 then (if (mU μ s0 0 s1) (-x0) 0 = 18 then (if (mU μ s0 0 s1) (-((mU μ s0 0 s1) x0 0)) 0 = 15 then (qR 62 [(3, ((mU μ s0 0 s1) x0 0)), (3, x1)] (mU μ s0 0 s1)).bind fun w => qE 93 32 [(3, x0), (3, x1), (0, x2), (0, x3)] (psh w.1 []) w.2 else none) else none) else none) := by
  refine Eq.trans (s_putq (y := 93) (pc := 21) (nx := 24) (a := 8) (b := 0) (t := 3) (k := 18) rfl rfl rfl) (ite_c ?_ rfl)
  refine Eq.trans (s_load (y := 93) (pc := 24) (nx := 25) (a := 3) (b := 0) (x := x0) rfl rfl) ?_
  refine Eq.trans (s_getq (y := 93) (pc := 25) (nx := 28) (a := 8) (b := 0) (t := 3) (k := 18) rfl rfl rfl) (ite_c ?_ rfl)
  refine Eq.trans (s_load (y := 93) (pc := 28) (nx := 29) (a := 3) (b := 1) (x := x1) rfl rfl) ?_
  exact s_callq (k := 15) (y := 93) (pc := 29) (nx := 32) (a := 62) (b := 0) (as := [(3, ((mU μ s0 0 s1) x0 0)), (3, x1)]) (r := []) rfl (Nat.le_of_ble_eq_true rfl) rfl rfl (Nat.le_of_ble_eq_true rfl) (Nat.le_of_ble_eq_true rfl) (by decide) rfl rfl
theorem e_93_32 (μ : Mem) (x0 : Int) (x1 : Int) (x2 : Int) (x3 : Int) : qE 93 32 [(3, x0), (3, x1), (0, x2), (0, x3)] [] μ = (if μ (-x0) 0 = 18 then (if (mU μ x0 1 x2) (-x0) 0 = 18 then some ((9, 0), (mU (mU μ x0 1 x2) x0 2 x3)) else none) else none) := by
  refine Eq.trans (s_load (y := 93) (pc := 32) (nx := 33) (a := 3) (b := 0) (x := x0) rfl rfl) ?_
  refine Eq.trans (s_load (y := 93) (pc := 33) (nx := 34) (a := 0) (b := 2) (x := x2) rfl rfl) ?_
  refine Eq.trans (s_putq (y := 93) (pc := 34) (nx := 37) (a := 8) (b := 1) (t := 0) (k := 18) rfl rfl rfl) (ite_c ?_ rfl)
  refine Eq.trans (s_load (y := 93) (pc := 37) (nx := 38) (a := 3) (b := 0) (x := x0) rfl rfl) ?_
  refine Eq.trans (s_load (y := 93) (pc := 38) (nx := 39) (a := 0) (b := 3) (x := x3) rfl rfl) ?_
  refine Eq.trans (s_putq (y := 93) (pc := 39) (nx := 42) (a := 8) (b := 2) (t := 0) (k := 18) rfl rfl rfl) (ite_c ?_ rfl)
  exact s_retv (y := 93) (pc := 42) (nx := 43) (b := 0) rfl
theorem r_1 (D : Mem) : qR 1 [(3, 5)] (mk D) = some ((0, (D 5 2)), (mk D)) := by
  show qE 1 0 [(3, 5)] [] (mk D) = _
  refine Eq.trans (s_load (y := 1) (pc := 0) (nx := 1) (a := 3) (b := 0) (x := 5) rfl rfl) ?_
  refine Eq.trans (s_get (y := 1) (pc := 1) (nx := 4) (a := 0) (b := 2) (t := 0) (v := (D 5 2)) rfl (mk_k5 _) rfl (mk_5_2 _)) ?_
  exact s_ret (y := 1) (pc := 4) (nx := 5) (a := 0) rfl (by decide)
theorem r_2 (D : Mem) : qR 2 [(3, 5)] (mk D) = some ((0, (D 5 3)), (mk D)) := by
  show qE 2 0 [(3, 5)] [] (mk D) = _
  refine Eq.trans (s_load (y := 2) (pc := 0) (nx := 1) (a := 3) (b := 0) (x := 5) rfl rfl) ?_
  refine Eq.trans (s_get (y := 2) (pc := 1) (nx := 4) (a := 0) (b := 3) (t := 0) (v := (D 5 3)) rfl (mk_k5 _) rfl (mk_5_3 _)) ?_
  exact s_ret (y := 2) (pc := 4) (nx := 5) (a := 0) rfl (by decide)
theorem r_3 (D : Mem) : qR 3 [(3, 5)] (mk D) = some ((0, (D 5 4)), (mk D)) := by
  show qE 3 0 [(3, 5)] [] (mk D) = _
  refine Eq.trans (s_load (y := 3) (pc := 0) (nx := 1) (a := 3) (b := 0) (x := 5) rfl rfl) ?_
  refine Eq.trans (s_get (y := 3) (pc := 1) (nx := 4) (a := 0) (b := 4) (t := 0) (v := (D 5 4)) rfl (mk_k5 _) rfl (mk_5_4 _)) ?_
  exact s_ret (y := 3) (pc := 4) (nx := 5) (a := 0) rfl (by decide)
theorem r_4 (D : Mem) : qR 4 [(3, 5)] (mk D) = some ((3, 7), (mk D)) := by
  show qE 4 0 [(3, 5)] [] (mk D) = _
  refine Eq.trans (s_load (y := 4) (pc := 0) (nx := 1) (a := 3) (b := 0) (x := 5) rfl rfl) ?_
  refine Eq.trans (s_get (y := 4) (pc := 1) (nx := 4) (a := 0) (b := 1) (t := 3) (v := 7) rfl (mk_k5 _) rfl (mk_5_1 _)) ?_
  exact s_ret (y := 4) (pc := 4) (nx := 5) (a := 3) rfl (by decide)
theorem r_5 (D : Mem) : qR 5 [(3, 5)] (mk D) = (if (D 5 2) < 80 then some ((0, 0), (mk D)) else some ((0, 1), (mk D))) := by
  show qE 5 0 [(3, 5)] [] (mk D) = _
  refine Eq.trans (s_load (y := 5) (pc := 0) (nx := 1) (a := 3) (b := 0) (x := 5) rfl rfl) ?_
  refine Eq.trans (s_get (y := 5) (pc := 1) (nx := 4) (a := 0) (b := 2) (t := 0) (v := (D 5 2)) rfl (mk_k5 _) rfl (mk_5_2 _)) ?_
  refine Eq.trans (s_push (y := 5) (pc := 4) (nx := 6) (a := 0) (b := 80) rfl) ?_
  refine Eq.trans (s_iclt (y := 5) (pc := 6) (nx := 9) (b := 13) (tg := 13) rfl rfl) (ite_c ?_ ?_)
  · refine Eq.trans (s_push (y := 5) (pc := 13) (nx := 14) (a := 0) (b := 0) rfl) ?_
    exact s_retz (y := 5) (pc := 14) (nx := 15) rfl (by decide)
  · refine Eq.trans (s_push (y := 5) (pc := 9) (nx := 10) (a := 0) (b := 1) rfl) ?_
    refine Eq.trans (s_goto (y := 5) (pc := 10) (nx := 13) (a := 0) (b := 14) (tg := 14) rfl rfl) ?_
    exact s_retz (y := 5) (pc := 14) (nx := 15) rfl (by decide)
theorem r_6 (D : Mem) (x1 : Int) : qR 6 [(3, 5), (0, x1)] (mk D) = (if x1 < 0 then some ((0, 0), (mk D)) else (if x1 < (D 5 2) then some ((0, 1), (mk D)) else some ((0, 0), (mk D)))) := by
  show qE 6 0 [(3, 5), (0, x1)] [] (mk D) = _
  refine Eq.trans (s_load (y := 6) (pc := 0) (nx := 1) (a := 0) (b := 1) (x := x1) rfl rfl) ?_
  refine Eq.trans (s_iflt (y := 6) (pc := 1) (nx := 4) (b := 16) (tg := 16) rfl rfl) (ite_c ?_ ?_)
  · refine Eq.trans (s_push (y := 6) (pc := 16) (nx := 17) (a := 0) (b := 0) rfl) ?_
    exact s_retz (y := 6) (pc := 17) (nx := 18) rfl (by decide)
  · refine Eq.trans (s_load (y := 6) (pc := 4) (nx := 5) (a := 0) (b := 1) (x := x1) rfl rfl) ?_
    refine Eq.trans (s_load (y := 6) (pc := 5) (nx := 6) (a := 3) (b := 0) (x := 5) rfl rfl) ?_
    refine Eq.trans (s_get (y := 6) (pc := 6) (nx := 9) (a := 0) (b := 2) (t := 0) (v := (D 5 2)) rfl (mk_k5 _) rfl (mk_5_2 _)) ?_
    refine Eq.trans (s_icge (y := 6) (pc := 9) (nx := 12) (b := 16) (tg := 16) rfl rfl) (ite_c ?_ ?_)
    · refine Eq.trans (s_push (y := 6) (pc := 12) (nx := 13) (a := 0) (b := 1) rfl) ?_
      refine Eq.trans (s_goto (y := 6) (pc := 13) (nx := 16) (a := 0) (b := 17) (tg := 17) rfl rfl) ?_
      exact s_retz (y := 6) (pc := 17) (nx := 18) rfl (by decide)
    · refine Eq.trans (s_push (y := 6) (pc := 16) (nx := 17) (a := 0) (b := 0) rfl) ?_
      exact s_retz (y := 6) (pc := 17) (nx := 18) rfl (by decide)
theorem r_7 (D : Mem) (x1 : Int) : qR 7 [(3, 5), (0, x1)] (mk D) = (if x1 < 0 then some ((3, 0), (mk D)) else (if x1 < (D 5 2) then (if 0 ≤ x1 ∧ x1 < 80 then some ((3, (mk D 6 x1)), (mk D)) else none) else some ((3, 0), (mk D)))) := by
  show qE 7 0 [(3, 5), (0, x1)] [] (mk D) = _
  refine Eq.trans (s_load (y := 7) (pc := 0) (nx := 1) (a := 0) (b := 1) (x := x1) rfl rfl) ?_
  refine Eq.trans (s_iflt (y := 7) (pc := 1) (nx := 4) (b := 21) (tg := 21) rfl rfl) (ite_c ?_ ?_)
  · refine Eq.trans (s_push (y := 7) (pc := 21) (nx := 22) (a := 3) (b := 0) rfl) ?_
    exact s_ret (y := 7) (pc := 22) (nx := 23) (a := 3) rfl (by decide)
  · refine Eq.trans (s_load (y := 7) (pc := 4) (nx := 5) (a := 0) (b := 1) (x := x1) rfl rfl) ?_
    refine Eq.trans (s_load (y := 7) (pc := 5) (nx := 6) (a := 3) (b := 0) (x := 5) rfl rfl) ?_
    refine Eq.trans (s_get (y := 7) (pc := 6) (nx := 9) (a := 0) (b := 2) (t := 0) (v := (D 5 2)) rfl (mk_k5 _) rfl (mk_5_2 _)) ?_
    refine Eq.trans (s_icge (y := 7) (pc := 9) (nx := 12) (b := 21) (tg := 21) rfl rfl) (ite_c ?_ ?_)
    · refine Eq.trans (s_load (y := 7) (pc := 12) (nx := 13) (a := 3) (b := 0) (x := 5) rfl rfl) ?_
      refine Eq.trans (s_get (y := 7) (pc := 13) (nx := 16) (a := 0) (b := 0) (t := 3) (v := 6) rfl (mk_k5 _) rfl (mk_5_0 _)) ?_
      refine Eq.trans (s_load (y := 7) (pc := 16) (nx := 17) (a := 0) (b := 1) (x := x1) rfl rfl) ?_
      refine Eq.trans (s_ald (y := 7) (pc := 17) (nx := 18) (a := 3) (b := 0) (k := 4) (n := 80) (t := 3) (v := (mk D 6 x1)) rfl (mk_k6 _) rfl rfl (mk_l6 _) rfl) (ite_c ?_ rfl)
      refine Eq.trans (s_goto (y := 7) (pc := 18) (nx := 21) (a := 0) (b := 22) (tg := 22) rfl rfl) ?_
      exact s_ret (y := 7) (pc := 22) (nx := 23) (a := 3) rfl (by decide)
    · refine Eq.trans (s_push (y := 7) (pc := 21) (nx := 22) (a := 3) (b := 0) rfl) ?_
      exact s_ret (y := 7) (pc := 22) (nx := 23) (a := 3) rfl (by decide)
theorem r_8 (D : Mem) (x1 : Int) : qR 8 [(3, 5), (0, x1)] (mk D) = ((qR 7 [(3, 5), (0, x1)] (mk D)).bind fun w => qE 8 5 [(3, 5), (0, x1), (9, 0)] (psh w.1 []) w.2) := by
  show qE 8 0 [(3, 5), (0, x1), (9, 0)] [] (mk D) = _
  refine Eq.trans (s_load (y := 8) (pc := 0) (nx := 1) (a := 3) (b := 0) (x := 5) rfl rfl) ?_
  refine Eq.trans (s_load (y := 8) (pc := 1) (nx := 2) (a := 0) (b := 1) (x := x1) rfl rfl) ?_
  exact s_call (y := 8) (pc := 2) (nx := 5) (a := 7) (b := 0) (as := [(3, 5), (0, x1)]) (r := []) rfl (Nat.le_of_ble_eq_true rfl) rfl rfl (Nat.le_of_ble_eq_true rfl) (Nat.le_of_ble_eq_true rfl) (Or.inr ⟨rfl, mk_k5 _⟩)
theorem e_8_5 (D : Mem) (x1 : Int) (s0 : Int) : qE 8 5 [(3, 5), (0, x1), (9, 0)] [(3, s0)] (mk D) = (if s0 = 0 then some ((0, 0), (mk D)) else (if (mk D) (-s0) 0 = 18 then (if ((mk D) s0 3) = 0 then some ((0, 0), (mk D)) else some ((0, 1), (mk D))) else none)) := by
  refine Eq.trans (s_store (y := 8) (pc := 5) (nx := 6) (a := 3) (b := 2) (ls' := [(3, 5), (0, x1), (3, s0)]) rfl (Nat.le_of_ble_eq_true rfl) rfl) ?_
  refine Eq.trans (s_load (y := 8) (pc := 6) (nx := 7) (a := 3) (b := 2) (x := s0) rfl rfl) ?_
  refine Eq.trans (s_null (y := 8) (pc := 7) (nx := 10) (b := 21) (tg := 21) rfl rfl) (ite_c ?_ ?_)
  · refine Eq.trans (s_push (y := 8) (pc := 21) (nx := 22) (a := 0) (b := 0) rfl) ?_
    exact s_retz (y := 8) (pc := 22) (nx := 23) rfl (by decide)
  · refine Eq.trans (s_load (y := 8) (pc := 10) (nx := 11) (a := 3) (b := 2) (x := s0) rfl rfl) ?_
    refine Eq.trans (s_getq (y := 8) (pc := 11) (nx := 14) (a := 8) (b := 3) (t := 0) (k := 18) rfl rfl rfl) (ite_c ?_ rfl)
    refine Eq.trans (s_ifeq (y := 8) (pc := 14) (nx := 17) (b := 21) (tg := 21) rfl rfl) (ite_c ?_ ?_)
    · refine Eq.trans (s_push (y := 8) (pc := 21) (nx := 22) (a := 0) (b := 0) rfl) ?_
      exact s_retz (y := 8) (pc := 22) (nx := 23) rfl (by decide)
    · refine Eq.trans (s_push (y := 8) (pc := 17) (nx := 18) (a := 0) (b := 1) rfl) ?_
      refine Eq.trans (s_goto (y := 8) (pc := 18) (nx := 21) (a := 0) (b := 22) (tg := 22) rfl rfl) ?_
      exact s_retz (y := 8) (pc := 22) (nx := 23) rfl (by decide)
theorem r_9 (D : Mem) : qR 9 [(3, 5), (3, 98)] (mk D) = qE 9 2 [(3, 5), (3, 98), (0, 0), (9, 0)] [] (mk D) := by
  show qE 9 0 [(3, 5), (3, 98), (9, 0), (9, 0)] [] (mk D) = _
  refine Eq.trans (s_push (y := 9) (pc := 0) (nx := 1) (a := 0) (b := 0) rfl) ?_
  refine Eq.trans (s_store (y := 9) (pc := 1) (nx := 2) (a := 0) (b := 2) (ls' := [(3, 5), (3, 98), (0, 0), (9, 0)]) rfl (Nat.le_of_ble_eq_true rfl) rfl) ?_
  rfl
theorem e_9_2 (D : Mem) (x2 : Int) (v3 : PV) : qE 9 2 [(3, 5), (3, 98), (0, x2), v3] [] (mk D) = (if x2 < (D 5 2) then (if 0 ≤ x2 ∧ x2 < 80 then (if (mk D 6 x2) = 0 then qE 9 2 [(3, 5), (3, 98), (0, (w32 (x2 + 1))), (3, (mk D 6 x2))] [] (mk D) else (if (mk D) (-(mk D 6 x2)) 0 = 18 then (if ((mk D) (mk D 6 x2) 3) = 0 then qE 9 2 [(3, 5), (3, 98), (0, (w32 (x2 + 1))), (3, (mk D 6 x2))] [] (mk D) else (if (mk D) (-(mk D 6 x2)) 0 = 18 then (if (mk D) (-((mk D) (mk D 6 x2) 0)) 0 = 15 then (qR 63 [(3, ((mk D) (mk D 6 x2) 0)), (3, 98)] (mk D)).bind fun w => qE 9 36 [(3, 5), (3, 98), (0, x2), (3, (mk D 6 x2))] (psh w.1 []) w.2 else none) else none)) else none)) else none) else some ((0, (-1)), (mk D))) := by
  refine Eq.trans (s_load (y := 9) (pc := 2) (nx := 3) (a := 0) (b := 2) (x := x2) rfl rfl) ?_
  refine Eq.trans (s_load (y := 9) (pc := 3) (nx := 4) (a := 3) (b := 0) (x := 5) rfl rfl) ?_
  refine Eq.trans (s_get (y := 9) (pc := 4) (nx := 7) (a := 0) (b := 2) (t := 0) (v := (D 5 2)) rfl (mk_k5 _) rfl (mk_5_2 _)) ?_
  refine Eq.trans (s_icge (y := 9) (pc := 7) (nx := 10) (b := 47) (tg := 47) rfl rfl) (ite_c ?_ ?_)
  · refine Eq.trans (s_load (y := 9) (pc := 10) (nx := 11) (a := 3) (b := 0) (x := 5) rfl rfl) ?_
    refine Eq.trans (s_get (y := 9) (pc := 11) (nx := 14) (a := 0) (b := 0) (t := 3) (v := 6) rfl (mk_k5 _) rfl (mk_5_0 _)) ?_
    refine Eq.trans (s_load (y := 9) (pc := 14) (nx := 15) (a := 0) (b := 2) (x := x2) rfl rfl) ?_
    refine Eq.trans (s_ald (y := 9) (pc := 15) (nx := 16) (a := 3) (b := 0) (k := 4) (n := 80) (t := 3) (v := (mk D 6 x2)) rfl (mk_k6 _) rfl rfl (mk_l6 _) rfl) (ite_c ?_ rfl)
    refine Eq.trans (s_store (y := 9) (pc := 16) (nx := 17) (a := 3) (b := 3) (ls' := [(3, 5), (3, 98), (0, x2), (3, (mk D 6 x2))]) rfl (Nat.le_of_ble_eq_true rfl) rfl) ?_
    refine Eq.trans (s_load (y := 9) (pc := 17) (nx := 18) (a := 3) (b := 3) (x := (mk D 6 x2)) rfl rfl) ?_
    refine Eq.trans (s_null (y := 9) (pc := 18) (nx := 21) (b := 41) (tg := 41) rfl rfl) (ite_c ?_ ?_)
    · refine Eq.trans (s_iinc (y := 9) (pc := 41) (nx := 44) (a := 2) (b := 1) (x := x2) (ls' := [(3, 5), (3, 98), (0, (w32 (x2 + 1))), (3, (mk D 6 x2))]) rfl rfl rfl) ?_
      refine Eq.trans (s_goto (y := 9) (pc := 44) (nx := 47) (a := 0) (b := 2) (tg := 2) rfl rfl) ?_
      rfl
    · refine Eq.trans (s_load (y := 9) (pc := 21) (nx := 22) (a := 3) (b := 3) (x := (mk D 6 x2)) rfl rfl) ?_
      refine Eq.trans (s_getq (y := 9) (pc := 22) (nx := 25) (a := 8) (b := 3) (t := 0) (k := 18) rfl rfl rfl) (ite_c ?_ rfl)
      refine Eq.trans (s_ifeq (y := 9) (pc := 25) (nx := 28) (b := 41) (tg := 41) rfl rfl) (ite_c ?_ ?_)
      · refine Eq.trans (s_iinc (y := 9) (pc := 41) (nx := 44) (a := 2) (b := 1) (x := x2) (ls' := [(3, 5), (3, 98), (0, (w32 (x2 + 1))), (3, (mk D 6 x2))]) rfl rfl rfl) ?_
        refine Eq.trans (s_goto (y := 9) (pc := 44) (nx := 47) (a := 0) (b := 2) (tg := 2) rfl rfl) ?_
        rfl
      · refine Eq.trans (s_load (y := 9) (pc := 28) (nx := 29) (a := 3) (b := 3) (x := (mk D 6 x2)) rfl rfl) ?_
        refine Eq.trans (s_getq (y := 9) (pc := 29) (nx := 32) (a := 8) (b := 0) (t := 3) (k := 18) rfl rfl rfl) (ite_c ?_ rfl)
        refine Eq.trans (s_load (y := 9) (pc := 32) (nx := 33) (a := 3) (b := 1) (x := 98) rfl rfl) ?_
        exact s_callq (k := 15) (y := 9) (pc := 33) (nx := 36) (a := 63) (b := 0) (as := [(3, ((mk D) (mk D 6 x2) 0)), (3, 98)]) (r := []) rfl (Nat.le_of_ble_eq_true rfl) rfl rfl (Nat.le_of_ble_eq_true rfl) (Nat.le_of_ble_eq_true rfl) (by decide) rfl rfl
  · refine Eq.trans (s_push (y := 9) (pc := 47) (nx := 48) (a := 0) (b := (-1)) rfl) ?_
    exact s_ret (y := 9) (pc := 48) (nx := 49) (a := 0) rfl (by decide)
theorem e_9_36 (D : Mem) (x2 : Int) (x3 : Int) (s0 : Int) : qE 9 36 [(3, 5), (3, 98), (0, x2), (3, x3)] [(0, s0)] (mk D) = (if s0 = 0 then qE 9 2 [(3, 5), (3, 98), (0, (w32 (x2 + 1))), (3, x3)] [] (mk D) else some ((0, x2), (mk D))) := by
  refine Eq.trans (s_ifeq (y := 9) (pc := 36) (nx := 39) (b := 41) (tg := 41) rfl rfl) (ite_c ?_ ?_)
  · refine Eq.trans (s_iinc (y := 9) (pc := 41) (nx := 44) (a := 2) (b := 1) (x := x2) (ls' := [(3, 5), (3, 98), (0, (w32 (x2 + 1))), (3, x3)]) rfl rfl rfl) ?_
    refine Eq.trans (s_goto (y := 9) (pc := 44) (nx := 47) (a := 0) (b := 2) (tg := 2) rfl rfl) ?_
    rfl
  · refine Eq.trans (s_load (y := 9) (pc := 39) (nx := 40) (a := 0) (b := 2) (x := x2) rfl rfl) ?_
    exact s_ret (y := 9) (pc := 40) (nx := 41) (a := 0) rfl (by decide)
