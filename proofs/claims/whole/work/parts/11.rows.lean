theorem r_10 (μ : Mem) (x2 : Int) : qR 10 [(3, 5), (3, 98), (0, x2)] μ = (if μ (-5) 0 = 10 then (if (μ 5 2) < 80 then (if μ (-5) 0 = 10 then (if (μ 5 3) < 40 then qE 10 28 [(3, 5), (3, 98), (0, x2)] [] μ else (if μ (-5) 0 = 10 then (qR 11 [(3, 5)] μ).bind fun w => qE 10 25 [(3, 5), (3, 98), (0, x2)] (psh w.1 [(3, 5)]) w.2 else none)) else none) else some ((0, (-1)), μ)) else none) := by
  show qE 10 0 [(3, 5), (3, 98), (0, x2)] [] μ = _
  refine Eq.trans (s_load (y := 10) (pc := 0) (nx := 1) (a := 3) (b := 0) (x := 5) rfl rfl) ?_
  refine Eq.trans (s_getq (y := 10) (pc := 1) (nx := 4) (a := 0) (b := 2) (t := 0) (k := 10) rfl rfl rfl) (ite_c ?_ rfl)
  refine Eq.trans (s_push (y := 10) (pc := 4) (nx := 6) (a := 0) (b := 80) rfl) ?_
  refine Eq.trans (s_iclt (y := 10) (pc := 6) (nx := 9) (b := 11) (tg := 11) rfl rfl) (ite_c ?_ ?_)
  · refine Eq.trans (s_load (y := 10) (pc := 11) (nx := 12) (a := 3) (b := 0) (x := 5) rfl rfl) ?_
    refine Eq.trans (s_getq (y := 10) (pc := 12) (nx := 15) (a := 0) (b := 3) (t := 0) (k := 10) rfl rfl rfl) (ite_c ?_ rfl)
    refine Eq.trans (s_push (y := 10) (pc := 15) (nx := 17) (a := 0) (b := 40) rfl) ?_
    refine Eq.trans (s_iclt (y := 10) (pc := 17) (nx := 20) (b := 28) (tg := 28) rfl rfl) (ite_c ?_ ?_)
    · rfl
    · refine Eq.trans (s_load (y := 10) (pc := 20) (nx := 21) (a := 3) (b := 0) (x := 5) rfl rfl) ?_
      refine Eq.trans (s_load (y := 10) (pc := 21) (nx := 22) (a := 3) (b := 0) (x := 5) rfl rfl) ?_
      exact s_callq (k := 10) (y := 10) (pc := 22) (nx := 25) (a := 11) (b := 0) (as := [(3, 5)]) (r := [(3, 5)]) rfl (Nat.le_of_ble_eq_true rfl) rfl rfl (Nat.le_of_ble_eq_true rfl) (Nat.le_of_ble_eq_true rfl) (by decide) rfl rfl
  · refine Eq.trans (s_push (y := 10) (pc := 9) (nx := 10) (a := 0) (b := (-1)) rfl) ?_
    exact s_ret (y := 10) (pc := 10) (nx := 11) (a := 0) rfl (by decide)
theorem e_10_25 (μ : Mem) (x2 : Int) (s1 : Int) : qE 10 25 [(3, 5), (3, 98), (0, x2)] [(0, s1), (3, 5)] μ = (if μ (-5) 0 = 10 then (qR 12 [(3, 5), (0, s1)] μ).bind fun w => qE 10 28 [(3, 5), (3, 98), (0, x2)] (psh w.1 []) w.2 else none) := by
  exact s_callq (k := 10) (y := 10) (pc := 25) (nx := 28) (a := 12) (b := 0) (as := [(3, 5), (0, s1)]) (r := []) rfl (Nat.le_of_ble_eq_true rfl) rfl rfl (Nat.le_of_ble_eq_true rfl) (Nat.le_of_ble_eq_true rfl) (by decide) rfl rfl
theorem e_10_28 (μ : Mem) (x2 : Int) : qE 10 28 [(3, 5), (3, 98), (0, x2)] [] μ = (if μ (-5) 0 = 10 then (if μ (-5) 0 = 10 then (if (mU μ 5 4 (w32 ((μ 5 4) + 1))) (-5) 0 = 10 then (if (mU μ 5 4 (w32 ((μ 5 4) + 1))) (-5) 0 = 10 then (if (mNew (mU μ 5 4 (w32 ((μ 5 4) + 1))) 18 4) (-5) 0 = 10 then (if (mNew (mU μ 5 4 (w32 ((μ 5 4) + 1))) 18 4) (-((mU μ 5 4 (w32 ((μ 5 4) + 1))) 0 2)) 0 = 18 then (qR 93 [(3, ((mU μ 5 4 (w32 ((μ 5 4) + 1))) 0 2)), (3, 98), (0, x2), (0, ((mNew (mU μ 5 4 (w32 ((μ 5 4) + 1))) 18 4) 5 4))] (mNew (mU μ 5 4 (w32 ((μ 5 4) + 1))) 18 4)).bind fun w => qE 10 59 [(3, 5), (3, 98), (0, x2)] (psh w.1 [(3, ((mU μ 5 4 (w32 ((μ 5 4) + 1))) 0 2)), (0, ((mU μ 5 4 (w32 ((μ 5 4) + 1))) 5 2)), (3, ((mU μ 5 4 (w32 ((μ 5 4) + 1))) 5 0))]) w.2 else none) else none) else none) else none) else none) else none) := by
  refine Eq.trans (s_load (y := 10) (pc := 28) (nx := 29) (a := 3) (b := 0) (x := 5) rfl rfl) ?_
  refine Eq.trans (s_dup (y := 10) (pc := 29) (nx := 30) (a := 0) (b := 0) rfl (by decide)) ?_
  refine Eq.trans (s_getq (y := 10) (pc := 30) (nx := 33) (a := 0) (b := 4) (t := 0) (k := 10) rfl rfl rfl) (ite_c ?_ rfl)
  refine Eq.trans (s_push (y := 10) (pc := 33) (nx := 34) (a := 0) (b := 1) rfl) ?_
  refine Eq.trans (s_add (y := 10) (pc := 34) (nx := 35) (b := 0) rfl) ?_
  refine Eq.trans (s_putq (y := 10) (pc := 35) (nx := 38) (a := 0) (b := 4) (t := 0) (k := 10) rfl rfl rfl) (ite_c ?_ rfl)
  refine Eq.trans (s_load (y := 10) (pc := 38) (nx := 39) (a := 3) (b := 0) (x := 5) rfl rfl) ?_
  refine Eq.trans (s_getq (y := 10) (pc := 39) (nx := 42) (a := 0) (b := 0) (t := 3) (k := 10) rfl rfl rfl) (ite_c ?_ rfl)
  refine Eq.trans (s_load (y := 10) (pc := 42) (nx := 43) (a := 3) (b := 0) (x := 5) rfl rfl) ?_
  refine Eq.trans (s_getq (y := 10) (pc := 43) (nx := 46) (a := 0) (b := 2) (t := 0) (k := 10) rfl rfl rfl) (ite_c ?_ rfl)
  refine Eq.trans (s_new (y := 10) (pc := 46) (nx := 49) (a := 8) (b := 0) rfl) ?_
  refine Eq.trans (s_dup (y := 10) (pc := 49) (nx := 50) (a := 0) (b := 0) rfl (by decide)) ?_
  refine Eq.trans (s_load (y := 10) (pc := 50) (nx := 51) (a := 3) (b := 1) (x := 98) rfl rfl) ?_
  refine Eq.trans (s_load (y := 10) (pc := 51) (nx := 52) (a := 0) (b := 2) (x := x2) rfl rfl) ?_
  refine Eq.trans (s_load (y := 10) (pc := 52) (nx := 53) (a := 3) (b := 0) (x := 5) rfl rfl) ?_
  refine Eq.trans (s_getq (y := 10) (pc := 53) (nx := 56) (a := 0) (b := 4) (t := 0) (k := 10) rfl rfl rfl) (ite_c ?_ rfl)
  exact s_callq (k := 18) (y := 10) (pc := 56) (nx := 59) (a := 93) (b := 0) (as := [(3, ((mU μ 5 4 (w32 ((μ 5 4) + 1))) 0 2)), (3, 98), (0, x2), (0, ((mNew (mU μ 5 4 (w32 ((μ 5 4) + 1))) 18 4) 5 4))]) (r := [(3, ((mU μ 5 4 (w32 ((μ 5 4) + 1))) 0 2)), (0, ((mU μ 5 4 (w32 ((μ 5 4) + 1))) 5 2)), (3, ((mU μ 5 4 (w32 ((μ 5 4) + 1))) 5 0))]) rfl (Nat.le_of_ble_eq_true rfl) rfl rfl (Nat.le_of_ble_eq_true rfl) (Nat.le_of_ble_eq_true rfl) (by decide) rfl rfl
theorem e_10_59 (μ : Mem) (x2 : Int) (s0 : Int) (s1 : Int) (s2 : Int) : qE 10 59 [(3, 5), (3, 98), (0, x2)] [(3, s2), (0, s1), (3, s0)] μ = (if (s0 : Int) ≠ 1 ∧ aPut μ 3 (μ (-s0) 0) (3, s2) = true ∧ 0 ≤ s1 ∧ s1 < μ (-s0) 1 then (if (mU μ s0 s1 s2) (-5) 0 = 10 then (if (mU μ s0 s1 s2) (-5) 0 = 10 then (if (mU (mU μ s0 s1 s2) 5 2 (w32 (((mU μ s0 s1 s2) 5 2) + 1))) (-5) 0 = 10 then (if (mU (mU μ s0 s1 s2) 5 2 (w32 (((mU μ s0 s1 s2) 5 2) + 1))) (-5) 0 = 10 then (if (mU (mU (mU μ s0 s1 s2) 5 2 (w32 (((mU μ s0 s1 s2) 5 2) + 1))) 5 3 (w32 (((mU (mU μ s0 s1 s2) 5 2 (w32 (((mU μ s0 s1 s2) 5 2) + 1))) 5 3) + 1))) (-5) 0 = 10 then some ((0, (w32 (((mU (mU (mU μ s0 s1 s2) 5 2 (w32 (((mU μ s0 s1 s2) 5 2) + 1))) 5 3 (w32 (((mU (mU μ s0 s1 s2) 5 2 (w32 (((mU μ s0 s1 s2) 5 2) + 1))) 5 3) + 1))) 5 2) - 1))), (mU (mU (mU μ s0 s1 s2) 5 2 (w32 (((mU μ s0 s1 s2) 5 2) + 1))) 5 3 (w32 (((mU (mU μ s0 s1 s2) 5 2 (w32 (((mU μ s0 s1 s2) 5 2) + 1))) 5 3) + 1)))) else none) else none) else none) else none) else none) else none) := by
  refine Eq.trans (s_astq (y := 10) (pc := 59) (nx := 60) (a := 3) (b := 0) rfl) (ite_c ?_ rfl)
  refine Eq.trans (s_load (y := 10) (pc := 60) (nx := 61) (a := 3) (b := 0) (x := 5) rfl rfl) ?_
  refine Eq.trans (s_dup (y := 10) (pc := 61) (nx := 62) (a := 0) (b := 0) rfl (by decide)) ?_
  refine Eq.trans (s_getq (y := 10) (pc := 62) (nx := 65) (a := 0) (b := 2) (t := 0) (k := 10) rfl rfl rfl) (ite_c ?_ rfl)
  refine Eq.trans (s_push (y := 10) (pc := 65) (nx := 66) (a := 0) (b := 1) rfl) ?_
  refine Eq.trans (s_add (y := 10) (pc := 66) (nx := 67) (b := 0) rfl) ?_
  refine Eq.trans (s_putq (y := 10) (pc := 67) (nx := 70) (a := 0) (b := 2) (t := 0) (k := 10) rfl rfl rfl) (ite_c ?_ rfl)
  refine Eq.trans (s_load (y := 10) (pc := 70) (nx := 71) (a := 3) (b := 0) (x := 5) rfl rfl) ?_
  refine Eq.trans (s_dup (y := 10) (pc := 71) (nx := 72) (a := 0) (b := 0) rfl (by decide)) ?_
  refine Eq.trans (s_getq (y := 10) (pc := 72) (nx := 75) (a := 0) (b := 3) (t := 0) (k := 10) rfl rfl rfl) (ite_c ?_ rfl)
  refine Eq.trans (s_push (y := 10) (pc := 75) (nx := 76) (a := 0) (b := 1) rfl) ?_
  refine Eq.trans (s_add (y := 10) (pc := 76) (nx := 77) (b := 0) rfl) ?_
  refine Eq.trans (s_putq (y := 10) (pc := 77) (nx := 80) (a := 0) (b := 3) (t := 0) (k := 10) rfl rfl rfl) (ite_c ?_ rfl)
  refine Eq.trans (s_load (y := 10) (pc := 80) (nx := 81) (a := 3) (b := 0) (x := 5) rfl rfl) ?_
  refine Eq.trans (s_getq (y := 10) (pc := 81) (nx := 84) (a := 0) (b := 2) (t := 0) (k := 10) rfl rfl rfl) (ite_c ?_ rfl)
  refine Eq.trans (s_push (y := 10) (pc := 84) (nx := 85) (a := 0) (b := 1) rfl) ?_
  refine Eq.trans (s_sub (y := 10) (pc := 85) (nx := 86) (b := 0) rfl) ?_
  exact s_ret (y := 10) (pc := 86) (nx := 87) (a := 0) rfl (by decide)
theorem r_11 (D : Mem) : qR 11 [(3, 5)] (mk D) = qE 11 7 [(3, 5), (0, (-1)), (0, 2147483647), (0, 0), (9, 0)] [] (mk D) := by
  show qE 11 0 [(3, 5), (9, 0), (9, 0), (9, 0), (9, 0)] [] (mk D) = _
  refine Eq.trans (s_push (y := 11) (pc := 0) (nx := 1) (a := 0) (b := (-1)) rfl) ?_
  refine Eq.trans (s_store (y := 11) (pc := 1) (nx := 2) (a := 0) (b := 1) (ls' := [(3, 5), (0, (-1)), (9, 0), (9, 0), (9, 0)]) rfl (Nat.le_of_ble_eq_true rfl) rfl) ?_
  refine Eq.trans (s_push (y := 11) (pc := 2) (nx := 4) (a := 0) (b := 2147483647) rfl) ?_
  refine Eq.trans (s_store (y := 11) (pc := 4) (nx := 5) (a := 0) (b := 2) (ls' := [(3, 5), (0, (-1)), (0, 2147483647), (9, 0), (9, 0)]) rfl (Nat.le_of_ble_eq_true rfl) rfl) ?_
  refine Eq.trans (s_push (y := 11) (pc := 5) (nx := 6) (a := 0) (b := 0) rfl) ?_
  refine Eq.trans (s_store (y := 11) (pc := 6) (nx := 7) (a := 0) (b := 3) (ls' := [(3, 5), (0, (-1)), (0, 2147483647), (0, 0), (9, 0)]) rfl (Nat.le_of_ble_eq_true rfl) rfl) ?_
  rfl
theorem e_11_7 (D : Mem) (x1 : Int) (x2 : Int) (x3 : Int) (v4 : PV) : qE 11 7 [(3, 5), (0, x1), (0, x2), (0, x3), v4] [] (mk D) = (if x3 < (D 5 2) then (if 0 ≤ x3 ∧ x3 < 80 then (if (mk D 6 x3) = 0 then qE 11 7 [(3, 5), (0, x1), (0, x2), (0, (w32 (x3 + 1))), (3, (mk D 6 x3))] [] (mk D) else (if (mk D) (-(mk D 6 x3)) 0 = 18 then (if ((mk D) (mk D 6 x3) 3) = 0 then qE 11 7 [(3, 5), (0, x1), (0, x2), (0, (w32 (x3 + 1))), (3, (mk D 6 x3))] [] (mk D) else (if (mk D) (-(mk D 6 x3)) 0 = 18 then (if ((mk D) (mk D 6 x3) 2) < x2 then (if (mk D) (-(mk D 6 x3)) 0 = 18 then qE 11 7 [(3, 5), (0, x3), (0, ((mk D) (mk D 6 x3) 2)), (0, (w32 (x3 + 1))), (3, (mk D 6 x3))] [] (mk D) else none) else qE 11 7 [(3, 5), (0, x1), (0, x2), (0, (w32 (x3 + 1))), (3, (mk D 6 x3))] [] (mk D)) else none)) else none)) else none) else some ((0, x1), (mk D))) := by
  refine Eq.trans (s_load (y := 11) (pc := 7) (nx := 8) (a := 0) (b := 3) (x := x3) rfl rfl) ?_
  refine Eq.trans (s_load (y := 11) (pc := 8) (nx := 9) (a := 3) (b := 0) (x := 5) rfl rfl) ?_
  refine Eq.trans (s_get (y := 11) (pc := 9) (nx := 12) (a := 0) (b := 2) (t := 0) (v := (D 5 2)) rfl (mk_k5 _) rfl (mk_5_2 _)) ?_
  refine Eq.trans (s_icge (y := 11) (pc := 12) (nx := 15) (b := 59) (tg := 59) rfl rfl) (ite_c ?_ ?_)
  · refine Eq.trans (s_load (y := 11) (pc := 15) (nx := 16) (a := 3) (b := 0) (x := 5) rfl rfl) ?_
    refine Eq.trans (s_get (y := 11) (pc := 16) (nx := 19) (a := 0) (b := 0) (t := 3) (v := 6) rfl (mk_k5 _) rfl (mk_5_0 _)) ?_
    refine Eq.trans (s_load (y := 11) (pc := 19) (nx := 20) (a := 0) (b := 3) (x := x3) rfl rfl) ?_
    refine Eq.trans (s_ald (y := 11) (pc := 20) (nx := 21) (a := 3) (b := 0) (k := 4) (n := 80) (t := 3) (v := (mk D 6 x3)) rfl (mk_k6 _) rfl rfl (mk_l6 _) rfl) (ite_c ?_ rfl)
    refine Eq.trans (s_store (y := 11) (pc := 21) (nx := 23) (a := 3) (b := 4) (ls' := [(3, 5), (0, x1), (0, x2), (0, x3), (3, (mk D 6 x3))]) rfl (Nat.le_of_ble_eq_true rfl) rfl) ?_
    refine Eq.trans (s_load (y := 11) (pc := 23) (nx := 25) (a := 3) (b := 4) (x := (mk D 6 x3)) rfl rfl) ?_
    refine Eq.trans (s_null (y := 11) (pc := 25) (nx := 28) (b := 53) (tg := 53) rfl rfl) (ite_c ?_ ?_)
    · refine Eq.trans (s_iinc (y := 11) (pc := 53) (nx := 56) (a := 3) (b := 1) (x := x3) (ls' := [(3, 5), (0, x1), (0, x2), (0, (w32 (x3 + 1))), (3, (mk D 6 x3))]) rfl rfl rfl) ?_
      refine Eq.trans (s_goto (y := 11) (pc := 56) (nx := 59) (a := 0) (b := 7) (tg := 7) rfl rfl) ?_
      rfl
    · refine Eq.trans (s_load (y := 11) (pc := 28) (nx := 30) (a := 3) (b := 4) (x := (mk D 6 x3)) rfl rfl) ?_
      refine Eq.trans (s_getq (y := 11) (pc := 30) (nx := 33) (a := 8) (b := 3) (t := 0) (k := 18) rfl rfl rfl) (ite_c ?_ rfl)
      refine Eq.trans (s_ifeq (y := 11) (pc := 33) (nx := 36) (b := 53) (tg := 53) rfl rfl) (ite_c ?_ ?_)
      · refine Eq.trans (s_iinc (y := 11) (pc := 53) (nx := 56) (a := 3) (b := 1) (x := x3) (ls' := [(3, 5), (0, x1), (0, x2), (0, (w32 (x3 + 1))), (3, (mk D 6 x3))]) rfl rfl rfl) ?_
        refine Eq.trans (s_goto (y := 11) (pc := 56) (nx := 59) (a := 0) (b := 7) (tg := 7) rfl rfl) ?_
        rfl
      · refine Eq.trans (s_load (y := 11) (pc := 36) (nx := 38) (a := 3) (b := 4) (x := (mk D 6 x3)) rfl rfl) ?_
        refine Eq.trans (s_getq (y := 11) (pc := 38) (nx := 41) (a := 8) (b := 2) (t := 0) (k := 18) rfl rfl rfl) (ite_c ?_ rfl)
        refine Eq.trans (s_load (y := 11) (pc := 41) (nx := 42) (a := 0) (b := 2) (x := x2) rfl rfl) ?_
        refine Eq.trans (s_icge (y := 11) (pc := 42) (nx := 45) (b := 53) (tg := 53) rfl rfl) (ite_c ?_ ?_)
        · refine Eq.trans (s_load (y := 11) (pc := 45) (nx := 46) (a := 0) (b := 3) (x := x3) rfl rfl) ?_
          refine Eq.trans (s_store (y := 11) (pc := 46) (nx := 47) (a := 0) (b := 1) (ls' := [(3, 5), (0, x3), (0, x2), (0, x3), (3, (mk D 6 x3))]) rfl (Nat.le_of_ble_eq_true rfl) rfl) ?_
          refine Eq.trans (s_load (y := 11) (pc := 47) (nx := 49) (a := 3) (b := 4) (x := (mk D 6 x3)) rfl rfl) ?_
          refine Eq.trans (s_getq (y := 11) (pc := 49) (nx := 52) (a := 8) (b := 2) (t := 0) (k := 18) rfl rfl rfl) (ite_c ?_ rfl)
          refine Eq.trans (s_store (y := 11) (pc := 52) (nx := 53) (a := 0) (b := 2) (ls' := [(3, 5), (0, x3), (0, ((mk D) (mk D 6 x3) 2)), (0, x3), (3, (mk D 6 x3))]) rfl (Nat.le_of_ble_eq_true rfl) rfl) ?_
          refine Eq.trans (s_iinc (y := 11) (pc := 53) (nx := 56) (a := 3) (b := 1) (x := x3) (ls' := [(3, 5), (0, x3), (0, ((mk D) (mk D 6 x3) 2)), (0, (w32 (x3 + 1))), (3, (mk D 6 x3))]) rfl rfl rfl) ?_
          refine Eq.trans (s_goto (y := 11) (pc := 56) (nx := 59) (a := 0) (b := 7) (tg := 7) rfl rfl) ?_
          rfl
        · refine Eq.trans (s_iinc (y := 11) (pc := 53) (nx := 56) (a := 3) (b := 1) (x := x3) (ls' := [(3, 5), (0, x1), (0, x2), (0, (w32 (x3 + 1))), (3, (mk D 6 x3))]) rfl rfl rfl) ?_
          refine Eq.trans (s_goto (y := 11) (pc := 56) (nx := 59) (a := 0) (b := 7) (tg := 7) rfl rfl) ?_
          rfl
  · refine Eq.trans (s_load (y := 11) (pc := 59) (nx := 60) (a := 0) (b := 1) (x := x1) rfl rfl) ?_
    exact s_ret (y := 11) (pc := 60) (nx := 61) (a := 0) rfl (by decide)
theorem r_12 (D : Mem) (x1 : Int) : qR 12 [(3, 5), (0, x1)] (mk D) = ((qR 7 [(3, 5), (0, x1)] (mk D)).bind fun w => qE 12 5 [(3, 5), (0, x1), (9, 0)] (psh w.1 []) w.2) := by
  show qE 12 0 [(3, 5), (0, x1), (9, 0)] [] (mk D) = _
  refine Eq.trans (s_load (y := 12) (pc := 0) (nx := 1) (a := 3) (b := 0) (x := 5) rfl rfl) ?_
  refine Eq.trans (s_load (y := 12) (pc := 1) (nx := 2) (a := 0) (b := 1) (x := x1) rfl rfl) ?_
  exact s_call (y := 12) (pc := 2) (nx := 5) (a := 7) (b := 0) (as := [(3, 5), (0, x1)]) (r := []) rfl (Nat.le_of_ble_eq_true rfl) rfl rfl (Nat.le_of_ble_eq_true rfl) (Nat.le_of_ble_eq_true rfl) (Or.inr ⟨rfl, mk_k5 _⟩)
theorem e_12_5 (D : Mem) (x1 : Int) (s0 : Int) : qE 12 5 [(3, 5), (0, x1), (9, 0)] [(3, s0)] (mk D) = (if s0 = 0 then qE 12 40 [(3, 5), (0, x1), (3, s0)] [] (mk D) else (if (mk D) (-s0) 0 = 18 then (if ((mk D) s0 3) = 0 then qE 12 40 [(3, 5), (0, x1), (3, s0)] [] (mk D) else (if (mk D) (-s0) 0 = 18 then qE 12 22 [(3, 5), (0, x1), (3, s0)] [] (mU (mk D) s0 3 0) else none)) else none)) := by
  refine Eq.trans (s_store (y := 12) (pc := 5) (nx := 6) (a := 3) (b := 2) (ls' := [(3, 5), (0, x1), (3, s0)]) rfl (Nat.le_of_ble_eq_true rfl) rfl) ?_
  refine Eq.trans (s_load (y := 12) (pc := 6) (nx := 7) (a := 3) (b := 2) (x := s0) rfl rfl) ?_
  refine Eq.trans (s_null (y := 12) (pc := 7) (nx := 10) (b := 40) (tg := 40) rfl rfl) (ite_c ?_ ?_)
  · rfl
  · refine Eq.trans (s_load (y := 12) (pc := 10) (nx := 11) (a := 3) (b := 2) (x := s0) rfl rfl) ?_
    refine Eq.trans (s_getq (y := 12) (pc := 11) (nx := 14) (a := 8) (b := 3) (t := 0) (k := 18) rfl rfl rfl) (ite_c ?_ rfl)
    refine Eq.trans (s_ifeq (y := 12) (pc := 14) (nx := 17) (b := 40) (tg := 40) rfl rfl) (ite_c ?_ ?_)
    · rfl
    · refine Eq.trans (s_load (y := 12) (pc := 17) (nx := 18) (a := 3) (b := 2) (x := s0) rfl rfl) ?_
      refine Eq.trans (s_push (y := 12) (pc := 18) (nx := 19) (a := 0) (b := 0) rfl) ?_
      refine Eq.trans (s_putq (y := 12) (pc := 19) (nx := 22) (a := 8) (b := 3) (t := 0) (k := 18) rfl rfl rfl) (ite_c ?_ rfl)
      rfl
theorem e_12_22 (D : Mem) (x1 : Int) (x2 : Int) : qE 12 22 [(3, 5), (0, x1), (3, x2)] [] (mk D) = ((qR 47 [(3, 7), (0, x1)] (mk (mU D 5 3 (w32 ((D 5 3) - 1))))).bind fun w => qE 12 40 [(3, 5), (0, x1), (3, x2)] (psh w.1 []) w.2) := by
  refine Eq.trans (s_load (y := 12) (pc := 22) (nx := 23) (a := 3) (b := 0) (x := 5) rfl rfl) ?_
  refine Eq.trans (s_dup (y := 12) (pc := 23) (nx := 24) (a := 0) (b := 0) rfl (by decide)) ?_
  refine Eq.trans (s_get (y := 12) (pc := 24) (nx := 27) (a := 0) (b := 3) (t := 0) (v := (D 5 3)) rfl (mk_k5 _) rfl (mk_5_3 _)) ?_
  refine Eq.trans (s_push (y := 12) (pc := 27) (nx := 28) (a := 0) (b := 1) rfl) ?_
  refine Eq.trans (s_sub (y := 12) (pc := 28) (nx := 29) (b := 0) rfl) ?_
  refine Eq.trans (s_put (y := 12) (pc := 29) (nx := 32) (a := 0) (b := 3) (t := 0) (v := (w32 ((D 5 3) - 1))) (μ' := mk (mU D 5 3 (w32 ((D 5 3) - 1)))) rfl (mk_k5 _) rfl (mu_5_3 _ _)) ?_
  refine Eq.trans (s_load (y := 12) (pc := 32) (nx := 33) (a := 3) (b := 0) (x := 5) rfl rfl) ?_
  refine Eq.trans (s_get (y := 12) (pc := 33) (nx := 36) (a := 0) (b := 1) (t := 3) (v := 7) rfl (mk_k5 _) rfl (mk_5_1 _)) ?_
  refine Eq.trans (s_load (y := 12) (pc := 36) (nx := 37) (a := 0) (b := 1) (x := x1) rfl rfl) ?_
  exact s_call (y := 12) (pc := 37) (nx := 40) (a := 47) (b := 0) (as := [(3, 7), (0, x1)]) (r := []) rfl (Nat.le_of_ble_eq_true rfl) rfl rfl (Nat.le_of_ble_eq_true rfl) (Nat.le_of_ble_eq_true rfl) (Or.inr ⟨rfl, mk_k7 _⟩)
theorem e_12_40 (D : Mem) (x1 : Int) (x2 : Int) : qE 12 40 [(3, 5), (0, x1), (3, x2)] [] (mk D) = some ((9, 0), (mk D)) := by
  exact s_retv (y := 12) (pc := 40) (nx := 41) (b := 0) rfl
theorem r_13 (D : Mem) (x1 : Int) (x2 : Int) : qR 13 [(3, 5), (0, x1), (0, x2)] (mk D) = ((qR 7 [(3, 5), (0, x1)] (mk D)).bind fun w => qE 13 5 [(3, 5), (0, x1), (0, x2), (9, 0)] (psh w.1 []) w.2) := by
  show qE 13 0 [(3, 5), (0, x1), (0, x2), (9, 0)] [] (mk D) = _
  refine Eq.trans (s_load (y := 13) (pc := 0) (nx := 1) (a := 3) (b := 0) (x := 5) rfl rfl) ?_
  refine Eq.trans (s_load (y := 13) (pc := 1) (nx := 2) (a := 0) (b := 1) (x := x1) rfl rfl) ?_
  exact s_call (y := 13) (pc := 2) (nx := 5) (a := 7) (b := 0) (as := [(3, 5), (0, x1)]) (r := []) rfl (Nat.le_of_ble_eq_true rfl) rfl rfl (Nat.le_of_ble_eq_true rfl) (Nat.le_of_ble_eq_true rfl) (Or.inr ⟨rfl, mk_k5 _⟩)
theorem e_13_5 (D : Mem) (x1 : Int) (x2 : Int) (s0 : Int) : qE 13 5 [(3, 5), (0, x1), (0, x2), (9, 0)] [(3, s0)] (mk D) = (if s0 = 0 then some ((9, 0), (mk D)) else (if (mk D) (-s0) 0 = 18 then ((qR 217 [(0, (w32 (((mk D) s0 1) + 1))), (0, 1000000)] (mk D)).bind fun w => qE 13 23 [(3, 5), (0, x1), (0, x2), (3, s0)] (psh w.1 [(3, s0)]) w.2) else none)) := by
  refine Eq.trans (s_store (y := 13) (pc := 5) (nx := 6) (a := 3) (b := 3) (ls' := [(3, 5), (0, x1), (0, x2), (3, s0)]) rfl (Nat.le_of_ble_eq_true rfl) rfl) ?_
  refine Eq.trans (s_load (y := 13) (pc := 6) (nx := 7) (a := 3) (b := 3) (x := s0) rfl rfl) ?_
  refine Eq.trans (s_nonn (y := 13) (pc := 7) (nx := 10) (b := 11) (tg := 11) rfl rfl) (ite_c ?_ ?_)
  · exact s_retv (y := 13) (pc := 10) (nx := 11) (b := 0) rfl
  · refine Eq.trans (s_load (y := 13) (pc := 11) (nx := 12) (a := 3) (b := 3) (x := s0) rfl rfl) ?_
    refine Eq.trans (s_load (y := 13) (pc := 12) (nx := 13) (a := 3) (b := 3) (x := s0) rfl rfl) ?_
    refine Eq.trans (s_getq (y := 13) (pc := 13) (nx := 16) (a := 8) (b := 1) (t := 0) (k := 18) rfl rfl rfl) (ite_c ?_ rfl)
    refine Eq.trans (s_push (y := 13) (pc := 16) (nx := 17) (a := 0) (b := 1) rfl) ?_
    refine Eq.trans (s_add (y := 13) (pc := 17) (nx := 18) (b := 0) rfl) ?_
    refine Eq.trans (s_push (y := 13) (pc := 18) (nx := 20) (a := 0) (b := 1000000) rfl) ?_
    exact s_call (y := 13) (pc := 20) (nx := 23) (a := 217) (b := 0) (as := [(0, (w32 (((mk D) s0 1) + 1))), (0, 1000000)]) (r := [(3, s0)]) rfl (Nat.le_of_ble_eq_true rfl) rfl rfl (Nat.le_of_ble_eq_true rfl) (Nat.le_of_ble_eq_true rfl) (Or.inl rfl)
theorem e_13_23 (D : Mem) (x1 : Int) (x2 : Int) (x3 : Int) (s0 : Int) (s1 : Int) : qE 13 23 [(3, 5), (0, x1), (0, x2), (3, x3)] [(0, s1), (3, s0)] (mk D) = (if (mk D) (-s0) 0 = 18 then qE 13 26 [(3, 5), (0, x1), (0, x2), (3, x3)] [] (mU (mk D) s0 1 s1) else none) := by
  refine Eq.trans (s_putq (y := 13) (pc := 23) (nx := 26) (a := 8) (b := 1) (t := 0) (k := 18) rfl rfl rfl) (ite_c ?_ rfl)
  rfl
theorem e_13_26 (D : Mem) (x1 : Int) (x2 : Int) (x3 : Int) : qE 13 26 [(3, 5), (0, x1), (0, x2), (3, x3)] [] (mk D) = (if x2 < 0 then qE 13 55 [(3, 5), (0, x1), (0, x2), (3, x3)] [] (mk D) else ((qR 43 [(3, 7), (0, x2), (0, x1)] (mk D)).bind fun w => qE 13 45 [(3, 5), (0, x1), (0, x2), (3, x3)] (psh w.1 [(0, x1), (0, x2), (3, 7)]) w.2)) := by
  refine Eq.trans (s_load (y := 13) (pc := 26) (nx := 27) (a := 0) (b := 2) (x := x2) rfl rfl) ?_
  refine Eq.trans (s_iflt (y := 13) (pc := 27) (nx := 30) (b := 55) (tg := 55) rfl rfl) (ite_c ?_ ?_)
  · rfl
  · refine Eq.trans (s_load (y := 13) (pc := 30) (nx := 31) (a := 3) (b := 0) (x := 5) rfl rfl) ?_
    refine Eq.trans (s_get (y := 13) (pc := 31) (nx := 34) (a := 0) (b := 1) (t := 3) (v := 7) rfl (mk_k5 _) rfl (mk_5_1 _)) ?_
    refine Eq.trans (s_load (y := 13) (pc := 34) (nx := 35) (a := 0) (b := 2) (x := x2) rfl rfl) ?_
    refine Eq.trans (s_load (y := 13) (pc := 35) (nx := 36) (a := 0) (b := 1) (x := x1) rfl rfl) ?_
    refine Eq.trans (s_load (y := 13) (pc := 36) (nx := 37) (a := 3) (b := 0) (x := 5) rfl rfl) ?_
    refine Eq.trans (s_get (y := 13) (pc := 37) (nx := 40) (a := 0) (b := 1) (t := 3) (v := 7) rfl (mk_k5 _) rfl (mk_5_1 _)) ?_
    refine Eq.trans (s_load (y := 13) (pc := 40) (nx := 41) (a := 0) (b := 2) (x := x2) rfl rfl) ?_
    refine Eq.trans (s_load (y := 13) (pc := 41) (nx := 42) (a := 0) (b := 1) (x := x1) rfl rfl) ?_
    exact s_call (y := 13) (pc := 42) (nx := 45) (a := 43) (b := 0) (as := [(3, 7), (0, x2), (0, x1)]) (r := [(0, x1), (0, x2), (3, 7)]) rfl (Nat.le_of_ble_eq_true rfl) rfl rfl (Nat.le_of_ble_eq_true rfl) (Nat.le_of_ble_eq_true rfl) (Or.inr ⟨rfl, mk_k7 _⟩)
theorem e_13_45 (D : Mem) (x1 : Int) (x2 : Int) (x3 : Int) (s1 : Int) (s2 : Int) (s3 : Int) : qE 13 45 [(3, 5), (0, x1), (0, x2), (3, x3)] [(0, s3), (0, s2), (0, s1), (3, 7)] (mk D) = ((qR 217 [(0, (w32 (s3 + 1))), (0, 1000000)] (mk D)).bind fun w => qE 13 52 [(3, 5), (0, x1), (0, x2), (3, x3)] (psh w.1 [(0, s2), (0, s1), (3, 7)]) w.2) := by
  refine Eq.trans (s_push (y := 13) (pc := 45) (nx := 46) (a := 0) (b := 1) rfl) ?_
  refine Eq.trans (s_add (y := 13) (pc := 46) (nx := 47) (b := 0) rfl) ?_
  refine Eq.trans (s_push (y := 13) (pc := 47) (nx := 49) (a := 0) (b := 1000000) rfl) ?_
  exact s_call (y := 13) (pc := 49) (nx := 52) (a := 217) (b := 0) (as := [(0, (w32 (s3 + 1))), (0, 1000000)]) (r := [(0, s2), (0, s1), (3, 7)]) rfl (Nat.le_of_ble_eq_true rfl) rfl rfl (Nat.le_of_ble_eq_true rfl) (Nat.le_of_ble_eq_true rfl) (Or.inl rfl)
theorem e_13_52 (D : Mem) (x1 : Int) (x2 : Int) (x3 : Int) (s1 : Int) (s2 : Int) (s3 : Int) : qE 13 52 [(3, 5), (0, x1), (0, x2), (3, x3)] [(0, s3), (0, s2), (0, s1), (3, 7)] (mk D) = ((qR 45 [(3, 7), (0, s1), (0, s2), (0, s3)] (mk D)).bind fun w => qE 13 55 [(3, 5), (0, x1), (0, x2), (3, x3)] (psh w.1 []) w.2) := by
  exact s_call (y := 13) (pc := 52) (nx := 55) (a := 45) (b := 0) (as := [(3, 7), (0, s1), (0, s2), (0, s3)]) (r := []) rfl (Nat.le_of_ble_eq_true rfl) rfl rfl (Nat.le_of_ble_eq_true rfl) (Nat.le_of_ble_eq_true rfl) (Or.inr ⟨rfl, mk_k7 _⟩)
theorem e_13_55 (D : Mem) (x1 : Int) (x2 : Int) (x3 : Int) : qE 13 55 [(3, 5), (0, x1), (0, x2), (3, x3)] [] (mk D) = (if (mk (mU D 5 4 (w32 ((D 5 4) + 1)))) (-x3) 0 = 18 then qE 13 73 [(3, 5), (0, x1), (0, x2), (3, x3)] [] (mU (mk (mU D 5 4 (w32 ((D 5 4) + 1)))) x3 2 ((mU D 5 4 (w32 ((D 5 4) + 1))) 5 4)) else none) := by
  refine Eq.trans (s_load (y := 13) (pc := 55) (nx := 56) (a := 3) (b := 0) (x := 5) rfl rfl) ?_
  refine Eq.trans (s_dup (y := 13) (pc := 56) (nx := 57) (a := 0) (b := 0) rfl (by decide)) ?_
  refine Eq.trans (s_get (y := 13) (pc := 57) (nx := 60) (a := 0) (b := 4) (t := 0) (v := (D 5 4)) rfl (mk_k5 _) rfl (mk_5_4 _)) ?_
  refine Eq.trans (s_push (y := 13) (pc := 60) (nx := 61) (a := 0) (b := 1) rfl) ?_
  refine Eq.trans (s_add (y := 13) (pc := 61) (nx := 62) (b := 0) rfl) ?_
  refine Eq.trans (s_put (y := 13) (pc := 62) (nx := 65) (a := 0) (b := 4) (t := 0) (v := (w32 ((D 5 4) + 1))) (μ' := mk (mU D 5 4 (w32 ((D 5 4) + 1)))) rfl (mk_k5 _) rfl (mu_5_4 _ _)) ?_
  refine Eq.trans (s_load (y := 13) (pc := 65) (nx := 66) (a := 3) (b := 3) (x := x3) rfl rfl) ?_
  refine Eq.trans (s_load (y := 13) (pc := 66) (nx := 67) (a := 3) (b := 0) (x := 5) rfl rfl) ?_
  refine Eq.trans (s_get (y := 13) (pc := 67) (nx := 70) (a := 0) (b := 4) (t := 0) (v := ((mU D 5 4 (w32 ((D 5 4) + 1))) 5 4)) rfl (mk_k5 _) rfl (mk_5_4 _)) ?_
  refine Eq.trans (s_putq (y := 13) (pc := 70) (nx := 73) (a := 8) (b := 2) (t := 0) (k := 18) rfl rfl rfl) (ite_c ?_ rfl)
  rfl
theorem e_13_73 (D : Mem) (x1 : Int) (x2 : Int) (x3 : Int) : qE 13 73 [(3, 5), (0, x1), (0, x2), (3, x3)] [] (mk D) = some ((9, 0), (mk D)) := by
  exact s_retv (y := 13) (pc := 73) (nx := 74) (b := 0) rfl
theorem r_66 (D : Mem) : qR 66 [(3, 31)] (mk D) = some ((0, (D 31 10)), (mk D)) := by
  show qE 66 0 [(3, 31)] [] (mk D) = _
  refine Eq.trans (s_load (y := 66) (pc := 0) (nx := 1) (a := 3) (b := 0) (x := 31) rfl rfl) ?_
  refine Eq.trans (s_get (y := 66) (pc := 1) (nx := 4) (a := 6) (b := 10) (t := 0) (v := (D 31 10)) rfl (mk_k31 _) rfl (mk_31_10 _)) ?_
  exact s_ret (y := 66) (pc := 4) (nx := 5) (a := 0) rfl (by decide)
theorem r_67 (D : Mem) (x1 : Int) : qR 67 [(3, 31), (0, x1)] (mk D) = some ((9, 0), (mk (mU D 31 10 x1))) := by
  show qE 67 0 [(3, 31), (0, x1)] [] (mk D) = _
  refine Eq.trans (s_load (y := 67) (pc := 0) (nx := 1) (a := 3) (b := 0) (x := 31) rfl rfl) ?_
  refine Eq.trans (s_load (y := 67) (pc := 1) (nx := 2) (a := 0) (b := 1) (x := x1) rfl rfl) ?_
  refine Eq.trans (s_put (y := 67) (pc := 2) (nx := 5) (a := 6) (b := 10) (t := 0) (v := x1) (μ' := mk (mU D 31 10 x1)) rfl (mk_k31 _) rfl (mu_31_10 _ _)) ?_
  exact s_retv (y := 67) (pc := 5) (nx := 6) (b := 0) rfl
theorem r_68 (D : Mem) (x1 : Int) (x2 : Int) : qR 68 [(3, 31), (0, x1), (0, x2)] (mk D) = (if x1 < 0 then some ((9, 0), (mk D)) else (if x1 < 3 then (if 0 ≤ x1 ∧ x1 < 3 then some ((9, 0), (mk (mU D 38 x1 x2))) else none) else some ((9, 0), (mk D)))) := by
  show qE 68 0 [(3, 31), (0, x1), (0, x2)] [] (mk D) = _
  refine Eq.trans (s_load (y := 68) (pc := 0) (nx := 1) (a := 0) (b := 1) (x := x1) rfl rfl) ?_
  refine Eq.trans (s_iflt (y := 68) (pc := 1) (nx := 4) (b := 16) (tg := 16) rfl rfl) (ite_c ?_ ?_)
  · exact s_retv (y := 68) (pc := 16) (nx := 17) (b := 0) rfl
  · refine Eq.trans (s_load (y := 68) (pc := 4) (nx := 5) (a := 0) (b := 1) (x := x1) rfl rfl) ?_
    refine Eq.trans (s_push (y := 68) (pc := 5) (nx := 6) (a := 0) (b := 3) rfl) ?_
    refine Eq.trans (s_icge (y := 68) (pc := 6) (nx := 9) (b := 16) (tg := 16) rfl rfl) (ite_c ?_ ?_)
    · refine Eq.trans (s_load (y := 68) (pc := 9) (nx := 10) (a := 3) (b := 0) (x := 31) rfl rfl) ?_
      refine Eq.trans (s_get (y := 68) (pc := 10) (nx := 13) (a := 6) (b := 8) (t := 3) (v := 38) rfl (mk_k31 _) rfl (mk_31_8 _)) ?_
      refine Eq.trans (s_load (y := 68) (pc := 13) (nx := 14) (a := 0) (b := 1) (x := x1) rfl rfl) ?_
      refine Eq.trans (s_load (y := 68) (pc := 14) (nx := 15) (a := 0) (b := 2) (x := x2) rfl rfl) ?_
      refine Eq.trans (s_ast (y := 68) (pc := 15) (nx := 16) (a := 1) (b := 0) (k := 1) (n := 3) (t := 0) (v := x2) (μ' := mk (mU D 38 x1 x2)) rfl (by decide) (mk_k38 _) rfl (mk_l38 _) (mu_38 _ _ _)) (ite_c ?_ rfl)
      exact s_retv (y := 68) (pc := 16) (nx := 17) (b := 0) rfl
    · exact s_retv (y := 68) (pc := 16) (nx := 17) (b := 0) rfl
theorem r_69 (D : Mem) : qR 69 [(3, 31)] (mk D) = qE 69 2 [(3, 31), (0, 0), (9, 0)] [] (mk D) := by
  show qE 69 0 [(3, 31), (9, 0), (9, 0)] [] (mk D) = _
  refine Eq.trans (s_push (y := 69) (pc := 0) (nx := 1) (a := 0) (b := 0) rfl) ?_
  refine Eq.trans (s_store (y := 69) (pc := 1) (nx := 2) (a := 0) (b := 1) (ls' := [(3, 31), (0, 0), (9, 0)]) rfl (Nat.le_of_ble_eq_true rfl) rfl) ?_
  rfl
theorem e_69_2 (D : Mem) (x1 : Int) (v2 : PV) : qE 69 2 [(3, 31), (0, x1), v2] [] (mk D) = ((qR 1 [(3, 5)] (mk D)).bind fun w => qE 69 10 [(3, 31), (0, x1), v2] (psh w.1 [(0, x1)]) w.2) := by
  refine Eq.trans (s_load (y := 69) (pc := 2) (nx := 3) (a := 0) (b := 1) (x := x1) rfl rfl) ?_
  refine Eq.trans (s_load (y := 69) (pc := 3) (nx := 4) (a := 3) (b := 0) (x := 31) rfl rfl) ?_
  refine Eq.trans (s_get (y := 69) (pc := 4) (nx := 7) (a := 6) (b := 0) (t := 3) (v := 5) rfl (mk_k31 _) rfl (mk_31_0 _)) ?_
  exact s_call (y := 69) (pc := 7) (nx := 10) (a := 1) (b := 0) (as := [(3, 5)]) (r := [(0, x1)]) rfl (Nat.le_of_ble_eq_true rfl) rfl rfl (Nat.le_of_ble_eq_true rfl) (Nat.le_of_ble_eq_true rfl) (Or.inr ⟨rfl, mk_k5 _⟩)
theorem e_69_10 (D : Mem) (x1 : Int) (v2 : PV) (s0 : Int) (s1 : Int) : qE 69 10 [(3, 31), (0, x1), v2] [(0, s1), (0, s0)] (mk D) = (if s0 < s1 then (if x1 < 80 then ((qR 7 [(3, 5), (0, x1)] (mk D)).bind fun w => qE 69 27 [(3, 31), (0, x1), v2] (psh w.1 []) w.2) else some ((9, 0), (mk D))) else some ((9, 0), (mk D))) := by
  refine Eq.trans (s_icge (y := 69) (pc := 10) (nx := 13) (b := 79) (tg := 79) rfl rfl) (ite_c ?_ ?_)
  · refine Eq.trans (s_load (y := 69) (pc := 13) (nx := 14) (a := 0) (b := 1) (x := x1) rfl rfl) ?_
    refine Eq.trans (s_push (y := 69) (pc := 14) (nx := 16) (a := 0) (b := 80) rfl) ?_
    refine Eq.trans (s_icge (y := 69) (pc := 16) (nx := 19) (b := 79) (tg := 79) rfl rfl) (ite_c ?_ ?_)
    · refine Eq.trans (s_load (y := 69) (pc := 19) (nx := 20) (a := 3) (b := 0) (x := 31) rfl rfl) ?_
      refine Eq.trans (s_get (y := 69) (pc := 20) (nx := 23) (a := 6) (b := 0) (t := 3) (v := 5) rfl (mk_k31 _) rfl (mk_31_0 _)) ?_
      refine Eq.trans (s_load (y := 69) (pc := 23) (nx := 24) (a := 0) (b := 1) (x := x1) rfl rfl) ?_
      exact s_call (y := 69) (pc := 24) (nx := 27) (a := 7) (b := 0) (as := [(3, 5), (0, x1)]) (r := []) rfl (Nat.le_of_ble_eq_true rfl) rfl rfl (Nat.le_of_ble_eq_true rfl) (Nat.le_of_ble_eq_true rfl) (Or.inr ⟨rfl, mk_k5 _⟩)
    · exact s_retv (y := 69) (pc := 79) (nx := 80) (b := 0) rfl
  · exact s_retv (y := 69) (pc := 79) (nx := 80) (b := 0) rfl
theorem e_69_27 (D : Mem) (x1 : Int) (v2 : PV) (s0 : Int) : qE 69 27 [(3, 31), (0, x1), v2] [(3, s0)] (mk D) = (if s0 = 0 then qE 69 2 [(3, 31), (0, (w32 (x1 + 1))), (3, s0)] [] (mk D) else (if (mk D) (-s0) 0 = 18 then (if ((mk D) s0 3) = 0 then qE 69 2 [(3, 31), (0, (w32 (x1 + 1))), (3, s0)] [] (mk D) else (if (mk D) (-s0) 0 = 18 then ((qR 31 [(3, 3), (3, ((mk D) s0 0))] (mk D)).bind fun w => qE 69 55 [(3, 31), (0, x1), (3, s0)] (psh w.1 [(0, x1), (3, 32)]) w.2) else none)) else none)) := by
  refine Eq.trans (s_store (y := 69) (pc := 27) (nx := 28) (a := 3) (b := 2) (ls' := [(3, 31), (0, x1), (3, s0)]) rfl (Nat.le_of_ble_eq_true rfl) rfl) ?_
  refine Eq.trans (s_load (y := 69) (pc := 28) (nx := 29) (a := 3) (b := 2) (x := s0) rfl rfl) ?_
  refine Eq.trans (s_null (y := 69) (pc := 29) (nx := 32) (b := 73) (tg := 73) rfl rfl) (ite_c ?_ ?_)
  · refine Eq.trans (s_iinc (y := 69) (pc := 73) (nx := 76) (a := 1) (b := 1) (x := x1) (ls' := [(3, 31), (0, (w32 (x1 + 1))), (3, s0)]) rfl rfl rfl) ?_
    refine Eq.trans (s_goto (y := 69) (pc := 76) (nx := 79) (a := 0) (b := 2) (tg := 2) rfl rfl) ?_
    rfl
  · refine Eq.trans (s_load (y := 69) (pc := 32) (nx := 33) (a := 3) (b := 2) (x := s0) rfl rfl) ?_
    refine Eq.trans (s_getq (y := 69) (pc := 33) (nx := 36) (a := 8) (b := 3) (t := 0) (k := 18) rfl rfl rfl) (ite_c ?_ rfl)
    refine Eq.trans (s_ifeq (y := 69) (pc := 36) (nx := 39) (b := 73) (tg := 73) rfl rfl) (ite_c ?_ ?_)
    · refine Eq.trans (s_iinc (y := 69) (pc := 73) (nx := 76) (a := 1) (b := 1) (x := x1) (ls' := [(3, 31), (0, (w32 (x1 + 1))), (3, s0)]) rfl rfl rfl) ?_
      refine Eq.trans (s_goto (y := 69) (pc := 76) (nx := 79) (a := 0) (b := 2) (tg := 2) rfl rfl) ?_
      rfl
    · refine Eq.trans (s_load (y := 69) (pc := 39) (nx := 40) (a := 3) (b := 0) (x := 31) rfl rfl) ?_
      refine Eq.trans (s_get (y := 69) (pc := 40) (nx := 43) (a := 6) (b := 2) (t := 3) (v := 32) rfl (mk_k31 _) rfl (mk_31_2 _)) ?_
      refine Eq.trans (s_load (y := 69) (pc := 43) (nx := 44) (a := 0) (b := 1) (x := x1) rfl rfl) ?_
      refine Eq.trans (s_load (y := 69) (pc := 44) (nx := 45) (a := 3) (b := 0) (x := 31) rfl rfl) ?_
      refine Eq.trans (s_get (y := 69) (pc := 45) (nx := 48) (a := 6) (b := 1) (t := 3) (v := 3) rfl (mk_k31 _) rfl (mk_31_1 _)) ?_
      refine Eq.trans (s_load (y := 69) (pc := 48) (nx := 49) (a := 3) (b := 2) (x := s0) rfl rfl) ?_
      refine Eq.trans (s_getq (y := 69) (pc := 49) (nx := 52) (a := 8) (b := 0) (t := 3) (k := 18) rfl rfl rfl) (ite_c ?_ rfl)
      exact s_call (y := 69) (pc := 52) (nx := 55) (a := 31) (b := 0) (as := [(3, 3), (3, ((mk D) s0 0))]) (r := [(0, x1), (3, 32)]) rfl (Nat.le_of_ble_eq_true rfl) rfl rfl (Nat.le_of_ble_eq_true rfl) (Nat.le_of_ble_eq_true rfl) (Or.inr ⟨rfl, mk_k3 _⟩)
theorem e_69_55 (D : Mem) (x1 : Int) (x2 : Int) (s1 : Int) (s2 : Int) : qE 69 55 [(3, 31), (0, x1), (3, x2)] [(1, s2), (0, s1), (3, 32)] (mk D) = (if 0 ≤ s1 ∧ s1 < 80 then (if (mk (mU D 32 s1 s2)) (-x2) 0 = 18 then ((qR 32 [(3, 3), (3, ((mk (mU D 32 s1 s2)) x2 0))] (mk (mU D 32 s1 s2))).bind fun w => qE 69 72 [(3, 31), (0, x1), (3, x2)] (psh w.1 [(0, x1), (3, 33)]) w.2) else none) else none) := by
  refine Eq.trans (s_ast (y := 69) (pc := 55) (nx := 56) (a := 2) (b := 0) (k := 2) (n := 80) (t := 1) (v := s2) (μ' := mk (mU D 32 s1 s2)) rfl (by decide) (mk_k32 _) rfl (mk_l32 _) (mu_32 _ _ _)) (ite_c ?_ rfl)
  refine Eq.trans (s_load (y := 69) (pc := 56) (nx := 57) (a := 3) (b := 0) (x := 31) rfl rfl) ?_
  refine Eq.trans (s_get (y := 69) (pc := 57) (nx := 60) (a := 6) (b := 3) (t := 3) (v := 33) rfl (mk_k31 _) rfl (mk_31_3 _)) ?_
  refine Eq.trans (s_load (y := 69) (pc := 60) (nx := 61) (a := 0) (b := 1) (x := x1) rfl rfl) ?_
  refine Eq.trans (s_load (y := 69) (pc := 61) (nx := 62) (a := 3) (b := 0) (x := 31) rfl rfl) ?_
  refine Eq.trans (s_get (y := 69) (pc := 62) (nx := 65) (a := 6) (b := 1) (t := 3) (v := 3) rfl (mk_k31 _) rfl (mk_31_1 _)) ?_
  refine Eq.trans (s_load (y := 69) (pc := 65) (nx := 66) (a := 3) (b := 2) (x := x2) rfl rfl) ?_
  refine Eq.trans (s_getq (y := 69) (pc := 66) (nx := 69) (a := 8) (b := 0) (t := 3) (k := 18) rfl rfl rfl) (ite_c ?_ rfl)
  exact s_call (y := 69) (pc := 69) (nx := 72) (a := 32) (b := 0) (as := [(3, 3), (3, ((mk (mU D 32 s1 s2)) x2 0))]) (r := [(0, x1), (3, 33)]) rfl (Nat.le_of_ble_eq_true rfl) rfl rfl (Nat.le_of_ble_eq_true rfl) (Nat.le_of_ble_eq_true rfl) (Or.inr ⟨rfl, mk_k3 _⟩)
theorem e_69_72 (D : Mem) (x1 : Int) (x2 : Int) (s1 : Int) (s2 : Int) : qE 69 72 [(3, 31), (0, x1), (3, x2)] [(1, s2), (0, s1), (3, 33)] (mk D) = (if 0 ≤ s1 ∧ s1 < 80 then qE 69 2 [(3, 31), (0, (w32 (x1 + 1))), (3, x2)] [] (mk (mU D 33 s1 s2)) else none) := by
  refine Eq.trans (s_ast (y := 69) (pc := 72) (nx := 73) (a := 2) (b := 0) (k := 2) (n := 80) (t := 1) (v := s2) (μ' := mk (mU D 33 s1 s2)) rfl (by decide) (mk_k33 _) rfl (mk_l33 _) (mu_33 _ _ _)) (ite_c ?_ rfl)
  refine Eq.trans (s_iinc (y := 69) (pc := 73) (nx := 76) (a := 1) (b := 1) (x := x1) (ls' := [(3, 31), (0, (w32 (x1 + 1))), (3, x2)]) rfl rfl rfl) ?_
  refine Eq.trans (s_goto (y := 69) (pc := 76) (nx := 79) (a := 0) (b := 2) (tg := 2) rfl rfl) ?_
  rfl
theorem r_70 (D : Mem) (x1 : Int) : qR 70 [(3, 31), (0, x1)] (mk D) = ((qR 4 [(3, 5)] (mk D)).bind fun w => qE 70 7 [(3, 31), (0, x1), (9, 0), (9, 0), (9, 0)] (psh w.1 []) w.2) := by
  show qE 70 0 [(3, 31), (0, x1), (9, 0), (9, 0), (9, 0)] [] (mk D) = _
  refine Eq.trans (s_load (y := 70) (pc := 0) (nx := 1) (a := 3) (b := 0) (x := 31) rfl rfl) ?_
  refine Eq.trans (s_get (y := 70) (pc := 1) (nx := 4) (a := 6) (b := 0) (t := 3) (v := 5) rfl (mk_k31 _) rfl (mk_31_0 _)) ?_
  exact s_call (y := 70) (pc := 4) (nx := 7) (a := 4) (b := 0) (as := [(3, 5)]) (r := []) rfl (Nat.le_of_ble_eq_true rfl) rfl rfl (Nat.le_of_ble_eq_true rfl) (Nat.le_of_ble_eq_true rfl) (Or.inr ⟨rfl, mk_k5 _⟩)
theorem e_70_7 (D : Mem) (x1 : Int) : qE 70 7 [(3, 31), (0, x1), (9, 0), (9, 0), (9, 0)] [(3, 7)] (mk D) = ((qR 48 [(3, 7), (0, x1), (3, 35)] (mk D)).bind fun w => qE 70 15 [(3, 31), (0, x1), (9, 0), (9, 0), (9, 0)] (psh w.1 []) w.2) := by
  refine Eq.trans (s_load (y := 70) (pc := 7) (nx := 8) (a := 0) (b := 1) (x := x1) rfl rfl) ?_
  refine Eq.trans (s_load (y := 70) (pc := 8) (nx := 9) (a := 3) (b := 0) (x := 31) rfl rfl) ?_
  refine Eq.trans (s_get (y := 70) (pc := 9) (nx := 12) (a := 6) (b := 5) (t := 3) (v := 35) rfl (mk_k31 _) rfl (mk_31_5 _)) ?_
  exact s_call (y := 70) (pc := 12) (nx := 15) (a := 48) (b := 0) (as := [(3, 7), (0, x1), (3, 35)]) (r := []) rfl (Nat.le_of_ble_eq_true rfl) rfl rfl (Nat.le_of_ble_eq_true rfl) (Nat.le_of_ble_eq_true rfl) (Or.inr ⟨rfl, mk_k7 _⟩)
theorem e_70_15 (D : Mem) (x1 : Int) : qE 70 15 [(3, 31), (0, x1), (9, 0), (9, 0), (9, 0)] [] (mk D) = qE 70 17 [(3, 31), (0, x1), (0, 0), (9, 0), (9, 0)] [] (mk D) := by
  refine Eq.trans (s_push (y := 70) (pc := 15) (nx := 16) (a := 0) (b := 0) rfl) ?_
  refine Eq.trans (s_store (y := 70) (pc := 16) (nx := 17) (a := 0) (b := 2) (ls' := [(3, 31), (0, x1), (0, 0), (9, 0), (9, 0)]) rfl (Nat.le_of_ble_eq_true rfl) rfl) ?_
  rfl
theorem e_70_17 (D : Mem) (x1 : Int) (x2 : Int) (v3 : PV) (v4 : PV) : qE 70 17 [(3, 31), (0, x1), (0, x2), v3, v4] [] (mk D) = ((qR 1 [(3, 5)] (mk D)).bind fun w => qE 70 25 [(3, 31), (0, x1), (0, x2), v3, v4] (psh w.1 [(0, x2)]) w.2) := by
  refine Eq.trans (s_load (y := 70) (pc := 17) (nx := 18) (a := 0) (b := 2) (x := x2) rfl rfl) ?_
  refine Eq.trans (s_load (y := 70) (pc := 18) (nx := 19) (a := 3) (b := 0) (x := 31) rfl rfl) ?_
  refine Eq.trans (s_get (y := 70) (pc := 19) (nx := 22) (a := 6) (b := 0) (t := 3) (v := 5) rfl (mk_k31 _) rfl (mk_31_0 _)) ?_
  exact s_call (y := 70) (pc := 22) (nx := 25) (a := 1) (b := 0) (as := [(3, 5)]) (r := [(0, x2)]) rfl (Nat.le_of_ble_eq_true rfl) rfl rfl (Nat.le_of_ble_eq_true rfl) (Nat.le_of_ble_eq_true rfl) (Or.inr ⟨rfl, mk_k5 _⟩)
theorem e_70_25 (D : Mem) (x1 : Int) (x2 : Int) (v3 : PV) (v4 : PV) (s0 : Int) (s1 : Int) : qE 70 25 [(3, 31), (0, x1), (0, x2), v3, v4] [(0, s1), (0, s0)] (mk D) = (if s0 < s1 then (if x2 < 80 then ((qR 7 [(3, 5), (0, x2)] (mk D)).bind fun w => qE 70 42 [(3, 31), (0, x1), (0, x2), v3, v4] (psh w.1 []) w.2) else some ((9, 0), (mk D))) else some ((9, 0), (mk D))) := by
  refine Eq.trans (s_icge (y := 70) (pc := 25) (nx := 28) (b := 105) (tg := 105) rfl rfl) (ite_c ?_ ?_)
  · refine Eq.trans (s_load (y := 70) (pc := 28) (nx := 29) (a := 0) (b := 2) (x := x2) rfl rfl) ?_
    refine Eq.trans (s_push (y := 70) (pc := 29) (nx := 31) (a := 0) (b := 80) rfl) ?_
    refine Eq.trans (s_icge (y := 70) (pc := 31) (nx := 34) (b := 105) (tg := 105) rfl rfl) (ite_c ?_ ?_)
    · refine Eq.trans (s_load (y := 70) (pc := 34) (nx := 35) (a := 3) (b := 0) (x := 31) rfl rfl) ?_
      refine Eq.trans (s_get (y := 70) (pc := 35) (nx := 38) (a := 6) (b := 0) (t := 3) (v := 5) rfl (mk_k31 _) rfl (mk_31_0 _)) ?_
      refine Eq.trans (s_load (y := 70) (pc := 38) (nx := 39) (a := 0) (b := 2) (x := x2) rfl rfl) ?_
      exact s_call (y := 70) (pc := 39) (nx := 42) (a := 7) (b := 0) (as := [(3, 5), (0, x2)]) (r := []) rfl (Nat.le_of_ble_eq_true rfl) rfl rfl (Nat.le_of_ble_eq_true rfl) (Nat.le_of_ble_eq_true rfl) (Or.inr ⟨rfl, mk_k5 _⟩)
    · exact s_retv (y := 70) (pc := 105) (nx := 106) (b := 0) rfl
  · exact s_retv (y := 70) (pc := 105) (nx := 106) (b := 0) rfl
theorem e_70_42 (D : Mem) (x1 : Int) (x2 : Int) (v3 : PV) (v4 : PV) (s0 : Int) : qE 70 42 [(3, 31), (0, x1), (0, x2), v3, v4] [(3, s0)] (mk D) = (if s0 = 0 then qE 70 17 [(3, 31), (0, x1), (0, (w32 (x2 + 1))), (3, s0), v4] [] (mk D) else (if (mk D) (-s0) 0 = 18 then (if ((mk D) s0 3) = 0 then qE 70 17 [(3, 31), (0, x1), (0, (w32 (x2 + 1))), (3, s0), v4] [] (mk D) else (if (mk D) (-s0) 0 = 18 then ((bF 1 ((FP.i2f (Int32.ofInt ((mk D) s0 1))).toNat : Int) ((FP.i2f (Int32.ofInt (w32 (100 - (D 31 10))))).toNat : Int)).bind fun z67 => (if 0 ≤ x2 ∧ x2 < 80 then ((bF 1 ((FP.i2f (Int32.ofInt (D 35 x2))).toNat : Int) ((FP.i2f (Int32.ofInt (D 31 10))).toNat : Int)).bind fun z80 => ((bF 0 z67 z80).bind fun z81 => ((bF 2 z81 1120403456).bind fun z84 => ((bF 1 z84 1120403456).bind fun z96 => (if 0 ≤ x2 ∧ x2 < 80 then qE 70 17 [(3, 31), (0, x1), (0, (w32 (x2 + 1))), (3, s0), (2, z84)] [] (mk (mU D 34 x2 (FP.f2i (u32 z96)).toInt)) else none))))) else none)) else none)) else none)) := by
  refine Eq.trans (s_store (y := 70) (pc := 42) (nx := 43) (a := 3) (b := 3) (ls' := [(3, 31), (0, x1), (0, x2), (3, s0), v4]) rfl (Nat.le_of_ble_eq_true rfl) rfl) ?_
  refine Eq.trans (s_load (y := 70) (pc := 43) (nx := 44) (a := 3) (b := 3) (x := s0) rfl rfl) ?_
  refine Eq.trans (s_null (y := 70) (pc := 44) (nx := 47) (b := 99) (tg := 99) rfl rfl) (ite_c ?_ ?_)
  · refine Eq.trans (s_iinc (y := 70) (pc := 99) (nx := 102) (a := 2) (b := 1) (x := x2) (ls' := [(3, 31), (0, x1), (0, (w32 (x2 + 1))), (3, s0), v4]) rfl rfl rfl) ?_
    refine Eq.trans (s_goto (y := 70) (pc := 102) (nx := 105) (a := 0) (b := 17) (tg := 17) rfl rfl) ?_
    rfl
  · refine Eq.trans (s_load (y := 70) (pc := 47) (nx := 48) (a := 3) (b := 3) (x := s0) rfl rfl) ?_
    refine Eq.trans (s_getq (y := 70) (pc := 48) (nx := 51) (a := 8) (b := 3) (t := 0) (k := 18) rfl rfl rfl) (ite_c ?_ rfl)
    refine Eq.trans (s_ifeq (y := 70) (pc := 51) (nx := 54) (b := 99) (tg := 99) rfl rfl) (ite_c ?_ ?_)
    · refine Eq.trans (s_iinc (y := 70) (pc := 99) (nx := 102) (a := 2) (b := 1) (x := x2) (ls' := [(3, 31), (0, x1), (0, (w32 (x2 + 1))), (3, s0), v4]) rfl rfl rfl) ?_
      refine Eq.trans (s_goto (y := 70) (pc := 102) (nx := 105) (a := 0) (b := 17) (tg := 17) rfl rfl) ?_
      rfl
    · refine Eq.trans (s_load (y := 70) (pc := 54) (nx := 55) (a := 3) (b := 3) (x := s0) rfl rfl) ?_
      refine Eq.trans (s_getq (y := 70) (pc := 55) (nx := 58) (a := 8) (b := 1) (t := 0) (k := 18) rfl rfl rfl) (ite_c ?_ rfl)
      refine Eq.trans (s_i2f (y := 70) (pc := 58) (nx := 59) (b := 0) rfl) ?_
      refine Eq.trans (s_push (y := 70) (pc := 59) (nx := 61) (a := 0) (b := 100) rfl) ?_
      refine Eq.trans (s_load (y := 70) (pc := 61) (nx := 62) (a := 3) (b := 0) (x := 31) rfl rfl) ?_
      refine Eq.trans (s_get (y := 70) (pc := 62) (nx := 65) (a := 6) (b := 10) (t := 0) (v := (D 31 10)) rfl (mk_k31 _) rfl (mk_31_10 _)) ?_
      refine Eq.trans (s_sub (y := 70) (pc := 65) (nx := 66) (b := 0) rfl) ?_
      refine Eq.trans (s_i2f (y := 70) (pc := 66) (nx := 67) (b := 0) rfl) ?_
      refine Eq.trans (s_bF (y := 70) (pc := 67) (nx := 68) (a := 1) (b := 0) rfl) (bind_c fun z67 => ?_)
      refine Eq.trans (s_load (y := 70) (pc := 68) (nx := 69) (a := 3) (b := 0) (x := 31) rfl rfl) ?_
      refine Eq.trans (s_get (y := 70) (pc := 69) (nx := 72) (a := 6) (b := 5) (t := 3) (v := 35) rfl (mk_k31 _) rfl (mk_31_5 _)) ?_
      refine Eq.trans (s_load (y := 70) (pc := 72) (nx := 73) (a := 0) (b := 2) (x := x2) rfl rfl) ?_
      refine Eq.trans (s_ald (y := 70) (pc := 73) (nx := 74) (a := 1) (b := 0) (k := 1) (n := 80) (t := 0) (v := (D 35 x2)) rfl (mk_k35 _) rfl rfl (mk_l35 _) (mk_c35 _ _)) (ite_c ?_ rfl)
      refine Eq.trans (s_i2f (y := 70) (pc := 74) (nx := 75) (b := 0) rfl) ?_
      refine Eq.trans (s_load (y := 70) (pc := 75) (nx := 76) (a := 3) (b := 0) (x := 31) rfl rfl) ?_
      refine Eq.trans (s_get (y := 70) (pc := 76) (nx := 79) (a := 6) (b := 10) (t := 0) (v := (D 31 10)) rfl (mk_k31 _) rfl (mk_31_10 _)) ?_
      refine Eq.trans (s_i2f (y := 70) (pc := 79) (nx := 80) (b := 0) rfl) ?_
      refine Eq.trans (s_bF (y := 70) (pc := 80) (nx := 81) (a := 1) (b := 0) rfl) (bind_c fun z80 => ?_)
      refine Eq.trans (s_bF (y := 70) (pc := 81) (nx := 82) (a := 0) (b := 0) rfl) (bind_c fun z81 => ?_)
      refine Eq.trans (s_push (y := 70) (pc := 82) (nx := 84) (a := 2) (b := 1120403456) rfl) ?_
      refine Eq.trans (s_bF (y := 70) (pc := 84) (nx := 85) (a := 2) (b := 0) rfl) (bind_c fun z84 => ?_)
      refine Eq.trans (s_store (y := 70) (pc := 85) (nx := 87) (a := 2) (b := 4) (ls' := [(3, 31), (0, x1), (0, x2), (3, s0), (2, z84)]) rfl (Nat.le_of_ble_eq_true rfl) rfl) ?_
      refine Eq.trans (s_load (y := 70) (pc := 87) (nx := 88) (a := 3) (b := 0) (x := 31) rfl rfl) ?_
      refine Eq.trans (s_get (y := 70) (pc := 88) (nx := 91) (a := 6) (b := 4) (t := 3) (v := 34) rfl (mk_k31 _) rfl (mk_31_4 _)) ?_
      refine Eq.trans (s_load (y := 70) (pc := 91) (nx := 92) (a := 0) (b := 2) (x := x2) rfl rfl) ?_
      refine Eq.trans (s_load (y := 70) (pc := 92) (nx := 94) (a := 2) (b := 4) (x := z84) rfl rfl) ?_
      refine Eq.trans (s_push (y := 70) (pc := 94) (nx := 96) (a := 2) (b := 1120403456) rfl) ?_
      refine Eq.trans (s_bF (y := 70) (pc := 96) (nx := 97) (a := 1) (b := 0) rfl) (bind_c fun z96 => ?_)
      refine Eq.trans (s_f2i (y := 70) (pc := 97) (nx := 98) (b := 0) rfl) ?_
      refine Eq.trans (s_ast (y := 70) (pc := 98) (nx := 99) (a := 1) (b := 0) (k := 1) (n := 80) (t := 0) (v := (FP.f2i (u32 z96)).toInt) (μ' := mk (mU D 34 x2 (FP.f2i (u32 z96)).toInt)) rfl (by decide) (mk_k34 _) rfl (mk_l34 _) (mu_34 _ _ _)) (ite_c ?_ rfl)
      refine Eq.trans (s_iinc (y := 70) (pc := 99) (nx := 102) (a := 2) (b := 1) (x := x2) (ls' := [(3, 31), (0, x1), (0, (w32 (x2 + 1))), (3, s0), (2, z84)]) rfl rfl rfl) ?_
      refine Eq.trans (s_goto (y := 70) (pc := 102) (nx := 105) (a := 0) (b := 17) (tg := 17) rfl rfl) ?_
      rfl
theorem r_71 (D : Mem) (x1 : Int) : qR 71 [(3, 31), (0, x1)] (mk D) = (if x1 < 0 then some ((0, 0), (mk D)) else (if x1 < 80 then (if 0 ≤ x1 ∧ x1 < 80 then some ((0, (D 34 x1)), (mk D)) else none) else some ((0, 0), (mk D)))) := by
  show qE 71 0 [(3, 31), (0, x1)] [] (mk D) = _
  refine Eq.trans (s_load (y := 71) (pc := 0) (nx := 1) (a := 0) (b := 1) (x := x1) rfl rfl) ?_
  refine Eq.trans (s_iflt (y := 71) (pc := 1) (nx := 4) (b := 19) (tg := 19) rfl rfl) (ite_c ?_ ?_)
  · refine Eq.trans (s_push (y := 71) (pc := 19) (nx := 20) (a := 0) (b := 0) rfl) ?_
    exact s_ret (y := 71) (pc := 20) (nx := 21) (a := 0) rfl (by decide)
  · refine Eq.trans (s_load (y := 71) (pc := 4) (nx := 5) (a := 0) (b := 1) (x := x1) rfl rfl) ?_
    refine Eq.trans (s_push (y := 71) (pc := 5) (nx := 7) (a := 0) (b := 80) rfl) ?_
    refine Eq.trans (s_icge (y := 71) (pc := 7) (nx := 10) (b := 19) (tg := 19) rfl rfl) (ite_c ?_ ?_)
    · refine Eq.trans (s_load (y := 71) (pc := 10) (nx := 11) (a := 3) (b := 0) (x := 31) rfl rfl) ?_
      refine Eq.trans (s_get (y := 71) (pc := 11) (nx := 14) (a := 6) (b := 4) (t := 3) (v := 34) rfl (mk_k31 _) rfl (mk_31_4 _)) ?_
      refine Eq.trans (s_load (y := 71) (pc := 14) (nx := 15) (a := 0) (b := 1) (x := x1) rfl rfl) ?_
      refine Eq.trans (s_ald (y := 71) (pc := 15) (nx := 16) (a := 1) (b := 0) (k := 1) (n := 80) (t := 0) (v := (D 34 x1)) rfl (mk_k34 _) rfl rfl (mk_l34 _) (mk_c34 _ _)) (ite_c ?_ rfl)
      refine Eq.trans (s_goto (y := 71) (pc := 16) (nx := 19) (a := 0) (b := 20) (tg := 20) rfl rfl) ?_
      exact s_ret (y := 71) (pc := 20) (nx := 21) (a := 0) rfl (by decide)
    · refine Eq.trans (s_push (y := 71) (pc := 19) (nx := 20) (a := 0) (b := 0) rfl) ?_
      exact s_ret (y := 71) (pc := 20) (nx := 21) (a := 0) rfl (by decide)
theorem r_72 (D : Mem) (x1 : Int) (x2 : Int) (x3 : Int) (x4 : Int) : qR 72 [(3, 31), (0, x1), (0, x2), (0, x3), (0, x4)] (mk D) = (if x2 = x4 then ((qR 7 [(3, 5), (0, x1)] (mk D)).bind fun w => qE 72 26 [(3, 31), (0, x1), (0, x2), (0, x3), (0, x4), (9, 0), (9, 0)] (psh w.1 []) w.2) else (if x2 ≤ x4 then some ((0, 0), (mk D)) else some ((0, 1), (mk D)))) := by
  show qE 72 0 [(3, 31), (0, x1), (0, x2), (0, x3), (0, x4), (9, 0), (9, 0)] [] (mk D) = _
  refine Eq.trans (s_load (y := 72) (pc := 0) (nx := 1) (a := 0) (b := 2) (x := x2) rfl rfl) ?_
  refine Eq.trans (s_load (y := 72) (pc := 1) (nx := 3) (a := 0) (b := 4) (x := x4) rfl rfl) ?_
  refine Eq.trans (s_iceq (y := 72) (pc := 3) (nx := 6) (b := 18) (tg := 18) rfl rfl) (ite_c ?_ ?_)
  · refine Eq.trans (s_load (y := 72) (pc := 18) (nx := 19) (a := 3) (b := 0) (x := 31) rfl rfl) ?_
    refine Eq.trans (s_get (y := 72) (pc := 19) (nx := 22) (a := 6) (b := 0) (t := 3) (v := 5) rfl (mk_k31 _) rfl (mk_31_0 _)) ?_
    refine Eq.trans (s_load (y := 72) (pc := 22) (nx := 23) (a := 0) (b := 1) (x := x1) rfl rfl) ?_
    exact s_call (y := 72) (pc := 23) (nx := 26) (a := 7) (b := 0) (as := [(3, 5), (0, x1)]) (r := []) rfl (Nat.le_of_ble_eq_true rfl) rfl rfl (Nat.le_of_ble_eq_true rfl) (Nat.le_of_ble_eq_true rfl) (Or.inr ⟨rfl, mk_k5 _⟩)
  · refine Eq.trans (s_load (y := 72) (pc := 6) (nx := 7) (a := 0) (b := 2) (x := x2) rfl rfl) ?_
    refine Eq.trans (s_load (y := 72) (pc := 7) (nx := 9) (a := 0) (b := 4) (x := x4) rfl rfl) ?_
    refine Eq.trans (s_icle (y := 72) (pc := 9) (nx := 12) (b := 16) (tg := 16) rfl rfl) (ite_c ?_ ?_)
    · refine Eq.trans (s_push (y := 72) (pc := 16) (nx := 17) (a := 0) (b := 0) rfl) ?_
      exact s_retz (y := 72) (pc := 17) (nx := 18) rfl (by decide)
    · refine Eq.trans (s_push (y := 72) (pc := 12) (nx := 13) (a := 0) (b := 1) rfl) ?_
      refine Eq.trans (s_goto (y := 72) (pc := 13) (nx := 16) (a := 0) (b := 17) (tg := 17) rfl rfl) ?_
      exact s_retz (y := 72) (pc := 17) (nx := 18) rfl (by decide)
theorem e_72_26 (D : Mem) (x1 : Int) (x2 : Int) (x3 : Int) (x4 : Int) (s0 : Int) : qE 72 26 [(3, 31), (0, x1), (0, x2), (0, x3), (0, x4), (9, 0), (9, 0)] [(3, s0)] (mk D) = ((qR 7 [(3, 5), (0, x3)] (mk D)).bind fun w => qE 72 36 [(3, 31), (0, x1), (0, x2), (0, x3), (0, x4), (3, s0), (9, 0)] (psh w.1 []) w.2) := by
  refine Eq.trans (s_store (y := 72) (pc := 26) (nx := 28) (a := 3) (b := 5) (ls' := [(3, 31), (0, x1), (0, x2), (0, x3), (0, x4), (3, s0), (9, 0)]) rfl (Nat.le_of_ble_eq_true rfl) rfl) ?_
  refine Eq.trans (s_load (y := 72) (pc := 28) (nx := 29) (a := 3) (b := 0) (x := 31) rfl rfl) ?_
  refine Eq.trans (s_get (y := 72) (pc := 29) (nx := 32) (a := 6) (b := 0) (t := 3) (v := 5) rfl (mk_k31 _) rfl (mk_31_0 _)) ?_
  refine Eq.trans (s_load (y := 72) (pc := 32) (nx := 33) (a := 0) (b := 3) (x := x3) rfl rfl) ?_
  exact s_call (y := 72) (pc := 33) (nx := 36) (a := 7) (b := 0) (as := [(3, 5), (0, x3)]) (r := []) rfl (Nat.le_of_ble_eq_true rfl) rfl rfl (Nat.le_of_ble_eq_true rfl) (Nat.le_of_ble_eq_true rfl) (Or.inr ⟨rfl, mk_k5 _⟩)
theorem e_72_36 (D : Mem) (x1 : Int) (x2 : Int) (x3 : Int) (x4 : Int) (x5 : Int) (s0 : Int) : qE 72 36 [(3, 31), (0, x1), (0, x2), (0, x3), (0, x4), (3, x5), (9, 0)] [(3, s0)] (mk D) = (if x5 = 0 then some ((0, 0), (mk D)) else (if s0 = 0 then some ((0, 0), (mk D)) else (if (mk D) (-x5) 0 = 18 then (if (mk D) (-s0) 0 = 18 then (if (mk D) (-((mk D) x5 0)) 0 = 15 then (qR 64 [(3, ((mk D) x5 0)), (3, ((mk D) s0 0))] (mk D)).bind fun w => qE 72 61 [(3, 31), (0, x1), (0, x2), (0, x3), (0, x4), (3, x5), (3, s0)] (psh w.1 []) w.2 else none) else none) else none))) := by
  refine Eq.trans (s_store (y := 72) (pc := 36) (nx := 38) (a := 3) (b := 6) (ls' := [(3, 31), (0, x1), (0, x2), (0, x3), (0, x4), (3, x5), (3, s0)]) rfl (Nat.le_of_ble_eq_true rfl) rfl) ?_
  refine Eq.trans (s_load (y := 72) (pc := 38) (nx := 40) (a := 3) (b := 5) (x := x5) rfl rfl) ?_
  refine Eq.trans (s_null (y := 72) (pc := 40) (nx := 43) (b := 68) (tg := 68) rfl rfl) (ite_c ?_ ?_)
  · refine Eq.trans (s_push (y := 72) (pc := 68) (nx := 69) (a := 0) (b := 0) rfl) ?_
    exact s_retz (y := 72) (pc := 69) (nx := 70) rfl (by decide)
  · refine Eq.trans (s_load (y := 72) (pc := 43) (nx := 45) (a := 3) (b := 6) (x := s0) rfl rfl) ?_
    refine Eq.trans (s_null (y := 72) (pc := 45) (nx := 48) (b := 68) (tg := 68) rfl rfl) (ite_c ?_ ?_)
    · refine Eq.trans (s_push (y := 72) (pc := 68) (nx := 69) (a := 0) (b := 0) rfl) ?_
      exact s_retz (y := 72) (pc := 69) (nx := 70) rfl (by decide)
    · refine Eq.trans (s_load (y := 72) (pc := 48) (nx := 50) (a := 3) (b := 5) (x := x5) rfl rfl) ?_
      refine Eq.trans (s_getq (y := 72) (pc := 50) (nx := 53) (a := 8) (b := 0) (t := 3) (k := 18) rfl rfl rfl) (ite_c ?_ rfl)
      refine Eq.trans (s_load (y := 72) (pc := 53) (nx := 55) (a := 3) (b := 6) (x := s0) rfl rfl) ?_
      refine Eq.trans (s_getq (y := 72) (pc := 55) (nx := 58) (a := 8) (b := 0) (t := 3) (k := 18) rfl rfl rfl) (ite_c ?_ rfl)
      exact s_callq (k := 15) (y := 72) (pc := 58) (nx := 61) (a := 64) (b := 0) (as := [(3, ((mk D) x5 0)), (3, ((mk D) s0 0))]) (r := []) rfl (Nat.le_of_ble_eq_true rfl) rfl rfl (Nat.le_of_ble_eq_true rfl) (Nat.le_of_ble_eq_true rfl) (by decide) rfl rfl
theorem e_72_61 (D : Mem) (x1 : Int) (x2 : Int) (x3 : Int) (x4 : Int) (x5 : Int) (x6 : Int) (s0 : Int) : qE 72 61 [(3, 31), (0, x1), (0, x2), (0, x3), (0, x4), (3, x5), (3, x6)] [(0, s0)] (mk D) = (if s0 = 0 then some ((0, 0), (mk D)) else some ((0, 1), (mk D))) := by
  refine Eq.trans (s_ifeq (y := 72) (pc := 61) (nx := 64) (b := 68) (tg := 68) rfl rfl) (ite_c ?_ ?_)
  · refine Eq.trans (s_push (y := 72) (pc := 68) (nx := 69) (a := 0) (b := 0) rfl) ?_
    exact s_retz (y := 72) (pc := 69) (nx := 70) rfl (by decide)
  · refine Eq.trans (s_push (y := 72) (pc := 64) (nx := 65) (a := 0) (b := 1) rfl) ?_
    refine Eq.trans (s_goto (y := 72) (pc := 65) (nx := 68) (a := 0) (b := 69) (tg := 69) rfl rfl) ?_
    exact s_retz (y := 72) (pc := 69) (nx := 70) rfl (by decide)
theorem r_73 (D : Mem) (x1 : Int) (x2 : Int) (x4 : Int) (x5 : Int) : qR 73 [(3, 31), (0, x1), (1, x2), (0, x4), (0, x5)] (mk D) = (if x1 < 0 then some ((0, (-1)), (mk D)) else (if x1 < 80 then (if x4 = 3 then (if (cmpL x2 0) = 0 then some ((0, (-1)), (mk D)) else (if 0 ≤ x1 ∧ x1 < 80 then ((qR 20 [(1, (D 32 x1)), (1, x2)] (mk D)).bind fun w => qE 73 34 [(3, 31), (0, x1), (1, x2), (9, 0), (0, x4), (0, x5), (9, 0), (9, 0), (9, 0)] (psh w.1 []) w.2) else none)) else (if x4 = 2 then (if 0 ≤ x1 ∧ x1 < 80 then qE 73 64 [(3, 31), (0, x1), (1, x2), (9, 0), (0, x4), (0, x5), (9, 0), (9, 0), (9, 0)] [(1, (D 33 x1))] (mk D) else none) else (if 0 ≤ x1 ∧ x1 < 80 then qE 73 64 [(3, 31), (0, x1), (1, x2), (9, 0), (0, x4), (0, x5), (9, 0), (9, 0), (9, 0)] [(1, (D 32 x1))] (mk D) else none))) else some ((0, (-1)), (mk D)))) := by
  show qE 73 0 [(3, 31), (0, x1), (1, x2), (9, 0), (0, x4), (0, x5), (9, 0), (9, 0), (9, 0)] [] (mk D) = _
  refine Eq.trans (s_load (y := 73) (pc := 0) (nx := 1) (a := 0) (b := 1) (x := x1) rfl rfl) ?_
  refine Eq.trans (s_iflt (y := 73) (pc := 1) (nx := 4) (b := 10) (tg := 10) rfl rfl) (ite_c ?_ ?_)
  · refine Eq.trans (s_push (y := 73) (pc := 10) (nx := 11) (a := 0) (b := (-1)) rfl) ?_
    exact s_ret (y := 73) (pc := 11) (nx := 12) (a := 0) rfl (by decide)
  · refine Eq.trans (s_load (y := 73) (pc := 4) (nx := 5) (a := 0) (b := 1) (x := x1) rfl rfl) ?_
    refine Eq.trans (s_push (y := 73) (pc := 5) (nx := 7) (a := 0) (b := 80) rfl) ?_
    refine Eq.trans (s_iclt (y := 73) (pc := 7) (nx := 10) (b := 12) (tg := 12) rfl rfl) (ite_c ?_ ?_)
    · refine Eq.trans (s_load (y := 73) (pc := 12) (nx := 14) (a := 0) (b := 4) (x := x4) rfl rfl) ?_
      refine Eq.trans (s_push (y := 73) (pc := 14) (nx := 15) (a := 0) (b := 3) rfl) ?_
      refine Eq.trans (s_icne (y := 73) (pc := 15) (nx := 18) (b := 43) (tg := 43) rfl rfl) (ite_c ?_ ?_)
      · refine Eq.trans (s_load (y := 73) (pc := 18) (nx := 19) (a := 1) (b := 2) (x := x2) rfl rfl) ?_
        refine Eq.trans (s_push (y := 73) (pc := 19) (nx := 20) (a := 1) (b := 0) rfl) ?_
        refine Eq.trans (s_lcmp (y := 73) (pc := 20) (nx := 21) (a := 0) (b := 0) rfl) ?_
        refine Eq.trans (s_ifeq (y := 73) (pc := 21) (nx := 24) (b := 41) (tg := 41) rfl rfl) (ite_c ?_ ?_)
        · refine Eq.trans (s_push (y := 73) (pc := 41) (nx := 42) (a := 0) (b := (-1)) rfl) ?_
          exact s_ret (y := 73) (pc := 42) (nx := 43) (a := 0) rfl (by decide)
        · refine Eq.trans (s_load (y := 73) (pc := 24) (nx := 25) (a := 3) (b := 0) (x := 31) rfl rfl) ?_
          refine Eq.trans (s_get (y := 73) (pc := 25) (nx := 28) (a := 6) (b := 2) (t := 3) (v := 32) rfl (mk_k31 _) rfl (mk_31_2 _)) ?_
          refine Eq.trans (s_load (y := 73) (pc := 28) (nx := 29) (a := 0) (b := 1) (x := x1) rfl rfl) ?_
          refine Eq.trans (s_ald (y := 73) (pc := 29) (nx := 30) (a := 2) (b := 0) (k := 2) (n := 80) (t := 1) (v := (D 32 x1)) rfl (mk_k32 _) rfl rfl (mk_l32 _) (mk_c32 _ _)) (ite_c ?_ rfl)
          refine Eq.trans (s_load (y := 73) (pc := 30) (nx := 31) (a := 1) (b := 2) (x := x2) rfl rfl) ?_
          exact s_call (y := 73) (pc := 31) (nx := 34) (a := 20) (b := 0) (as := [(1, (D 32 x1)), (1, x2)]) (r := []) rfl (Nat.le_of_ble_eq_true rfl) rfl rfl (Nat.le_of_ble_eq_true rfl) (Nat.le_of_ble_eq_true rfl) (Or.inl rfl)
      · refine Eq.trans (s_load (y := 73) (pc := 43) (nx := 45) (a := 0) (b := 4) (x := x4) rfl rfl) ?_
        refine Eq.trans (s_push (y := 73) (pc := 45) (nx := 46) (a := 0) (b := 2) rfl) ?_
        refine Eq.trans (s_icne (y := 73) (pc := 46) (nx := 49) (b := 58) (tg := 58) rfl rfl) (ite_c ?_ ?_)
        · refine Eq.trans (s_load (y := 73) (pc := 49) (nx := 50) (a := 3) (b := 0) (x := 31) rfl rfl) ?_
          refine Eq.trans (s_get (y := 73) (pc := 50) (nx := 53) (a := 6) (b := 3) (t := 3) (v := 33) rfl (mk_k31 _) rfl (mk_31_3 _)) ?_
          refine Eq.trans (s_load (y := 73) (pc := 53) (nx := 54) (a := 0) (b := 1) (x := x1) rfl rfl) ?_
          refine Eq.trans (s_ald (y := 73) (pc := 54) (nx := 55) (a := 2) (b := 0) (k := 2) (n := 80) (t := 1) (v := (D 33 x1)) rfl (mk_k33 _) rfl rfl (mk_l33 _) (mk_c33 _ _)) (ite_c ?_ rfl)
          refine Eq.trans (s_goto (y := 73) (pc := 55) (nx := 58) (a := 0) (b := 64) (tg := 64) rfl rfl) ?_
          rfl
        · refine Eq.trans (s_load (y := 73) (pc := 58) (nx := 59) (a := 3) (b := 0) (x := 31) rfl rfl) ?_
          refine Eq.trans (s_get (y := 73) (pc := 59) (nx := 62) (a := 6) (b := 2) (t := 3) (v := 32) rfl (mk_k31 _) rfl (mk_31_2 _)) ?_
          refine Eq.trans (s_load (y := 73) (pc := 62) (nx := 63) (a := 0) (b := 1) (x := x1) rfl rfl) ?_
          refine Eq.trans (s_ald (y := 73) (pc := 63) (nx := 64) (a := 2) (b := 0) (k := 2) (n := 80) (t := 1) (v := (D 32 x1)) rfl (mk_k32 _) rfl rfl (mk_l32 _) (mk_c32 _ _)) (ite_c ?_ rfl)
          rfl
    · refine Eq.trans (s_push (y := 73) (pc := 10) (nx := 11) (a := 0) (b := (-1)) rfl) ?_
      exact s_ret (y := 73) (pc := 11) (nx := 12) (a := 0) rfl (by decide)
theorem e_73_34 (D : Mem) (x1 : Int) (x2 : Int) (x4 : Int) (x5 : Int) (s0 : Int) : qE 73 34 [(3, 31), (0, x1), (1, x2), (9, 0), (0, x4), (0, x5), (9, 0), (9, 0), (9, 0)] [(0, s0)] (mk D) = (if s0 = 0 then some ((0, (-1)), (mk D)) else some ((0, 0), (mk D))) := by
  refine Eq.trans (s_ifeq (y := 73) (pc := 34) (nx := 37) (b := 41) (tg := 41) rfl rfl) (ite_c ?_ ?_)
  · refine Eq.trans (s_push (y := 73) (pc := 41) (nx := 42) (a := 0) (b := (-1)) rfl) ?_
    exact s_ret (y := 73) (pc := 42) (nx := 43) (a := 0) rfl (by decide)
  · refine Eq.trans (s_push (y := 73) (pc := 37) (nx := 38) (a := 0) (b := 0) rfl) ?_
    refine Eq.trans (s_goto (y := 73) (pc := 38) (nx := 41) (a := 0) (b := 42) (tg := 42) rfl rfl) ?_
    exact s_ret (y := 73) (pc := 42) (nx := 43) (a := 0) rfl (by decide)
theorem e_73_64 (D : Mem) (x1 : Int) (x2 : Int) (x4 : Int) (x5 : Int) (s0 : Int) : qE 73 64 [(3, 31), (0, x1), (1, x2), (9, 0), (0, x4), (0, x5), (9, 0), (9, 0), (9, 0)] [(1, s0)] (mk D) = (if (cmpL s0 x2) = 0 then some ((0, 0), (mk D)) else ((qR 21 [(1, x2), (1, s0)] (mk D)).bind fun w => qE 73 81 [(3, 31), (0, x1), (1, x2), (9, 0), (0, x4), (0, x5), (1, s0), (9, 0), (9, 0)] (psh w.1 []) w.2)) := by
  refine Eq.trans (s_store (y := 73) (pc := 64) (nx := 66) (a := 1) (b := 6) (ls' := [(3, 31), (0, x1), (1, x2), (9, 0), (0, x4), (0, x5), (1, s0), (9, 0), (9, 0)]) rfl (Nat.le_of_ble_eq_true rfl) rfl) ?_
  refine Eq.trans (s_load (y := 73) (pc := 66) (nx := 68) (a := 1) (b := 6) (x := s0) rfl rfl) ?_
  refine Eq.trans (s_load (y := 73) (pc := 68) (nx := 69) (a := 1) (b := 2) (x := x2) rfl rfl) ?_
  refine Eq.trans (s_lcmp (y := 73) (pc := 69) (nx := 70) (a := 0) (b := 0) rfl) ?_
  refine Eq.trans (s_ifne (y := 73) (pc := 70) (nx := 73) (b := 75) (tg := 75) rfl rfl) (ite_c ?_ ?_)
  · refine Eq.trans (s_push (y := 73) (pc := 73) (nx := 74) (a := 0) (b := 0) rfl) ?_
    exact s_ret (y := 73) (pc := 74) (nx := 75) (a := 0) rfl (by decide)
  · refine Eq.trans (s_load (y := 73) (pc := 75) (nx := 76) (a := 1) (b := 2) (x := x2) rfl rfl) ?_
    refine Eq.trans (s_load (y := 73) (pc := 76) (nx := 78) (a := 1) (b := 6) (x := s0) rfl rfl) ?_
    exact s_call (y := 73) (pc := 78) (nx := 81) (a := 21) (b := 0) (as := [(1, x2), (1, s0)]) (r := []) rfl (Nat.le_of_ble_eq_true rfl) rfl rfl (Nat.le_of_ble_eq_true rfl) (Nat.le_of_ble_eq_true rfl) (Or.inl rfl)
theorem e_73_81 (D : Mem) (x1 : Int) (x2 : Int) (x4 : Int) (x5 : Int) (x6 : Int) (s0 : Int) : qE 73 81 [(3, 31), (0, x1), (1, x2), (9, 0), (0, x4), (0, x5), (1, x6), (9, 0), (9, 0)] [(0, s0)] (mk D) = (if s0 < 0 then some ((0, (-1)), (mk D)) else (if s0 < 3 then (if 0 ≤ s0 ∧ s0 < 3 then (if (D 38 s0) ≤ x5 then (if 0 ≤ s0 ∧ s0 < 3 then some ((0, (D 38 s0)), (mk D)) else none) else some ((0, (-1)), (mk D))) else none) else some ((0, (-1)), (mk D)))) := by
  refine Eq.trans (s_store (y := 73) (pc := 81) (nx := 83) (a := 0) (b := 8) (ls' := [(3, 31), (0, x1), (1, x2), (9, 0), (0, x4), (0, x5), (1, x6), (9, 0), (0, s0)]) rfl (Nat.le_of_ble_eq_true rfl) rfl) ?_
  refine Eq.trans (s_load (y := 73) (pc := 83) (nx := 85) (a := 0) (b := 8) (x := s0) rfl rfl) ?_
  refine Eq.trans (s_iflt (y := 73) (pc := 85) (nx := 88) (b := 106) (tg := 106) rfl rfl) (ite_c ?_ ?_)
  · refine Eq.trans (s_push (y := 73) (pc := 106) (nx := 107) (a := 0) (b := (-1)) rfl) ?_
    exact s_ret (y := 73) (pc := 107) (nx := 108) (a := 0) rfl (by decide)
  · refine Eq.trans (s_load (y := 73) (pc := 88) (nx := 90) (a := 0) (b := 8) (x := s0) rfl rfl) ?_
    refine Eq.trans (s_push (y := 73) (pc := 90) (nx := 91) (a := 0) (b := 3) rfl) ?_
    refine Eq.trans (s_icge (y := 73) (pc := 91) (nx := 94) (b := 106) (tg := 106) rfl rfl) (ite_c ?_ ?_)
    · refine Eq.trans (s_load (y := 73) (pc := 94) (nx := 95) (a := 3) (b := 0) (x := 31) rfl rfl) ?_
      refine Eq.trans (s_get (y := 73) (pc := 95) (nx := 98) (a := 6) (b := 8) (t := 3) (v := 38) rfl (mk_k31 _) rfl (mk_31_8 _)) ?_
      refine Eq.trans (s_load (y := 73) (pc := 98) (nx := 100) (a := 0) (b := 8) (x := s0) rfl rfl) ?_
      refine Eq.trans (s_ald (y := 73) (pc := 100) (nx := 101) (a := 1) (b := 0) (k := 1) (n := 3) (t := 0) (v := (D 38 s0)) rfl (mk_k38 _) rfl rfl (mk_l38 _) (mk_c38 _ _)) (ite_c ?_ rfl)
      refine Eq.trans (s_load (y := 73) (pc := 101) (nx := 103) (a := 0) (b := 5) (x := x5) rfl rfl) ?_
      refine Eq.trans (s_icle (y := 73) (pc := 103) (nx := 106) (b := 108) (tg := 108) rfl rfl) (ite_c ?_ ?_)
      · refine Eq.trans (s_load (y := 73) (pc := 108) (nx := 109) (a := 3) (b := 0) (x := 31) rfl rfl) ?_
        refine Eq.trans (s_get (y := 73) (pc := 109) (nx := 112) (a := 6) (b := 8) (t := 3) (v := 38) rfl (mk_k31 _) rfl (mk_31_8 _)) ?_
        refine Eq.trans (s_load (y := 73) (pc := 112) (nx := 114) (a := 0) (b := 8) (x := s0) rfl rfl) ?_
        refine Eq.trans (s_ald (y := 73) (pc := 114) (nx := 115) (a := 1) (b := 0) (k := 1) (n := 3) (t := 0) (v := (D 38 s0)) rfl (mk_k38 _) rfl rfl (mk_l38 _) (mk_c38 _ _)) (ite_c ?_ rfl)
        exact s_ret (y := 73) (pc := 115) (nx := 116) (a := 0) rfl (by decide)
      · refine Eq.trans (s_push (y := 73) (pc := 106) (nx := 107) (a := 0) (b := (-1)) rfl) ?_
        exact s_ret (y := 73) (pc := 107) (nx := 108) (a := 0) rfl (by decide)
    · refine Eq.trans (s_push (y := 73) (pc := 106) (nx := 107) (a := 0) (b := (-1)) rfl) ?_
      exact s_ret (y := 73) (pc := 107) (nx := 108) (a := 0) rfl (by decide)
theorem r_74 (D : Mem) (x1 : Int) (x3 : Int) (x4 : Int) : qR 74 [(3, 31), (1, x1), (0, x3), (0, x4)] (mk D) = qE 74 8 [(3, 31), (1, x1), (9, 0), (0, x3), (0, x4), (0, 0), (9, 0)] [] (mk (mU D 31 9 0)) := by
  show qE 74 0 [(3, 31), (1, x1), (9, 0), (0, x3), (0, x4), (9, 0), (9, 0)] [] (mk D) = _
  refine Eq.trans (s_load (y := 74) (pc := 0) (nx := 1) (a := 3) (b := 0) (x := 31) rfl rfl) ?_
  refine Eq.trans (s_push (y := 74) (pc := 1) (nx := 2) (a := 0) (b := 0) rfl) ?_
  refine Eq.trans (s_put (y := 74) (pc := 2) (nx := 5) (a := 6) (b := 9) (t := 0) (v := 0) (μ' := mk (mU D 31 9 0)) rfl (mk_k31 _) rfl (mu_31_9 _ _)) ?_
  refine Eq.trans (s_push (y := 74) (pc := 5) (nx := 6) (a := 0) (b := 0) rfl) ?_
  refine Eq.trans (s_store (y := 74) (pc := 6) (nx := 8) (a := 0) (b := 5) (ls' := [(3, 31), (1, x1), (9, 0), (0, x3), (0, x4), (0, 0), (9, 0)]) rfl (Nat.le_of_ble_eq_true rfl) rfl) ?_
  rfl
theorem e_74_8 (D : Mem) (x1 : Int) (x3 : Int) (x4 : Int) (x5 : Int) (v6 : PV) : qE 74 8 [(3, 31), (1, x1), (9, 0), (0, x3), (0, x4), (0, x5), v6] [] (mk D) = ((qR 1 [(3, 5)] (mk D)).bind fun w => qE 74 17 [(3, 31), (1, x1), (9, 0), (0, x3), (0, x4), (0, x5), v6] (psh w.1 [(0, x5)]) w.2) := by
  refine Eq.trans (s_load (y := 74) (pc := 8) (nx := 10) (a := 0) (b := 5) (x := x5) rfl rfl) ?_
  refine Eq.trans (s_load (y := 74) (pc := 10) (nx := 11) (a := 3) (b := 0) (x := 31) rfl rfl) ?_
  refine Eq.trans (s_get (y := 74) (pc := 11) (nx := 14) (a := 6) (b := 0) (t := 3) (v := 5) rfl (mk_k31 _) rfl (mk_31_0 _)) ?_
  exact s_call (y := 74) (pc := 14) (nx := 17) (a := 1) (b := 0) (as := [(3, 5)]) (r := [(0, x5)]) rfl (Nat.le_of_ble_eq_true rfl) rfl rfl (Nat.le_of_ble_eq_true rfl) (Nat.le_of_ble_eq_true rfl) (Or.inr ⟨rfl, mk_k5 _⟩)
theorem e_74_17 (D : Mem) (x1 : Int) (x3 : Int) (x4 : Int) (x5 : Int) (v6 : PV) (s0 : Int) (s1 : Int) : qE 74 17 [(3, 31), (1, x1), (9, 0), (0, x3), (0, x4), (0, x5), v6] [(0, s1), (0, s0)] (mk D) = (if s0 < s1 then (if x5 < 80 then ((qR 8 [(3, 5), (0, x5)] (mk D)).bind fun w => qE 74 36 [(3, 31), (1, x1), (9, 0), (0, x3), (0, x4), (0, x5), v6] (psh w.1 []) w.2) else some ((9, 0), (mk D))) else some ((9, 0), (mk D))) := by
  refine Eq.trans (s_icge (y := 74) (pc := 17) (nx := 20) (b := 78) (tg := 78) rfl rfl) (ite_c ?_ ?_)
  · refine Eq.trans (s_load (y := 74) (pc := 20) (nx := 22) (a := 0) (b := 5) (x := x5) rfl rfl) ?_
    refine Eq.trans (s_push (y := 74) (pc := 22) (nx := 24) (a := 0) (b := 80) rfl) ?_
    refine Eq.trans (s_icge (y := 74) (pc := 24) (nx := 27) (b := 78) (tg := 78) rfl rfl) (ite_c ?_ ?_)
    · refine Eq.trans (s_load (y := 74) (pc := 27) (nx := 28) (a := 3) (b := 0) (x := 31) rfl rfl) ?_
      refine Eq.trans (s_get (y := 74) (pc := 28) (nx := 31) (a := 6) (b := 0) (t := 3) (v := 5) rfl (mk_k31 _) rfl (mk_31_0 _)) ?_
      refine Eq.trans (s_load (y := 74) (pc := 31) (nx := 33) (a := 0) (b := 5) (x := x5) rfl rfl) ?_
      exact s_call (y := 74) (pc := 33) (nx := 36) (a := 8) (b := 0) (as := [(3, 5), (0, x5)]) (r := []) rfl (Nat.le_of_ble_eq_true rfl) rfl rfl (Nat.le_of_ble_eq_true rfl) (Nat.le_of_ble_eq_true rfl) (Or.inr ⟨rfl, mk_k5 _⟩)
    · exact s_retv (y := 74) (pc := 78) (nx := 79) (b := 0) rfl
  · exact s_retv (y := 74) (pc := 78) (nx := 79) (b := 0) rfl
theorem e_74_36 (D : Mem) (x1 : Int) (x3 : Int) (x4 : Int) (x5 : Int) (v6 : PV) (s0 : Int) : qE 74 36 [(3, 31), (1, x1), (9, 0), (0, x3), (0, x4), (0, x5), v6] [(0, s0)] (mk D) = (if s0 = 0 then qE 74 72 [(3, 31), (1, x1), (9, 0), (0, x3), (0, x4), (0, x5), v6] [] (mk D) else ((qR 73 [(3, 31), (0, x5), (1, x1), (0, x3), (0, x4)] (mk D)).bind fun w => qE 74 49 [(3, 31), (1, x1), (9, 0), (0, x3), (0, x4), (0, x5), v6] (psh w.1 []) w.2)) := by
  refine Eq.trans (s_ifeq (y := 74) (pc := 36) (nx := 39) (b := 72) (tg := 72) rfl rfl) (ite_c ?_ ?_)
  · rfl
  · refine Eq.trans (s_load (y := 74) (pc := 39) (nx := 40) (a := 3) (b := 0) (x := 31) rfl rfl) ?_
    refine Eq.trans (s_load (y := 74) (pc := 40) (nx := 42) (a := 0) (b := 5) (x := x5) rfl rfl) ?_
    refine Eq.trans (s_load (y := 74) (pc := 42) (nx := 43) (a := 1) (b := 1) (x := x1) rfl rfl) ?_
    refine Eq.trans (s_load (y := 74) (pc := 43) (nx := 44) (a := 0) (b := 3) (x := x3) rfl rfl) ?_
    refine Eq.trans (s_load (y := 74) (pc := 44) (nx := 46) (a := 0) (b := 4) (x := x4) rfl rfl) ?_
    exact s_call (y := 74) (pc := 46) (nx := 49) (a := 73) (b := 0) (as := [(3, 31), (0, x5), (1, x1), (0, x3), (0, x4)]) (r := []) rfl (Nat.le_of_ble_eq_true rfl) rfl rfl (Nat.le_of_ble_eq_true rfl) (Nat.le_of_ble_eq_true rfl) (Or.inr ⟨rfl, mk_k31 _⟩)
theorem e_74_49 (D : Mem) (x1 : Int) (x3 : Int) (x4 : Int) (x5 : Int) (v6 : PV) (s0 : Int) : qE 74 49 [(3, 31), (1, x1), (9, 0), (0, x3), (0, x4), (0, x5), v6] [(0, s0)] (mk D) = (if s0 < 0 then qE 74 72 [(3, 31), (1, x1), (9, 0), (0, x3), (0, x4), (0, x5), (0, s0)] [] (mk D) else (if 0 ≤ x5 ∧ x5 < 80 then ((qR 75 [(3, 31), (0, x5), (0, (w32 ((D 34 x5) - s0)))] (mk D)).bind fun w => qE 74 72 [(3, 31), (1, x1), (9, 0), (0, x3), (0, x4), (0, x5), (0, s0)] (psh w.1 []) w.2) else none)) := by
  refine Eq.trans (s_store (y := 74) (pc := 49) (nx := 51) (a := 0) (b := 6) (ls' := [(3, 31), (1, x1), (9, 0), (0, x3), (0, x4), (0, x5), (0, s0)]) rfl (Nat.le_of_ble_eq_true rfl) rfl) ?_
  refine Eq.trans (s_load (y := 74) (pc := 51) (nx := 53) (a := 0) (b := 6) (x := s0) rfl rfl) ?_
  refine Eq.trans (s_iflt (y := 74) (pc := 53) (nx := 56) (b := 72) (tg := 72) rfl rfl) (ite_c ?_ ?_)
  · rfl
  · refine Eq.trans (s_load (y := 74) (pc := 56) (nx := 57) (a := 3) (b := 0) (x := 31) rfl rfl) ?_
    refine Eq.trans (s_load (y := 74) (pc := 57) (nx := 59) (a := 0) (b := 5) (x := x5) rfl rfl) ?_
    refine Eq.trans (s_load (y := 74) (pc := 59) (nx := 60) (a := 3) (b := 0) (x := 31) rfl rfl) ?_
    refine Eq.trans (s_get (y := 74) (pc := 60) (nx := 63) (a := 6) (b := 4) (t := 3) (v := 34) rfl (mk_k31 _) rfl (mk_31_4 _)) ?_
    refine Eq.trans (s_load (y := 74) (pc := 63) (nx := 65) (a := 0) (b := 5) (x := x5) rfl rfl) ?_
    refine Eq.trans (s_ald (y := 74) (pc := 65) (nx := 66) (a := 1) (b := 0) (k := 1) (n := 80) (t := 0) (v := (D 34 x5)) rfl (mk_k34 _) rfl rfl (mk_l34 _) (mk_c34 _ _)) (ite_c ?_ rfl)
    refine Eq.trans (s_load (y := 74) (pc := 66) (nx := 68) (a := 0) (b := 6) (x := s0) rfl rfl) ?_
    refine Eq.trans (s_sub (y := 74) (pc := 68) (nx := 69) (b := 0) rfl) ?_
    exact s_call (y := 74) (pc := 69) (nx := 72) (a := 75) (b := 0) (as := [(3, 31), (0, x5), (0, (w32 ((D 34 x5) - s0)))]) (r := []) rfl (Nat.le_of_ble_eq_true rfl) rfl rfl (Nat.le_of_ble_eq_true rfl) (Nat.le_of_ble_eq_true rfl) (Or.inr ⟨rfl, mk_k31 _⟩)
theorem e_74_72 (D : Mem) (x1 : Int) (x3 : Int) (x4 : Int) (x5 : Int) (v6 : PV) : qE 74 72 [(3, 31), (1, x1), (9, 0), (0, x3), (0, x4), (0, x5), v6] [] (mk D) = qE 74 8 [(3, 31), (1, x1), (9, 0), (0, x3), (0, x4), (0, (w32 (x5 + 1))), v6] [] (mk D) := by
  refine Eq.trans (s_iinc (y := 74) (pc := 72) (nx := 75) (a := 5) (b := 1) (x := x5) (ls' := [(3, 31), (1, x1), (9, 0), (0, x3), (0, x4), (0, (w32 (x5 + 1))), v6]) rfl rfl rfl) ?_
  refine Eq.trans (s_goto (y := 74) (pc := 75) (nx := 78) (a := 0) (b := 8) (tg := 8) rfl rfl) ?_
  rfl
theorem r_75 (D : Mem) (x1 : Int) (x2 : Int) : qR 75 [(3, 31), (0, x1), (0, x2)] (mk D) = (if (D 31 9) < 40 then qE 75 15 [(3, 31), (0, x1), (0, x2), (0, (D 31 9))] [] (mk D) else some ((9, 0), (mk D))) := by
  show qE 75 0 [(3, 31), (0, x1), (0, x2), (9, 0)] [] (mk D) = _
  refine Eq.trans (s_load (y := 75) (pc := 0) (nx := 1) (a := 3) (b := 0) (x := 31) rfl rfl) ?_
  refine Eq.trans (s_get (y := 75) (pc := 1) (nx := 4) (a := 6) (b := 9) (t := 0) (v := (D 31 9)) rfl (mk_k31 _) rfl (mk_31_9 _)) ?_
  refine Eq.trans (s_push (y := 75) (pc := 4) (nx := 6) (a := 0) (b := 40) rfl) ?_
  refine Eq.trans (s_iclt (y := 75) (pc := 6) (nx := 9) (b := 10) (tg := 10) rfl rfl) (ite_c ?_ ?_)
  · refine Eq.trans (s_load (y := 75) (pc := 10) (nx := 11) (a := 3) (b := 0) (x := 31) rfl rfl) ?_
    refine Eq.trans (s_get (y := 75) (pc := 11) (nx := 14) (a := 6) (b := 9) (t := 0) (v := (D 31 9)) rfl (mk_k31 _) rfl (mk_31_9 _)) ?_
    refine Eq.trans (s_store (y := 75) (pc := 14) (nx := 15) (a := 0) (b := 3) (ls' := [(3, 31), (0, x1), (0, x2), (0, (D 31 9))]) rfl (Nat.le_of_ble_eq_true rfl) rfl) ?_
    rfl
  · exact s_retv (y := 75) (pc := 9) (nx := 10) (b := 0) rfl
theorem e_75_15 (D : Mem) (x1 : Int) (x2 : Int) (x3 : Int) : qE 75 15 [(3, 31), (0, x1), (0, x2), (0, x3)] [] (mk D) = (if x3 ≤ 0 then qE 75 78 [(3, 31), (0, x1), (0, x2), (0, x3)] [] (mk D) else (if 0 ≤ (w32 (x3 - 1)) ∧ (w32 (x3 - 1)) < 40 then (if 0 ≤ (w32 (x3 - 1)) ∧ (w32 (x3 - 1)) < 40 then ((qR 72 [(3, 31), (0, x1), (0, x2), (0, (D 36 (w32 (x3 - 1)))), (0, (D 37 (w32 (x3 - 1))))] (mk D)).bind fun w => qE 75 41 [(3, 31), (0, x1), (0, x2), (0, x3)] (psh w.1 []) w.2) else none) else none)) := by
  refine Eq.trans (s_load (y := 75) (pc := 15) (nx := 16) (a := 0) (b := 3) (x := x3) rfl rfl) ?_
  refine Eq.trans (s_ifle (y := 75) (pc := 16) (nx := 19) (b := 78) (tg := 78) rfl rfl) (ite_c ?_ ?_)
  · rfl
  · refine Eq.trans (s_load (y := 75) (pc := 19) (nx := 20) (a := 3) (b := 0) (x := 31) rfl rfl) ?_
    refine Eq.trans (s_load (y := 75) (pc := 20) (nx := 21) (a := 0) (b := 1) (x := x1) rfl rfl) ?_
    refine Eq.trans (s_load (y := 75) (pc := 21) (nx := 22) (a := 0) (b := 2) (x := x2) rfl rfl) ?_
    refine Eq.trans (s_load (y := 75) (pc := 22) (nx := 23) (a := 3) (b := 0) (x := 31) rfl rfl) ?_
    refine Eq.trans (s_get (y := 75) (pc := 23) (nx := 26) (a := 6) (b := 6) (t := 3) (v := 36) rfl (mk_k31 _) rfl (mk_31_6 _)) ?_
    refine Eq.trans (s_load (y := 75) (pc := 26) (nx := 27) (a := 0) (b := 3) (x := x3) rfl rfl) ?_
    refine Eq.trans (s_push (y := 75) (pc := 27) (nx := 28) (a := 0) (b := 1) rfl) ?_
    refine Eq.trans (s_sub (y := 75) (pc := 28) (nx := 29) (b := 0) rfl) ?_
    refine Eq.trans (s_ald (y := 75) (pc := 29) (nx := 30) (a := 1) (b := 0) (k := 1) (n := 40) (t := 0) (v := (D 36 (w32 (x3 - 1)))) rfl (mk_k36 _) rfl rfl (mk_l36 _) (mk_c36 _ _)) (ite_c ?_ rfl)
    refine Eq.trans (s_load (y := 75) (pc := 30) (nx := 31) (a := 3) (b := 0) (x := 31) rfl rfl) ?_
    refine Eq.trans (s_get (y := 75) (pc := 31) (nx := 34) (a := 6) (b := 7) (t := 3) (v := 37) rfl (mk_k31 _) rfl (mk_31_7 _)) ?_
    refine Eq.trans (s_load (y := 75) (pc := 34) (nx := 35) (a := 0) (b := 3) (x := x3) rfl rfl) ?_
    refine Eq.trans (s_push (y := 75) (pc := 35) (nx := 36) (a := 0) (b := 1) rfl) ?_
    refine Eq.trans (s_sub (y := 75) (pc := 36) (nx := 37) (b := 0) rfl) ?_
    refine Eq.trans (s_ald (y := 75) (pc := 37) (nx := 38) (a := 1) (b := 0) (k := 1) (n := 40) (t := 0) (v := (D 37 (w32 (x3 - 1)))) rfl (mk_k37 _) rfl rfl (mk_l37 _) (mk_c37 _ _)) (ite_c ?_ rfl)
    exact s_call (y := 75) (pc := 38) (nx := 41) (a := 72) (b := 0) (as := [(3, 31), (0, x1), (0, x2), (0, (D 36 (w32 (x3 - 1)))), (0, (D 37 (w32 (x3 - 1))))]) (r := []) rfl (Nat.le_of_ble_eq_true rfl) rfl rfl (Nat.le_of_ble_eq_true rfl) (Nat.le_of_ble_eq_true rfl) (Or.inr ⟨rfl, mk_k31 _⟩)
theorem e_75_41 (D : Mem) (x1 : Int) (x2 : Int) (x3 : Int) (s0 : Int) : qE 75 41 [(3, 31), (0, x1), (0, x2), (0, x3)] [(0, s0)] (mk D) = (if s0 = 0 then qE 75 78 [(3, 31), (0, x1), (0, x2), (0, x3)] [] (mk D) else (if 0 ≤ (w32 (x3 - 1)) ∧ (w32 (x3 - 1)) < 40 then (if 0 ≤ x3 ∧ x3 < 40 then (if 0 ≤ (w32 (x3 - 1)) ∧ (w32 (x3 - 1)) < 40 then (if 0 ≤ x3 ∧ x3 < 40 then qE 75 15 [(3, 31), (0, x1), (0, x2), (0, (w32 (x3 + (-1))))] [] (mk (mU (mU D 36 x3 (D 36 (w32 (x3 - 1)))) 37 x3 ((mU D 36 x3 (D 36 (w32 (x3 - 1)))) 37 (w32 (x3 - 1))))) else none) else none) else none) else none)) := by
  refine Eq.trans (s_ifeq (y := 75) (pc := 41) (nx := 44) (b := 78) (tg := 78) rfl rfl) (ite_c ?_ ?_)
  · rfl
  · refine Eq.trans (s_load (y := 75) (pc := 44) (nx := 45) (a := 3) (b := 0) (x := 31) rfl rfl) ?_
    refine Eq.trans (s_get (y := 75) (pc := 45) (nx := 48) (a := 6) (b := 6) (t := 3) (v := 36) rfl (mk_k31 _) rfl (mk_31_6 _)) ?_
    refine Eq.trans (s_load (y := 75) (pc := 48) (nx := 49) (a := 0) (b := 3) (x := x3) rfl rfl) ?_
    refine Eq.trans (s_load (y := 75) (pc := 49) (nx := 50) (a := 3) (b := 0) (x := 31) rfl rfl) ?_
    refine Eq.trans (s_get (y := 75) (pc := 50) (nx := 53) (a := 6) (b := 6) (t := 3) (v := 36) rfl (mk_k31 _) rfl (mk_31_6 _)) ?_
    refine Eq.trans (s_load (y := 75) (pc := 53) (nx := 54) (a := 0) (b := 3) (x := x3) rfl rfl) ?_
    refine Eq.trans (s_push (y := 75) (pc := 54) (nx := 55) (a := 0) (b := 1) rfl) ?_
    refine Eq.trans (s_sub (y := 75) (pc := 55) (nx := 56) (b := 0) rfl) ?_
    refine Eq.trans (s_ald (y := 75) (pc := 56) (nx := 57) (a := 1) (b := 0) (k := 1) (n := 40) (t := 0) (v := (D 36 (w32 (x3 - 1)))) rfl (mk_k36 _) rfl rfl (mk_l36 _) (mk_c36 _ _)) (ite_c ?_ rfl)
    refine Eq.trans (s_ast (y := 75) (pc := 57) (nx := 58) (a := 1) (b := 0) (k := 1) (n := 40) (t := 0) (v := (D 36 (w32 (x3 - 1)))) (μ' := mk (mU D 36 x3 (D 36 (w32 (x3 - 1))))) rfl (by decide) (mk_k36 _) rfl (mk_l36 _) (mu_36 _ _ _)) (ite_c ?_ rfl)
    refine Eq.trans (s_load (y := 75) (pc := 58) (nx := 59) (a := 3) (b := 0) (x := 31) rfl rfl) ?_
    refine Eq.trans (s_get (y := 75) (pc := 59) (nx := 62) (a := 6) (b := 7) (t := 3) (v := 37) rfl (mk_k31 _) rfl (mk_31_7 _)) ?_
    refine Eq.trans (s_load (y := 75) (pc := 62) (nx := 63) (a := 0) (b := 3) (x := x3) rfl rfl) ?_
    refine Eq.trans (s_load (y := 75) (pc := 63) (nx := 64) (a := 3) (b := 0) (x := 31) rfl rfl) ?_
    refine Eq.trans (s_get (y := 75) (pc := 64) (nx := 67) (a := 6) (b := 7) (t := 3) (v := 37) rfl (mk_k31 _) rfl (mk_31_7 _)) ?_
    refine Eq.trans (s_load (y := 75) (pc := 67) (nx := 68) (a := 0) (b := 3) (x := x3) rfl rfl) ?_
    refine Eq.trans (s_push (y := 75) (pc := 68) (nx := 69) (a := 0) (b := 1) rfl) ?_
    refine Eq.trans (s_sub (y := 75) (pc := 69) (nx := 70) (b := 0) rfl) ?_
    refine Eq.trans (s_ald (y := 75) (pc := 70) (nx := 71) (a := 1) (b := 0) (k := 1) (n := 40) (t := 0) (v := ((mU D 36 x3 (D 36 (w32 (x3 - 1)))) 37 (w32 (x3 - 1)))) rfl (mk_k37 _) rfl rfl (mk_l37 _) (mk_c37 _ _)) (ite_c ?_ rfl)
    refine Eq.trans (s_ast (y := 75) (pc := 71) (nx := 72) (a := 1) (b := 0) (k := 1) (n := 40) (t := 0) (v := ((mU D 36 x3 (D 36 (w32 (x3 - 1)))) 37 (w32 (x3 - 1)))) (μ' := mk (mU (mU D 36 x3 (D 36 (w32 (x3 - 1)))) 37 x3 ((mU D 36 x3 (D 36 (w32 (x3 - 1)))) 37 (w32 (x3 - 1))))) rfl (by decide) (mk_k37 _) rfl (mk_l37 _) (mu_37 _ _ _)) (ite_c ?_ rfl)
    refine Eq.trans (s_iinc (y := 75) (pc := 72) (nx := 75) (a := 3) (b := (-1)) (x := x3) (ls' := [(3, 31), (0, x1), (0, x2), (0, (w32 (x3 + (-1))))]) rfl rfl rfl) ?_
    refine Eq.trans (s_goto (y := 75) (pc := 75) (nx := 78) (a := 0) (b := 15) (tg := 15) rfl rfl) ?_
    rfl
theorem e_75_78 (D : Mem) (x1 : Int) (x2 : Int) (x3 : Int) : qE 75 78 [(3, 31), (0, x1), (0, x2), (0, x3)] [] (mk D) = (if 0 ≤ x3 ∧ x3 < 40 then (if 0 ≤ x3 ∧ x3 < 40 then some ((9, 0), (mk (mU (mU (mU D 36 x3 x1) 37 x3 x2) 31 9 (w32 (((mU (mU D 36 x3 x1) 37 x3 x2) 31 9) + 1))))) else none) else none) := by
  refine Eq.trans (s_load (y := 75) (pc := 78) (nx := 79) (a := 3) (b := 0) (x := 31) rfl rfl) ?_
  refine Eq.trans (s_get (y := 75) (pc := 79) (nx := 82) (a := 6) (b := 6) (t := 3) (v := 36) rfl (mk_k31 _) rfl (mk_31_6 _)) ?_
  refine Eq.trans (s_load (y := 75) (pc := 82) (nx := 83) (a := 0) (b := 3) (x := x3) rfl rfl) ?_
  refine Eq.trans (s_load (y := 75) (pc := 83) (nx := 84) (a := 0) (b := 1) (x := x1) rfl rfl) ?_
  refine Eq.trans (s_ast (y := 75) (pc := 84) (nx := 85) (a := 1) (b := 0) (k := 1) (n := 40) (t := 0) (v := x1) (μ' := mk (mU D 36 x3 x1)) rfl (by decide) (mk_k36 _) rfl (mk_l36 _) (mu_36 _ _ _)) (ite_c ?_ rfl)
  refine Eq.trans (s_load (y := 75) (pc := 85) (nx := 86) (a := 3) (b := 0) (x := 31) rfl rfl) ?_
  refine Eq.trans (s_get (y := 75) (pc := 86) (nx := 89) (a := 6) (b := 7) (t := 3) (v := 37) rfl (mk_k31 _) rfl (mk_31_7 _)) ?_
  refine Eq.trans (s_load (y := 75) (pc := 89) (nx := 90) (a := 0) (b := 3) (x := x3) rfl rfl) ?_
  refine Eq.trans (s_load (y := 75) (pc := 90) (nx := 91) (a := 0) (b := 2) (x := x2) rfl rfl) ?_
  refine Eq.trans (s_ast (y := 75) (pc := 91) (nx := 92) (a := 1) (b := 0) (k := 1) (n := 40) (t := 0) (v := x2) (μ' := mk (mU (mU D 36 x3 x1) 37 x3 x2)) rfl (by decide) (mk_k37 _) rfl (mk_l37 _) (mu_37 _ _ _)) (ite_c ?_ rfl)
  refine Eq.trans (s_load (y := 75) (pc := 92) (nx := 93) (a := 3) (b := 0) (x := 31) rfl rfl) ?_
  refine Eq.trans (s_dup (y := 75) (pc := 93) (nx := 94) (a := 0) (b := 0) rfl (by decide)) ?_
  refine Eq.trans (s_get (y := 75) (pc := 94) (nx := 97) (a := 6) (b := 9) (t := 0) (v := ((mU (mU D 36 x3 x1) 37 x3 x2) 31 9)) rfl (mk_k31 _) rfl (mk_31_9 _)) ?_
  refine Eq.trans (s_push (y := 75) (pc := 97) (nx := 98) (a := 0) (b := 1) rfl) ?_
  refine Eq.trans (s_add (y := 75) (pc := 98) (nx := 99) (b := 0) rfl) ?_
  refine Eq.trans (s_put (y := 75) (pc := 99) (nx := 102) (a := 6) (b := 9) (t := 0) (v := (w32 (((mU (mU D 36 x3 x1) 37 x3 x2) 31 9) + 1))) (μ' := mk (mU (mU (mU D 36 x3 x1) 37 x3 x2) 31 9 (w32 (((mU (mU D 36 x3 x1) 37 x3 x2) 31 9) + 1)))) rfl (mk_k31 _) rfl (mu_31_9 _ _)) ?_
  exact s_retv (y := 75) (pc := 102) (nx := 103) (b := 0) rfl
theorem r_76 (D : Mem) : qR 76 [(3, 31)] (mk D) = some ((0, (D 31 9)), (mk D)) := by
  show qE 76 0 [(3, 31)] [] (mk D) = _
  refine Eq.trans (s_load (y := 76) (pc := 0) (nx := 1) (a := 3) (b := 0) (x := 31) rfl rfl) ?_
  refine Eq.trans (s_get (y := 76) (pc := 1) (nx := 4) (a := 6) (b := 9) (t := 0) (v := (D 31 9)) rfl (mk_k31 _) rfl (mk_31_9 _)) ?_
  exact s_ret (y := 76) (pc := 4) (nx := 5) (a := 0) rfl (by decide)
theorem r_77 (D : Mem) (x1 : Int) : qR 77 [(3, 31), (0, x1)] (mk D) = (if x1 < 0 then some ((0, (-1)), (mk D)) else (if x1 < (D 31 9) then (if 0 ≤ x1 ∧ x1 < 40 then some ((0, (D 36 x1)), (mk D)) else none) else some ((0, (-1)), (mk D)))) := by
  show qE 77 0 [(3, 31), (0, x1)] [] (mk D) = _
  refine Eq.trans (s_load (y := 77) (pc := 0) (nx := 1) (a := 0) (b := 1) (x := x1) rfl rfl) ?_
  refine Eq.trans (s_iflt (y := 77) (pc := 1) (nx := 4) (b := 21) (tg := 21) rfl rfl) (ite_c ?_ ?_)
  · refine Eq.trans (s_push (y := 77) (pc := 21) (nx := 22) (a := 0) (b := (-1)) rfl) ?_
    exact s_ret (y := 77) (pc := 22) (nx := 23) (a := 0) rfl (by decide)
  · refine Eq.trans (s_load (y := 77) (pc := 4) (nx := 5) (a := 0) (b := 1) (x := x1) rfl rfl) ?_
    refine Eq.trans (s_load (y := 77) (pc := 5) (nx := 6) (a := 3) (b := 0) (x := 31) rfl rfl) ?_
    refine Eq.trans (s_get (y := 77) (pc := 6) (nx := 9) (a := 6) (b := 9) (t := 0) (v := (D 31 9)) rfl (mk_k31 _) rfl (mk_31_9 _)) ?_
    refine Eq.trans (s_icge (y := 77) (pc := 9) (nx := 12) (b := 21) (tg := 21) rfl rfl) (ite_c ?_ ?_)
    · refine Eq.trans (s_load (y := 77) (pc := 12) (nx := 13) (a := 3) (b := 0) (x := 31) rfl rfl) ?_
      refine Eq.trans (s_get (y := 77) (pc := 13) (nx := 16) (a := 6) (b := 6) (t := 3) (v := 36) rfl (mk_k31 _) rfl (mk_31_6 _)) ?_
      refine Eq.trans (s_load (y := 77) (pc := 16) (nx := 17) (a := 0) (b := 1) (x := x1) rfl rfl) ?_
      refine Eq.trans (s_ald (y := 77) (pc := 17) (nx := 18) (a := 1) (b := 0) (k := 1) (n := 40) (t := 0) (v := (D 36 x1)) rfl (mk_k36 _) rfl rfl (mk_l36 _) (mk_c36 _ _)) (ite_c ?_ rfl)
      refine Eq.trans (s_goto (y := 77) (pc := 18) (nx := 21) (a := 0) (b := 22) (tg := 22) rfl rfl) ?_
      exact s_ret (y := 77) (pc := 22) (nx := 23) (a := 0) rfl (by decide)
    · refine Eq.trans (s_push (y := 77) (pc := 21) (nx := 22) (a := 0) (b := (-1)) rfl) ?_
      exact s_ret (y := 77) (pc := 22) (nx := 23) (a := 0) rfl (by decide)
theorem r_78 (D : Mem) (x1 : Int) (x2 : Int) : qR 78 [(3, 31), (0, x1), (3, x2)] (mk D) = ((qR 7 [(3, 5), (0, x1)] (mk D)).bind fun w => qE 78 8 [(3, 31), (0, x1), (3, x2), (9, 0), (9, 0), (9, 0), (9, 0), (9, 0)] (psh w.1 []) w.2) := by
  show qE 78 0 [(3, 31), (0, x1), (3, x2), (9, 0), (9, 0), (9, 0), (9, 0), (9, 0)] [] (mk D) = _
  refine Eq.trans (s_load (y := 78) (pc := 0) (nx := 1) (a := 3) (b := 0) (x := 31) rfl rfl) ?_
  refine Eq.trans (s_get (y := 78) (pc := 1) (nx := 4) (a := 6) (b := 0) (t := 3) (v := 5) rfl (mk_k31 _) rfl (mk_31_0 _)) ?_
  refine Eq.trans (s_load (y := 78) (pc := 4) (nx := 5) (a := 0) (b := 1) (x := x1) rfl rfl) ?_
  exact s_call (y := 78) (pc := 5) (nx := 8) (a := 7) (b := 0) (as := [(3, 5), (0, x1)]) (r := []) rfl (Nat.le_of_ble_eq_true rfl) rfl rfl (Nat.le_of_ble_eq_true rfl) (Nat.le_of_ble_eq_true rfl) (Or.inr ⟨rfl, mk_k5 _⟩)
theorem e_78_8 (D : Mem) (x1 : Int) (x2 : Int) (s0 : Int) : qE 78 8 [(3, 31), (0, x1), (3, x2), (9, 0), (9, 0), (9, 0), (9, 0), (9, 0)] [(3, s0)] (mk D) = (if s0 = 0 then some ((9, 0), (mk D)) else (if 1 ≤ (mk D) (-x2) 0 ∧ (mk D) (-x2) 0 ≤ 6 then (if ((mk D) (-x2) 1) < 4 then some ((9, 0), (mk D)) else qE 78 32 [(3, 31), (0, x1), (3, x2), (3, s0), (0, 0), (0, 0), (0, 0), (0, 0)] [] (mk D)) else none)) := by
  refine Eq.trans (s_store (y := 78) (pc := 8) (nx := 9) (a := 3) (b := 3) (ls' := [(3, 31), (0, x1), (3, x2), (3, s0), (9, 0), (9, 0), (9, 0), (9, 0)]) rfl (Nat.le_of_ble_eq_true rfl) rfl) ?_
  refine Eq.trans (s_load (y := 78) (pc := 9) (nx := 10) (a := 3) (b := 3) (x := s0) rfl rfl) ?_
  refine Eq.trans (s_null (y := 78) (pc := 10) (nx := 13) (b := 19) (tg := 19) rfl rfl) (ite_c ?_ ?_)
  · exact s_retv (y := 78) (pc := 19) (nx := 20) (b := 0) rfl
  · refine Eq.trans (s_load (y := 78) (pc := 13) (nx := 14) (a := 3) (b := 2) (x := x2) rfl rfl) ?_
    refine Eq.trans (s_lenq (y := 78) (pc := 14) (nx := 15) (a := 0) (b := 0) rfl) (ite_c ?_ rfl)
    refine Eq.trans (s_push (y := 78) (pc := 15) (nx := 16) (a := 0) (b := 4) rfl) ?_
    refine Eq.trans (s_icge (y := 78) (pc := 16) (nx := 19) (b := 20) (tg := 20) rfl rfl) (ite_c ?_ ?_)
    · exact s_retv (y := 78) (pc := 19) (nx := 20) (b := 0) rfl
    · refine Eq.trans (s_push (y := 78) (pc := 20) (nx := 21) (a := 0) (b := 0) rfl) ?_
      refine Eq.trans (s_store (y := 78) (pc := 21) (nx := 23) (a := 0) (b := 4) (ls' := [(3, 31), (0, x1), (3, x2), (3, s0), (0, 0), (9, 0), (9, 0), (9, 0)]) rfl (Nat.le_of_ble_eq_true rfl) rfl) ?_
      refine Eq.trans (s_push (y := 78) (pc := 23) (nx := 24) (a := 0) (b := 0) rfl) ?_
      refine Eq.trans (s_store (y := 78) (pc := 24) (nx := 26) (a := 0) (b := 5) (ls' := [(3, 31), (0, x1), (3, x2), (3, s0), (0, 0), (0, 0), (9, 0), (9, 0)]) rfl (Nat.le_of_ble_eq_true rfl) rfl) ?_
      refine Eq.trans (s_push (y := 78) (pc := 26) (nx := 27) (a := 0) (b := 0) rfl) ?_
      refine Eq.trans (s_store (y := 78) (pc := 27) (nx := 29) (a := 0) (b := 6) (ls' := [(3, 31), (0, x1), (3, x2), (3, s0), (0, 0), (0, 0), (0, 0), (9, 0)]) rfl (Nat.le_of_ble_eq_true rfl) rfl) ?_
      refine Eq.trans (s_push (y := 78) (pc := 29) (nx := 30) (a := 0) (b := 0) rfl) ?_
      refine Eq.trans (s_store (y := 78) (pc := 30) (nx := 32) (a := 0) (b := 7) (ls' := [(3, 31), (0, x1), (3, x2), (3, s0), (0, 0), (0, 0), (0, 0), (0, 0)]) rfl (Nat.le_of_ble_eq_true rfl) rfl) ?_
      rfl
theorem e_78_32 (D : Mem) (x1 : Int) (x2 : Int) (x3 : Int) (x4 : Int) (x5 : Int) (x6 : Int) (x7 : Int) : qE 78 32 [(3, 31), (0, x1), (3, x2), (3, x3), (0, x4), (0, x5), (0, x6), (0, x7)] [] (mk D) = ((qR 1 [(3, 5)] (mk D)).bind fun w => qE 78 41 [(3, 31), (0, x1), (3, x2), (3, x3), (0, x4), (0, x5), (0, x6), (0, x7)] (psh w.1 [(0, x7)]) w.2) := by
  refine Eq.trans (s_load (y := 78) (pc := 32) (nx := 34) (a := 0) (b := 7) (x := x7) rfl rfl) ?_
  refine Eq.trans (s_load (y := 78) (pc := 34) (nx := 35) (a := 3) (b := 0) (x := 31) rfl rfl) ?_
  refine Eq.trans (s_get (y := 78) (pc := 35) (nx := 38) (a := 6) (b := 0) (t := 3) (v := 5) rfl (mk_k31 _) rfl (mk_31_0 _)) ?_
  exact s_call (y := 78) (pc := 38) (nx := 41) (a := 1) (b := 0) (as := [(3, 5)]) (r := [(0, x7)]) rfl (Nat.le_of_ble_eq_true rfl) rfl rfl (Nat.le_of_ble_eq_true rfl) (Nat.le_of_ble_eq_true rfl) (Or.inr ⟨rfl, mk_k5 _⟩)
theorem e_78_41 (D : Mem) (x1 : Int) (x2 : Int) (x3 : Int) (x4 : Int) (x5 : Int) (x6 : Int) (x7 : Int) (s0 : Int) (s1 : Int) : qE 78 41 [(3, 31), (0, x1), (3, x2), (3, x3), (0, x4), (0, x5), (0, x6), (0, x7)] [(0, s1), (0, s0)] (mk D) = (if s0 < s1 then (if x7 < 80 then ((qR 8 [(3, 5), (0, x7)] (mk D)).bind fun w => qE 78 60 [(3, 31), (0, x1), (3, x2), (3, x3), (0, x4), (0, x5), (0, x6), (0, x7)] (psh w.1 []) w.2) else (if (mk D) (-x3) 0 = 18 then (if (mk D) (-((mk D) x3 0)) 0 = 15 then (qR 55 [(3, ((mk D) x3 0))] (mk D)).bind fun w => qE 78 176 [(3, 31), (0, x1), (3, x2), (3, x3), (0, x4), (0, x5), (0, x6), (0, x7)] (psh w.1 []) w.2 else none) else none)) else (if (mk D) (-x3) 0 = 18 then (if (mk D) (-((mk D) x3 0)) 0 = 15 then (qR 55 [(3, ((mk D) x3 0))] (mk D)).bind fun w => qE 78 176 [(3, 31), (0, x1), (3, x2), (3, x3), (0, x4), (0, x5), (0, x6), (0, x7)] (psh w.1 []) w.2 else none) else none)) := by
  refine Eq.trans (s_icge (y := 78) (pc := 41) (nx := 44) (b := 169) (tg := 169) rfl rfl) (ite_c ?_ ?_)
  · refine Eq.trans (s_load (y := 78) (pc := 44) (nx := 46) (a := 0) (b := 7) (x := x7) rfl rfl) ?_
    refine Eq.trans (s_push (y := 78) (pc := 46) (nx := 48) (a := 0) (b := 80) rfl) ?_
    refine Eq.trans (s_icge (y := 78) (pc := 48) (nx := 51) (b := 169) (tg := 169) rfl rfl) (ite_c ?_ ?_)
    · refine Eq.trans (s_load (y := 78) (pc := 51) (nx := 52) (a := 3) (b := 0) (x := 31) rfl rfl) ?_
      refine Eq.trans (s_get (y := 78) (pc := 52) (nx := 55) (a := 6) (b := 0) (t := 3) (v := 5) rfl (mk_k31 _) rfl (mk_31_0 _)) ?_
      refine Eq.trans (s_load (y := 78) (pc := 55) (nx := 57) (a := 0) (b := 7) (x := x7) rfl rfl) ?_
      exact s_call (y := 78) (pc := 57) (nx := 60) (a := 8) (b := 0) (as := [(3, 5), (0, x7)]) (r := []) rfl (Nat.le_of_ble_eq_true rfl) rfl rfl (Nat.le_of_ble_eq_true rfl) (Nat.le_of_ble_eq_true rfl) (Or.inr ⟨rfl, mk_k5 _⟩)
    · refine Eq.trans (s_load (y := 78) (pc := 169) (nx := 170) (a := 3) (b := 3) (x := x3) rfl rfl) ?_
      refine Eq.trans (s_getq (y := 78) (pc := 170) (nx := 173) (a := 8) (b := 0) (t := 3) (k := 18) rfl rfl rfl) (ite_c ?_ rfl)
      exact s_callq (k := 15) (y := 78) (pc := 173) (nx := 176) (a := 55) (b := 0) (as := [(3, ((mk D) x3 0))]) (r := []) rfl (Nat.le_of_ble_eq_true rfl) rfl rfl (Nat.le_of_ble_eq_true rfl) (Nat.le_of_ble_eq_true rfl) (by decide) rfl rfl
  · refine Eq.trans (s_load (y := 78) (pc := 169) (nx := 170) (a := 3) (b := 3) (x := x3) rfl rfl) ?_
    refine Eq.trans (s_getq (y := 78) (pc := 170) (nx := 173) (a := 8) (b := 0) (t := 3) (k := 18) rfl rfl rfl) (ite_c ?_ rfl)
    exact s_callq (k := 15) (y := 78) (pc := 173) (nx := 176) (a := 55) (b := 0) (as := [(3, ((mk D) x3 0))]) (r := []) rfl (Nat.le_of_ble_eq_true rfl) rfl rfl (Nat.le_of_ble_eq_true rfl) (Nat.le_of_ble_eq_true rfl) (by decide) rfl rfl
theorem e_78_60 (D : Mem) (x1 : Int) (x2 : Int) (x3 : Int) (x4 : Int) (x5 : Int) (x6 : Int) (x7 : Int) (s0 : Int) : qE 78 60 [(3, 31), (0, x1), (3, x2), (3, x3), (0, x4), (0, x5), (0, x6), (0, x7)] [(0, s0)] (mk D) = (if s0 = 0 then qE 78 32 [(3, 31), (0, x1), (3, x2), (3, x3), (0, x4), (0, x5), (0, x6), (0, (w32 (x7 + 1)))] [] (mk D) else (if 0 ≤ x7 ∧ x7 < 80 then (if 0 ≤ x1 ∧ x1 < 80 then ((qR 72 [(3, 31), (0, x7), (0, (D 34 x7)), (0, x1), (0, (D 34 x1))] (mk D)).bind fun w => qE 78 83 [(3, 31), (0, x1), (3, x2), (3, x3), (0, x4), (0, x5), (0, x6), (0, x7)] (psh w.1 []) w.2) else none) else none)) := by
  refine Eq.trans (s_ifeq (y := 78) (pc := 60) (nx := 63) (b := 163) (tg := 163) rfl rfl) (ite_c ?_ ?_)
  · refine Eq.trans (s_iinc (y := 78) (pc := 163) (nx := 166) (a := 7) (b := 1) (x := x7) (ls' := [(3, 31), (0, x1), (3, x2), (3, x3), (0, x4), (0, x5), (0, x6), (0, (w32 (x7 + 1)))]) rfl rfl rfl) ?_
    refine Eq.trans (s_goto (y := 78) (pc := 166) (nx := 169) (a := 0) (b := 32) (tg := 32) rfl rfl) ?_
    rfl
  · refine Eq.trans (s_load (y := 78) (pc := 63) (nx := 64) (a := 3) (b := 0) (x := 31) rfl rfl) ?_
    refine Eq.trans (s_load (y := 78) (pc := 64) (nx := 66) (a := 0) (b := 7) (x := x7) rfl rfl) ?_
    refine Eq.trans (s_load (y := 78) (pc := 66) (nx := 67) (a := 3) (b := 0) (x := 31) rfl rfl) ?_
    refine Eq.trans (s_get (y := 78) (pc := 67) (nx := 70) (a := 6) (b := 4) (t := 3) (v := 34) rfl (mk_k31 _) rfl (mk_31_4 _)) ?_
    refine Eq.trans (s_load (y := 78) (pc := 70) (nx := 72) (a := 0) (b := 7) (x := x7) rfl rfl) ?_
    refine Eq.trans (s_ald (y := 78) (pc := 72) (nx := 73) (a := 1) (b := 0) (k := 1) (n := 80) (t := 0) (v := (D 34 x7)) rfl (mk_k34 _) rfl rfl (mk_l34 _) (mk_c34 _ _)) (ite_c ?_ rfl)
    refine Eq.trans (s_load (y := 78) (pc := 73) (nx := 74) (a := 0) (b := 1) (x := x1) rfl rfl) ?_
    refine Eq.trans (s_load (y := 78) (pc := 74) (nx := 75) (a := 3) (b := 0) (x := 31) rfl rfl) ?_
    refine Eq.trans (s_get (y := 78) (pc := 75) (nx := 78) (a := 6) (b := 4) (t := 3) (v := 34) rfl (mk_k31 _) rfl (mk_31_4 _)) ?_
    refine Eq.trans (s_load (y := 78) (pc := 78) (nx := 79) (a := 0) (b := 1) (x := x1) rfl rfl) ?_
    refine Eq.trans (s_ald (y := 78) (pc := 79) (nx := 80) (a := 1) (b := 0) (k := 1) (n := 80) (t := 0) (v := (D 34 x1)) rfl (mk_k34 _) rfl rfl (mk_l34 _) (mk_c34 _ _)) (ite_c ?_ rfl)
    exact s_call (y := 78) (pc := 80) (nx := 83) (a := 72) (b := 0) (as := [(3, 31), (0, x7), (0, (D 34 x7)), (0, x1), (0, (D 34 x1))]) (r := []) rfl (Nat.le_of_ble_eq_true rfl) rfl rfl (Nat.le_of_ble_eq_true rfl) (Nat.le_of_ble_eq_true rfl) (Or.inr ⟨rfl, mk_k31 _⟩)
theorem e_78_83 (D : Mem) (x1 : Int) (x2 : Int) (x3 : Int) (x4 : Int) (x5 : Int) (x6 : Int) (x7 : Int) (s0 : Int) : qE 78 83 [(3, 31), (0, x1), (3, x2), (3, x3), (0, x4), (0, x5), (0, x6), (0, x7)] [(0, s0)] (mk D) = (if s0 = 0 then qE 78 32 [(3, 31), (0, x1), (3, x2), (3, x3), (0, x4), (0, x5), (0, x6), (0, (w32 (x7 + 1)))] [] (mk D) else (if 0 ≤ x7 ∧ x7 < 80 then (if 0 ≤ x1 ∧ x1 < 80 then (if (cmpL (D 32 x7) (D 32 x1)) = 0 then qE 78 110 [(3, 31), (0, x1), (3, x2), (3, x3), (0, x4), (0, x5), (0, x6), (0, x7)] [(0, 1), (0, x4)] (mk D) else qE 78 110 [(3, 31), (0, x1), (3, x2), (3, x3), (0, x4), (0, x5), (0, x6), (0, x7)] [(0, 0), (0, x4)] (mk D)) else none) else none)) := by
  refine Eq.trans (s_ifeq (y := 78) (pc := 83) (nx := 86) (b := 163) (tg := 163) rfl rfl) (ite_c ?_ ?_)
  · refine Eq.trans (s_iinc (y := 78) (pc := 163) (nx := 166) (a := 7) (b := 1) (x := x7) (ls' := [(3, 31), (0, x1), (3, x2), (3, x3), (0, x4), (0, x5), (0, x6), (0, (w32 (x7 + 1)))]) rfl rfl rfl) ?_
    refine Eq.trans (s_goto (y := 78) (pc := 166) (nx := 169) (a := 0) (b := 32) (tg := 32) rfl rfl) ?_
    rfl
  · refine Eq.trans (s_load (y := 78) (pc := 86) (nx := 88) (a := 0) (b := 4) (x := x4) rfl rfl) ?_
    refine Eq.trans (s_load (y := 78) (pc := 88) (nx := 89) (a := 3) (b := 0) (x := 31) rfl rfl) ?_
    refine Eq.trans (s_get (y := 78) (pc := 89) (nx := 92) (a := 6) (b := 2) (t := 3) (v := 32) rfl (mk_k31 _) rfl (mk_31_2 _)) ?_
    refine Eq.trans (s_load (y := 78) (pc := 92) (nx := 94) (a := 0) (b := 7) (x := x7) rfl rfl) ?_
    refine Eq.trans (s_ald (y := 78) (pc := 94) (nx := 95) (a := 2) (b := 0) (k := 2) (n := 80) (t := 1) (v := (D 32 x7)) rfl (mk_k32 _) rfl rfl (mk_l32 _) (mk_c32 _ _)) (ite_c ?_ rfl)
    refine Eq.trans (s_load (y := 78) (pc := 95) (nx := 96) (a := 3) (b := 0) (x := 31) rfl rfl) ?_
    refine Eq.trans (s_get (y := 78) (pc := 96) (nx := 99) (a := 6) (b := 2) (t := 3) (v := 32) rfl (mk_k31 _) rfl (mk_31_2 _)) ?_
    refine Eq.trans (s_load (y := 78) (pc := 99) (nx := 100) (a := 0) (b := 1) (x := x1) rfl rfl) ?_
    refine Eq.trans (s_ald (y := 78) (pc := 100) (nx := 101) (a := 2) (b := 0) (k := 2) (n := 80) (t := 1) (v := (D 32 x1)) rfl (mk_k32 _) rfl rfl (mk_l32 _) (mk_c32 _ _)) (ite_c ?_ rfl)
    refine Eq.trans (s_lcmp (y := 78) (pc := 101) (nx := 102) (a := 0) (b := 0) rfl) ?_
    refine Eq.trans (s_ifne (y := 78) (pc := 102) (nx := 105) (b := 109) (tg := 109) rfl rfl) (ite_c ?_ ?_)
    · refine Eq.trans (s_push (y := 78) (pc := 105) (nx := 106) (a := 0) (b := 1) rfl) ?_
      refine Eq.trans (s_goto (y := 78) (pc := 106) (nx := 109) (a := 0) (b := 110) (tg := 110) rfl rfl) ?_
      rfl
    · refine Eq.trans (s_push (y := 78) (pc := 109) (nx := 110) (a := 0) (b := 0) rfl) ?_
      rfl
theorem e_78_110 (D : Mem) (x1 : Int) (x2 : Int) (x3 : Int) (x4 : Int) (x5 : Int) (x6 : Int) (x7 : Int) (s0 : Int) (s1 : Int) : qE 78 110 [(3, 31), (0, x1), (3, x2), (3, x3), (0, x4), (0, x5), (0, x6), (0, x7)] [(0, s1), (0, s0)] (mk D) = (if 0 ≤ x7 ∧ x7 < 80 then (if 0 ≤ x1 ∧ x1 < 80 then (if (cmpL (D 33 x7) (D 33 x1)) = 0 then qE 78 137 [(3, 31), (0, x1), (3, x2), (3, x3), (0, (w32 (s0 + s1))), (0, x5), (0, x6), (0, x7)] [(0, 1), (0, x5)] (mk D) else qE 78 137 [(3, 31), (0, x1), (3, x2), (3, x3), (0, (w32 (s0 + s1))), (0, x5), (0, x6), (0, x7)] [(0, 0), (0, x5)] (mk D)) else none) else none) := by
  refine Eq.trans (s_add (y := 78) (pc := 110) (nx := 111) (b := 0) rfl) ?_
  refine Eq.trans (s_store (y := 78) (pc := 111) (nx := 113) (a := 0) (b := 4) (ls' := [(3, 31), (0, x1), (3, x2), (3, x3), (0, (w32 (s0 + s1))), (0, x5), (0, x6), (0, x7)]) rfl (Nat.le_of_ble_eq_true rfl) rfl) ?_
  refine Eq.trans (s_load (y := 78) (pc := 113) (nx := 115) (a := 0) (b := 5) (x := x5) rfl rfl) ?_
  refine Eq.trans (s_load (y := 78) (pc := 115) (nx := 116) (a := 3) (b := 0) (x := 31) rfl rfl) ?_
  refine Eq.trans (s_get (y := 78) (pc := 116) (nx := 119) (a := 6) (b := 3) (t := 3) (v := 33) rfl (mk_k31 _) rfl (mk_31_3 _)) ?_
  refine Eq.trans (s_load (y := 78) (pc := 119) (nx := 121) (a := 0) (b := 7) (x := x7) rfl rfl) ?_
  refine Eq.trans (s_ald (y := 78) (pc := 121) (nx := 122) (a := 2) (b := 0) (k := 2) (n := 80) (t := 1) (v := (D 33 x7)) rfl (mk_k33 _) rfl rfl (mk_l33 _) (mk_c33 _ _)) (ite_c ?_ rfl)
  refine Eq.trans (s_load (y := 78) (pc := 122) (nx := 123) (a := 3) (b := 0) (x := 31) rfl rfl) ?_
  refine Eq.trans (s_get (y := 78) (pc := 123) (nx := 126) (a := 6) (b := 3) (t := 3) (v := 33) rfl (mk_k31 _) rfl (mk_31_3 _)) ?_
  refine Eq.trans (s_load (y := 78) (pc := 126) (nx := 127) (a := 0) (b := 1) (x := x1) rfl rfl) ?_
  refine Eq.trans (s_ald (y := 78) (pc := 127) (nx := 128) (a := 2) (b := 0) (k := 2) (n := 80) (t := 1) (v := (D 33 x1)) rfl (mk_k33 _) rfl rfl (mk_l33 _) (mk_c33 _ _)) (ite_c ?_ rfl)
  refine Eq.trans (s_lcmp (y := 78) (pc := 128) (nx := 129) (a := 0) (b := 0) rfl) ?_
  refine Eq.trans (s_ifne (y := 78) (pc := 129) (nx := 132) (b := 136) (tg := 136) rfl rfl) (ite_c ?_ ?_)
  · refine Eq.trans (s_push (y := 78) (pc := 132) (nx := 133) (a := 0) (b := 1) rfl) ?_
    refine Eq.trans (s_goto (y := 78) (pc := 133) (nx := 136) (a := 0) (b := 137) (tg := 137) rfl rfl) ?_
    rfl
  · refine Eq.trans (s_push (y := 78) (pc := 136) (nx := 137) (a := 0) (b := 0) rfl) ?_
    rfl
theorem e_78_137 (D : Mem) (x1 : Int) (x2 : Int) (x3 : Int) (x4 : Int) (x5 : Int) (x6 : Int) (x7 : Int) (s0 : Int) (s1 : Int) : qE 78 137 [(3, 31), (0, x1), (3, x2), (3, x3), (0, x4), (0, x5), (0, x6), (0, x7)] [(0, s1), (0, s0)] (mk D) = (if 0 ≤ x7 ∧ x7 < 80 then (if 0 ≤ x1 ∧ x1 < 80 then ((qR 19 [(1, (D 32 x7)), (1, (D 32 x1))] (mk D)).bind fun w => qE 78 158 [(3, 31), (0, x1), (3, x2), (3, x3), (0, x4), (0, (w32 (s0 + s1))), (0, x6), (0, x7)] (psh w.1 [(0, x6)]) w.2) else none) else none) := by
  refine Eq.trans (s_add (y := 78) (pc := 137) (nx := 138) (b := 0) rfl) ?_
  refine Eq.trans (s_store (y := 78) (pc := 138) (nx := 140) (a := 0) (b := 5) (ls' := [(3, 31), (0, x1), (3, x2), (3, x3), (0, x4), (0, (w32 (s0 + s1))), (0, x6), (0, x7)]) rfl (Nat.le_of_ble_eq_true rfl) rfl) ?_
  refine Eq.trans (s_load (y := 78) (pc := 140) (nx := 142) (a := 0) (b := 6) (x := x6) rfl rfl) ?_
  refine Eq.trans (s_load (y := 78) (pc := 142) (nx := 143) (a := 3) (b := 0) (x := 31) rfl rfl) ?_
  refine Eq.trans (s_get (y := 78) (pc := 143) (nx := 146) (a := 6) (b := 2) (t := 3) (v := 32) rfl (mk_k31 _) rfl (mk_31_2 _)) ?_
  refine Eq.trans (s_load (y := 78) (pc := 146) (nx := 148) (a := 0) (b := 7) (x := x7) rfl rfl) ?_
  refine Eq.trans (s_ald (y := 78) (pc := 148) (nx := 149) (a := 2) (b := 0) (k := 2) (n := 80) (t := 1) (v := (D 32 x7)) rfl (mk_k32 _) rfl rfl (mk_l32 _) (mk_c32 _ _)) (ite_c ?_ rfl)
  refine Eq.trans (s_load (y := 78) (pc := 149) (nx := 150) (a := 3) (b := 0) (x := 31) rfl rfl) ?_
  refine Eq.trans (s_get (y := 78) (pc := 150) (nx := 153) (a := 6) (b := 2) (t := 3) (v := 32) rfl (mk_k31 _) rfl (mk_31_2 _)) ?_
  refine Eq.trans (s_load (y := 78) (pc := 153) (nx := 154) (a := 0) (b := 1) (x := x1) rfl rfl) ?_
  refine Eq.trans (s_ald (y := 78) (pc := 154) (nx := 155) (a := 2) (b := 0) (k := 2) (n := 80) (t := 1) (v := (D 32 x1)) rfl (mk_k32 _) rfl rfl (mk_l32 _) (mk_c32 _ _)) (ite_c ?_ rfl)
  exact s_call (y := 78) (pc := 155) (nx := 158) (a := 19) (b := 0) (as := [(1, (D 32 x7)), (1, (D 32 x1))]) (r := [(0, x6)]) rfl (Nat.le_of_ble_eq_true rfl) rfl rfl (Nat.le_of_ble_eq_true rfl) (Nat.le_of_ble_eq_true rfl) (Or.inl rfl)
theorem e_78_158 (D : Mem) (x1 : Int) (x2 : Int) (x3 : Int) (x4 : Int) (x5 : Int) (x6 : Int) (x7 : Int) (s0 : Int) (s1 : Int) : qE 78 158 [(3, 31), (0, x1), (3, x2), (3, x3), (0, x4), (0, x5), (0, x6), (0, x7)] [(0, s1), (0, s0)] (mk D) = ((qR 216 [(0, s0), (0, s1)] (mk D)).bind fun w => qE 78 161 [(3, 31), (0, x1), (3, x2), (3, x3), (0, x4), (0, x5), (0, x6), (0, x7)] (psh w.1 []) w.2) := by
  exact s_call (y := 78) (pc := 158) (nx := 161) (a := 216) (b := 0) (as := [(0, s0), (0, s1)]) (r := []) rfl (Nat.le_of_ble_eq_true rfl) rfl rfl (Nat.le_of_ble_eq_true rfl) (Nat.le_of_ble_eq_true rfl) (Or.inl rfl)
theorem e_78_161 (D : Mem) (x1 : Int) (x2 : Int) (x3 : Int) (x4 : Int) (x5 : Int) (x6 : Int) (x7 : Int) (s0 : Int) : qE 78 161 [(3, 31), (0, x1), (3, x2), (3, x3), (0, x4), (0, x5), (0, x6), (0, x7)] [(0, s0)] (mk D) = qE 78 32 [(3, 31), (0, x1), (3, x2), (3, x3), (0, x4), (0, x5), (0, s0), (0, (w32 (x7 + 1)))] [] (mk D) := by
  refine Eq.trans (s_store (y := 78) (pc := 161) (nx := 163) (a := 0) (b := 6) (ls' := [(3, 31), (0, x1), (3, x2), (3, x3), (0, x4), (0, x5), (0, s0), (0, x7)]) rfl (Nat.le_of_ble_eq_true rfl) rfl) ?_
  refine Eq.trans (s_iinc (y := 78) (pc := 163) (nx := 166) (a := 7) (b := 1) (x := x7) (ls' := [(3, 31), (0, x1), (3, x2), (3, x3), (0, x4), (0, x5), (0, s0), (0, (w32 (x7 + 1)))]) rfl rfl rfl) ?_
  refine Eq.trans (s_goto (y := 78) (pc := 166) (nx := 169) (a := 0) (b := 32) (tg := 32) rfl rfl) ?_
  rfl
theorem e_78_176 (D : Mem) (x1 : Int) (x2 : Int) (x3 : Int) (x4 : Int) (x5 : Int) (x6 : Int) (x7 : Int) (s0 : Int) : qE 78 176 [(3, 31), (0, x1), (3, x2), (3, x3), (0, x4), (0, x5), (0, x6), (0, x7)] [(0, s0)] (mk D) = (if (mk D) (-x3) 0 = 18 then ((qR 30 [(3, 3), (3, ((mk D) x3 0))] (mk D)).bind fun w => qE 78 191 [(3, 31), (0, x1), (3, x2), (3, x3), (0, x4), (0, x5), (0, x6), (0, s0)] (psh w.1 [(0, 0), (3, x2)]) w.2) else none) := by
  refine Eq.trans (s_store (y := 78) (pc := 176) (nx := 178) (a := 0) (b := 7) (ls' := [(3, 31), (0, x1), (3, x2), (3, x3), (0, x4), (0, x5), (0, x6), (0, s0)]) rfl (Nat.le_of_ble_eq_true rfl) rfl) ?_
  refine Eq.trans (s_load (y := 78) (pc := 178) (nx := 179) (a := 3) (b := 2) (x := x2) rfl rfl) ?_
  refine Eq.trans (s_push (y := 78) (pc := 179) (nx := 180) (a := 0) (b := 0) rfl) ?_
  refine Eq.trans (s_load (y := 78) (pc := 180) (nx := 181) (a := 3) (b := 0) (x := 31) rfl rfl) ?_
  refine Eq.trans (s_get (y := 78) (pc := 181) (nx := 184) (a := 6) (b := 1) (t := 3) (v := 3) rfl (mk_k31 _) rfl (mk_31_1 _)) ?_
  refine Eq.trans (s_load (y := 78) (pc := 184) (nx := 185) (a := 3) (b := 3) (x := x3) rfl rfl) ?_
  refine Eq.trans (s_getq (y := 78) (pc := 185) (nx := 188) (a := 8) (b := 0) (t := 3) (k := 18) rfl rfl rfl) (ite_c ?_ rfl)
  exact s_call (y := 78) (pc := 188) (nx := 191) (a := 30) (b := 0) (as := [(3, 3), (3, ((mk D) x3 0))]) (r := [(0, 0), (3, x2)]) rfl (Nat.le_of_ble_eq_true rfl) rfl rfl (Nat.le_of_ble_eq_true rfl) (Nat.le_of_ble_eq_true rfl) (Or.inr ⟨rfl, mk_k3 _⟩)
theorem e_78_191 (D : Mem) (x1 : Int) (x2 : Int) (x3 : Int) (x4 : Int) (x5 : Int) (x6 : Int) (x7 : Int) (s0 : Int) (s2 : Int) : qE 78 191 [(3, 31), (0, x1), (3, x2), (3, x3), (0, x4), (0, x5), (0, x6), (0, x7)] [(0, s2), (0, 0), (3, s0)] (mk D) = (if (s0 : Int) ≠ 1 ∧ aPut (mk D) 1 ((mk D) (-s0) 0) (0, s2) = true ∧ 0 ≤ (0 : Int) ∧ (0 : Int) < (mk D) (-s0) 1 then qE 78 192 [(3, 31), (0, x1), (3, x2), (3, x3), (0, x4), (0, x5), (0, x6), (0, x7)] [] (mU (mk D) s0 (0 : Int) s2) else none) := by
  refine Eq.trans (s_astq (y := 78) (pc := 191) (nx := 192) (a := 1) (b := 0) rfl) (ite_c ?_ rfl)
  rfl
theorem e_78_192 (D : Mem) (x1 : Int) (x2 : Int) (x3 : Int) (x4 : Int) (x5 : Int) (x6 : Int) (x7 : Int) : qE 78 192 [(3, 31), (0, x1), (3, x2), (3, x3), (0, x4), (0, x5), (0, x6), (0, x7)] [] (mk D) = (if (x2 : Int) ≠ 1 ∧ aPut (mk D) 1 ((mk D) (-x2) 0) (0, (w32 ((w32 (x7 + x4)) + 1))) = true ∧ 0 ≤ (1 : Int) ∧ (1 : Int) < (mk D) (-x2) 1 then qE 78 202 [(3, 31), (0, x1), (3, x2), (3, x3), (0, x4), (0, x5), (0, x6), (0, x7)] [] (mU (mk D) x2 (1 : Int) (w32 ((w32 (x7 + x4)) + 1))) else none) := by
  refine Eq.trans (s_load (y := 78) (pc := 192) (nx := 193) (a := 3) (b := 2) (x := x2) rfl rfl) ?_
  refine Eq.trans (s_push (y := 78) (pc := 193) (nx := 194) (a := 0) (b := 1) rfl) ?_
  refine Eq.trans (s_load (y := 78) (pc := 194) (nx := 196) (a := 0) (b := 7) (x := x7) rfl rfl) ?_
  refine Eq.trans (s_load (y := 78) (pc := 196) (nx := 198) (a := 0) (b := 4) (x := x4) rfl rfl) ?_
  refine Eq.trans (s_add (y := 78) (pc := 198) (nx := 199) (b := 0) rfl) ?_
  refine Eq.trans (s_push (y := 78) (pc := 199) (nx := 200) (a := 0) (b := 1) rfl) ?_
  refine Eq.trans (s_add (y := 78) (pc := 200) (nx := 201) (b := 0) rfl) ?_
  refine Eq.trans (s_astq (y := 78) (pc := 201) (nx := 202) (a := 1) (b := 0) rfl) (ite_c ?_ rfl)
  rfl
theorem e_78_202 (D : Mem) (x1 : Int) (x2 : Int) (x3 : Int) (x4 : Int) (x5 : Int) (x6 : Int) (x7 : Int) : qE 78 202 [(3, 31), (0, x1), (3, x2), (3, x3), (0, x4), (0, x5), (0, x6), (0, x7)] [] (mk D) = (if 0 ≤ x1 ∧ x1 < 80 then ((qR 16 [(1, (D 33 x1))] (mk D)).bind fun w => qE 78 213 [(3, 31), (0, x1), (3, x2), (3, x3), (0, x4), (0, x5), (0, x6), (0, x7)] (psh w.1 [(0, 2), (3, x2)]) w.2) else none) := by
  refine Eq.trans (s_load (y := 78) (pc := 202) (nx := 203) (a := 3) (b := 2) (x := x2) rfl rfl) ?_
  refine Eq.trans (s_push (y := 78) (pc := 203) (nx := 204) (a := 0) (b := 2) rfl) ?_
  refine Eq.trans (s_load (y := 78) (pc := 204) (nx := 205) (a := 3) (b := 0) (x := 31) rfl rfl) ?_
  refine Eq.trans (s_get (y := 78) (pc := 205) (nx := 208) (a := 6) (b := 3) (t := 3) (v := 33) rfl (mk_k31 _) rfl (mk_31_3 _)) ?_
  refine Eq.trans (s_load (y := 78) (pc := 208) (nx := 209) (a := 0) (b := 1) (x := x1) rfl rfl) ?_
  refine Eq.trans (s_ald (y := 78) (pc := 209) (nx := 210) (a := 2) (b := 0) (k := 2) (n := 80) (t := 1) (v := (D 33 x1)) rfl (mk_k33 _) rfl rfl (mk_l33 _) (mk_c33 _ _)) (ite_c ?_ rfl)
  exact s_call (y := 78) (pc := 210) (nx := 213) (a := 16) (b := 0) (as := [(1, (D 33 x1))]) (r := [(0, 2), (3, x2)]) rfl (Nat.le_of_ble_eq_true rfl) rfl rfl (Nat.le_of_ble_eq_true rfl) (Nat.le_of_ble_eq_true rfl) (Or.inl rfl)
theorem e_78_213 (D : Mem) (x1 : Int) (x2 : Int) (x3 : Int) (x4 : Int) (x5 : Int) (x6 : Int) (x7 : Int) (s0 : Int) (s2 : Int) : qE 78 213 [(3, 31), (0, x1), (3, x2), (3, x3), (0, x4), (0, x5), (0, x6), (0, x7)] [(0, s2), (0, 2), (3, s0)] (mk D) = (if (s0 : Int) ≠ 1 ∧ aPut (mk D) 1 ((mk D) (-s0) 0) (0, (w32 ((w32 (s2 + x5)) + 1))) = true ∧ 0 ≤ (2 : Int) ∧ (2 : Int) < (mk D) (-s0) 1 then qE 78 219 [(3, 31), (0, x1), (3, x2), (3, x3), (0, x4), (0, x5), (0, x6), (0, x7)] [] (mU (mk D) s0 (2 : Int) (w32 ((w32 (s2 + x5)) + 1))) else none) := by
  refine Eq.trans (s_load (y := 78) (pc := 213) (nx := 215) (a := 0) (b := 5) (x := x5) rfl rfl) ?_
  refine Eq.trans (s_add (y := 78) (pc := 215) (nx := 216) (b := 0) rfl) ?_
  refine Eq.trans (s_push (y := 78) (pc := 216) (nx := 217) (a := 0) (b := 1) rfl) ?_
  refine Eq.trans (s_add (y := 78) (pc := 217) (nx := 218) (b := 0) rfl) ?_
  refine Eq.trans (s_astq (y := 78) (pc := 218) (nx := 219) (a := 1) (b := 0) rfl) (ite_c ?_ rfl)
  rfl
theorem e_78_219 (D : Mem) (x1 : Int) (x2 : Int) (x3 : Int) (x4 : Int) (x5 : Int) (x6 : Int) (x7 : Int) : qE 78 219 [(3, 31), (0, x1), (3, x2), (3, x3), (0, x4), (0, x5), (0, x6), (0, x7)] [] (mk D) = (if x6 < x7 then (if (x2 : Int) ≠ 1 ∧ aPut (mk D) 1 ((mk D) (-x2) 0) (0, (w32 ((w32 (x6 + 1)) + 1))) = true ∧ 0 ≤ (3 : Int) ∧ (3 : Int) < (mk D) (-x2) 1 then qE 78 241 [(3, 31), (0, x1), (3, x2), (3, x3), (0, x4), (0, x5), (0, x6), (0, x7)] [] (mU (mk D) x2 (3 : Int) (w32 ((w32 (x6 + 1)) + 1))) else none) else (if aKind 1 ((mk D) (-x2) 0) = true ∧ 0 ≤ (1 : Int) ∧ (1 : Int) < (mk D) (-x2) 1 then (if (x2 : Int) ≠ 1 ∧ aPut (mk D) 1 ((mk D) (-x2) 0) (0, ((mk D) x2 (1 : Int))) = true ∧ 0 ≤ (3 : Int) ∧ (3 : Int) < (mk D) (-x2) 1 then qE 78 241 [(3, 31), (0, x1), (3, x2), (3, x3), (0, x4), (0, x5), (0, x6), (0, x7)] [] (mU (mk D) x2 (3 : Int) ((mk D) x2 (1 : Int))) else none) else none)) := by
  refine Eq.trans (s_load (y := 78) (pc := 219) (nx := 220) (a := 3) (b := 2) (x := x2) rfl rfl) ?_
  refine Eq.trans (s_push (y := 78) (pc := 220) (nx := 221) (a := 0) (b := 3) rfl) ?_
  refine Eq.trans (s_load (y := 78) (pc := 221) (nx := 223) (a := 0) (b := 6) (x := x6) rfl rfl) ?_
  refine Eq.trans (s_load (y := 78) (pc := 223) (nx := 225) (a := 0) (b := 7) (x := x7) rfl rfl) ?_
  refine Eq.trans (s_icge (y := 78) (pc := 225) (nx := 228) (b := 237) (tg := 237) rfl rfl) (ite_c ?_ ?_)
  · refine Eq.trans (s_load (y := 78) (pc := 228) (nx := 230) (a := 0) (b := 6) (x := x6) rfl rfl) ?_
    refine Eq.trans (s_push (y := 78) (pc := 230) (nx := 231) (a := 0) (b := 1) rfl) ?_
    refine Eq.trans (s_add (y := 78) (pc := 231) (nx := 232) (b := 0) rfl) ?_
    refine Eq.trans (s_push (y := 78) (pc := 232) (nx := 233) (a := 0) (b := 1) rfl) ?_
    refine Eq.trans (s_add (y := 78) (pc := 233) (nx := 234) (b := 0) rfl) ?_
    refine Eq.trans (s_goto (y := 78) (pc := 234) (nx := 237) (a := 0) (b := 240) (tg := 240) rfl rfl) ?_
    refine Eq.trans (s_astq (y := 78) (pc := 240) (nx := 241) (a := 1) (b := 0) rfl) (ite_c ?_ rfl)
    rfl
  · refine Eq.trans (s_load (y := 78) (pc := 237) (nx := 238) (a := 3) (b := 2) (x := x2) rfl rfl) ?_
    refine Eq.trans (s_push (y := 78) (pc := 238) (nx := 239) (a := 0) (b := 1) rfl) ?_
    refine Eq.trans (s_aldq (y := 78) (pc := 239) (nx := 240) (a := 1) (b := 0) (t := 0) rfl ak_1) (ite_c ?_ rfl)
    refine Eq.trans (s_astq (y := 78) (pc := 240) (nx := 241) (a := 1) (b := 0) rfl) (ite_c ?_ rfl)
    rfl
theorem e_78_241 (D : Mem) (x1 : Int) (x2 : Int) (x3 : Int) (x4 : Int) (x5 : Int) (x6 : Int) (x7 : Int) : qE 78 241 [(3, 31), (0, x1), (3, x2), (3, x3), (0, x4), (0, x5), (0, x6), (0, x7)] [] (mk D) = some ((9, 0), (mk D)) := by
  exact s_retv (y := 78) (pc := 241) (nx := 242) (b := 0) rfl
theorem r_79 (D : Mem) (x1 : Int) : qR 79 [(3, 31), (0, x1)] (mk D) = qE 79 4 [(3, 31), (0, x1), (0, 0), (0, 0)] [] (mk D) := by
  show qE 79 0 [(3, 31), (0, x1), (9, 0), (9, 0)] [] (mk D) = _
  refine Eq.trans (s_push (y := 79) (pc := 0) (nx := 1) (a := 0) (b := 0) rfl) ?_
  refine Eq.trans (s_store (y := 79) (pc := 1) (nx := 2) (a := 0) (b := 2) (ls' := [(3, 31), (0, x1), (0, 0), (9, 0)]) rfl (Nat.le_of_ble_eq_true rfl) rfl) ?_
  refine Eq.trans (s_push (y := 79) (pc := 2) (nx := 3) (a := 0) (b := 0) rfl) ?_
  refine Eq.trans (s_store (y := 79) (pc := 3) (nx := 4) (a := 0) (b := 3) (ls' := [(3, 31), (0, x1), (0, 0), (0, 0)]) rfl (Nat.le_of_ble_eq_true rfl) rfl) ?_
  rfl
theorem e_79_4 (D : Mem) (x1 : Int) (x2 : Int) (x3 : Int) : qE 79 4 [(3, 31), (0, x1), (0, x2), (0, x3)] [] (mk D) = ((qR 1 [(3, 5)] (mk D)).bind fun w => qE 79 12 [(3, 31), (0, x1), (0, x2), (0, x3)] (psh w.1 [(0, x3)]) w.2) := by
  refine Eq.trans (s_load (y := 79) (pc := 4) (nx := 5) (a := 0) (b := 3) (x := x3) rfl rfl) ?_
  refine Eq.trans (s_load (y := 79) (pc := 5) (nx := 6) (a := 3) (b := 0) (x := 31) rfl rfl) ?_
  refine Eq.trans (s_get (y := 79) (pc := 6) (nx := 9) (a := 6) (b := 0) (t := 3) (v := 5) rfl (mk_k31 _) rfl (mk_31_0 _)) ?_
  exact s_call (y := 79) (pc := 9) (nx := 12) (a := 1) (b := 0) (as := [(3, 5)]) (r := [(0, x3)]) rfl (Nat.le_of_ble_eq_true rfl) rfl rfl (Nat.le_of_ble_eq_true rfl) (Nat.le_of_ble_eq_true rfl) (Or.inr ⟨rfl, mk_k5 _⟩)
theorem e_79_12 (D : Mem) (x1 : Int) (x2 : Int) (x3 : Int) (s0 : Int) (s1 : Int) : qE 79 12 [(3, 31), (0, x1), (0, x2), (0, x3)] [(0, s1), (0, s0)] (mk D) = (if s0 < s1 then ((qR 80 [(3, 31), (0, x3), (0, x1)] (mk D)).bind fun w => qE 79 21 [(3, 31), (0, x1), (0, x2), (0, x3)] (psh w.1 []) w.2) else some ((0, x2), (mk D))) := by
  refine Eq.trans (s_icge (y := 79) (pc := 12) (nx := 15) (b := 33) (tg := 33) rfl rfl) (ite_c ?_ ?_)
  · refine Eq.trans (s_load (y := 79) (pc := 15) (nx := 16) (a := 3) (b := 0) (x := 31) rfl rfl) ?_
    refine Eq.trans (s_load (y := 79) (pc := 16) (nx := 17) (a := 0) (b := 3) (x := x3) rfl rfl) ?_
    refine Eq.trans (s_load (y := 79) (pc := 17) (nx := 18) (a := 0) (b := 1) (x := x1) rfl rfl) ?_
    exact s_call (y := 79) (pc := 18) (nx := 21) (a := 80) (b := 0) (as := [(3, 31), (0, x3), (0, x1)]) (r := []) rfl (Nat.le_of_ble_eq_true rfl) rfl rfl (Nat.le_of_ble_eq_true rfl) (Nat.le_of_ble_eq_true rfl) (Or.inr ⟨rfl, mk_k31 _⟩)
  · refine Eq.trans (s_load (y := 79) (pc := 33) (nx := 34) (a := 0) (b := 2) (x := x2) rfl rfl) ?_
    exact s_ret (y := 79) (pc := 34) (nx := 35) (a := 0) rfl (by decide)
theorem e_79_21 (D : Mem) (x1 : Int) (x2 : Int) (x3 : Int) (s0 : Int) : qE 79 21 [(3, 31), (0, x1), (0, x2), (0, x3)] [(0, s0)] (mk D) = (if s0 = 0 then qE 79 4 [(3, 31), (0, x1), (0, x2), (0, (w32 (x3 + 1)))] [] (mk D) else qE 79 4 [(3, 31), (0, x1), (0, (w32 (x2 + 1))), (0, (w32 (x3 + 1)))] [] (mk D)) := by
  refine Eq.trans (s_ifeq (y := 79) (pc := 21) (nx := 24) (b := 27) (tg := 27) rfl rfl) (ite_c ?_ ?_)
  · refine Eq.trans (s_iinc (y := 79) (pc := 27) (nx := 30) (a := 3) (b := 1) (x := x3) (ls' := [(3, 31), (0, x1), (0, x2), (0, (w32 (x3 + 1)))]) rfl rfl rfl) ?_
    refine Eq.trans (s_goto (y := 79) (pc := 30) (nx := 33) (a := 0) (b := 4) (tg := 4) rfl rfl) ?_
    rfl
  · refine Eq.trans (s_iinc (y := 79) (pc := 24) (nx := 27) (a := 2) (b := 1) (x := x2) (ls' := [(3, 31), (0, x1), (0, (w32 (x2 + 1))), (0, x3)]) rfl rfl rfl) ?_
    refine Eq.trans (s_iinc (y := 79) (pc := 27) (nx := 30) (a := 3) (b := 1) (x := x3) (ls' := [(3, 31), (0, x1), (0, (w32 (x2 + 1))), (0, (w32 (x3 + 1)))]) rfl rfl rfl) ?_
    refine Eq.trans (s_goto (y := 79) (pc := 30) (nx := 33) (a := 0) (b := 4) (tg := 4) rfl rfl) ?_
    rfl
theorem r_80 (D : Mem) (x1 : Int) (x2 : Int) : qR 80 [(3, 31), (0, x1), (0, x2)] (mk D) = ((qR 8 [(3, 5), (0, x1)] (mk D)).bind fun w => qE 80 8 [(3, 31), (0, x1), (0, x2)] (psh w.1 []) w.2) := by
  show qE 80 0 [(3, 31), (0, x1), (0, x2)] [] (mk D) = _
  refine Eq.trans (s_load (y := 80) (pc := 0) (nx := 1) (a := 3) (b := 0) (x := 31) rfl rfl) ?_
  refine Eq.trans (s_get (y := 80) (pc := 1) (nx := 4) (a := 6) (b := 0) (t := 3) (v := 5) rfl (mk_k31 _) rfl (mk_31_0 _)) ?_
  refine Eq.trans (s_load (y := 80) (pc := 4) (nx := 5) (a := 0) (b := 1) (x := x1) rfl rfl) ?_
  exact s_call (y := 80) (pc := 5) (nx := 8) (a := 8) (b := 0) (as := [(3, 5), (0, x1)]) (r := []) rfl (Nat.le_of_ble_eq_true rfl) rfl rfl (Nat.le_of_ble_eq_true rfl) (Nat.le_of_ble_eq_true rfl) (Or.inr ⟨rfl, mk_k5 _⟩)
theorem e_80_8 (D : Mem) (x1 : Int) (x2 : Int) (s0 : Int) : qE 80 8 [(3, 31), (0, x1), (0, x2)] [(0, s0)] (mk D) = (if s0 = 0 then some ((0, 0), (mk D)) else ((qR 8 [(3, 5), (0, x2)] (mk D)).bind fun w => qE 80 19 [(3, 31), (0, x1), (0, x2)] (psh w.1 []) w.2)) := by
  refine Eq.trans (s_ifeq (y := 80) (pc := 8) (nx := 11) (b := 42) (tg := 42) rfl rfl) (ite_c ?_ ?_)
  · refine Eq.trans (s_push (y := 80) (pc := 42) (nx := 43) (a := 0) (b := 0) rfl) ?_
    exact s_retz (y := 80) (pc := 43) (nx := 44) rfl (by decide)
  · refine Eq.trans (s_load (y := 80) (pc := 11) (nx := 12) (a := 3) (b := 0) (x := 31) rfl rfl) ?_
    refine Eq.trans (s_get (y := 80) (pc := 12) (nx := 15) (a := 6) (b := 0) (t := 3) (v := 5) rfl (mk_k31 _) rfl (mk_31_0 _)) ?_
    refine Eq.trans (s_load (y := 80) (pc := 15) (nx := 16) (a := 0) (b := 2) (x := x2) rfl rfl) ?_
    exact s_call (y := 80) (pc := 16) (nx := 19) (a := 8) (b := 0) (as := [(3, 5), (0, x2)]) (r := []) rfl (Nat.le_of_ble_eq_true rfl) rfl rfl (Nat.le_of_ble_eq_true rfl) (Nat.le_of_ble_eq_true rfl) (Or.inr ⟨rfl, mk_k5 _⟩)
theorem e_80_19 (D : Mem) (x1 : Int) (x2 : Int) (s0 : Int) : qE 80 19 [(3, 31), (0, x1), (0, x2)] [(0, s0)] (mk D) = (if s0 = 0 then some ((0, 0), (mk D)) else (if 0 ≤ x1 ∧ x1 < 80 then (if 0 ≤ x2 ∧ x2 < 80 then (if (cmpL (D 32 x1) (D 32 x2)) = 0 then some ((0, 1), (mk D)) else some ((0, 0), (mk D))) else none) else none)) := by
  refine Eq.trans (s_ifeq (y := 80) (pc := 19) (nx := 22) (b := 42) (tg := 42) rfl rfl) (ite_c ?_ ?_)
  · refine Eq.trans (s_push (y := 80) (pc := 42) (nx := 43) (a := 0) (b := 0) rfl) ?_
    exact s_retz (y := 80) (pc := 43) (nx := 44) rfl (by decide)
  · refine Eq.trans (s_load (y := 80) (pc := 22) (nx := 23) (a := 3) (b := 0) (x := 31) rfl rfl) ?_
    refine Eq.trans (s_get (y := 80) (pc := 23) (nx := 26) (a := 6) (b := 2) (t := 3) (v := 32) rfl (mk_k31 _) rfl (mk_31_2 _)) ?_
    refine Eq.trans (s_load (y := 80) (pc := 26) (nx := 27) (a := 0) (b := 1) (x := x1) rfl rfl) ?_
    refine Eq.trans (s_ald (y := 80) (pc := 27) (nx := 28) (a := 2) (b := 0) (k := 2) (n := 80) (t := 1) (v := (D 32 x1)) rfl (mk_k32 _) rfl rfl (mk_l32 _) (mk_c32 _ _)) (ite_c ?_ rfl)
    refine Eq.trans (s_load (y := 80) (pc := 28) (nx := 29) (a := 3) (b := 0) (x := 31) rfl rfl) ?_
    refine Eq.trans (s_get (y := 80) (pc := 29) (nx := 32) (a := 6) (b := 2) (t := 3) (v := 32) rfl (mk_k31 _) rfl (mk_31_2 _)) ?_
    refine Eq.trans (s_load (y := 80) (pc := 32) (nx := 33) (a := 0) (b := 2) (x := x2) rfl rfl) ?_
    refine Eq.trans (s_ald (y := 80) (pc := 33) (nx := 34) (a := 2) (b := 0) (k := 2) (n := 80) (t := 1) (v := (D 32 x2)) rfl (mk_k32 _) rfl rfl (mk_l32 _) (mk_c32 _ _)) (ite_c ?_ rfl)
    refine Eq.trans (s_lcmp (y := 80) (pc := 34) (nx := 35) (a := 0) (b := 0) rfl) ?_
    refine Eq.trans (s_ifne (y := 80) (pc := 35) (nx := 38) (b := 42) (tg := 42) rfl rfl) (ite_c ?_ ?_)
    · refine Eq.trans (s_push (y := 80) (pc := 38) (nx := 39) (a := 0) (b := 1) rfl) ?_
      refine Eq.trans (s_goto (y := 80) (pc := 39) (nx := 42) (a := 0) (b := 43) (tg := 43) rfl rfl) ?_
      exact s_retz (y := 80) (pc := 43) (nx := 44) rfl (by decide)
    · refine Eq.trans (s_push (y := 80) (pc := 42) (nx := 43) (a := 0) (b := 0) rfl) ?_
      exact s_retz (y := 80) (pc := 43) (nx := 44) rfl (by decide)
theorem r_81 (D : Mem) : qR 81 [(3, 31)] (mk D) = qE 81 6 [(3, 31), (0, (-1)), (0, 0), (0, 0), (9, 0)] [] (mk D) := by
  show qE 81 0 [(3, 31), (9, 0), (9, 0), (9, 0), (9, 0)] [] (mk D) = _
  refine Eq.trans (s_push (y := 81) (pc := 0) (nx := 1) (a := 0) (b := (-1)) rfl) ?_
  refine Eq.trans (s_store (y := 81) (pc := 1) (nx := 2) (a := 0) (b := 1) (ls' := [(3, 31), (0, (-1)), (9, 0), (9, 0), (9, 0)]) rfl (Nat.le_of_ble_eq_true rfl) rfl) ?_
  refine Eq.trans (s_push (y := 81) (pc := 2) (nx := 3) (a := 0) (b := 0) rfl) ?_
  refine Eq.trans (s_store (y := 81) (pc := 3) (nx := 4) (a := 0) (b := 2) (ls' := [(3, 31), (0, (-1)), (0, 0), (9, 0), (9, 0)]) rfl (Nat.le_of_ble_eq_true rfl) rfl) ?_
  refine Eq.trans (s_push (y := 81) (pc := 4) (nx := 5) (a := 0) (b := 0) rfl) ?_
  refine Eq.trans (s_store (y := 81) (pc := 5) (nx := 6) (a := 0) (b := 3) (ls' := [(3, 31), (0, (-1)), (0, 0), (0, 0), (9, 0)]) rfl (Nat.le_of_ble_eq_true rfl) rfl) ?_
  rfl
theorem e_81_6 (D : Mem) (x1 : Int) (x2 : Int) (x3 : Int) (v4 : PV) : qE 81 6 [(3, 31), (0, x1), (0, x2), (0, x3), v4] [] (mk D) = ((qR 1 [(3, 5)] (mk D)).bind fun w => qE 81 14 [(3, 31), (0, x1), (0, x2), (0, x3), v4] (psh w.1 [(0, x3)]) w.2) := by
  refine Eq.trans (s_load (y := 81) (pc := 6) (nx := 7) (a := 0) (b := 3) (x := x3) rfl rfl) ?_
  refine Eq.trans (s_load (y := 81) (pc := 7) (nx := 8) (a := 3) (b := 0) (x := 31) rfl rfl) ?_
  refine Eq.trans (s_get (y := 81) (pc := 8) (nx := 11) (a := 6) (b := 0) (t := 3) (v := 5) rfl (mk_k31 _) rfl (mk_31_0 _)) ?_
  exact s_call (y := 81) (pc := 11) (nx := 14) (a := 1) (b := 0) (as := [(3, 5)]) (r := [(0, x3)]) rfl (Nat.le_of_ble_eq_true rfl) rfl rfl (Nat.le_of_ble_eq_true rfl) (Nat.le_of_ble_eq_true rfl) (Or.inr ⟨rfl, mk_k5 _⟩)
theorem e_81_14 (D : Mem) (x1 : Int) (x2 : Int) (x3 : Int) (v4 : PV) (s0 : Int) (s1 : Int) : qE 81 14 [(3, 31), (0, x1), (0, x2), (0, x3), v4] [(0, s1), (0, s0)] (mk D) = (if s0 < s1 then ((qR 8 [(3, 5), (0, x3)] (mk D)).bind fun w => qE 81 25 [(3, 31), (0, x1), (0, x2), (0, x3), v4] (psh w.1 []) w.2) else some ((0, x1), (mk D))) := by
  refine Eq.trans (s_icge (y := 81) (pc := 14) (nx := 17) (b := 56) (tg := 56) rfl rfl) (ite_c ?_ ?_)
  · refine Eq.trans (s_load (y := 81) (pc := 17) (nx := 18) (a := 3) (b := 0) (x := 31) rfl rfl) ?_
    refine Eq.trans (s_get (y := 81) (pc := 18) (nx := 21) (a := 6) (b := 0) (t := 3) (v := 5) rfl (mk_k31 _) rfl (mk_31_0 _)) ?_
    refine Eq.trans (s_load (y := 81) (pc := 21) (nx := 22) (a := 0) (b := 3) (x := x3) rfl rfl) ?_
    exact s_call (y := 81) (pc := 22) (nx := 25) (a := 8) (b := 0) (as := [(3, 5), (0, x3)]) (r := []) rfl (Nat.le_of_ble_eq_true rfl) rfl rfl (Nat.le_of_ble_eq_true rfl) (Nat.le_of_ble_eq_true rfl) (Or.inr ⟨rfl, mk_k5 _⟩)
  · refine Eq.trans (s_load (y := 81) (pc := 56) (nx := 57) (a := 0) (b := 1) (x := x1) rfl rfl) ?_
    exact s_ret (y := 81) (pc := 57) (nx := 58) (a := 0) rfl (by decide)
theorem e_81_25 (D : Mem) (x1 : Int) (x2 : Int) (x3 : Int) (v4 : PV) (s0 : Int) : qE 81 25 [(3, 31), (0, x1), (0, x2), (0, x3), v4] [(0, s0)] (mk D) = (if s0 = 0 then qE 81 37 [(3, 31), (0, x1), (0, x2), (0, x3), v4] [(0, 0)] (mk D) else ((qR 79 [(3, 31), (0, x3)] (mk D)).bind fun w => qE 81 33 [(3, 31), (0, x1), (0, x2), (0, x3), v4] (psh w.1 []) w.2)) := by
  refine Eq.trans (s_ifeq (y := 81) (pc := 25) (nx := 28) (b := 36) (tg := 36) rfl rfl) (ite_c ?_ ?_)
  · refine Eq.trans (s_push (y := 81) (pc := 36) (nx := 37) (a := 0) (b := 0) rfl) ?_
    rfl
  · refine Eq.trans (s_load (y := 81) (pc := 28) (nx := 29) (a := 3) (b := 0) (x := 31) rfl rfl) ?_
    refine Eq.trans (s_load (y := 81) (pc := 29) (nx := 30) (a := 0) (b := 3) (x := x3) rfl rfl) ?_
    exact s_call (y := 81) (pc := 30) (nx := 33) (a := 79) (b := 0) (as := [(3, 31), (0, x3)]) (r := []) rfl (Nat.le_of_ble_eq_true rfl) rfl rfl (Nat.le_of_ble_eq_true rfl) (Nat.le_of_ble_eq_true rfl) (Or.inr ⟨rfl, mk_k31 _⟩)
theorem e_81_33 (D : Mem) (x1 : Int) (x2 : Int) (x3 : Int) (v4 : PV) (s0 : Int) : qE 81 33 [(3, 31), (0, x1), (0, x2), (0, x3), v4] [(0, s0)] (mk D) = qE 81 37 [(3, 31), (0, x1), (0, x2), (0, x3), v4] [(0, s0)] (mk D) := by
  refine Eq.trans (s_goto (y := 81) (pc := 33) (nx := 36) (a := 0) (b := 37) (tg := 37) rfl rfl) ?_
  rfl
theorem e_81_37 (D : Mem) (x1 : Int) (x2 : Int) (x3 : Int) (v4 : PV) (s0 : Int) : qE 81 37 [(3, 31), (0, x1), (0, x2), (0, x3), v4] [(0, s0)] (mk D) = (if s0 ≤ x2 then qE 81 6 [(3, 31), (0, x1), (0, x2), (0, (w32 (x3 + 1))), (0, s0)] [] (mk D) else qE 81 6 [(3, 31), (0, x3), (0, s0), (0, (w32 (x3 + 1))), (0, s0)] [] (mk D)) := by
  refine Eq.trans (s_store (y := 81) (pc := 37) (nx := 39) (a := 0) (b := 4) (ls' := [(3, 31), (0, x1), (0, x2), (0, x3), (0, s0)]) rfl (Nat.le_of_ble_eq_true rfl) rfl) ?_
  refine Eq.trans (s_load (y := 81) (pc := 39) (nx := 41) (a := 0) (b := 4) (x := s0) rfl rfl) ?_
  refine Eq.trans (s_load (y := 81) (pc := 41) (nx := 42) (a := 0) (b := 2) (x := x2) rfl rfl) ?_
  refine Eq.trans (s_icle (y := 81) (pc := 42) (nx := 45) (b := 50) (tg := 50) rfl rfl) (ite_c ?_ ?_)
  · refine Eq.trans (s_iinc (y := 81) (pc := 50) (nx := 53) (a := 3) (b := 1) (x := x3) (ls' := [(3, 31), (0, x1), (0, x2), (0, (w32 (x3 + 1))), (0, s0)]) rfl rfl rfl) ?_
    refine Eq.trans (s_goto (y := 81) (pc := 53) (nx := 56) (a := 0) (b := 6) (tg := 6) rfl rfl) ?_
    rfl
  · refine Eq.trans (s_load (y := 81) (pc := 45) (nx := 46) (a := 0) (b := 3) (x := x3) rfl rfl) ?_
    refine Eq.trans (s_store (y := 81) (pc := 46) (nx := 47) (a := 0) (b := 1) (ls' := [(3, 31), (0, x3), (0, x2), (0, x3), (0, s0)]) rfl (Nat.le_of_ble_eq_true rfl) rfl) ?_
    refine Eq.trans (s_load (y := 81) (pc := 47) (nx := 49) (a := 0) (b := 4) (x := s0) rfl rfl) ?_
    refine Eq.trans (s_store (y := 81) (pc := 49) (nx := 50) (a := 0) (b := 2) (ls' := [(3, 31), (0, x3), (0, s0), (0, x3), (0, s0)]) rfl (Nat.le_of_ble_eq_true rfl) rfl) ?_
    refine Eq.trans (s_iinc (y := 81) (pc := 50) (nx := 53) (a := 3) (b := 1) (x := x3) (ls' := [(3, 31), (0, x3), (0, s0), (0, (w32 (x3 + 1))), (0, s0)]) rfl rfl rfl) ?_
    refine Eq.trans (s_goto (y := 81) (pc := 53) (nx := 56) (a := 0) (b := 6) (tg := 6) rfl rfl) ?_
    rfl
theorem r_82 (D : Mem) (x1 : Int) (x2 : Int) : qR 82 [(3, 31), (0, x1), (0, x2)] (mk D) = qE 82 5 [(3, 31), (0, x1), (0, x2), (0, 0), (0, 0)] [] (mk D) := by
  show qE 82 0 [(3, 31), (0, x1), (0, x2), (9, 0), (9, 0)] [] (mk D) = _
  refine Eq.trans (s_push (y := 82) (pc := 0) (nx := 1) (a := 0) (b := 0) rfl) ?_
  refine Eq.trans (s_store (y := 82) (pc := 1) (nx := 2) (a := 0) (b := 3) (ls' := [(3, 31), (0, x1), (0, x2), (0, 0), (9, 0)]) rfl (Nat.le_of_ble_eq_true rfl) rfl) ?_
  refine Eq.trans (s_push (y := 82) (pc := 2) (nx := 3) (a := 0) (b := 0) rfl) ?_
  refine Eq.trans (s_store (y := 82) (pc := 3) (nx := 5) (a := 0) (b := 4) (ls' := [(3, 31), (0, x1), (0, x2), (0, 0), (0, 0)]) rfl (Nat.le_of_ble_eq_true rfl) rfl) ?_
  rfl
theorem e_82_5 (D : Mem) (x1 : Int) (x2 : Int) (x3 : Int) (x4 : Int) : qE 82 5 [(3, 31), (0, x1), (0, x2), (0, x3), (0, x4)] [] (mk D) = ((qR 1 [(3, 5)] (mk D)).bind fun w => qE 82 14 [(3, 31), (0, x1), (0, x2), (0, x3), (0, x4)] (psh w.1 [(0, x4)]) w.2) := by
  refine Eq.trans (s_load (y := 82) (pc := 5) (nx := 7) (a := 0) (b := 4) (x := x4) rfl rfl) ?_
  refine Eq.trans (s_load (y := 82) (pc := 7) (nx := 8) (a := 3) (b := 0) (x := 31) rfl rfl) ?_
  refine Eq.trans (s_get (y := 82) (pc := 8) (nx := 11) (a := 6) (b := 0) (t := 3) (v := 5) rfl (mk_k31 _) rfl (mk_31_0 _)) ?_
  exact s_call (y := 82) (pc := 11) (nx := 14) (a := 1) (b := 0) (as := [(3, 5)]) (r := [(0, x4)]) rfl (Nat.le_of_ble_eq_true rfl) rfl rfl (Nat.le_of_ble_eq_true rfl) (Nat.le_of_ble_eq_true rfl) (Or.inr ⟨rfl, mk_k5 _⟩)
theorem e_82_14 (D : Mem) (x1 : Int) (x2 : Int) (x3 : Int) (x4 : Int) (s0 : Int) (s1 : Int) : qE 82 14 [(3, 31), (0, x1), (0, x2), (0, x3), (0, x4)] [(0, s1), (0, s0)] (mk D) = (if s0 < s1 then ((qR 80 [(3, 31), (0, x4), (0, x1)] (mk D)).bind fun w => qE 82 24 [(3, 31), (0, x1), (0, x2), (0, x3), (0, x4)] (psh w.1 []) w.2) else some ((0, (-1)), (mk D))) := by
  refine Eq.trans (s_icge (y := 82) (pc := 14) (nx := 17) (b := 44) (tg := 44) rfl rfl) (ite_c ?_ ?_)
  · refine Eq.trans (s_load (y := 82) (pc := 17) (nx := 18) (a := 3) (b := 0) (x := 31) rfl rfl) ?_
    refine Eq.trans (s_load (y := 82) (pc := 18) (nx := 20) (a := 0) (b := 4) (x := x4) rfl rfl) ?_
    refine Eq.trans (s_load (y := 82) (pc := 20) (nx := 21) (a := 0) (b := 1) (x := x1) rfl rfl) ?_
    exact s_call (y := 82) (pc := 21) (nx := 24) (a := 80) (b := 0) (as := [(3, 31), (0, x4), (0, x1)]) (r := []) rfl (Nat.le_of_ble_eq_true rfl) rfl rfl (Nat.le_of_ble_eq_true rfl) (Nat.le_of_ble_eq_true rfl) (Or.inr ⟨rfl, mk_k31 _⟩)
  · refine Eq.trans (s_push (y := 82) (pc := 44) (nx := 45) (a := 0) (b := (-1)) rfl) ?_
    exact s_ret (y := 82) (pc := 45) (nx := 46) (a := 0) rfl (by decide)
theorem e_82_24 (D : Mem) (x1 : Int) (x2 : Int) (x3 : Int) (x4 : Int) (s0 : Int) : qE 82 24 [(3, 31), (0, x1), (0, x2), (0, x3), (0, x4)] [(0, s0)] (mk D) = (if s0 = 0 then qE 82 5 [(3, 31), (0, x1), (0, x2), (0, x3), (0, (w32 (x4 + 1)))] [] (mk D) else (if x3 = x2 then some ((0, x4), (mk D)) else qE 82 5 [(3, 31), (0, x1), (0, x2), (0, (w32 (x3 + 1))), (0, (w32 (x4 + 1)))] [] (mk D))) := by
  refine Eq.trans (s_ifeq (y := 82) (pc := 24) (nx := 27) (b := 38) (tg := 38) rfl rfl) (ite_c ?_ ?_)
  · refine Eq.trans (s_iinc (y := 82) (pc := 38) (nx := 41) (a := 4) (b := 1) (x := x4) (ls' := [(3, 31), (0, x1), (0, x2), (0, x3), (0, (w32 (x4 + 1)))]) rfl rfl rfl) ?_
    refine Eq.trans (s_goto (y := 82) (pc := 41) (nx := 44) (a := 0) (b := 5) (tg := 5) rfl rfl) ?_
    rfl
  · refine Eq.trans (s_load (y := 82) (pc := 27) (nx := 28) (a := 0) (b := 3) (x := x3) rfl rfl) ?_
    refine Eq.trans (s_load (y := 82) (pc := 28) (nx := 29) (a := 0) (b := 2) (x := x2) rfl rfl) ?_
    refine Eq.trans (s_icne (y := 82) (pc := 29) (nx := 32) (b := 35) (tg := 35) rfl rfl) (ite_c ?_ ?_)
    · refine Eq.trans (s_load (y := 82) (pc := 32) (nx := 34) (a := 0) (b := 4) (x := x4) rfl rfl) ?_
      exact s_ret (y := 82) (pc := 34) (nx := 35) (a := 0) rfl (by decide)
    · refine Eq.trans (s_iinc (y := 82) (pc := 35) (nx := 38) (a := 3) (b := 1) (x := x3) (ls' := [(3, 31), (0, x1), (0, x2), (0, (w32 (x3 + 1))), (0, x4)]) rfl rfl rfl) ?_
      refine Eq.trans (s_iinc (y := 82) (pc := 38) (nx := 41) (a := 4) (b := 1) (x := x4) (ls' := [(3, 31), (0, x1), (0, x2), (0, (w32 (x3 + 1))), (0, (w32 (x4 + 1)))]) rfl rfl rfl) ?_
      refine Eq.trans (s_goto (y := 82) (pc := 41) (nx := 44) (a := 0) (b := 5) (tg := 5) rfl rfl) ?_
      rfl
theorem r_83 (D : Mem) : qR 83 [(3, 31)] (mk D) = qE 83 4 [(3, 31), (0, 0), (0, 0), (9, 0)] [] (mk D) := by
  show qE 83 0 [(3, 31), (9, 0), (9, 0), (9, 0)] [] (mk D) = _
  refine Eq.trans (s_push (y := 83) (pc := 0) (nx := 1) (a := 0) (b := 0) rfl) ?_
  refine Eq.trans (s_store (y := 83) (pc := 1) (nx := 2) (a := 0) (b := 1) (ls' := [(3, 31), (0, 0), (9, 0), (9, 0)]) rfl (Nat.le_of_ble_eq_true rfl) rfl) ?_
  refine Eq.trans (s_push (y := 83) (pc := 2) (nx := 3) (a := 0) (b := 0) rfl) ?_
  refine Eq.trans (s_store (y := 83) (pc := 3) (nx := 4) (a := 0) (b := 2) (ls' := [(3, 31), (0, 0), (0, 0), (9, 0)]) rfl (Nat.le_of_ble_eq_true rfl) rfl) ?_
  rfl
theorem e_83_4 (D : Mem) (x1 : Int) (x2 : Int) (v3 : PV) : qE 83 4 [(3, 31), (0, x1), (0, x2), v3] [] (mk D) = ((qR 1 [(3, 5)] (mk D)).bind fun w => qE 83 12 [(3, 31), (0, x1), (0, x2), v3] (psh w.1 [(0, x2)]) w.2) := by
  refine Eq.trans (s_load (y := 83) (pc := 4) (nx := 5) (a := 0) (b := 2) (x := x2) rfl rfl) ?_
  refine Eq.trans (s_load (y := 83) (pc := 5) (nx := 6) (a := 3) (b := 0) (x := 31) rfl rfl) ?_
  refine Eq.trans (s_get (y := 83) (pc := 6) (nx := 9) (a := 6) (b := 0) (t := 3) (v := 5) rfl (mk_k31 _) rfl (mk_31_0 _)) ?_
  exact s_call (y := 83) (pc := 9) (nx := 12) (a := 1) (b := 0) (as := [(3, 5)]) (r := [(0, x2)]) rfl (Nat.le_of_ble_eq_true rfl) rfl rfl (Nat.le_of_ble_eq_true rfl) (Nat.le_of_ble_eq_true rfl) (Or.inr ⟨rfl, mk_k5 _⟩)
theorem e_83_12 (D : Mem) (x1 : Int) (x2 : Int) (v3 : PV) (s0 : Int) (s1 : Int) : qE 83 12 [(3, 31), (0, x1), (0, x2), v3] [(0, s1), (0, s0)] (mk D) = (if s0 < s1 then qE 83 17 [(3, 31), (0, x1), (0, x2), (0, 0)] [] (mk D) else some ((0, x1), (mk D))) := by
  refine Eq.trans (s_icge (y := 83) (pc := 12) (nx := 15) (b := 46) (tg := 46) rfl rfl) (ite_c ?_ ?_)
  · refine Eq.trans (s_push (y := 83) (pc := 15) (nx := 16) (a := 0) (b := 0) rfl) ?_
    refine Eq.trans (s_store (y := 83) (pc := 16) (nx := 17) (a := 0) (b := 3) (ls' := [(3, 31), (0, x1), (0, x2), (0, 0)]) rfl (Nat.le_of_ble_eq_true rfl) rfl) ?_
    rfl
  · refine Eq.trans (s_load (y := 83) (pc := 46) (nx := 47) (a := 0) (b := 1) (x := x1) rfl rfl) ?_
    exact s_ret (y := 83) (pc := 47) (nx := 48) (a := 0) rfl (by decide)
theorem e_83_17 (D : Mem) (x1 : Int) (x2 : Int) (x3 : Int) : qE 83 17 [(3, 31), (0, x1), (0, x2), (0, x3)] [] (mk D) = (if x3 < x2 then ((qR 80 [(3, 31), (0, x3), (0, x2)] (mk D)).bind fun w => qE 83 28 [(3, 31), (0, x1), (0, x2), (0, x3)] (psh w.1 []) w.2) else qE 83 4 [(3, 31), (0, x1), (0, (w32 (x2 + 1))), (0, x3)] [] (mk D)) := by
  refine Eq.trans (s_load (y := 83) (pc := 17) (nx := 18) (a := 0) (b := 3) (x := x3) rfl rfl) ?_
  refine Eq.trans (s_load (y := 83) (pc := 18) (nx := 19) (a := 0) (b := 2) (x := x2) rfl rfl) ?_
  refine Eq.trans (s_icge (y := 83) (pc := 19) (nx := 22) (b := 40) (tg := 40) rfl rfl) (ite_c ?_ ?_)
  · refine Eq.trans (s_load (y := 83) (pc := 22) (nx := 23) (a := 3) (b := 0) (x := 31) rfl rfl) ?_
    refine Eq.trans (s_load (y := 83) (pc := 23) (nx := 24) (a := 0) (b := 3) (x := x3) rfl rfl) ?_
    refine Eq.trans (s_load (y := 83) (pc := 24) (nx := 25) (a := 0) (b := 2) (x := x2) rfl rfl) ?_
    exact s_call (y := 83) (pc := 25) (nx := 28) (a := 80) (b := 0) (as := [(3, 31), (0, x3), (0, x2)]) (r := []) rfl (Nat.le_of_ble_eq_true rfl) rfl rfl (Nat.le_of_ble_eq_true rfl) (Nat.le_of_ble_eq_true rfl) (Or.inr ⟨rfl, mk_k31 _⟩)
  · refine Eq.trans (s_iinc (y := 83) (pc := 40) (nx := 43) (a := 2) (b := 1) (x := x2) (ls' := [(3, 31), (0, x1), (0, (w32 (x2 + 1))), (0, x3)]) rfl rfl rfl) ?_
    refine Eq.trans (s_goto (y := 83) (pc := 43) (nx := 46) (a := 0) (b := 4) (tg := 4) rfl rfl) ?_
    rfl
theorem e_83_28 (D : Mem) (x1 : Int) (x2 : Int) (x3 : Int) (s0 : Int) : qE 83 28 [(3, 31), (0, x1), (0, x2), (0, x3)] [(0, s0)] (mk D) = (if s0 = 0 then qE 83 17 [(3, 31), (0, x1), (0, x2), (0, (w32 (x3 + 1)))] [] (mk D) else qE 83 17 [(3, 31), (0, (w32 (x1 + 1))), (0, x2), (0, (w32 (x3 + 1)))] [] (mk D)) := by
  refine Eq.trans (s_ifeq (y := 83) (pc := 28) (nx := 31) (b := 34) (tg := 34) rfl rfl) (ite_c ?_ ?_)
  · refine Eq.trans (s_iinc (y := 83) (pc := 34) (nx := 37) (a := 3) (b := 1) (x := x3) (ls' := [(3, 31), (0, x1), (0, x2), (0, (w32 (x3 + 1)))]) rfl rfl rfl) ?_
    refine Eq.trans (s_goto (y := 83) (pc := 37) (nx := 40) (a := 0) (b := 17) (tg := 17) rfl rfl) ?_
    rfl
  · refine Eq.trans (s_iinc (y := 83) (pc := 31) (nx := 34) (a := 1) (b := 1) (x := x1) (ls' := [(3, 31), (0, (w32 (x1 + 1))), (0, x2), (0, x3)]) rfl rfl rfl) ?_
    refine Eq.trans (s_iinc (y := 83) (pc := 34) (nx := 37) (a := 3) (b := 1) (x := x3) (ls' := [(3, 31), (0, (w32 (x1 + 1))), (0, x2), (0, (w32 (x3 + 1)))]) rfl rfl rfl) ?_
    refine Eq.trans (s_goto (y := 83) (pc := 37) (nx := 40) (a := 0) (b := 17) (tg := 17) rfl rfl) ?_
    rfl
theorem r_50 (D : Mem) : qR 50 [(3, 39), (3, 102), (3, 31)] (mk D) = ((qR 69 [(3, 31)] (mk D)).bind fun w => qE 50 4 [(3, 39), (3, 102), (3, 31), (9, 0), (9, 0)] (psh w.1 []) w.2) := by
  show qE 50 0 [(3, 39), (3, 102), (3, 31), (9, 0), (9, 0)] [] (mk D) = _
  refine Eq.trans (s_load (y := 50) (pc := 0) (nx := 1) (a := 3) (b := 2) (x := 31) rfl rfl) ?_
  exact s_call (y := 50) (pc := 1) (nx := 4) (a := 69) (b := 0) (as := [(3, 31)]) (r := []) rfl (Nat.le_of_ble_eq_true rfl) rfl rfl (Nat.le_of_ble_eq_true rfl) (Nat.le_of_ble_eq_true rfl) (Or.inr ⟨rfl, mk_k31 _⟩)
theorem e_50_4 (D : Mem) : qE 50 4 [(3, 39), (3, 102), (3, 31), (9, 0), (9, 0)] [] (mk D) = ((qR 218 [(3, 42), (0, 0)] (mk D)).bind fun w => qE 50 12 [(3, 39), (3, 102), (3, 31), (9, 0), (9, 0)] (psh w.1 []) w.2) := by
  refine Eq.trans (s_load (y := 50) (pc := 4) (nx := 5) (a := 3) (b := 0) (x := 39) rfl rfl) ?_
  refine Eq.trans (s_get (y := 50) (pc := 5) (nx := 8) (a := 4) (b := 2) (t := 3) (v := 42) rfl (mk_k39 _) rfl (mk_39_2 _)) ?_
  refine Eq.trans (s_push (y := 50) (pc := 8) (nx := 9) (a := 0) (b := 0) rfl) ?_
  exact s_call (y := 50) (pc := 9) (nx := 12) (a := 218) (b := 0) (as := [(3, 42), (0, 0)]) (r := []) rfl (Nat.le_of_ble_eq_true rfl) rfl rfl (Nat.le_of_ble_eq_true rfl) (Nat.le_of_ble_eq_true rfl) (Or.inl rfl)
theorem e_50_12 (D : Mem) : qE 50 12 [(3, 39), (3, 102), (3, 31), (9, 0), (9, 0)] [] (mk D) = ((qR 55 [(3, 102)] (mk D)).bind fun w => qE 50 16 [(3, 39), (3, 102), (3, 31), (9, 0), (9, 0)] (psh w.1 []) w.2) := by
  refine Eq.trans (s_load (y := 50) (pc := 12) (nx := 13) (a := 3) (b := 1) (x := 102) rfl rfl) ?_
  exact s_call (y := 50) (pc := 13) (nx := 16) (a := 55) (b := 0) (as := [(3, 102)]) (r := []) rfl (Nat.le_of_ble_eq_true rfl) rfl rfl (Nat.le_of_ble_eq_true rfl) (Nat.le_of_ble_eq_true rfl) (Or.inr ⟨rfl, mk_k102 _⟩)
theorem e_50_16 (D : Mem) (s0 : Int) : qE 50 16 [(3, 39), (3, 102), (3, 31), (9, 0), (9, 0)] [(0, s0)] (mk D) = qE 50 19 [(3, 39), (3, 102), (3, 31), (0, (w32 (s0 - 1))), (9, 0)] [] (mk D) := by
  refine Eq.trans (s_push (y := 50) (pc := 16) (nx := 17) (a := 0) (b := 1) rfl) ?_
  refine Eq.trans (s_sub (y := 50) (pc := 17) (nx := 18) (b := 0) rfl) ?_
  refine Eq.trans (s_store (y := 50) (pc := 18) (nx := 19) (a := 0) (b := 3) (ls' := [(3, 39), (3, 102), (3, 31), (0, (w32 (s0 - 1))), (9, 0)]) rfl (Nat.le_of_ble_eq_true rfl) rfl) ?_
  rfl
theorem e_50_19 (D : Mem) (x3 : Int) (v4 : PV) : qE 50 19 [(3, 39), (3, 102), (3, 31), (0, x3), v4] [] (mk D) = (if x3 < 0 then some ((9, 0), (mk D)) else ((qR 58 [(3, 102), (0, (w32 (x3 - 1)))] (mk D)).bind fun w => qE 50 31 [(3, 39), (3, 102), (3, 31), (0, x3), v4] (psh w.1 [(3, 31)]) w.2)) := by
  refine Eq.trans (s_load (y := 50) (pc := 19) (nx := 20) (a := 0) (b := 3) (x := x3) rfl rfl) ?_
  refine Eq.trans (s_iflt (y := 50) (pc := 20) (nx := 23) (b := 89) (tg := 89) rfl rfl) (ite_c ?_ ?_)
  · exact s_retv (y := 50) (pc := 89) (nx := 90) (b := 0) rfl
  · refine Eq.trans (s_load (y := 50) (pc := 23) (nx := 24) (a := 3) (b := 2) (x := 31) rfl rfl) ?_
    refine Eq.trans (s_load (y := 50) (pc := 24) (nx := 25) (a := 3) (b := 1) (x := 102) rfl rfl) ?_
    refine Eq.trans (s_load (y := 50) (pc := 25) (nx := 26) (a := 0) (b := 3) (x := x3) rfl rfl) ?_
    refine Eq.trans (s_push (y := 50) (pc := 26) (nx := 27) (a := 0) (b := 1) rfl) ?_
    refine Eq.trans (s_sub (y := 50) (pc := 27) (nx := 28) (b := 0) rfl) ?_
    exact s_call (y := 50) (pc := 28) (nx := 31) (a := 58) (b := 0) (as := [(3, 102), (0, (w32 (x3 - 1)))]) (r := [(3, 31)]) rfl (Nat.le_of_ble_eq_true rfl) rfl rfl (Nat.le_of_ble_eq_true rfl) (Nat.le_of_ble_eq_true rfl) (Or.inr ⟨rfl, mk_k102 _⟩)
theorem e_50_31 (D : Mem) (x3 : Int) (v4 : PV) (s1 : Int) : qE 50 31 [(3, 39), (3, 102), (3, 31), (0, x3), v4] [(0, s1), (3, 31)] (mk D) = ((qR 70 [(3, 31), (0, s1)] (mk D)).bind fun w => qE 50 34 [(3, 39), (3, 102), (3, 31), (0, x3), v4] (psh w.1 []) w.2) := by
  exact s_call (y := 50) (pc := 31) (nx := 34) (a := 70) (b := 0) (as := [(3, 31), (0, s1)]) (r := []) rfl (Nat.le_of_ble_eq_true rfl) rfl rfl (Nat.le_of_ble_eq_true rfl) (Nat.le_of_ble_eq_true rfl) (Or.inr ⟨rfl, mk_k31 _⟩)
theorem e_50_34 (D : Mem) (x3 : Int) (v4 : PV) : qE 50 34 [(3, 39), (3, 102), (3, 31), (0, x3), v4] [] (mk D) = ((qR 58 [(3, 102), (0, x3)] (mk D)).bind fun w => qE 50 40 [(3, 39), (3, 102), (3, 31), (0, x3), v4] (psh w.1 [(3, 31)]) w.2) := by
  refine Eq.trans (s_load (y := 50) (pc := 34) (nx := 35) (a := 3) (b := 2) (x := 31) rfl rfl) ?_
  refine Eq.trans (s_load (y := 50) (pc := 35) (nx := 36) (a := 3) (b := 1) (x := 102) rfl rfl) ?_
  refine Eq.trans (s_load (y := 50) (pc := 36) (nx := 37) (a := 0) (b := 3) (x := x3) rfl rfl) ?_
  exact s_call (y := 50) (pc := 37) (nx := 40) (a := 58) (b := 0) (as := [(3, 102), (0, x3)]) (r := [(3, 31)]) rfl (Nat.le_of_ble_eq_true rfl) rfl rfl (Nat.le_of_ble_eq_true rfl) (Nat.le_of_ble_eq_true rfl) (Or.inr ⟨rfl, mk_k102 _⟩)
theorem e_50_40 (D : Mem) (x3 : Int) (v4 : PV) (s1 : Int) : qE 50 40 [(3, 39), (3, 102), (3, 31), (0, x3), v4] [(0, s1), (3, 31)] (mk D) = ((qR 78 [(3, 31), (0, s1), (3, 41)] (mk D)).bind fun w => qE 50 47 [(3, 39), (3, 102), (3, 31), (0, x3), v4] (psh w.1 []) w.2) := by
  refine Eq.trans (s_load (y := 50) (pc := 40) (nx := 41) (a := 3) (b := 0) (x := 39) rfl rfl) ?_
  refine Eq.trans (s_get (y := 50) (pc := 41) (nx := 44) (a := 4) (b := 1) (t := 3) (v := 41) rfl (mk_k39 _) rfl (mk_39_1 _)) ?_
  exact s_call (y := 50) (pc := 44) (nx := 47) (a := 78) (b := 0) (as := [(3, 31), (0, s1), (3, 41)]) (r := []) rfl (Nat.le_of_ble_eq_true rfl) rfl rfl (Nat.le_of_ble_eq_true rfl) (Nat.le_of_ble_eq_true rfl) (Or.inr ⟨rfl, mk_k31 _⟩)
theorem e_50_47 (D : Mem) (x3 : Int) (v4 : PV) : qE 50 47 [(3, 39), (3, 102), (3, 31), (0, x3), v4] [] (mk D) = qE 50 61 [(3, 39), (3, 102), (3, 31), (0, x3), v4] [] (mCpy (mk D) 42 0 43 0 4) := by
  refine Eq.trans (s_load (y := 50) (pc := 47) (nx := 48) (a := 3) (b := 0) (x := 39) rfl rfl) ?_
  refine Eq.trans (s_get (y := 50) (pc := 48) (nx := 51) (a := 4) (b := 2) (t := 3) (v := 42) rfl (mk_k39 _) rfl (mk_39_2 _)) ?_
  refine Eq.trans (s_push (y := 50) (pc := 51) (nx := 52) (a := 0) (b := 0) rfl) ?_
  refine Eq.trans (s_load (y := 50) (pc := 52) (nx := 53) (a := 3) (b := 0) (x := 39) rfl rfl) ?_
  refine Eq.trans (s_get (y := 50) (pc := 53) (nx := 56) (a := 4) (b := 3) (t := 3) (v := 43) rfl (mk_k39 _) rfl (mk_39_3 _)) ?_
  refine Eq.trans (s_push (y := 50) (pc := 56) (nx := 57) (a := 0) (b := 0) rfl) ?_
  refine Eq.trans (s_push (y := 50) (pc := 57) (nx := 58) (a := 0) (b := 4) rfl) ?_
  refine Eq.trans (s_cpy (y := 50) (pc := 58) (nx := 61) (a := 0) (b := 0) rfl ⟨by decide, by decide, by decide, mk_k42 _, mk_k43 _, by decide, by decide, by decide, by rw [mk_l42]; decide, by rw [mk_l43]; decide, by decide⟩) ?_
  rfl
theorem e_50_61 (D : Mem) (x3 : Int) (v4 : PV) : qE 50 61 [(3, 39), (3, 102), (3, 31), (0, x3), v4] [] (mk D) = qE 50 64 [(3, 39), (3, 102), (3, 31), (0, x3), (0, 0)] [] (mk D) := by
  refine Eq.trans (s_push (y := 50) (pc := 61) (nx := 62) (a := 0) (b := 0) rfl) ?_
  refine Eq.trans (s_store (y := 50) (pc := 62) (nx := 64) (a := 0) (b := 4) (ls' := [(3, 39), (3, 102), (3, 31), (0, x3), (0, 0)]) rfl (Nat.le_of_ble_eq_true rfl) rfl) ?_
  rfl
theorem e_50_64 (D : Mem) (x3 : Int) (x4 : Int) : qE 50 64 [(3, 39), (3, 102), (3, 31), (0, x3), (0, x4)] [] (mk D) = (if x4 < 4 then ((qR 51 [(3, 39), (0, x3), (0, x4)] (mk D)).bind fun w => qE 50 77 [(3, 39), (3, 102), (3, 31), (0, x3), (0, x4)] (psh w.1 []) w.2) else qE 50 19 [(3, 39), (3, 102), (3, 31), (0, (w32 (x3 + (-1)))), (0, x4)] [] (mk D)) := by
  refine Eq.trans (s_load (y := 50) (pc := 64) (nx := 66) (a := 0) (b := 4) (x := x4) rfl rfl) ?_
  refine Eq.trans (s_push (y := 50) (pc := 66) (nx := 67) (a := 0) (b := 4) rfl) ?_
  refine Eq.trans (s_icge (y := 50) (pc := 67) (nx := 70) (b := 83) (tg := 83) rfl rfl) (ite_c ?_ ?_)
  · refine Eq.trans (s_load (y := 50) (pc := 70) (nx := 71) (a := 3) (b := 0) (x := 39) rfl rfl) ?_
    refine Eq.trans (s_load (y := 50) (pc := 71) (nx := 72) (a := 0) (b := 3) (x := x3) rfl rfl) ?_
    refine Eq.trans (s_load (y := 50) (pc := 72) (nx := 74) (a := 0) (b := 4) (x := x4) rfl rfl) ?_
    exact s_call (y := 50) (pc := 74) (nx := 77) (a := 51) (b := 0) (as := [(3, 39), (0, x3), (0, x4)]) (r := []) rfl (Nat.le_of_ble_eq_true rfl) rfl rfl (Nat.le_of_ble_eq_true rfl) (Nat.le_of_ble_eq_true rfl) (Or.inr ⟨rfl, mk_k39 _⟩)
  · refine Eq.trans (s_iinc (y := 50) (pc := 83) (nx := 86) (a := 3) (b := (-1)) (x := x3) (ls' := [(3, 39), (3, 102), (3, 31), (0, (w32 (x3 + (-1)))), (0, x4)]) rfl rfl rfl) ?_
    refine Eq.trans (s_goto (y := 50) (pc := 86) (nx := 89) (a := 0) (b := 19) (tg := 19) rfl rfl) ?_
    rfl
theorem e_50_77 (D : Mem) (x3 : Int) (x4 : Int) : qE 50 77 [(3, 39), (3, 102), (3, 31), (0, x3), (0, x4)] [] (mk D) = qE 50 64 [(3, 39), (3, 102), (3, 31), (0, x3), (0, (w32 (x4 + 1)))] [] (mk D) := by
  refine Eq.trans (s_iinc (y := 50) (pc := 77) (nx := 80) (a := 4) (b := 1) (x := x4) (ls' := [(3, 39), (3, 102), (3, 31), (0, x3), (0, (w32 (x4 + 1)))]) rfl rfl rfl) ?_
  refine Eq.trans (s_goto (y := 50) (pc := 80) (nx := 83) (a := 0) (b := 64) (tg := 64) rfl rfl) ?_
  rfl
theorem r_51 (D : Mem) (x1 : Int) (x2 : Int) : qR 51 [(3, 39), (0, x1), (0, x2)] (mk D) = (if (w32 ((w32 (x1 * 4)) + x2)) < 0 then some ((9, 0), (mk D)) else (if (w32 ((w32 (x1 * 4)) + x2)) < 240 then (if x2 < 0 then some ((9, 0), (mk D)) else (if x2 < 4 then qE 51 36 [(3, 39), (0, x1), (0, x2), (0, (w32 ((w32 (x1 * 4)) + x2))), (0, 2147483647), (0, 0), (9, 0)] [] (mk D) else some ((9, 0), (mk D)))) else some ((9, 0), (mk D)))) := by
  show qE 51 0 [(3, 39), (0, x1), (0, x2), (9, 0), (9, 0), (9, 0), (9, 0)] [] (mk D) = _
  refine Eq.trans (s_load (y := 51) (pc := 0) (nx := 1) (a := 0) (b := 1) (x := x1) rfl rfl) ?_
  refine Eq.trans (s_push (y := 51) (pc := 1) (nx := 2) (a := 0) (b := 4) rfl) ?_
  refine Eq.trans (s_mul (y := 51) (pc := 2) (nx := 3) (b := 0) rfl) ?_
  refine Eq.trans (s_load (y := 51) (pc := 3) (nx := 4) (a := 0) (b := 2) (x := x2) rfl rfl) ?_
  refine Eq.trans (s_add (y := 51) (pc := 4) (nx := 5) (b := 0) rfl) ?_
  refine Eq.trans (s_store (y := 51) (pc := 5) (nx := 6) (a := 0) (b := 3) (ls' := [(3, 39), (0, x1), (0, x2), (0, (w32 ((w32 (x1 * 4)) + x2))), (9, 0), (9, 0), (9, 0)]) rfl (Nat.le_of_ble_eq_true rfl) rfl) ?_
  refine Eq.trans (s_load (y := 51) (pc := 6) (nx := 7) (a := 0) (b := 3) (x := (w32 ((w32 (x1 * 4)) + x2))) rfl rfl) ?_
  refine Eq.trans (s_iflt (y := 51) (pc := 7) (nx := 10) (b := 28) (tg := 28) rfl rfl) (ite_c ?_ ?_)
  · exact s_retv (y := 51) (pc := 28) (nx := 29) (b := 0) rfl
  · refine Eq.trans (s_load (y := 51) (pc := 10) (nx := 11) (a := 0) (b := 3) (x := (w32 ((w32 (x1 * 4)) + x2))) rfl rfl) ?_
    refine Eq.trans (s_load (y := 51) (pc := 11) (nx := 12) (a := 3) (b := 0) (x := 39) rfl rfl) ?_
    refine Eq.trans (s_get (y := 51) (pc := 12) (nx := 15) (a := 4) (b := 0) (t := 3) (v := 40) rfl (mk_k39 _) rfl (mk_39_0 _)) ?_
    refine Eq.trans (s_len (y := 51) (pc := 15) (nx := 16) (a := 0) (b := 0) (k := 1) (n := 240) rfl (mk_k40 _) (by decide) (mk_l40 _)) ?_
    refine Eq.trans (s_icge (y := 51) (pc := 16) (nx := 19) (b := 28) (tg := 28) rfl rfl) (ite_c ?_ ?_)
    · refine Eq.trans (s_load (y := 51) (pc := 19) (nx := 20) (a := 0) (b := 2) (x := x2) rfl rfl) ?_
      refine Eq.trans (s_iflt (y := 51) (pc := 20) (nx := 23) (b := 28) (tg := 28) rfl rfl) (ite_c ?_ ?_)
      · exact s_retv (y := 51) (pc := 28) (nx := 29) (b := 0) rfl
      · refine Eq.trans (s_load (y := 51) (pc := 23) (nx := 24) (a := 0) (b := 2) (x := x2) rfl rfl) ?_
        refine Eq.trans (s_push (y := 51) (pc := 24) (nx := 25) (a := 0) (b := 4) rfl) ?_
        refine Eq.trans (s_iclt (y := 51) (pc := 25) (nx := 28) (b := 29) (tg := 29) rfl rfl) (ite_c ?_ ?_)
        · refine Eq.trans (s_push (y := 51) (pc := 29) (nx := 31) (a := 0) (b := 2147483647) rfl) ?_
          refine Eq.trans (s_store (y := 51) (pc := 31) (nx := 33) (a := 0) (b := 4) (ls' := [(3, 39), (0, x1), (0, x2), (0, (w32 ((w32 (x1 * 4)) + x2))), (0, 2147483647), (9, 0), (9, 0)]) rfl (Nat.le_of_ble_eq_true rfl) rfl) ?_
          refine Eq.trans (s_push (y := 51) (pc := 33) (nx := 34) (a := 0) (b := 0) rfl) ?_
          refine Eq.trans (s_store (y := 51) (pc := 34) (nx := 36) (a := 0) (b := 5) (ls' := [(3, 39), (0, x1), (0, x2), (0, (w32 ((w32 (x1 * 4)) + x2))), (0, 2147483647), (0, 0), (9, 0)]) rfl (Nat.le_of_ble_eq_true rfl) rfl) ?_
          rfl
        · exact s_retv (y := 51) (pc := 28) (nx := 29) (b := 0) rfl
    · exact s_retv (y := 51) (pc := 28) (nx := 29) (b := 0) rfl
theorem e_51_36 (D : Mem) (x1 : Int) (x2 : Int) (x3 : Int) (x4 : Int) (x5 : Int) (v6 : PV) : qE 51 36 [(3, 39), (0, x1), (0, x2), (0, x3), (0, x4), (0, x5), v6] [] (mk D) = (if x5 < 4 then (if 0 ≤ x5 ∧ x5 < 4 then (if x5 = x2 then qE 51 60 [(3, 39), (0, x1), (0, x2), (0, x3), (0, x4), (0, x5), v6] [(0, 0), (0, (D 41 x5))] (mk D) else qE 51 60 [(3, 39), (0, x1), (0, x2), (0, x3), (0, x4), (0, x5), v6] [(0, 1), (0, (D 41 x5))] (mk D)) else none) else (if 0 ≤ x2 ∧ x2 < 4 then some ((9, 0), (mk (mU D 42 x2 x4))) else none)) := by
  refine Eq.trans (s_load (y := 51) (pc := 36) (nx := 38) (a := 0) (b := 5) (x := x5) rfl rfl) ?_
  refine Eq.trans (s_push (y := 51) (pc := 38) (nx := 39) (a := 0) (b := 4) rfl) ?_
  refine Eq.trans (s_icge (y := 51) (pc := 39) (nx := 42) (b := 96) (tg := 96) rfl rfl) (ite_c ?_ ?_)
  · refine Eq.trans (s_load (y := 51) (pc := 42) (nx := 43) (a := 3) (b := 0) (x := 39) rfl rfl) ?_
    refine Eq.trans (s_get (y := 51) (pc := 43) (nx := 46) (a := 4) (b := 1) (t := 3) (v := 41) rfl (mk_k39 _) rfl (mk_39_1 _)) ?_
    refine Eq.trans (s_load (y := 51) (pc := 46) (nx := 48) (a := 0) (b := 5) (x := x5) rfl rfl) ?_
    refine Eq.trans (s_ald (y := 51) (pc := 48) (nx := 49) (a := 1) (b := 0) (k := 1) (n := 4) (t := 0) (v := (D 41 x5)) rfl (mk_k41 _) rfl rfl (mk_l41 _) (mk_c41 _ _)) (ite_c ?_ rfl)
    refine Eq.trans (s_load (y := 51) (pc := 49) (nx := 51) (a := 0) (b := 5) (x := x5) rfl rfl) ?_
    refine Eq.trans (s_load (y := 51) (pc := 51) (nx := 52) (a := 0) (b := 2) (x := x2) rfl rfl) ?_
    refine Eq.trans (s_icne (y := 51) (pc := 52) (nx := 55) (b := 59) (tg := 59) rfl rfl) (ite_c ?_ ?_)
    · refine Eq.trans (s_push (y := 51) (pc := 55) (nx := 56) (a := 0) (b := 0) rfl) ?_
      refine Eq.trans (s_goto (y := 51) (pc := 56) (nx := 59) (a := 0) (b := 60) (tg := 60) rfl rfl) ?_
      rfl
    · refine Eq.trans (s_push (y := 51) (pc := 59) (nx := 60) (a := 0) (b := 1) rfl) ?_
      rfl
  · refine Eq.trans (s_load (y := 51) (pc := 96) (nx := 97) (a := 3) (b := 0) (x := 39) rfl rfl) ?_
    refine Eq.trans (s_get (y := 51) (pc := 97) (nx := 100) (a := 4) (b := 2) (t := 3) (v := 42) rfl (mk_k39 _) rfl (mk_39_2 _)) ?_
    refine Eq.trans (s_load (y := 51) (pc := 100) (nx := 101) (a := 0) (b := 2) (x := x2) rfl rfl) ?_
    refine Eq.trans (s_load (y := 51) (pc := 101) (nx := 103) (a := 0) (b := 4) (x := x4) rfl rfl) ?_
    refine Eq.trans (s_ast (y := 51) (pc := 103) (nx := 104) (a := 1) (b := 0) (k := 1) (n := 4) (t := 0) (v := x4) (μ' := mk (mU D 42 x2 x4)) rfl (by decide) (mk_k42 _) rfl (mk_l42 _) (mu_42 _ _ _)) (ite_c ?_ rfl)
    exact s_retv (y := 51) (pc := 104) (nx := 105) (b := 0) rfl
theorem e_51_60 (D : Mem) (x1 : Int) (x2 : Int) (x3 : Int) (x4 : Int) (x5 : Int) (v6 : PV) (s0 : Int) (s1 : Int) : qE 51 60 [(3, 39), (0, x1), (0, x2), (0, x3), (0, x4), (0, x5), v6] [(0, s1), (0, s0)] (mk D) = (if 0 ≤ x5 ∧ x5 < 4 then (if (w32 ((w32 (s0 + s1)) + (D 43 x5))) < x4 then (if 0 ≤ x3 ∧ x3 < 240 then qE 51 36 [(3, 39), (0, x1), (0, x2), (0, x3), (0, (w32 ((w32 (s0 + s1)) + (D 43 x5)))), (0, (w32 (x5 + 1))), (0, (w32 ((w32 (s0 + s1)) + (D 43 x5))))] [] (mk (mU D 40 x3 x5)) else none) else qE 51 36 [(3, 39), (0, x1), (0, x2), (0, x3), (0, x4), (0, (w32 (x5 + 1))), (0, (w32 ((w32 (s0 + s1)) + (D 43 x5))))] [] (mk D)) else none) := by
  refine Eq.trans (s_add (y := 51) (pc := 60) (nx := 61) (b := 0) rfl) ?_
  refine Eq.trans (s_load (y := 51) (pc := 61) (nx := 62) (a := 3) (b := 0) (x := 39) rfl rfl) ?_
  refine Eq.trans (s_get (y := 51) (pc := 62) (nx := 65) (a := 4) (b := 3) (t := 3) (v := 43) rfl (mk_k39 _) rfl (mk_39_3 _)) ?_
  refine Eq.trans (s_load (y := 51) (pc := 65) (nx := 67) (a := 0) (b := 5) (x := x5) rfl rfl) ?_
  refine Eq.trans (s_ald (y := 51) (pc := 67) (nx := 68) (a := 1) (b := 0) (k := 1) (n := 4) (t := 0) (v := (D 43 x5)) rfl (mk_k43 _) rfl rfl (mk_l43 _) (mk_c43 _ _)) (ite_c ?_ rfl)
  refine Eq.trans (s_add (y := 51) (pc := 68) (nx := 69) (b := 0) rfl) ?_
  refine Eq.trans (s_store (y := 51) (pc := 69) (nx := 71) (a := 0) (b := 6) (ls' := [(3, 39), (0, x1), (0, x2), (0, x3), (0, x4), (0, x5), (0, (w32 ((w32 (s0 + s1)) + (D 43 x5))))]) rfl (Nat.le_of_ble_eq_true rfl) rfl) ?_
  refine Eq.trans (s_load (y := 51) (pc := 71) (nx := 73) (a := 0) (b := 6) (x := (w32 ((w32 (s0 + s1)) + (D 43 x5)))) rfl rfl) ?_
  refine Eq.trans (s_load (y := 51) (pc := 73) (nx := 75) (a := 0) (b := 4) (x := x4) rfl rfl) ?_
  refine Eq.trans (s_icge (y := 51) (pc := 75) (nx := 78) (b := 90) (tg := 90) rfl rfl) (ite_c ?_ ?_)
  · refine Eq.trans (s_load (y := 51) (pc := 78) (nx := 80) (a := 0) (b := 6) (x := (w32 ((w32 (s0 + s1)) + (D 43 x5)))) rfl rfl) ?_
    refine Eq.trans (s_store (y := 51) (pc := 80) (nx := 82) (a := 0) (b := 4) (ls' := [(3, 39), (0, x1), (0, x2), (0, x3), (0, (w32 ((w32 (s0 + s1)) + (D 43 x5)))), (0, x5), (0, (w32 ((w32 (s0 + s1)) + (D 43 x5))))]) rfl (Nat.le_of_ble_eq_true rfl) rfl) ?_
    refine Eq.trans (s_load (y := 51) (pc := 82) (nx := 83) (a := 3) (b := 0) (x := 39) rfl rfl) ?_
    refine Eq.trans (s_get (y := 51) (pc := 83) (nx := 86) (a := 4) (b := 0) (t := 3) (v := 40) rfl (mk_k39 _) rfl (mk_39_0 _)) ?_
    refine Eq.trans (s_load (y := 51) (pc := 86) (nx := 87) (a := 0) (b := 3) (x := x3) rfl rfl) ?_
    refine Eq.trans (s_load (y := 51) (pc := 87) (nx := 89) (a := 0) (b := 5) (x := x5) rfl rfl) ?_
    refine Eq.trans (s_ast (y := 51) (pc := 89) (nx := 90) (a := 1) (b := 0) (k := 1) (n := 240) (t := 0) (v := x5) (μ' := mk (mU D 40 x3 x5)) rfl (by decide) (mk_k40 _) rfl (mk_l40 _) (mu_40 _ _ _)) (ite_c ?_ rfl)
    refine Eq.trans (s_iinc (y := 51) (pc := 90) (nx := 93) (a := 5) (b := 1) (x := x5) (ls' := [(3, 39), (0, x1), (0, x2), (0, x3), (0, (w32 ((w32 (s0 + s1)) + (D 43 x5)))), (0, (w32 (x5 + 1))), (0, (w32 ((w32 (s0 + s1)) + (D 43 x5))))]) rfl rfl rfl) ?_
    refine Eq.trans (s_goto (y := 51) (pc := 93) (nx := 96) (a := 0) (b := 36) (tg := 36) rfl rfl) ?_
    rfl
  · refine Eq.trans (s_iinc (y := 51) (pc := 90) (nx := 93) (a := 5) (b := 1) (x := x5) (ls' := [(3, 39), (0, x1), (0, x2), (0, x3), (0, x4), (0, (w32 (x5 + 1))), (0, (w32 ((w32 (s0 + s1)) + (D 43 x5))))]) rfl rfl rfl) ?_
    refine Eq.trans (s_goto (y := 51) (pc := 93) (nx := 96) (a := 0) (b := 36) (tg := 36) rfl rfl) ?_
    rfl
theorem r_52 (D : Mem) : qR 52 [(3, 39)] (mk D) = (if 0 ≤ (0 : Int) ∧ (0 : Int) < 4 then some ((0, (D 42 (0 : Int))), (mk D)) else none) := by
  show qE 52 0 [(3, 39)] [] (mk D) = _
  refine Eq.trans (s_load (y := 52) (pc := 0) (nx := 1) (a := 3) (b := 0) (x := 39) rfl rfl) ?_
  refine Eq.trans (s_get (y := 52) (pc := 1) (nx := 4) (a := 4) (b := 2) (t := 3) (v := 42) rfl (mk_k39 _) rfl (mk_39_2 _)) ?_
  refine Eq.trans (s_push (y := 52) (pc := 4) (nx := 5) (a := 0) (b := 0) rfl) ?_
  refine Eq.trans (s_ald (y := 52) (pc := 5) (nx := 6) (a := 1) (b := 0) (k := 1) (n := 4) (t := 0) (v := (D 42 (0 : Int))) rfl (mk_k42 _) rfl rfl (mk_l42 _) (mk_c42 _ _)) (ite_c ?_ rfl)
  exact s_ret (y := 52) (pc := 6) (nx := 7) (a := 0) rfl (by decide)
theorem r_53 (D : Mem) (x1 : Int) : qR 53 [(3, 39), (0, x1)] (mk D) = qE 53 4 [(3, 39), (0, x1), (0, 0), (0, 0)] [] (mk D) := by
  show qE 53 0 [(3, 39), (0, x1), (9, 0), (9, 0)] [] (mk D) = _
  refine Eq.trans (s_push (y := 53) (pc := 0) (nx := 1) (a := 0) (b := 0) rfl) ?_
  refine Eq.trans (s_store (y := 53) (pc := 1) (nx := 2) (a := 0) (b := 2) (ls' := [(3, 39), (0, x1), (0, 0), (9, 0)]) rfl (Nat.le_of_ble_eq_true rfl) rfl) ?_
  refine Eq.trans (s_push (y := 53) (pc := 2) (nx := 3) (a := 0) (b := 0) rfl) ?_
  refine Eq.trans (s_store (y := 53) (pc := 3) (nx := 4) (a := 0) (b := 3) (ls' := [(3, 39), (0, x1), (0, 0), (0, 0)]) rfl (Nat.le_of_ble_eq_true rfl) rfl) ?_
  rfl
theorem e_53_4 (D : Mem) (x1 : Int) (x2 : Int) (x3 : Int) : qE 53 4 [(3, 39), (0, x1), (0, x2), (0, x3)] [] (mk D) = (if x3 ≤ x1 then (if x3 < 60 then (if 0 ≤ (w32 ((w32 (x3 * 4)) + x2)) ∧ (w32 ((w32 (x3 * 4)) + x2)) < 240 then qE 53 4 [(3, 39), (0, x1), (0, (D 40 (w32 ((w32 (x3 * 4)) + x2)))), (0, (w32 (x3 + 1)))] [] (mk D) else none) else some ((0, x2), (mk D))) else some ((0, x2), (mk D))) := by
  refine Eq.trans (s_load (y := 53) (pc := 4) (nx := 5) (a := 0) (b := 3) (x := x3) rfl rfl) ?_
  refine Eq.trans (s_load (y := 53) (pc := 5) (nx := 6) (a := 0) (b := 1) (x := x1) rfl rfl) ?_
  refine Eq.trans (s_icgt (y := 53) (pc := 6) (nx := 9) (b := 32) (tg := 32) rfl rfl) (ite_c ?_ ?_)
  · refine Eq.trans (s_load (y := 53) (pc := 9) (nx := 10) (a := 0) (b := 3) (x := x3) rfl rfl) ?_
    refine Eq.trans (s_push (y := 53) (pc := 10) (nx := 12) (a := 0) (b := 60) rfl) ?_
    refine Eq.trans (s_icge (y := 53) (pc := 12) (nx := 15) (b := 32) (tg := 32) rfl rfl) (ite_c ?_ ?_)
    · refine Eq.trans (s_load (y := 53) (pc := 15) (nx := 16) (a := 3) (b := 0) (x := 39) rfl rfl) ?_
      refine Eq.trans (s_get (y := 53) (pc := 16) (nx := 19) (a := 4) (b := 0) (t := 3) (v := 40) rfl (mk_k39 _) rfl (mk_39_0 _)) ?_
      refine Eq.trans (s_load (y := 53) (pc := 19) (nx := 20) (a := 0) (b := 3) (x := x3) rfl rfl) ?_
      refine Eq.trans (s_push (y := 53) (pc := 20) (nx := 21) (a := 0) (b := 4) rfl) ?_
      refine Eq.trans (s_mul (y := 53) (pc := 21) (nx := 22) (b := 0) rfl) ?_
      refine Eq.trans (s_load (y := 53) (pc := 22) (nx := 23) (a := 0) (b := 2) (x := x2) rfl rfl) ?_
      refine Eq.trans (s_add (y := 53) (pc := 23) (nx := 24) (b := 0) rfl) ?_
      refine Eq.trans (s_ald (y := 53) (pc := 24) (nx := 25) (a := 1) (b := 0) (k := 1) (n := 240) (t := 0) (v := (D 40 (w32 ((w32 (x3 * 4)) + x2)))) rfl (mk_k40 _) rfl rfl (mk_l40 _) (mk_c40 _ _)) (ite_c ?_ rfl)
      refine Eq.trans (s_store (y := 53) (pc := 25) (nx := 26) (a := 0) (b := 2) (ls' := [(3, 39), (0, x1), (0, (D 40 (w32 ((w32 (x3 * 4)) + x2)))), (0, x3)]) rfl (Nat.le_of_ble_eq_true rfl) rfl) ?_
      refine Eq.trans (s_iinc (y := 53) (pc := 26) (nx := 29) (a := 3) (b := 1) (x := x3) (ls' := [(3, 39), (0, x1), (0, (D 40 (w32 ((w32 (x3 * 4)) + x2)))), (0, (w32 (x3 + 1)))]) rfl rfl rfl) ?_
      refine Eq.trans (s_goto (y := 53) (pc := 29) (nx := 32) (a := 0) (b := 4) (tg := 4) rfl rfl) ?_
      rfl
    · refine Eq.trans (s_load (y := 53) (pc := 32) (nx := 33) (a := 0) (b := 2) (x := x2) rfl rfl) ?_
      exact s_ret (y := 53) (pc := 33) (nx := 34) (a := 0) rfl (by decide)
  · refine Eq.trans (s_load (y := 53) (pc := 32) (nx := 33) (a := 0) (b := 2) (x := x2) rfl rfl) ?_
    exact s_ret (y := 53) (pc := 33) (nx := 34) (a := 0) rfl (by decide)
theorem r_85 (D : Mem) : qR 85 [(3, 44), (3, 102), (3, 5)] (mk D) = ((qR 218 [(3, 45), (0, 0)] (mk (mU D 44 2 0))).bind fun w => qE 85 13 [(3, 44), (3, 102), (3, 5), (9, 0), (9, 0)] (psh w.1 []) w.2) := by
  show qE 85 0 [(3, 44), (3, 102), (3, 5), (9, 0), (9, 0)] [] (mk D) = _
  refine Eq.trans (s_load (y := 85) (pc := 0) (nx := 1) (a := 3) (b := 0) (x := 44) rfl rfl) ?_
  refine Eq.trans (s_push (y := 85) (pc := 1) (nx := 2) (a := 0) (b := 0) rfl) ?_
  refine Eq.trans (s_put (y := 85) (pc := 2) (nx := 5) (a := 7) (b := 2) (t := 0) (v := 0) (μ' := mk (mU D 44 2 0)) rfl (mk_k44 _) rfl (mu_44_2 _ _)) ?_
  refine Eq.trans (s_load (y := 85) (pc := 5) (nx := 6) (a := 3) (b := 0) (x := 44) rfl rfl) ?_
  refine Eq.trans (s_get (y := 85) (pc := 6) (nx := 9) (a := 7) (b := 0) (t := 3) (v := 45) rfl (mk_k44 _) rfl (mk_44_0 _)) ?_
  refine Eq.trans (s_push (y := 85) (pc := 9) (nx := 10) (a := 0) (b := 0) rfl) ?_
  exact s_call (y := 85) (pc := 10) (nx := 13) (a := 218) (b := 0) (as := [(3, 45), (0, 0)]) (r := []) rfl (Nat.le_of_ble_eq_true rfl) rfl rfl (Nat.le_of_ble_eq_true rfl) (Nat.le_of_ble_eq_true rfl) (Or.inl rfl)
theorem e_85_13 (D : Mem) : qE 85 13 [(3, 44), (3, 102), (3, 5), (9, 0), (9, 0)] [] (mk D) = qE 85 15 [(3, 44), (3, 102), (3, 5), (0, 0), (9, 0)] [] (mk D) := by
  refine Eq.trans (s_push (y := 85) (pc := 13) (nx := 14) (a := 0) (b := 0) rfl) ?_
  refine Eq.trans (s_store (y := 85) (pc := 14) (nx := 15) (a := 0) (b := 3) (ls' := [(3, 44), (3, 102), (3, 5), (0, 0), (9, 0)]) rfl (Nat.le_of_ble_eq_true rfl) rfl) ?_
  rfl
theorem e_85_15 (D : Mem) (x3 : Int) : qE 85 15 [(3, 44), (3, 102), (3, 5), (0, x3), (9, 0)] [] (mk D) = (if x3 < 26 then (if 0 ≤ x3 ∧ x3 < 26 then ((qR 218 [(3, (mk D 46 x3)), (0, 0)] (mk D)).bind fun w => qE 85 31 [(3, 44), (3, 102), (3, 5), (0, x3), (9, 0)] (psh w.1 []) w.2) else none) else qE 85 39 [(3, 44), (3, 102), (3, 5), (0, 0), (9, 0)] [] (mk D)) := by
  refine Eq.trans (s_load (y := 85) (pc := 15) (nx := 16) (a := 0) (b := 3) (x := x3) rfl rfl) ?_
  refine Eq.trans (s_push (y := 85) (pc := 16) (nx := 18) (a := 0) (b := 26) rfl) ?_
  refine Eq.trans (s_icge (y := 85) (pc := 18) (nx := 21) (b := 37) (tg := 37) rfl rfl) (ite_c ?_ ?_)
  · refine Eq.trans (s_load (y := 85) (pc := 21) (nx := 22) (a := 3) (b := 0) (x := 44) rfl rfl) ?_
    refine Eq.trans (s_get (y := 85) (pc := 22) (nx := 25) (a := 7) (b := 1) (t := 3) (v := 46) rfl (mk_k44 _) rfl (mk_44_1 _)) ?_
    refine Eq.trans (s_load (y := 85) (pc := 25) (nx := 26) (a := 0) (b := 3) (x := x3) rfl rfl) ?_
    refine Eq.trans (s_ald (y := 85) (pc := 26) (nx := 27) (a := 3) (b := 0) (k := 5) (n := 26) (t := 3) (v := (mk D 46 x3)) rfl (mk_k46 _) rfl rfl (mk_l46 _) rfl) (ite_c ?_ rfl)
    refine Eq.trans (s_push (y := 85) (pc := 27) (nx := 28) (a := 0) (b := 0) rfl) ?_
    exact s_call (y := 85) (pc := 28) (nx := 31) (a := 218) (b := 0) (as := [(3, (mk D 46 x3)), (0, 0)]) (r := []) rfl (Nat.le_of_ble_eq_true rfl) rfl rfl (Nat.le_of_ble_eq_true rfl) (Nat.le_of_ble_eq_true rfl) (Or.inl rfl)
  · refine Eq.trans (s_push (y := 85) (pc := 37) (nx := 38) (a := 0) (b := 0) rfl) ?_
    refine Eq.trans (s_store (y := 85) (pc := 38) (nx := 39) (a := 0) (b := 3) (ls' := [(3, 44), (3, 102), (3, 5), (0, 0), (9, 0)]) rfl (Nat.le_of_ble_eq_true rfl) rfl) ?_
    rfl
theorem e_85_31 (D : Mem) (x3 : Int) : qE 85 31 [(3, 44), (3, 102), (3, 5), (0, x3), (9, 0)] [] (mk D) = qE 85 15 [(3, 44), (3, 102), (3, 5), (0, (w32 (x3 + 1))), (9, 0)] [] (mk D) := by
  refine Eq.trans (s_iinc (y := 85) (pc := 31) (nx := 34) (a := 3) (b := 1) (x := x3) (ls' := [(3, 44), (3, 102), (3, 5), (0, (w32 (x3 + 1))), (9, 0)]) rfl rfl rfl) ?_
  refine Eq.trans (s_goto (y := 85) (pc := 34) (nx := 37) (a := 0) (b := 15) (tg := 15) rfl rfl) ?_
  rfl
theorem e_85_39 (D : Mem) (x3 : Int) (v4 : PV) : qE 85 39 [(3, 44), (3, 102), (3, 5), (0, x3), v4] [] (mk D) = ((qR 55 [(3, 102)] (mk D)).bind fun w => qE 85 44 [(3, 44), (3, 102), (3, 5), (0, x3), v4] (psh w.1 [(0, x3)]) w.2) := by
  refine Eq.trans (s_load (y := 85) (pc := 39) (nx := 40) (a := 0) (b := 3) (x := x3) rfl rfl) ?_
  refine Eq.trans (s_load (y := 85) (pc := 40) (nx := 41) (a := 3) (b := 1) (x := 102) rfl rfl) ?_
  exact s_call (y := 85) (pc := 41) (nx := 44) (a := 55) (b := 0) (as := [(3, 102)]) (r := [(0, x3)]) rfl (Nat.le_of_ble_eq_true rfl) rfl rfl (Nat.le_of_ble_eq_true rfl) (Nat.le_of_ble_eq_true rfl) (Or.inr ⟨rfl, mk_k102 _⟩)
theorem e_85_44 (D : Mem) (x3 : Int) (v4 : PV) (s0 : Int) (s1 : Int) : qE 85 44 [(3, 44), (3, 102), (3, 5), (0, x3), v4] [(0, s1), (0, s0)] (mk D) = (if s0 < s1 then ((qR 58 [(3, 102), (0, x3)] (mk D)).bind fun w => qE 85 53 [(3, 44), (3, 102), (3, 5), (0, x3), v4] (psh w.1 [(3, 5)]) w.2) else some ((9, 0), (mk D))) := by
  refine Eq.trans (s_icge (y := 85) (pc := 44) (nx := 47) (b := 96) (tg := 96) rfl rfl) (ite_c ?_ ?_)
  · refine Eq.trans (s_load (y := 85) (pc := 47) (nx := 48) (a := 3) (b := 2) (x := 5) rfl rfl) ?_
    refine Eq.trans (s_load (y := 85) (pc := 48) (nx := 49) (a := 3) (b := 1) (x := 102) rfl rfl) ?_
    refine Eq.trans (s_load (y := 85) (pc := 49) (nx := 50) (a := 0) (b := 3) (x := x3) rfl rfl) ?_
    exact s_call (y := 85) (pc := 50) (nx := 53) (a := 58) (b := 0) (as := [(3, 102), (0, x3)]) (r := [(3, 5)]) rfl (Nat.le_of_ble_eq_true rfl) rfl rfl (Nat.le_of_ble_eq_true rfl) (Nat.le_of_ble_eq_true rfl) (Or.inr ⟨rfl, mk_k102 _⟩)
  · exact s_retv (y := 85) (pc := 96) (nx := 97) (b := 0) rfl
theorem e_85_53 (D : Mem) (x3 : Int) (v4 : PV) (s1 : Int) : qE 85 53 [(3, 44), (3, 102), (3, 5), (0, x3), v4] [(0, s1), (3, 5)] (mk D) = ((qR 7 [(3, 5), (0, s1)] (mk D)).bind fun w => qE 85 56 [(3, 44), (3, 102), (3, 5), (0, x3), v4] (psh w.1 []) w.2) := by
  exact s_call (y := 85) (pc := 53) (nx := 56) (a := 7) (b := 0) (as := [(3, 5), (0, s1)]) (r := []) rfl (Nat.le_of_ble_eq_true rfl) rfl rfl (Nat.le_of_ble_eq_true rfl) (Nat.le_of_ble_eq_true rfl) (Or.inr ⟨rfl, mk_k5 _⟩)
theorem e_85_56 (D : Mem) (x3 : Int) (v4 : PV) (s0 : Int) : qE 85 56 [(3, 44), (3, 102), (3, 5), (0, x3), v4] [(3, s0)] (mk D) = (if s0 = 0 then qE 85 90 [(3, 44), (3, 102), (3, 5), (0, x3), (3, s0)] [] (mk D) else (if (mk D) (-s0) 0 = 18 then (if ((mk D) s0 3) = 0 then qE 85 90 [(3, 44), (3, 102), (3, 5), (0, x3), (3, s0)] [] (mk D) else (if (mk (mU D 44 2 (w32 ((D 44 2) + 1)))) (-s0) 0 = 18 then ((qR 86 [(3, 44), (3, ((mk (mU D 44 2 (w32 ((D 44 2) + 1)))) s0 0))] (mk (mU D 44 2 (w32 ((D 44 2) + 1))))).bind fun w => qE 85 90 [(3, 44), (3, 102), (3, 5), (0, x3), (3, s0)] (psh w.1 []) w.2) else none)) else none)) := by
  refine Eq.trans (s_store (y := 85) (pc := 56) (nx := 58) (a := 3) (b := 4) (ls' := [(3, 44), (3, 102), (3, 5), (0, x3), (3, s0)]) rfl (Nat.le_of_ble_eq_true rfl) rfl) ?_
  refine Eq.trans (s_load (y := 85) (pc := 58) (nx := 60) (a := 3) (b := 4) (x := s0) rfl rfl) ?_
  refine Eq.trans (s_null (y := 85) (pc := 60) (nx := 63) (b := 90) (tg := 90) rfl rfl) (ite_c ?_ ?_)
  · rfl
  · refine Eq.trans (s_load (y := 85) (pc := 63) (nx := 65) (a := 3) (b := 4) (x := s0) rfl rfl) ?_
    refine Eq.trans (s_getq (y := 85) (pc := 65) (nx := 68) (a := 8) (b := 3) (t := 0) (k := 18) rfl rfl rfl) (ite_c ?_ rfl)
    refine Eq.trans (s_ifeq (y := 85) (pc := 68) (nx := 71) (b := 90) (tg := 90) rfl rfl) (ite_c ?_ ?_)
    · rfl
    · refine Eq.trans (s_load (y := 85) (pc := 71) (nx := 72) (a := 3) (b := 0) (x := 44) rfl rfl) ?_
      refine Eq.trans (s_dup (y := 85) (pc := 72) (nx := 73) (a := 0) (b := 0) rfl (by decide)) ?_
      refine Eq.trans (s_get (y := 85) (pc := 73) (nx := 76) (a := 7) (b := 2) (t := 0) (v := (D 44 2)) rfl (mk_k44 _) rfl (mk_44_2 _)) ?_
      refine Eq.trans (s_push (y := 85) (pc := 76) (nx := 77) (a := 0) (b := 1) rfl) ?_
      refine Eq.trans (s_add (y := 85) (pc := 77) (nx := 78) (b := 0) rfl) ?_
      refine Eq.trans (s_put (y := 85) (pc := 78) (nx := 81) (a := 7) (b := 2) (t := 0) (v := (w32 ((D 44 2) + 1))) (μ' := mk (mU D 44 2 (w32 ((D 44 2) + 1)))) rfl (mk_k44 _) rfl (mu_44_2 _ _)) ?_
      refine Eq.trans (s_load (y := 85) (pc := 81) (nx := 82) (a := 3) (b := 0) (x := 44) rfl rfl) ?_
      refine Eq.trans (s_load (y := 85) (pc := 82) (nx := 84) (a := 3) (b := 4) (x := s0) rfl rfl) ?_
      refine Eq.trans (s_getq (y := 85) (pc := 84) (nx := 87) (a := 8) (b := 0) (t := 3) (k := 18) rfl rfl rfl) (ite_c ?_ rfl)
      exact s_call (y := 85) (pc := 87) (nx := 90) (a := 86) (b := 0) (as := [(3, 44), (3, ((mk (mU D 44 2 (w32 ((D 44 2) + 1)))) s0 0))]) (r := []) rfl (Nat.le_of_ble_eq_true rfl) rfl rfl (Nat.le_of_ble_eq_true rfl) (Nat.le_of_ble_eq_true rfl) (Or.inr ⟨rfl, mk_k44 _⟩)
theorem e_85_90 (D : Mem) (x3 : Int) (x4 : Int) : qE 85 90 [(3, 44), (3, 102), (3, 5), (0, x3), (3, x4)] [] (mk D) = qE 85 39 [(3, 44), (3, 102), (3, 5), (0, (w32 (x3 + 1))), (3, x4)] [] (mk D) := by
  refine Eq.trans (s_iinc (y := 85) (pc := 90) (nx := 93) (a := 3) (b := 1) (x := x3) (ls' := [(3, 44), (3, 102), (3, 5), (0, (w32 (x3 + 1))), (3, x4)]) rfl rfl rfl) ?_
  refine Eq.trans (s_goto (y := 85) (pc := 93) (nx := 96) (a := 0) (b := 39) (tg := 39) rfl rfl) ?_
  rfl
theorem r_86 (D : Mem) (x1 : Int) : qR 86 [(3, 44), (3, x1)] (mk D) = qE 86 2 [(3, 44), (3, x1), (0, 0), (9, 0), (9, 0)] [] (mk D) := by
  show qE 86 0 [(3, 44), (3, x1), (9, 0), (9, 0), (9, 0)] [] (mk D) = _
  refine Eq.trans (s_push (y := 86) (pc := 0) (nx := 1) (a := 0) (b := 0) rfl) ?_
  refine Eq.trans (s_store (y := 86) (pc := 1) (nx := 2) (a := 0) (b := 2) (ls' := [(3, 44), (3, x1), (0, 0), (9, 0), (9, 0)]) rfl (Nat.le_of_ble_eq_true rfl) rfl) ?_
  rfl
theorem e_86_2 (D : Mem) (x1 : Int) (x2 : Int) (v3 : PV) (v4 : PV) : qE 86 2 [(3, 44), (3, x1), (0, x2), v3, v4] [] (mk D) = (if (mk D) (-x1) 0 = 15 then (qR 55 [(3, x1)] (mk D)).bind fun w => qE 86 7 [(3, 44), (3, x1), (0, x2), v3, v4] (psh w.1 [(0, x2)]) w.2 else none) := by
  refine Eq.trans (s_load (y := 86) (pc := 2) (nx := 3) (a := 0) (b := 2) (x := x2) rfl rfl) ?_
  refine Eq.trans (s_load (y := 86) (pc := 3) (nx := 4) (a := 3) (b := 1) (x := x1) rfl rfl) ?_
  exact s_callq (k := 15) (y := 86) (pc := 4) (nx := 7) (a := 55) (b := 0) (as := [(3, x1)]) (r := [(0, x2)]) rfl (Nat.le_of_ble_eq_true rfl) rfl rfl (Nat.le_of_ble_eq_true rfl) (Nat.le_of_ble_eq_true rfl) (by decide) rfl rfl
theorem e_86_7 (D : Mem) (x1 : Int) (x2 : Int) (v3 : PV) (v4 : PV) (s0 : Int) (s1 : Int) : qE 86 7 [(3, 44), (3, x1), (0, x2), v3, v4] [(0, s1), (0, s0)] (mk D) = (if s0 < s1 then (if (mk D) (-x1) 0 = 15 then (qR 58 [(3, x1), (0, x2)] (mk D)).bind fun w => qE 86 15 [(3, 44), (3, x1), (0, x2), v3, v4] (psh w.1 []) w.2 else none) else some ((9, 0), (mk D))) := by
  refine Eq.trans (s_icge (y := 86) (pc := 7) (nx := 10) (b := 78) (tg := 78) rfl rfl) (ite_c ?_ ?_)
  · refine Eq.trans (s_load (y := 86) (pc := 10) (nx := 11) (a := 3) (b := 1) (x := x1) rfl rfl) ?_
    refine Eq.trans (s_load (y := 86) (pc := 11) (nx := 12) (a := 0) (b := 2) (x := x2) rfl rfl) ?_
    exact s_callq (k := 15) (y := 86) (pc := 12) (nx := 15) (a := 58) (b := 0) (as := [(3, x1), (0, x2)]) (r := []) rfl (Nat.le_of_ble_eq_true rfl) rfl rfl (Nat.le_of_ble_eq_true rfl) (Nat.le_of_ble_eq_true rfl) (by decide) rfl rfl
  · exact s_retv (y := 86) (pc := 78) (nx := 79) (b := 0) rfl
theorem e_86_15 (D : Mem) (x1 : Int) (x2 : Int) (v3 : PV) (v4 : PV) (s0 : Int) : qE 86 15 [(3, 44), (3, x1), (0, x2), v3, v4] [(0, s0)] (mk D) = (if (mk D) (-x1) 0 = 15 then (qR 58 [(3, x1), (0, (w32 (x2 - 1)))] (mk D)).bind fun w => qE 86 23 [(3, 44), (3, x1), (0, x2), (0, s0), v4] (psh w.1 []) w.2 else none) := by
  refine Eq.trans (s_store (y := 86) (pc := 15) (nx := 16) (a := 0) (b := 3) (ls' := [(3, 44), (3, x1), (0, x2), (0, s0), v4]) rfl (Nat.le_of_ble_eq_true rfl) rfl) ?_
  refine Eq.trans (s_load (y := 86) (pc := 16) (nx := 17) (a := 3) (b := 1) (x := x1) rfl rfl) ?_
  refine Eq.trans (s_load (y := 86) (pc := 17) (nx := 18) (a := 0) (b := 2) (x := x2) rfl rfl) ?_
  refine Eq.trans (s_push (y := 86) (pc := 18) (nx := 19) (a := 0) (b := 1) rfl) ?_
  refine Eq.trans (s_sub (y := 86) (pc := 19) (nx := 20) (b := 0) rfl) ?_
  exact s_callq (k := 15) (y := 86) (pc := 20) (nx := 23) (a := 58) (b := 0) (as := [(3, x1), (0, (w32 (x2 - 1)))]) (r := []) rfl (Nat.le_of_ble_eq_true rfl) rfl rfl (Nat.le_of_ble_eq_true rfl) (Nat.le_of_ble_eq_true rfl) (by decide) rfl rfl
theorem e_86_23 (D : Mem) (x1 : Int) (x2 : Int) (x3 : Int) (v4 : PV) (s0 : Int) : qE 86 23 [(3, 44), (3, x1), (0, x2), (0, x3), v4] [(0, s0)] (mk D) = ((qR 130 [(0, x3)] (mk D)).bind fun w => qE 86 29 [(3, 44), (3, x1), (0, x2), (0, x3), (0, s0)] (psh w.1 []) w.2) := by
  refine Eq.trans (s_store (y := 86) (pc := 23) (nx := 25) (a := 0) (b := 4) (ls' := [(3, 44), (3, x1), (0, x2), (0, x3), (0, s0)]) rfl (Nat.le_of_ble_eq_true rfl) rfl) ?_
  refine Eq.trans (s_load (y := 86) (pc := 25) (nx := 26) (a := 0) (b := 3) (x := x3) rfl rfl) ?_
  exact s_call (y := 86) (pc := 26) (nx := 29) (a := 130) (b := 0) (as := [(0, x3)]) (r := []) rfl (Nat.le_of_ble_eq_true rfl) rfl rfl (Nat.le_of_ble_eq_true rfl) (Nat.le_of_ble_eq_true rfl) (Or.inl rfl)
theorem e_86_29 (D : Mem) (x1 : Int) (x2 : Int) (x3 : Int) (x4 : Int) (s0 : Int) : qE 86 29 [(3, 44), (3, x1), (0, x2), (0, x3), (0, x4)] [(0, s0)] (mk D) = (if s0 = 0 then qE 86 72 [(3, 44), (3, x1), (0, x2), (0, x3), (0, x4)] [] (mk D) else (if 0 ≤ x3 ∧ x3 < 26 then (if 0 ≤ x3 ∧ x3 < 26 then ((qR 130 [(0, x4)] (mk (mU D 45 x3 (w32 ((D 45 x3) + 1))))).bind fun w => qE 86 47 [(3, 44), (3, x1), (0, x2), (0, x3), (0, x4)] (psh w.1 []) w.2) else none) else none)) := by
  refine Eq.trans (s_ifeq (y := 86) (pc := 29) (nx := 32) (b := 72) (tg := 72) rfl rfl) (ite_c ?_ ?_)
  · rfl
  · refine Eq.trans (s_load (y := 86) (pc := 32) (nx := 33) (a := 3) (b := 0) (x := 44) rfl rfl) ?_
    refine Eq.trans (s_get (y := 86) (pc := 33) (nx := 36) (a := 7) (b := 0) (t := 3) (v := 45) rfl (mk_k44 _) rfl (mk_44_0 _)) ?_
    refine Eq.trans (s_load (y := 86) (pc := 36) (nx := 37) (a := 0) (b := 3) (x := x3) rfl rfl) ?_
    refine Eq.trans (s_dup2 (y := 86) (pc := 37) (nx := 38) (a := 0) (b := 0) rfl (by decide) (by decide)) ?_
    refine Eq.trans (s_ald (y := 86) (pc := 38) (nx := 39) (a := 1) (b := 0) (k := 1) (n := 26) (t := 0) (v := (D 45 x3)) rfl (mk_k45 _) rfl rfl (mk_l45 _) (mk_c45 _ _)) (ite_c ?_ rfl)
    refine Eq.trans (s_push (y := 86) (pc := 39) (nx := 40) (a := 0) (b := 1) rfl) ?_
    refine Eq.trans (s_add (y := 86) (pc := 40) (nx := 41) (b := 0) rfl) ?_
    refine Eq.trans (s_ast (y := 86) (pc := 41) (nx := 42) (a := 1) (b := 0) (k := 1) (n := 26) (t := 0) (v := (w32 ((D 45 x3) + 1))) (μ' := mk (mU D 45 x3 (w32 ((D 45 x3) + 1)))) rfl (by decide) (mk_k45 _) rfl (mk_l45 _) (mu_45 _ _ _)) (ite_c ?_ rfl)
    refine Eq.trans (s_load (y := 86) (pc := 42) (nx := 44) (a := 0) (b := 4) (x := x4) rfl rfl) ?_
    exact s_call (y := 86) (pc := 44) (nx := 47) (a := 130) (b := 0) (as := [(0, x4)]) (r := []) rfl (Nat.le_of_ble_eq_true rfl) rfl rfl (Nat.le_of_ble_eq_true rfl) (Nat.le_of_ble_eq_true rfl) (Or.inl rfl)
theorem e_86_47 (D : Mem) (x1 : Int) (x2 : Int) (x3 : Int) (x4 : Int) (s0 : Int) : qE 86 47 [(3, 44), (3, x1), (0, x2), (0, x3), (0, x4)] [(0, s0)] (mk D) = (if s0 = 0 then qE 86 72 [(3, 44), (3, x1), (0, x2), (0, x3), (0, x4)] [] (mk D) else ((qR 217 [(0, x4), (0, x3)] (mk D)).bind fun w => qE 86 60 [(3, 44), (3, x1), (0, x2), (0, x3), (0, x4)] (psh w.1 [(3, 46)]) w.2)) := by
  refine Eq.trans (s_ifeq (y := 86) (pc := 47) (nx := 50) (b := 72) (tg := 72) rfl rfl) (ite_c ?_ ?_)
  · rfl
  · refine Eq.trans (s_load (y := 86) (pc := 50) (nx := 51) (a := 3) (b := 0) (x := 44) rfl rfl) ?_
    refine Eq.trans (s_get (y := 86) (pc := 51) (nx := 54) (a := 7) (b := 1) (t := 3) (v := 46) rfl (mk_k44 _) rfl (mk_44_1 _)) ?_
    refine Eq.trans (s_load (y := 86) (pc := 54) (nx := 56) (a := 0) (b := 4) (x := x4) rfl rfl) ?_
    refine Eq.trans (s_load (y := 86) (pc := 56) (nx := 57) (a := 0) (b := 3) (x := x3) rfl rfl) ?_
    exact s_call (y := 86) (pc := 57) (nx := 60) (a := 217) (b := 0) (as := [(0, x4), (0, x3)]) (r := [(3, 46)]) rfl (Nat.le_of_ble_eq_true rfl) rfl rfl (Nat.le_of_ble_eq_true rfl) (Nat.le_of_ble_eq_true rfl) (Or.inl rfl)
theorem e_86_60 (D : Mem) (x1 : Int) (x2 : Int) (x3 : Int) (x4 : Int) (s1 : Int) : qE 86 60 [(3, 44), (3, x1), (0, x2), (0, x3), (0, x4)] [(0, s1), (3, 46)] (mk D) = (if 0 ≤ s1 ∧ s1 < 26 then ((qR 216 [(0, x4), (0, x3)] (mk D)).bind fun w => qE 86 67 [(3, 44), (3, x1), (0, x2), (0, x3), (0, x4)] (psh w.1 [(3, (mk D 46 s1))]) w.2) else none) := by
  refine Eq.trans (s_ald (y := 86) (pc := 60) (nx := 61) (a := 3) (b := 0) (k := 5) (n := 26) (t := 3) (v := (mk D 46 s1)) rfl (mk_k46 _) rfl rfl (mk_l46 _) rfl) (ite_c ?_ rfl)
  refine Eq.trans (s_load (y := 86) (pc := 61) (nx := 63) (a := 0) (b := 4) (x := x4) rfl rfl) ?_
  refine Eq.trans (s_load (y := 86) (pc := 63) (nx := 64) (a := 0) (b := 3) (x := x3) rfl rfl) ?_
  exact s_call (y := 86) (pc := 64) (nx := 67) (a := 216) (b := 0) (as := [(0, x4), (0, x3)]) (r := [(3, (mk D 46 s1))]) rfl (Nat.le_of_ble_eq_true rfl) rfl rfl (Nat.le_of_ble_eq_true rfl) (Nat.le_of_ble_eq_true rfl) (Or.inl rfl)
theorem e_86_67 (D : Mem) (x1 : Int) (x2 : Int) (x3 : Int) (x4 : Int) (s0 : Int) (s1 : Int) : qE 86 67 [(3, 44), (3, x1), (0, x2), (0, x3), (0, x4)] [(0, s1), (3, s0)] (mk D) = (if aKind 1 ((mk D) (-s0) 0) = true ∧ 0 ≤ s1 ∧ s1 < (mk D) (-s0) 1 then (if (s0 : Int) ≠ 1 ∧ aPut (mk D) 1 ((mk D) (-s0) 0) (0, (w32 (((mk D) s0 s1) + 1))) = true ∧ 0 ≤ s1 ∧ s1 < (mk D) (-s0) 1 then qE 86 72 [(3, 44), (3, x1), (0, x2), (0, x3), (0, x4)] [] (mU (mk D) s0 s1 (w32 (((mk D) s0 s1) + 1))) else none) else none) := by
  refine Eq.trans (s_dup2 (y := 86) (pc := 67) (nx := 68) (a := 0) (b := 0) rfl (by decide) (by decide)) ?_
  refine Eq.trans (s_aldq (y := 86) (pc := 68) (nx := 69) (a := 1) (b := 0) (t := 0) rfl ak_1) (ite_c ?_ rfl)
  refine Eq.trans (s_push (y := 86) (pc := 69) (nx := 70) (a := 0) (b := 1) rfl) ?_
  refine Eq.trans (s_add (y := 86) (pc := 70) (nx := 71) (b := 0) rfl) ?_
  refine Eq.trans (s_astq (y := 86) (pc := 71) (nx := 72) (a := 1) (b := 0) rfl) (ite_c ?_ rfl)
  rfl
theorem e_86_72 (D : Mem) (x1 : Int) (x2 : Int) (x3 : Int) (x4 : Int) : qE 86 72 [(3, 44), (3, x1), (0, x2), (0, x3), (0, x4)] [] (mk D) = qE 86 2 [(3, 44), (3, x1), (0, (w32 (x2 + 1))), (0, x3), (0, x4)] [] (mk D) := by
  refine Eq.trans (s_iinc (y := 86) (pc := 72) (nx := 75) (a := 2) (b := 1) (x := x2) (ls' := [(3, 44), (3, x1), (0, (w32 (x2 + 1))), (0, x3), (0, x4)]) rfl rfl rfl) ?_
  refine Eq.trans (s_goto (y := 86) (pc := 75) (nx := 78) (a := 0) (b := 2) (tg := 2) rfl rfl) ?_
  rfl
theorem r_87 (D : Mem) : qR 87 [(3, 44), (3, 3)] (mk D) = qE 87 2 [(3, 44), (3, 3), (0, 1), (9, 0), (9, 0)] [] (mk D) := by
  show qE 87 0 [(3, 44), (3, 3), (9, 0), (9, 0), (9, 0)] [] (mk D) = _
  refine Eq.trans (s_push (y := 87) (pc := 0) (nx := 1) (a := 0) (b := 1) rfl) ?_
  refine Eq.trans (s_store (y := 87) (pc := 1) (nx := 2) (a := 0) (b := 2) (ls' := [(3, 44), (3, 3), (0, 1), (9, 0), (9, 0)]) rfl (Nat.le_of_ble_eq_true rfl) rfl) ?_
  rfl
theorem e_87_2 (D : Mem) (x2 : Int) : qE 87 2 [(3, 44), (3, 3), (0, x2), (9, 0), (9, 0)] [] (mk D) = (if x2 ≤ 10 then (if 0 ≤ x2 ∧ x2 < 11 then ((qR 218 [(3, (mk D 73 x2)), (0, 268435456)] (mk D)).bind fun w => qE 87 19 [(3, 44), (3, 3), (0, x2), (9, 0), (9, 0)] (psh w.1 []) w.2) else none) else (if 0 ≤ (10 : Int) ∧ (10 : Int) < 11 then (if ((mk D 73 (10 : Int)) : Int) ≠ 1 ∧ aPut (mk D) 1 ((mk D) (-(mk D 73 (10 : Int))) 0) (0, 0) = true ∧ 0 ≤ (26 : Int) ∧ (26 : Int) < (mk D) (-(mk D 73 (10 : Int))) 1 then qE 87 36 [(3, 44), (3, 3), (0, x2), (9, 0), (9, 0)] [] (mU (mk D) (mk D 73 (10 : Int)) (26 : Int) 0) else none) else none)) := by
  refine Eq.trans (s_load (y := 87) (pc := 2) (nx := 3) (a := 0) (b := 2) (x := x2) rfl rfl) ?_
  refine Eq.trans (s_push (y := 87) (pc := 3) (nx := 5) (a := 0) (b := 10) rfl) ?_
  refine Eq.trans (s_icgt (y := 87) (pc := 5) (nx := 8) (b := 25) (tg := 25) rfl rfl) (ite_c ?_ ?_)
  · refine Eq.trans (s_load (y := 87) (pc := 8) (nx := 9) (a := 3) (b := 0) (x := 44) rfl rfl) ?_
    refine Eq.trans (s_get (y := 87) (pc := 9) (nx := 12) (a := 7) (b := 3) (t := 3) (v := 73) rfl (mk_k44 _) rfl (mk_44_3 _)) ?_
    refine Eq.trans (s_load (y := 87) (pc := 12) (nx := 13) (a := 0) (b := 2) (x := x2) rfl rfl) ?_
    refine Eq.trans (s_ald (y := 87) (pc := 13) (nx := 14) (a := 3) (b := 0) (k := 5) (n := 11) (t := 3) (v := (mk D 73 x2)) rfl (mk_k73 _) rfl rfl (mk_l73 _) rfl) (ite_c ?_ rfl)
    refine Eq.trans (s_push (y := 87) (pc := 14) (nx := 16) (a := 0) (b := 268435456) rfl) ?_
    exact s_call (y := 87) (pc := 16) (nx := 19) (a := 218) (b := 0) (as := [(3, (mk D 73 x2)), (0, 268435456)]) (r := []) rfl (Nat.le_of_ble_eq_true rfl) rfl rfl (Nat.le_of_ble_eq_true rfl) (Nat.le_of_ble_eq_true rfl) (Or.inl rfl)
  · refine Eq.trans (s_load (y := 87) (pc := 25) (nx := 26) (a := 3) (b := 0) (x := 44) rfl rfl) ?_
    refine Eq.trans (s_get (y := 87) (pc := 26) (nx := 29) (a := 7) (b := 3) (t := 3) (v := 73) rfl (mk_k44 _) rfl (mk_44_3 _)) ?_
    refine Eq.trans (s_push (y := 87) (pc := 29) (nx := 31) (a := 0) (b := 10) rfl) ?_
    refine Eq.trans (s_ald (y := 87) (pc := 31) (nx := 32) (a := 3) (b := 0) (k := 5) (n := 11) (t := 3) (v := (mk D 73 (10 : Int))) rfl (mk_k73 _) rfl rfl (mk_l73 _) rfl) (ite_c ?_ rfl)
    refine Eq.trans (s_push (y := 87) (pc := 32) (nx := 34) (a := 0) (b := 26) rfl) ?_
    refine Eq.trans (s_push (y := 87) (pc := 34) (nx := 35) (a := 0) (b := 0) rfl) ?_
    refine Eq.trans (s_astq (y := 87) (pc := 35) (nx := 36) (a := 1) (b := 0) rfl) (ite_c ?_ rfl)
    rfl
theorem e_87_19 (D : Mem) (x2 : Int) : qE 87 19 [(3, 44), (3, 3), (0, x2), (9, 0), (9, 0)] [] (mk D) = qE 87 2 [(3, 44), (3, 3), (0, (w32 (x2 + 1))), (9, 0), (9, 0)] [] (mk D) := by
  refine Eq.trans (s_iinc (y := 87) (pc := 19) (nx := 22) (a := 2) (b := 1) (x := x2) (ls' := [(3, 44), (3, 3), (0, (w32 (x2 + 1))), (9, 0), (9, 0)]) rfl rfl rfl) ?_
  refine Eq.trans (s_goto (y := 87) (pc := 22) (nx := 25) (a := 0) (b := 2) (tg := 2) rfl rfl) ?_
  rfl
theorem e_87_36 (D : Mem) (x2 : Int) : qE 87 36 [(3, 44), (3, 3), (0, x2), (9, 0), (9, 0)] [] (mk D) = qE 87 39 [(3, 44), (3, 3), (0, 25), (9, 0), (9, 0)] [] (mk D) := by
  refine Eq.trans (s_push (y := 87) (pc := 36) (nx := 38) (a := 0) (b := 25) rfl) ?_
  refine Eq.trans (s_store (y := 87) (pc := 38) (nx := 39) (a := 0) (b := 2) (ls' := [(3, 44), (3, 3), (0, 25), (9, 0), (9, 0)]) rfl (Nat.le_of_ble_eq_true rfl) rfl) ?_
  rfl
theorem e_87_39 (D : Mem) (x2 : Int) : qE 87 39 [(3, 44), (3, 3), (0, x2), (9, 0), (9, 0)] [] (mk D) = (if x2 < 0 then qE 87 58 [(3, 44), (3, 3), (0, 0), (0, 1), (9, 0)] [] (mk D) else ((qR 88 [(3, 44), (0, x2)] (mk D)).bind fun w => qE 87 48 [(3, 44), (3, 3), (0, x2), (9, 0), (9, 0)] (psh w.1 []) w.2)) := by
  refine Eq.trans (s_load (y := 87) (pc := 39) (nx := 40) (a := 0) (b := 2) (x := x2) rfl rfl) ?_
  refine Eq.trans (s_iflt (y := 87) (pc := 40) (nx := 43) (b := 54) (tg := 54) rfl rfl) (ite_c ?_ ?_)
  · refine Eq.trans (s_push (y := 87) (pc := 54) (nx := 55) (a := 0) (b := 0) rfl) ?_
    refine Eq.trans (s_store (y := 87) (pc := 55) (nx := 56) (a := 0) (b := 2) (ls' := [(3, 44), (3, 3), (0, 0), (9, 0), (9, 0)]) rfl (Nat.le_of_ble_eq_true rfl) rfl) ?_
    refine Eq.trans (s_push (y := 87) (pc := 56) (nx := 57) (a := 0) (b := 1) rfl) ?_
    refine Eq.trans (s_store (y := 87) (pc := 57) (nx := 58) (a := 0) (b := 3) (ls' := [(3, 44), (3, 3), (0, 0), (0, 1), (9, 0)]) rfl (Nat.le_of_ble_eq_true rfl) rfl) ?_
    rfl
  · refine Eq.trans (s_load (y := 87) (pc := 43) (nx := 44) (a := 3) (b := 0) (x := 44) rfl rfl) ?_
    refine Eq.trans (s_load (y := 87) (pc := 44) (nx := 45) (a := 0) (b := 2) (x := x2) rfl rfl) ?_
    exact s_call (y := 87) (pc := 45) (nx := 48) (a := 88) (b := 0) (as := [(3, 44), (0, x2)]) (r := []) rfl (Nat.le_of_ble_eq_true rfl) rfl rfl (Nat.le_of_ble_eq_true rfl) (Nat.le_of_ble_eq_true rfl) (Or.inr ⟨rfl, mk_k44 _⟩)
theorem e_87_48 (D : Mem) (x2 : Int) : qE 87 48 [(3, 44), (3, 3), (0, x2), (9, 0), (9, 0)] [] (mk D) = qE 87 39 [(3, 44), (3, 3), (0, (w32 (x2 + (-1)))), (9, 0), (9, 0)] [] (mk D) := by
  refine Eq.trans (s_iinc (y := 87) (pc := 48) (nx := 51) (a := 2) (b := (-1)) (x := x2) (ls' := [(3, 44), (3, 3), (0, (w32 (x2 + (-1)))), (9, 0), (9, 0)]) rfl rfl rfl) ?_
  refine Eq.trans (s_goto (y := 87) (pc := 51) (nx := 54) (a := 0) (b := 39) (tg := 39) rfl rfl) ?_
  rfl
theorem e_87_58 (D : Mem) (x2 : Int) (x3 : Int) (v4 : PV) : qE 87 58 [(3, 44), (3, 3), (0, x2), (0, x3), v4] [] (mk D) = (if x3 ≤ 9 then (if x2 < 0 then qE 87 90 [(3, 44), (3, 3), (0, x2), (0, x3), (0, x2)] [] (mk D) else (if x2 < 26 then (if 0 ≤ x3 ∧ x3 < 11 then (if aKind 1 ((mk D) (-(mk D 85 x3)) 0) = true ∧ 0 ≤ x2 ∧ x2 < (mk D) (-(mk D 85 x3)) 1 then qE 87 90 [(3, 44), (3, 3), (0, x2), (0, x3), (0, (w32 (x2 + ((mk D) (mk D 85 x3) x2))))] [] (mk D) else none) else none) else qE 87 90 [(3, 44), (3, 3), (0, x2), (0, x3), (0, x2)] [] (mk D))) else (if 0 ≤ (1 : Int) ∧ (1 : Int) < 11 then (if aKind 1 ((mk D) (-(mk D 73 (1 : Int))) 0) = true ∧ 0 ≤ (0 : Int) ∧ (0 : Int) < (mk D) (-(mk D 73 (1 : Int))) 1 then some ((0, (w32 ((D 44 2) + ((mk D) (mk D 73 (1 : Int)) (0 : Int))))), (mk D)) else none) else none)) := by
  refine Eq.trans (s_load (y := 87) (pc := 58) (nx := 59) (a := 0) (b := 3) (x := x3) rfl rfl) ?_
  refine Eq.trans (s_push (y := 87) (pc := 59) (nx := 61) (a := 0) (b := 9) rfl) ?_
  refine Eq.trans (s_icgt (y := 87) (pc := 61) (nx := 64) (b := 121) (tg := 121) rfl rfl) (ite_c ?_ ?_)
  · refine Eq.trans (s_load (y := 87) (pc := 64) (nx := 65) (a := 0) (b := 2) (x := x2) rfl rfl) ?_
    refine Eq.trans (s_iflt (y := 87) (pc := 65) (nx := 68) (b := 87) (tg := 87) rfl rfl) (ite_c ?_ ?_)
    · refine Eq.trans (s_load (y := 87) (pc := 87) (nx := 88) (a := 0) (b := 2) (x := x2) rfl rfl) ?_
      refine Eq.trans (s_store (y := 87) (pc := 88) (nx := 90) (a := 0) (b := 4) (ls' := [(3, 44), (3, 3), (0, x2), (0, x3), (0, x2)]) rfl (Nat.le_of_ble_eq_true rfl) rfl) ?_
      rfl
    · refine Eq.trans (s_load (y := 87) (pc := 68) (nx := 69) (a := 0) (b := 2) (x := x2) rfl rfl) ?_
      refine Eq.trans (s_push (y := 87) (pc := 69) (nx := 71) (a := 0) (b := 26) rfl) ?_
      refine Eq.trans (s_icge (y := 87) (pc := 71) (nx := 74) (b := 87) (tg := 87) rfl rfl) (ite_c ?_ ?_)
      · refine Eq.trans (s_load (y := 87) (pc := 74) (nx := 75) (a := 0) (b := 2) (x := x2) rfl rfl) ?_
        refine Eq.trans (s_load (y := 87) (pc := 75) (nx := 76) (a := 3) (b := 0) (x := 44) rfl rfl) ?_
        refine Eq.trans (s_get (y := 87) (pc := 76) (nx := 79) (a := 7) (b := 4) (t := 3) (v := 85) rfl (mk_k44 _) rfl (mk_44_4 _)) ?_
        refine Eq.trans (s_load (y := 87) (pc := 79) (nx := 80) (a := 0) (b := 3) (x := x3) rfl rfl) ?_
        refine Eq.trans (s_ald (y := 87) (pc := 80) (nx := 81) (a := 3) (b := 0) (k := 5) (n := 11) (t := 3) (v := (mk D 85 x3)) rfl (mk_k85 _) rfl rfl (mk_l85 _) rfl) (ite_c ?_ rfl)
        refine Eq.trans (s_load (y := 87) (pc := 81) (nx := 82) (a := 0) (b := 2) (x := x2) rfl rfl) ?_
        refine Eq.trans (s_aldq (y := 87) (pc := 82) (nx := 83) (a := 1) (b := 0) (t := 0) rfl ak_1) (ite_c ?_ rfl)
        refine Eq.trans (s_add (y := 87) (pc := 83) (nx := 84) (b := 0) rfl) ?_
        refine Eq.trans (s_goto (y := 87) (pc := 84) (nx := 87) (a := 0) (b := 88) (tg := 88) rfl rfl) ?_
        refine Eq.trans (s_store (y := 87) (pc := 88) (nx := 90) (a := 0) (b := 4) (ls' := [(3, 44), (3, 3), (0, x2), (0, x3), (0, (w32 (x2 + ((mk D) (mk D 85 x3) x2))))]) rfl (Nat.le_of_ble_eq_true rfl) rfl) ?_
        rfl
      · refine Eq.trans (s_load (y := 87) (pc := 87) (nx := 88) (a := 0) (b := 2) (x := x2) rfl rfl) ?_
        refine Eq.trans (s_store (y := 87) (pc := 88) (nx := 90) (a := 0) (b := 4) (ls' := [(3, 44), (3, 3), (0, x2), (0, x3), (0, x2)]) rfl (Nat.le_of_ble_eq_true rfl) rfl) ?_
        rfl
  · refine Eq.trans (s_load (y := 87) (pc := 121) (nx := 122) (a := 3) (b := 0) (x := 44) rfl rfl) ?_
    refine Eq.trans (s_get (y := 87) (pc := 122) (nx := 125) (a := 7) (b := 2) (t := 0) (v := (D 44 2)) rfl (mk_k44 _) rfl (mk_44_2 _)) ?_
    refine Eq.trans (s_load (y := 87) (pc := 125) (nx := 126) (a := 3) (b := 0) (x := 44) rfl rfl) ?_
    refine Eq.trans (s_get (y := 87) (pc := 126) (nx := 129) (a := 7) (b := 3) (t := 3) (v := 73) rfl (mk_k44 _) rfl (mk_44_3 _)) ?_
    refine Eq.trans (s_push (y := 87) (pc := 129) (nx := 130) (a := 0) (b := 1) rfl) ?_
    refine Eq.trans (s_ald (y := 87) (pc := 130) (nx := 131) (a := 3) (b := 0) (k := 5) (n := 11) (t := 3) (v := (mk D 73 (1 : Int))) rfl (mk_k73 _) rfl rfl (mk_l73 _) rfl) (ite_c ?_ rfl)
    refine Eq.trans (s_push (y := 87) (pc := 131) (nx := 132) (a := 0) (b := 0) rfl) ?_
    refine Eq.trans (s_aldq (y := 87) (pc := 132) (nx := 133) (a := 1) (b := 0) (t := 0) rfl ak_1) (ite_c ?_ rfl)
    refine Eq.trans (s_add (y := 87) (pc := 133) (nx := 134) (b := 0) rfl) ?_
    exact s_ret (y := 87) (pc := 134) (nx := 135) (a := 0) rfl (by decide)
theorem e_87_90 (D : Mem) (x2 : Int) (x3 : Int) (x4 : Int) : qE 87 90 [(3, 44), (3, 3), (0, x2), (0, x3), (0, x4)] [] (mk D) = (if x2 < x4 then (if x2 < 26 then ((qR 27 [(3, 3), (0, x2), (0, x3)] (mk D)).bind fun w => qE 87 108 [(3, 44), (3, 3), (0, x2), (0, x3), (0, x4)] (psh w.1 []) w.2) else qE 87 58 [(3, 44), (3, 3), (0, x2), (0, (w32 (x3 + 1))), (0, x4)] [] (mk D)) else qE 87 58 [(3, 44), (3, 3), (0, x2), (0, (w32 (x3 + 1))), (0, x4)] [] (mk D)) := by
  refine Eq.trans (s_load (y := 87) (pc := 90) (nx := 91) (a := 0) (b := 2) (x := x2) rfl rfl) ?_
  refine Eq.trans (s_load (y := 87) (pc := 91) (nx := 93) (a := 0) (b := 4) (x := x4) rfl rfl) ?_
  refine Eq.trans (s_icge (y := 87) (pc := 93) (nx := 96) (b := 115) (tg := 115) rfl rfl) (ite_c ?_ ?_)
  · refine Eq.trans (s_load (y := 87) (pc := 96) (nx := 97) (a := 0) (b := 2) (x := x2) rfl rfl) ?_
    refine Eq.trans (s_push (y := 87) (pc := 97) (nx := 99) (a := 0) (b := 26) rfl) ?_
    refine Eq.trans (s_icge (y := 87) (pc := 99) (nx := 102) (b := 115) (tg := 115) rfl rfl) (ite_c ?_ ?_)
    · refine Eq.trans (s_load (y := 87) (pc := 102) (nx := 103) (a := 3) (b := 1) (x := 3) rfl rfl) ?_
      refine Eq.trans (s_load (y := 87) (pc := 103) (nx := 104) (a := 0) (b := 2) (x := x2) rfl rfl) ?_
      refine Eq.trans (s_load (y := 87) (pc := 104) (nx := 105) (a := 0) (b := 3) (x := x3) rfl rfl) ?_
      exact s_call (y := 87) (pc := 105) (nx := 108) (a := 27) (b := 0) (as := [(3, 3), (0, x2), (0, x3)]) (r := []) rfl (Nat.le_of_ble_eq_true rfl) rfl rfl (Nat.le_of_ble_eq_true rfl) (Nat.le_of_ble_eq_true rfl) (Or.inr ⟨rfl, mk_k3 _⟩)
    · refine Eq.trans (s_iinc (y := 87) (pc := 115) (nx := 118) (a := 3) (b := 1) (x := x3) (ls' := [(3, 44), (3, 3), (0, x2), (0, (w32 (x3 + 1))), (0, x4)]) rfl rfl rfl) ?_
      refine Eq.trans (s_goto (y := 87) (pc := 118) (nx := 121) (a := 0) (b := 58) (tg := 58) rfl rfl) ?_
      rfl
  · refine Eq.trans (s_iinc (y := 87) (pc := 115) (nx := 118) (a := 3) (b := 1) (x := x3) (ls' := [(3, 44), (3, 3), (0, x2), (0, (w32 (x3 + 1))), (0, x4)]) rfl rfl rfl) ?_
    refine Eq.trans (s_goto (y := 87) (pc := 118) (nx := 121) (a := 0) (b := 58) (tg := 58) rfl rfl) ?_
    rfl
theorem e_87_108 (D : Mem) (x2 : Int) (x3 : Int) (x4 : Int) (s0 : Int) : qE 87 108 [(3, 44), (3, 3), (0, x2), (0, x3), (0, x4)] [(0, s0)] (mk D) = qE 87 90 [(3, 44), (3, 3), (0, (w32 (x2 + 1))), (0, x3), (0, x4)] [] (mk D) := by
  refine Eq.trans (s_pop (y := 87) (pc := 108) (nx := 109) (a := 0) (b := 0) rfl (by decide)) ?_
  refine Eq.trans (s_iinc (y := 87) (pc := 109) (nx := 112) (a := 2) (b := 1) (x := x2) (ls' := [(3, 44), (3, 3), (0, (w32 (x2 + 1))), (0, x3), (0, x4)]) rfl rfl rfl) ?_
  refine Eq.trans (s_goto (y := 87) (pc := 112) (nx := 115) (a := 0) (b := 90) (tg := 90) rfl rfl) ?_
  rfl
