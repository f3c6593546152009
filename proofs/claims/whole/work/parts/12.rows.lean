theorem r_88 (D : Mem) (x1 : Int) : qR 88 [(3, 44), (0, x1)] (mk D) = qE 88 4 [(3, 44), (0, x1), (0, 0), (0, x1), (9, 0), (9, 0)] [] (mk D) := by
  show qE 88 0 [(3, 44), (0, x1), (9, 0), (9, 0), (9, 0), (9, 0)] [] (mk D) = _
  refine Eq.trans (s_push (y := 88) (pc := 0) (nx := 1) (a := 0) (b := 0) rfl) ?_
  refine Eq.trans (s_store (y := 88) (pc := 1) (nx := 2) (a := 0) (b := 2) (ls' := [(3, 44), (0, x1), (0, 0), (9, 0), (9, 0), (9, 0)]) rfl (Nat.le_of_ble_eq_true rfl) rfl) ?_
  refine Eq.trans (s_load (y := 88) (pc := 2) (nx := 3) (a := 0) (b := 1) (x := x1) rfl rfl) ?_
  refine Eq.trans (s_store (y := 88) (pc := 3) (nx := 4) (a := 0) (b := 3) (ls' := [(3, 44), (0, x1), (0, 0), (0, x1), (9, 0), (9, 0)]) rfl (Nat.le_of_ble_eq_true rfl) rfl) ?_
  rfl
theorem e_88_4 (D : Mem) (x1 : Int) (x2 : Int) (x3 : Int) (v4 : PV) (v5 : PV) : qE 88 4 [(3, 44), (0, x1), (0, x2), (0, x3), v4, v5] [] (mk D) = (if x3 < 26 then (if 0 ≤ x3 ∧ x3 < 26 then qE 88 28 [(3, 44), (0, x1), (0, (w32 (x2 + (w32 ((D 45 x3) * (w32 ((w32 (x3 - x1)) + 1))))))), (0, x3), (0, x1), v5] [] (mk D) else none) else some ((9, 0), (mk D))) := by
  refine Eq.trans (s_load (y := 88) (pc := 4) (nx := 5) (a := 0) (b := 3) (x := x3) rfl rfl) ?_
  refine Eq.trans (s_push (y := 88) (pc := 5) (nx := 7) (a := 0) (b := 26) rfl) ?_
  refine Eq.trans (s_icge (y := 88) (pc := 7) (nx := 10) (b := 130) (tg := 130) rfl rfl) (ite_c ?_ ?_)
  · refine Eq.trans (s_load (y := 88) (pc := 10) (nx := 11) (a := 0) (b := 2) (x := x2) rfl rfl) ?_
    refine Eq.trans (s_load (y := 88) (pc := 11) (nx := 12) (a := 3) (b := 0) (x := 44) rfl rfl) ?_
    refine Eq.trans (s_get (y := 88) (pc := 12) (nx := 15) (a := 7) (b := 0) (t := 3) (v := 45) rfl (mk_k44 _) rfl (mk_44_0 _)) ?_
    refine Eq.trans (s_load (y := 88) (pc := 15) (nx := 16) (a := 0) (b := 3) (x := x3) rfl rfl) ?_
    refine Eq.trans (s_ald (y := 88) (pc := 16) (nx := 17) (a := 1) (b := 0) (k := 1) (n := 26) (t := 0) (v := (D 45 x3)) rfl (mk_k45 _) rfl rfl (mk_l45 _) (mk_c45 _ _)) (ite_c ?_ rfl)
    refine Eq.trans (s_load (y := 88) (pc := 17) (nx := 18) (a := 0) (b := 3) (x := x3) rfl rfl) ?_
    refine Eq.trans (s_load (y := 88) (pc := 18) (nx := 19) (a := 0) (b := 1) (x := x1) rfl rfl) ?_
    refine Eq.trans (s_sub (y := 88) (pc := 19) (nx := 20) (b := 0) rfl) ?_
    refine Eq.trans (s_push (y := 88) (pc := 20) (nx := 21) (a := 0) (b := 1) rfl) ?_
    refine Eq.trans (s_add (y := 88) (pc := 21) (nx := 22) (b := 0) rfl) ?_
    refine Eq.trans (s_mul (y := 88) (pc := 22) (nx := 23) (b := 0) rfl) ?_
    refine Eq.trans (s_add (y := 88) (pc := 23) (nx := 24) (b := 0) rfl) ?_
    refine Eq.trans (s_store (y := 88) (pc := 24) (nx := 25) (a := 0) (b := 2) (ls' := [(3, 44), (0, x1), (0, (w32 (x2 + (w32 ((D 45 x3) * (w32 ((w32 (x3 - x1)) + 1))))))), (0, x3), v4, v5]) rfl (Nat.le_of_ble_eq_true rfl) rfl) ?_
    refine Eq.trans (s_load (y := 88) (pc := 25) (nx := 26) (a := 0) (b := 1) (x := x1) rfl rfl) ?_
    refine Eq.trans (s_store (y := 88) (pc := 26) (nx := 28) (a := 0) (b := 4) (ls' := [(3, 44), (0, x1), (0, (w32 (x2 + (w32 ((D 45 x3) * (w32 ((w32 (x3 - x1)) + 1))))))), (0, x3), (0, x1), v5]) rfl (Nat.le_of_ble_eq_true rfl) rfl) ?_
    rfl
  · exact s_retv (y := 88) (pc := 130) (nx := 131) (b := 0) rfl
theorem e_88_28 (D : Mem) (x1 : Int) (x2 : Int) (x3 : Int) (x4 : Int) (v5 : PV) : qE 88 28 [(3, 44), (0, x1), (0, x2), (0, x3), (0, x4), v5] [] (mk D) = (if x4 ≤ x3 then (if 0 ≤ x4 ∧ x4 < 26 then (if aKind 1 ((mk D) (-(mk D 46 x4)) 0) = true ∧ 0 ≤ x3 ∧ x3 < (mk D) (-(mk D 46 x4)) 1 then qE 88 28 [(3, 44), (0, x1), (0, (w32 (x2 + ((mk D) (mk D 46 x4) x3)))), (0, x3), (0, (w32 (x4 + 1))), v5] [] (mk D) else none) else none) else qE 88 55 [(3, 44), (0, x1), (0, x2), (0, x3), (0, 1), v5] [] (mk D)) := by
  refine Eq.trans (s_load (y := 88) (pc := 28) (nx := 30) (a := 0) (b := 4) (x := x4) rfl rfl) ?_
  refine Eq.trans (s_load (y := 88) (pc := 30) (nx := 31) (a := 0) (b := 3) (x := x3) rfl rfl) ?_
  refine Eq.trans (s_icgt (y := 88) (pc := 31) (nx := 34) (b := 52) (tg := 52) rfl rfl) (ite_c ?_ ?_)
  · refine Eq.trans (s_load (y := 88) (pc := 34) (nx := 35) (a := 0) (b := 2) (x := x2) rfl rfl) ?_
    refine Eq.trans (s_load (y := 88) (pc := 35) (nx := 36) (a := 3) (b := 0) (x := 44) rfl rfl) ?_
    refine Eq.trans (s_get (y := 88) (pc := 36) (nx := 39) (a := 7) (b := 1) (t := 3) (v := 46) rfl (mk_k44 _) rfl (mk_44_1 _)) ?_
    refine Eq.trans (s_load (y := 88) (pc := 39) (nx := 41) (a := 0) (b := 4) (x := x4) rfl rfl) ?_
    refine Eq.trans (s_ald (y := 88) (pc := 41) (nx := 42) (a := 3) (b := 0) (k := 5) (n := 26) (t := 3) (v := (mk D 46 x4)) rfl (mk_k46 _) rfl rfl (mk_l46 _) rfl) (ite_c ?_ rfl)
    refine Eq.trans (s_load (y := 88) (pc := 42) (nx := 43) (a := 0) (b := 3) (x := x3) rfl rfl) ?_
    refine Eq.trans (s_aldq (y := 88) (pc := 43) (nx := 44) (a := 1) (b := 0) (t := 0) rfl ak_1) (ite_c ?_ rfl)
    refine Eq.trans (s_add (y := 88) (pc := 44) (nx := 45) (b := 0) rfl) ?_
    refine Eq.trans (s_store (y := 88) (pc := 45) (nx := 46) (a := 0) (b := 2) (ls' := [(3, 44), (0, x1), (0, (w32 (x2 + ((mk D) (mk D 46 x4) x3)))), (0, x3), (0, x4), v5]) rfl (Nat.le_of_ble_eq_true rfl) rfl) ?_
    refine Eq.trans (s_iinc (y := 88) (pc := 46) (nx := 49) (a := 4) (b := 1) (x := x4) (ls' := [(3, 44), (0, x1), (0, (w32 (x2 + ((mk D) (mk D 46 x4) x3)))), (0, x3), (0, (w32 (x4 + 1))), v5]) rfl rfl rfl) ?_
    refine Eq.trans (s_goto (y := 88) (pc := 49) (nx := 52) (a := 0) (b := 28) (tg := 28) rfl rfl) ?_
    rfl
  · refine Eq.trans (s_push (y := 88) (pc := 52) (nx := 53) (a := 0) (b := 1) rfl) ?_
    refine Eq.trans (s_store (y := 88) (pc := 53) (nx := 55) (a := 0) (b := 4) (ls' := [(3, 44), (0, x1), (0, x2), (0, x3), (0, 1), v5]) rfl (Nat.le_of_ble_eq_true rfl) rfl) ?_
    rfl
theorem e_88_55 (D : Mem) (x1 : Int) (x2 : Int) (x3 : Int) (x4 : Int) (v5 : PV) : qE 88 55 [(3, 44), (0, x1), (0, x2), (0, x3), (0, x4), v5] [] (mk D) = (if x4 ≤ 9 then (if 0 ≤ (w32 (x4 + 1)) ∧ (w32 (x4 + 1)) < 11 then (if aKind 1 ((mk D) (-(mk D 73 (w32 (x4 + 1)))) 0) = true ∧ 0 ≤ (w32 (x3 + 1)) ∧ (w32 (x3 + 1)) < (mk D) (-(mk D 73 (w32 (x4 + 1)))) 1 then (if 0 ≤ x4 ∧ x4 < 11 then (if aKind 1 ((mk D) (-(mk D 73 x4)) 0) = true ∧ 0 ≤ x1 ∧ x1 < (mk D) (-(mk D 73 x4)) 1 then (if (w32 (x2 + ((mk D) (mk D 73 (w32 (x4 + 1))) (w32 (x3 + 1))))) < ((mk D) (mk D 73 x4) x1) then (if 0 ≤ x4 ∧ x4 < 11 then (if ((mk D 73 x4) : Int) ≠ 1 ∧ aPut (mk D) 1 ((mk D) (-(mk D 73 x4)) 0) (0, (w32 (x2 + ((mk D) (mk D 73 (w32 (x4 + 1))) (w32 (x3 + 1)))))) = true ∧ 0 ≤ x1 ∧ x1 < (mk D) (-(mk D 73 x4)) 1 then qE 88 104 [(3, 44), (0, x1), (0, x2), (0, x3), (0, x4), (0, (w32 (x2 + ((mk D) (mk D 73 (w32 (x4 + 1))) (w32 (x3 + 1))))))] [] (mU (mk D) (mk D 73 x4) x1 (w32 (x2 + ((mk D) (mk D 73 (w32 (x4 + 1))) (w32 (x3 + 1)))))) else none) else none) else qE 88 118 [(3, 44), (0, x1), (0, x2), (0, x3), (0, x4), (0, (w32 (x2 + ((mk D) (mk D 73 (w32 (x4 + 1))) (w32 (x3 + 1))))))] [] (mk D)) else none) else none) else none) else none) else qE 88 4 [(3, 44), (0, x1), (0, x2), (0, (w32 (x3 + 1))), (0, x4), v5] [] (mk D)) := by
  refine Eq.trans (s_load (y := 88) (pc := 55) (nx := 57) (a := 0) (b := 4) (x := x4) rfl rfl) ?_
  refine Eq.trans (s_push (y := 88) (pc := 57) (nx := 59) (a := 0) (b := 9) rfl) ?_
  refine Eq.trans (s_icgt (y := 88) (pc := 59) (nx := 62) (b := 124) (tg := 124) rfl rfl) (ite_c ?_ ?_)
  · refine Eq.trans (s_load (y := 88) (pc := 62) (nx := 63) (a := 0) (b := 2) (x := x2) rfl rfl) ?_
    refine Eq.trans (s_load (y := 88) (pc := 63) (nx := 64) (a := 3) (b := 0) (x := 44) rfl rfl) ?_
    refine Eq.trans (s_get (y := 88) (pc := 64) (nx := 67) (a := 7) (b := 3) (t := 3) (v := 73) rfl (mk_k44 _) rfl (mk_44_3 _)) ?_
    refine Eq.trans (s_load (y := 88) (pc := 67) (nx := 69) (a := 0) (b := 4) (x := x4) rfl rfl) ?_
    refine Eq.trans (s_push (y := 88) (pc := 69) (nx := 70) (a := 0) (b := 1) rfl) ?_
    refine Eq.trans (s_add (y := 88) (pc := 70) (nx := 71) (b := 0) rfl) ?_
    refine Eq.trans (s_ald (y := 88) (pc := 71) (nx := 72) (a := 3) (b := 0) (k := 5) (n := 11) (t := 3) (v := (mk D 73 (w32 (x4 + 1)))) rfl (mk_k73 _) rfl rfl (mk_l73 _) rfl) (ite_c ?_ rfl)
    refine Eq.trans (s_load (y := 88) (pc := 72) (nx := 73) (a := 0) (b := 3) (x := x3) rfl rfl) ?_
    refine Eq.trans (s_push (y := 88) (pc := 73) (nx := 74) (a := 0) (b := 1) rfl) ?_
    refine Eq.trans (s_add (y := 88) (pc := 74) (nx := 75) (b := 0) rfl) ?_
    refine Eq.trans (s_aldq (y := 88) (pc := 75) (nx := 76) (a := 1) (b := 0) (t := 0) rfl ak_1) (ite_c ?_ rfl)
    refine Eq.trans (s_add (y := 88) (pc := 76) (nx := 77) (b := 0) rfl) ?_
    refine Eq.trans (s_store (y := 88) (pc := 77) (nx := 79) (a := 0) (b := 5) (ls' := [(3, 44), (0, x1), (0, x2), (0, x3), (0, x4), (0, (w32 (x2 + ((mk D) (mk D 73 (w32 (x4 + 1))) (w32 (x3 + 1))))))]) rfl (Nat.le_of_ble_eq_true rfl) rfl) ?_
    refine Eq.trans (s_load (y := 88) (pc := 79) (nx := 81) (a := 0) (b := 5) (x := (w32 (x2 + ((mk D) (mk D 73 (w32 (x4 + 1))) (w32 (x3 + 1)))))) rfl rfl) ?_
    refine Eq.trans (s_load (y := 88) (pc := 81) (nx := 82) (a := 3) (b := 0) (x := 44) rfl rfl) ?_
    refine Eq.trans (s_get (y := 88) (pc := 82) (nx := 85) (a := 7) (b := 3) (t := 3) (v := 73) rfl (mk_k44 _) rfl (mk_44_3 _)) ?_
    refine Eq.trans (s_load (y := 88) (pc := 85) (nx := 87) (a := 0) (b := 4) (x := x4) rfl rfl) ?_
    refine Eq.trans (s_ald (y := 88) (pc := 87) (nx := 88) (a := 3) (b := 0) (k := 5) (n := 11) (t := 3) (v := (mk D 73 x4)) rfl (mk_k73 _) rfl rfl (mk_l73 _) rfl) (ite_c ?_ rfl)
    refine Eq.trans (s_load (y := 88) (pc := 88) (nx := 89) (a := 0) (b := 1) (x := x1) rfl rfl) ?_
    refine Eq.trans (s_aldq (y := 88) (pc := 89) (nx := 90) (a := 1) (b := 0) (t := 0) rfl ak_1) (ite_c ?_ rfl)
    refine Eq.trans (s_icge (y := 88) (pc := 90) (nx := 93) (b := 118) (tg := 118) rfl rfl) (ite_c ?_ ?_)
    · refine Eq.trans (s_load (y := 88) (pc := 93) (nx := 94) (a := 3) (b := 0) (x := 44) rfl rfl) ?_
      refine Eq.trans (s_get (y := 88) (pc := 94) (nx := 97) (a := 7) (b := 3) (t := 3) (v := 73) rfl (mk_k44 _) rfl (mk_44_3 _)) ?_
      refine Eq.trans (s_load (y := 88) (pc := 97) (nx := 99) (a := 0) (b := 4) (x := x4) rfl rfl) ?_
      refine Eq.trans (s_ald (y := 88) (pc := 99) (nx := 100) (a := 3) (b := 0) (k := 5) (n := 11) (t := 3) (v := (mk D 73 x4)) rfl (mk_k73 _) rfl rfl (mk_l73 _) rfl) (ite_c ?_ rfl)
      refine Eq.trans (s_load (y := 88) (pc := 100) (nx := 101) (a := 0) (b := 1) (x := x1) rfl rfl) ?_
      refine Eq.trans (s_load (y := 88) (pc := 101) (nx := 103) (a := 0) (b := 5) (x := (w32 (x2 + ((mk D) (mk D 73 (w32 (x4 + 1))) (w32 (x3 + 1)))))) rfl rfl) ?_
      refine Eq.trans (s_astq (y := 88) (pc := 103) (nx := 104) (a := 1) (b := 0) rfl) (ite_c ?_ rfl)
      rfl
    · rfl
  · refine Eq.trans (s_iinc (y := 88) (pc := 124) (nx := 127) (a := 3) (b := 1) (x := x3) (ls' := [(3, 44), (0, x1), (0, x2), (0, (w32 (x3 + 1))), (0, x4), v5]) rfl rfl rfl) ?_
    refine Eq.trans (s_goto (y := 88) (pc := 127) (nx := 130) (a := 0) (b := 4) (tg := 4) rfl rfl) ?_
    rfl
theorem e_88_104 (D : Mem) (x1 : Int) (x2 : Int) (x3 : Int) (x4 : Int) (x5 : Int) : qE 88 104 [(3, 44), (0, x1), (0, x2), (0, x3), (0, x4), (0, x5)] [] (mk D) = (if 0 ≤ x4 ∧ x4 < 11 then (if ((mk D 85 x4) : Int) ≠ 1 ∧ aPut (mk D) 1 ((mk D) (-(mk D 85 x4)) 0) (0, (w32 ((w32 (x3 - x1)) + 1))) = true ∧ 0 ≤ x1 ∧ x1 < (mk D) (-(mk D 85 x4)) 1 then qE 88 118 [(3, 44), (0, x1), (0, x2), (0, x3), (0, x4), (0, x5)] [] (mU (mk D) (mk D 85 x4) x1 (w32 ((w32 (x3 - x1)) + 1))) else none) else none) := by
  refine Eq.trans (s_load (y := 88) (pc := 104) (nx := 105) (a := 3) (b := 0) (x := 44) rfl rfl) ?_
  refine Eq.trans (s_get (y := 88) (pc := 105) (nx := 108) (a := 7) (b := 4) (t := 3) (v := 85) rfl (mk_k44 _) rfl (mk_44_4 _)) ?_
  refine Eq.trans (s_load (y := 88) (pc := 108) (nx := 110) (a := 0) (b := 4) (x := x4) rfl rfl) ?_
  refine Eq.trans (s_ald (y := 88) (pc := 110) (nx := 111) (a := 3) (b := 0) (k := 5) (n := 11) (t := 3) (v := (mk D 85 x4)) rfl (mk_k85 _) rfl rfl (mk_l85 _) rfl) (ite_c ?_ rfl)
  refine Eq.trans (s_load (y := 88) (pc := 111) (nx := 112) (a := 0) (b := 1) (x := x1) rfl rfl) ?_
  refine Eq.trans (s_load (y := 88) (pc := 112) (nx := 113) (a := 0) (b := 3) (x := x3) rfl rfl) ?_
  refine Eq.trans (s_load (y := 88) (pc := 113) (nx := 114) (a := 0) (b := 1) (x := x1) rfl rfl) ?_
  refine Eq.trans (s_sub (y := 88) (pc := 114) (nx := 115) (b := 0) rfl) ?_
  refine Eq.trans (s_push (y := 88) (pc := 115) (nx := 116) (a := 0) (b := 1) rfl) ?_
  refine Eq.trans (s_add (y := 88) (pc := 116) (nx := 117) (b := 0) rfl) ?_
  refine Eq.trans (s_astq (y := 88) (pc := 117) (nx := 118) (a := 1) (b := 0) rfl) (ite_c ?_ rfl)
  rfl
theorem e_88_118 (D : Mem) (x1 : Int) (x2 : Int) (x3 : Int) (x4 : Int) (x5 : Int) : qE 88 118 [(3, 44), (0, x1), (0, x2), (0, x3), (0, x4), (0, x5)] [] (mk D) = qE 88 55 [(3, 44), (0, x1), (0, x2), (0, x3), (0, (w32 (x4 + 1))), (0, x5)] [] (mk D) := by
  refine Eq.trans (s_iinc (y := 88) (pc := 118) (nx := 121) (a := 4) (b := 1) (x := x4) (ls' := [(3, 44), (0, x1), (0, x2), (0, x3), (0, (w32 (x4 + 1))), (0, x5)]) rfl rfl rfl) ?_
  refine Eq.trans (s_goto (y := 88) (pc := 121) (nx := 124) (a := 0) (b := 55) (tg := 55) rfl rfl) ?_
  rfl
theorem r_89 (D : Mem) : qR 89 [(3, 44), (3, 3)] (mk D) = qE 89 2 [(3, 44), (3, 3), (0, 1), (9, 0), (9, 0), (9, 0), (9, 0), (9, 0)] [] (mk D) := by
  show qE 89 0 [(3, 44), (3, 3), (9, 0), (9, 0), (9, 0), (9, 0), (9, 0), (9, 0)] [] (mk D) = _
  refine Eq.trans (s_push (y := 89) (pc := 0) (nx := 1) (a := 0) (b := 1) rfl) ?_
  refine Eq.trans (s_store (y := 89) (pc := 1) (nx := 2) (a := 0) (b := 2) (ls' := [(3, 44), (3, 3), (0, 1), (9, 0), (9, 0), (9, 0), (9, 0), (9, 0)]) rfl (Nat.le_of_ble_eq_true rfl) rfl) ?_
  rfl
theorem e_89_2 (D : Mem) (x2 : Int) : qE 89 2 [(3, 44), (3, 3), (0, x2), (9, 0), (9, 0), (9, 0), (9, 0), (9, 0)] [] (mk D) = (if x2 ≤ 9 then ((qR 91 [(3, 44), (0, x2), (3, 3)] (mk D)).bind fun w => qE 89 19 [(3, 44), (3, 3), (0, x2), (9, 0), (9, 0), (9, 0), (9, 0), (9, 0)] (psh w.1 [(0, x2), (3, 97)]) w.2) else qE 89 36 [(3, 44), (3, 3), (0, 0), (0, 0), (0, 0), (0, 0), (9, 0), (9, 0)] [] (mk D)) := by
  refine Eq.trans (s_load (y := 89) (pc := 2) (nx := 3) (a := 0) (b := 2) (x := x2) rfl rfl) ?_
  refine Eq.trans (s_push (y := 89) (pc := 3) (nx := 5) (a := 0) (b := 9) rfl) ?_
  refine Eq.trans (s_icgt (y := 89) (pc := 5) (nx := 8) (b := 26) (tg := 26) rfl rfl) (ite_c ?_ ?_)
  · refine Eq.trans (s_load (y := 89) (pc := 8) (nx := 9) (a := 3) (b := 0) (x := 44) rfl rfl) ?_
    refine Eq.trans (s_get (y := 89) (pc := 9) (nx := 12) (a := 7) (b := 5) (t := 3) (v := 97) rfl (mk_k44 _) rfl (mk_44_5 _)) ?_
    refine Eq.trans (s_load (y := 89) (pc := 12) (nx := 13) (a := 0) (b := 2) (x := x2) rfl rfl) ?_
    refine Eq.trans (s_load (y := 89) (pc := 13) (nx := 14) (a := 3) (b := 0) (x := 44) rfl rfl) ?_
    refine Eq.trans (s_load (y := 89) (pc := 14) (nx := 15) (a := 0) (b := 2) (x := x2) rfl rfl) ?_
    refine Eq.trans (s_load (y := 89) (pc := 15) (nx := 16) (a := 3) (b := 1) (x := 3) rfl rfl) ?_
    exact s_call (y := 89) (pc := 16) (nx := 19) (a := 91) (b := 0) (as := [(3, 44), (0, x2), (3, 3)]) (r := [(0, x2), (3, 97)]) rfl (Nat.le_of_ble_eq_true rfl) rfl rfl (Nat.le_of_ble_eq_true rfl) (Nat.le_of_ble_eq_true rfl) (Or.inr ⟨rfl, mk_k44 _⟩)
  · refine Eq.trans (s_push (y := 89) (pc := 26) (nx := 27) (a := 0) (b := 0) rfl) ?_
    refine Eq.trans (s_store (y := 89) (pc := 27) (nx := 28) (a := 0) (b := 2) (ls' := [(3, 44), (3, 3), (0, 0), (9, 0), (9, 0), (9, 0), (9, 0), (9, 0)]) rfl (Nat.le_of_ble_eq_true rfl) rfl) ?_
    refine Eq.trans (s_push (y := 89) (pc := 28) (nx := 29) (a := 0) (b := 0) rfl) ?_
    refine Eq.trans (s_store (y := 89) (pc := 29) (nx := 30) (a := 0) (b := 3) (ls' := [(3, 44), (3, 3), (0, 0), (0, 0), (9, 0), (9, 0), (9, 0), (9, 0)]) rfl (Nat.le_of_ble_eq_true rfl) rfl) ?_
    refine Eq.trans (s_push (y := 89) (pc := 30) (nx := 31) (a := 0) (b := 0) rfl) ?_
    refine Eq.trans (s_store (y := 89) (pc := 31) (nx := 33) (a := 0) (b := 4) (ls' := [(3, 44), (3, 3), (0, 0), (0, 0), (0, 0), (9, 0), (9, 0), (9, 0)]) rfl (Nat.le_of_ble_eq_true rfl) rfl) ?_
    refine Eq.trans (s_push (y := 89) (pc := 33) (nx := 34) (a := 0) (b := 0) rfl) ?_
    refine Eq.trans (s_store (y := 89) (pc := 34) (nx := 36) (a := 0) (b := 5) (ls' := [(3, 44), (3, 3), (0, 0), (0, 0), (0, 0), (0, 0), (9, 0), (9, 0)]) rfl (Nat.le_of_ble_eq_true rfl) rfl) ?_
    rfl
theorem e_89_19 (D : Mem) (x2 : Int) (s1 : Int) (s2 : Int) : qE 89 19 [(3, 44), (3, 3), (0, x2), (9, 0), (9, 0), (9, 0), (9, 0), (9, 0)] [(0, s2), (0, s1), (3, 97)] (mk D) = (if 0 ≤ s1 ∧ s1 < 10 then qE 89 2 [(3, 44), (3, 3), (0, (w32 (x2 + 1))), (9, 0), (9, 0), (9, 0), (9, 0), (9, 0)] [] (mk (mU D 97 s1 s2)) else none) := by
  refine Eq.trans (s_ast (y := 89) (pc := 19) (nx := 20) (a := 1) (b := 0) (k := 1) (n := 10) (t := 0) (v := s2) (μ' := mk (mU D 97 s1 s2)) rfl (by decide) (mk_k97 _) rfl (mk_l97 _) (mu_97 _ _ _)) (ite_c ?_ rfl)
  refine Eq.trans (s_iinc (y := 89) (pc := 20) (nx := 23) (a := 2) (b := 1) (x := x2) (ls' := [(3, 44), (3, 3), (0, (w32 (x2 + 1))), (9, 0), (9, 0), (9, 0), (9, 0), (9, 0)]) rfl rfl rfl) ?_
  refine Eq.trans (s_goto (y := 89) (pc := 23) (nx := 26) (a := 0) (b := 2) (tg := 2) rfl rfl) ?_
  rfl
theorem e_89_36 (D : Mem) (x2 : Int) (x3 : Int) (x4 : Int) (x5 : Int) (v6 : PV) (v7 : PV) : qE 89 36 [(3, 44), (3, 3), (0, x2), (0, x3), (0, x4), (0, x5), v6, v7] [] (mk D) = (if x5 < 26 then qE 89 49 [(3, 44), (3, 3), (0, x2), (0, x3), (0, x4), (0, x5), (0, (w32 (x5 + 1))), v7] [] (mk D) else (if x2 ≤ 0 then qE 89 106 [(3, 44), (3, 3), (0, x2), (0, x3), (0, x4), (0, x5), v6, v7] [] (mk D) else ((qR 28 [(3, 3), (0, x3), (0, x4)] (mk D)).bind fun w => qE 89 106 [(3, 44), (3, 3), (0, x2), (0, x3), (0, x4), (0, x5), v6, v7] (psh w.1 []) w.2))) := by
  refine Eq.trans (s_load (y := 89) (pc := 36) (nx := 38) (a := 0) (b := 5) (x := x5) rfl rfl) ?_
  refine Eq.trans (s_push (y := 89) (pc := 38) (nx := 40) (a := 0) (b := 26) rfl) ?_
  refine Eq.trans (s_icge (y := 89) (pc := 40) (nx := 43) (b := 95) (tg := 95) rfl rfl) (ite_c ?_ ?_)
  · refine Eq.trans (s_load (y := 89) (pc := 43) (nx := 45) (a := 0) (b := 5) (x := x5) rfl rfl) ?_
    refine Eq.trans (s_push (y := 89) (pc := 45) (nx := 46) (a := 0) (b := 1) rfl) ?_
    refine Eq.trans (s_add (y := 89) (pc := 46) (nx := 47) (b := 0) rfl) ?_
    refine Eq.trans (s_store (y := 89) (pc := 47) (nx := 49) (a := 0) (b := 6) (ls' := [(3, 44), (3, 3), (0, x2), (0, x3), (0, x4), (0, x5), (0, (w32 (x5 + 1))), v7]) rfl (Nat.le_of_ble_eq_true rfl) rfl) ?_
    rfl
  · refine Eq.trans (s_load (y := 89) (pc := 95) (nx := 96) (a := 0) (b := 2) (x := x2) rfl rfl) ?_
    refine Eq.trans (s_ifle (y := 89) (pc := 96) (nx := 99) (b := 106) (tg := 106) rfl rfl) (ite_c ?_ ?_)
    · rfl
    · refine Eq.trans (s_load (y := 89) (pc := 99) (nx := 100) (a := 3) (b := 1) (x := 3) rfl rfl) ?_
      refine Eq.trans (s_load (y := 89) (pc := 100) (nx := 101) (a := 0) (b := 3) (x := x3) rfl rfl) ?_
      refine Eq.trans (s_load (y := 89) (pc := 101) (nx := 103) (a := 0) (b := 4) (x := x4) rfl rfl) ?_
      exact s_call (y := 89) (pc := 103) (nx := 106) (a := 28) (b := 0) (as := [(3, 3), (0, x3), (0, x4)]) (r := []) rfl (Nat.le_of_ble_eq_true rfl) rfl rfl (Nat.le_of_ble_eq_true rfl) (Nat.le_of_ble_eq_true rfl) (Or.inr ⟨rfl, mk_k3 _⟩)
theorem e_89_49 (D : Mem) (x2 : Int) (x3 : Int) (x4 : Int) (x5 : Int) (x6 : Int) (v7 : PV) : qE 89 49 [(3, 44), (3, 3), (0, x2), (0, x3), (0, x4), (0, x5), (0, x6), v7] [] (mk D) = (if x6 < 26 then ((qR 90 [(3, 44), (0, x5), (0, x6), (3, 3)] (mk D)).bind fun w => qE 89 65 [(3, 44), (3, 3), (0, x2), (0, x3), (0, x4), (0, x5), (0, x6), v7] (psh w.1 []) w.2) else qE 89 36 [(3, 44), (3, 3), (0, x2), (0, x3), (0, x4), (0, (w32 (x5 + 1))), (0, x6), v7] [] (mk D)) := by
  refine Eq.trans (s_load (y := 89) (pc := 49) (nx := 51) (a := 0) (b := 6) (x := x6) rfl rfl) ?_
  refine Eq.trans (s_push (y := 89) (pc := 51) (nx := 53) (a := 0) (b := 26) rfl) ?_
  refine Eq.trans (s_icge (y := 89) (pc := 53) (nx := 56) (b := 89) (tg := 89) rfl rfl) (ite_c ?_ ?_)
  · refine Eq.trans (s_load (y := 89) (pc := 56) (nx := 57) (a := 3) (b := 0) (x := 44) rfl rfl) ?_
    refine Eq.trans (s_load (y := 89) (pc := 57) (nx := 59) (a := 0) (b := 5) (x := x5) rfl rfl) ?_
    refine Eq.trans (s_load (y := 89) (pc := 59) (nx := 61) (a := 0) (b := 6) (x := x6) rfl rfl) ?_
    refine Eq.trans (s_load (y := 89) (pc := 61) (nx := 62) (a := 3) (b := 1) (x := 3) rfl rfl) ?_
    exact s_call (y := 89) (pc := 62) (nx := 65) (a := 90) (b := 0) (as := [(3, 44), (0, x5), (0, x6), (3, 3)]) (r := []) rfl (Nat.le_of_ble_eq_true rfl) rfl rfl (Nat.le_of_ble_eq_true rfl) (Nat.le_of_ble_eq_true rfl) (Or.inr ⟨rfl, mk_k44 _⟩)
  · refine Eq.trans (s_iinc (y := 89) (pc := 89) (nx := 92) (a := 5) (b := 1) (x := x5) (ls' := [(3, 44), (3, 3), (0, x2), (0, x3), (0, x4), (0, (w32 (x5 + 1))), (0, x6), v7]) rfl rfl rfl) ?_
    refine Eq.trans (s_goto (y := 89) (pc := 92) (nx := 95) (a := 0) (b := 36) (tg := 36) rfl rfl) ?_
    rfl
theorem e_89_65 (D : Mem) (x2 : Int) (x3 : Int) (x4 : Int) (x5 : Int) (x6 : Int) (v7 : PV) (s0 : Int) : qE 89 65 [(3, 44), (3, 3), (0, x2), (0, x3), (0, x4), (0, x5), (0, x6), v7] [(0, s0)] (mk D) = (if s0 ≤ x2 then qE 89 49 [(3, 44), (3, 3), (0, x2), (0, x3), (0, x4), (0, x5), (0, (w32 (x6 + 1))), (0, s0)] [] (mk D) else qE 89 49 [(3, 44), (3, 3), (0, s0), (0, x5), (0, x6), (0, x5), (0, (w32 (x6 + 1))), (0, s0)] [] (mk D)) := by
  refine Eq.trans (s_store (y := 89) (pc := 65) (nx := 67) (a := 0) (b := 7) (ls' := [(3, 44), (3, 3), (0, x2), (0, x3), (0, x4), (0, x5), (0, x6), (0, s0)]) rfl (Nat.le_of_ble_eq_true rfl) rfl) ?_
  refine Eq.trans (s_load (y := 89) (pc := 67) (nx := 69) (a := 0) (b := 7) (x := s0) rfl rfl) ?_
  refine Eq.trans (s_load (y := 89) (pc := 69) (nx := 70) (a := 0) (b := 2) (x := x2) rfl rfl) ?_
  refine Eq.trans (s_icle (y := 89) (pc := 70) (nx := 73) (b := 83) (tg := 83) rfl rfl) (ite_c ?_ ?_)
  · refine Eq.trans (s_iinc (y := 89) (pc := 83) (nx := 86) (a := 6) (b := 1) (x := x6) (ls' := [(3, 44), (3, 3), (0, x2), (0, x3), (0, x4), (0, x5), (0, (w32 (x6 + 1))), (0, s0)]) rfl rfl rfl) ?_
    refine Eq.trans (s_goto (y := 89) (pc := 86) (nx := 89) (a := 0) (b := 49) (tg := 49) rfl rfl) ?_
    rfl
  · refine Eq.trans (s_load (y := 89) (pc := 73) (nx := 75) (a := 0) (b := 7) (x := s0) rfl rfl) ?_
    refine Eq.trans (s_store (y := 89) (pc := 75) (nx := 76) (a := 0) (b := 2) (ls' := [(3, 44), (3, 3), (0, s0), (0, x3), (0, x4), (0, x5), (0, x6), (0, s0)]) rfl (Nat.le_of_ble_eq_true rfl) rfl) ?_
    refine Eq.trans (s_load (y := 89) (pc := 76) (nx := 78) (a := 0) (b := 5) (x := x5) rfl rfl) ?_
    refine Eq.trans (s_store (y := 89) (pc := 78) (nx := 79) (a := 0) (b := 3) (ls' := [(3, 44), (3, 3), (0, s0), (0, x5), (0, x4), (0, x5), (0, x6), (0, s0)]) rfl (Nat.le_of_ble_eq_true rfl) rfl) ?_
    refine Eq.trans (s_load (y := 89) (pc := 79) (nx := 81) (a := 0) (b := 6) (x := x6) rfl rfl) ?_
    refine Eq.trans (s_store (y := 89) (pc := 81) (nx := 83) (a := 0) (b := 4) (ls' := [(3, 44), (3, 3), (0, s0), (0, x5), (0, x6), (0, x5), (0, x6), (0, s0)]) rfl (Nat.le_of_ble_eq_true rfl) rfl) ?_
    refine Eq.trans (s_iinc (y := 89) (pc := 83) (nx := 86) (a := 6) (b := 1) (x := x6) (ls' := [(3, 44), (3, 3), (0, s0), (0, x5), (0, x6), (0, x5), (0, (w32 (x6 + 1))), (0, s0)]) rfl rfl rfl) ?_
    refine Eq.trans (s_goto (y := 89) (pc := 86) (nx := 89) (a := 0) (b := 49) (tg := 49) rfl rfl) ?_
    rfl
theorem e_89_106 (D : Mem) (x2 : Int) (x3 : Int) (x4 : Int) (x5 : Int) (v6 : PV) (v7 : PV) : qE 89 106 [(3, 44), (3, 3), (0, x2), (0, x3), (0, x4), (0, x5), v6, v7] [] (mk D) = some ((0, x2), (mk D)) := by
  refine Eq.trans (s_load (y := 89) (pc := 106) (nx := 107) (a := 0) (b := 2) (x := x2) rfl rfl) ?_
  exact s_ret (y := 89) (pc := 107) (nx := 108) (a := 0) rfl (by decide)
theorem r_90 (D : Mem) (x1 : Int) (x2 : Int) : qR 90 [(3, 44), (0, x1), (0, x2), (3, 3)] (mk D) = ((qR 26 [(3, 3), (0, x1)] (mk D)).bind fun w => qE 90 5 [(3, 44), (0, x1), (0, x2), (3, 3), (9, 0), (9, 0), (9, 0)] (psh w.1 []) w.2) := by
  show qE 90 0 [(3, 44), (0, x1), (0, x2), (3, 3), (9, 0), (9, 0), (9, 0)] [] (mk D) = _
  refine Eq.trans (s_load (y := 90) (pc := 0) (nx := 1) (a := 3) (b := 3) (x := 3) rfl rfl) ?_
  refine Eq.trans (s_load (y := 90) (pc := 1) (nx := 2) (a := 0) (b := 1) (x := x1) rfl rfl) ?_
  exact s_call (y := 90) (pc := 2) (nx := 5) (a := 26) (b := 0) (as := [(3, 3), (0, x1)]) (r := []) rfl (Nat.le_of_ble_eq_true rfl) rfl rfl (Nat.le_of_ble_eq_true rfl) (Nat.le_of_ble_eq_true rfl) (Or.inr ⟨rfl, mk_k3 _⟩)
theorem e_90_5 (D : Mem) (x1 : Int) (x2 : Int) (s0 : Int) : qE 90 5 [(3, 44), (0, x1), (0, x2), (3, 3), (9, 0), (9, 0), (9, 0)] [(0, s0)] (mk D) = ((qR 26 [(3, 3), (0, x2)] (mk D)).bind fun w => qE 90 12 [(3, 44), (0, x1), (0, x2), (3, 3), (0, s0), (9, 0), (9, 0)] (psh w.1 []) w.2) := by
  refine Eq.trans (s_store (y := 90) (pc := 5) (nx := 7) (a := 0) (b := 4) (ls' := [(3, 44), (0, x1), (0, x2), (3, 3), (0, s0), (9, 0), (9, 0)]) rfl (Nat.le_of_ble_eq_true rfl) rfl) ?_
  refine Eq.trans (s_load (y := 90) (pc := 7) (nx := 8) (a := 3) (b := 3) (x := 3) rfl rfl) ?_
  refine Eq.trans (s_load (y := 90) (pc := 8) (nx := 9) (a := 0) (b := 2) (x := x2) rfl rfl) ?_
  exact s_call (y := 90) (pc := 9) (nx := 12) (a := 26) (b := 0) (as := [(3, 3), (0, x2)]) (r := []) rfl (Nat.le_of_ble_eq_true rfl) rfl rfl (Nat.le_of_ble_eq_true rfl) (Nat.le_of_ble_eq_true rfl) (Or.inr ⟨rfl, mk_k3 _⟩)
theorem e_90_12 (D : Mem) (x1 : Int) (x2 : Int) (x4 : Int) (s0 : Int) : qE 90 12 [(3, 44), (0, x1), (0, x2), (3, 3), (0, x4), (9, 0), (9, 0)] [(0, s0)] (mk D) = (if x4 = s0 then some ((0, 0), (mk D)) else ((qR 131 [(0, x4)] (mk D)).bind fun w => qE 90 26 [(3, 44), (0, x1), (0, x2), (3, 3), (0, x4), (0, s0), (9, 0)] (psh w.1 []) w.2)) := by
  refine Eq.trans (s_store (y := 90) (pc := 12) (nx := 14) (a := 0) (b := 5) (ls' := [(3, 44), (0, x1), (0, x2), (3, 3), (0, x4), (0, s0), (9, 0)]) rfl (Nat.le_of_ble_eq_true rfl) rfl) ?_
  refine Eq.trans (s_load (y := 90) (pc := 14) (nx := 16) (a := 0) (b := 4) (x := x4) rfl rfl) ?_
  refine Eq.trans (s_load (y := 90) (pc := 16) (nx := 18) (a := 0) (b := 5) (x := s0) rfl rfl) ?_
  refine Eq.trans (s_iceq (y := 90) (pc := 18) (nx := 21) (b := 37) (tg := 37) rfl rfl) (ite_c ?_ ?_)
  · refine Eq.trans (s_push (y := 90) (pc := 37) (nx := 38) (a := 0) (b := 0) rfl) ?_
    exact s_ret (y := 90) (pc := 38) (nx := 39) (a := 0) rfl (by decide)
  · refine Eq.trans (s_load (y := 90) (pc := 21) (nx := 23) (a := 0) (b := 4) (x := x4) rfl rfl) ?_
    exact s_call (y := 90) (pc := 23) (nx := 26) (a := 131) (b := 0) (as := [(0, x4)]) (r := []) rfl (Nat.le_of_ble_eq_true rfl) rfl rfl (Nat.le_of_ble_eq_true rfl) (Nat.le_of_ble_eq_true rfl) (Or.inl rfl)
theorem e_90_26 (D : Mem) (x1 : Int) (x2 : Int) (x4 : Int) (x5 : Int) (s0 : Int) : qE 90 26 [(3, 44), (0, x1), (0, x2), (3, 3), (0, x4), (0, x5), (9, 0)] [(0, s0)] (mk D) = (if s0 = 0 then some ((0, 0), (mk D)) else ((qR 131 [(0, x5)] (mk D)).bind fun w => qE 90 34 [(3, 44), (0, x1), (0, x2), (3, 3), (0, x4), (0, x5), (9, 0)] (psh w.1 []) w.2)) := by
  refine Eq.trans (s_ifeq (y := 90) (pc := 26) (nx := 29) (b := 37) (tg := 37) rfl rfl) (ite_c ?_ ?_)
  · refine Eq.trans (s_push (y := 90) (pc := 37) (nx := 38) (a := 0) (b := 0) rfl) ?_
    exact s_ret (y := 90) (pc := 38) (nx := 39) (a := 0) rfl (by decide)
  · refine Eq.trans (s_load (y := 90) (pc := 29) (nx := 31) (a := 0) (b := 5) (x := x5) rfl rfl) ?_
    exact s_call (y := 90) (pc := 31) (nx := 34) (a := 131) (b := 0) (as := [(0, x5)]) (r := []) rfl (Nat.le_of_ble_eq_true rfl) rfl rfl (Nat.le_of_ble_eq_true rfl) (Nat.le_of_ble_eq_true rfl) (Or.inl rfl)
theorem e_90_34 (D : Mem) (x1 : Int) (x2 : Int) (x4 : Int) (x5 : Int) (s0 : Int) : qE 90 34 [(3, 44), (0, x1), (0, x2), (3, 3), (0, x4), (0, x5), (9, 0)] [(0, s0)] (mk D) = (if s0 = 0 then some ((0, 0), (mk D)) else ((qR 28 [(3, 3), (0, x1), (0, x2)] (mk D)).bind fun w => qE 90 45 [(3, 44), (0, x1), (0, x2), (3, 3), (0, x4), (0, x5), (9, 0)] (psh w.1 []) w.2)) := by
  refine Eq.trans (s_ifne (y := 90) (pc := 34) (nx := 37) (b := 39) (tg := 39) rfl rfl) (ite_c ?_ ?_)
  · refine Eq.trans (s_push (y := 90) (pc := 37) (nx := 38) (a := 0) (b := 0) rfl) ?_
    exact s_ret (y := 90) (pc := 38) (nx := 39) (a := 0) rfl (by decide)
  · refine Eq.trans (s_load (y := 90) (pc := 39) (nx := 40) (a := 3) (b := 3) (x := 3) rfl rfl) ?_
    refine Eq.trans (s_load (y := 90) (pc := 40) (nx := 41) (a := 0) (b := 1) (x := x1) rfl rfl) ?_
    refine Eq.trans (s_load (y := 90) (pc := 41) (nx := 42) (a := 0) (b := 2) (x := x2) rfl rfl) ?_
    exact s_call (y := 90) (pc := 42) (nx := 45) (a := 28) (b := 0) (as := [(3, 3), (0, x1), (0, x2)]) (r := []) rfl (Nat.le_of_ble_eq_true rfl) rfl rfl (Nat.le_of_ble_eq_true rfl) (Nat.le_of_ble_eq_true rfl) (Or.inr ⟨rfl, mk_k3 _⟩)
theorem e_90_45 (D : Mem) (x1 : Int) (x2 : Int) (x4 : Int) (x5 : Int) : qE 90 45 [(3, 44), (0, x1), (0, x2), (3, 3), (0, x4), (0, x5), (9, 0)] [] (mk D) = ((qR 91 [(3, 44), (0, x4), (3, 3)] (mk D)).bind fun w => qE 90 52 [(3, 44), (0, x1), (0, x2), (3, 3), (0, x4), (0, x5), (9, 0)] (psh w.1 []) w.2) := by
  refine Eq.trans (s_load (y := 90) (pc := 45) (nx := 46) (a := 3) (b := 0) (x := 44) rfl rfl) ?_
  refine Eq.trans (s_load (y := 90) (pc := 46) (nx := 48) (a := 0) (b := 4) (x := x4) rfl rfl) ?_
  refine Eq.trans (s_load (y := 90) (pc := 48) (nx := 49) (a := 3) (b := 3) (x := 3) rfl rfl) ?_
  exact s_call (y := 90) (pc := 49) (nx := 52) (a := 91) (b := 0) (as := [(3, 44), (0, x4), (3, 3)]) (r := []) rfl (Nat.le_of_ble_eq_true rfl) rfl rfl (Nat.le_of_ble_eq_true rfl) (Nat.le_of_ble_eq_true rfl) (Or.inr ⟨rfl, mk_k44 _⟩)
theorem e_90_52 (D : Mem) (x1 : Int) (x2 : Int) (x4 : Int) (x5 : Int) (s0 : Int) : qE 90 52 [(3, 44), (0, x1), (0, x2), (3, 3), (0, x4), (0, x5), (9, 0)] [(0, s0)] (mk D) = ((qR 91 [(3, 44), (0, x5), (3, 3)] (mk D)).bind fun w => qE 90 59 [(3, 44), (0, x1), (0, x2), (3, 3), (0, x4), (0, x5), (9, 0)] (psh w.1 [(0, s0)]) w.2) := by
  refine Eq.trans (s_load (y := 90) (pc := 52) (nx := 53) (a := 3) (b := 0) (x := 44) rfl rfl) ?_
  refine Eq.trans (s_load (y := 90) (pc := 53) (nx := 55) (a := 0) (b := 5) (x := x5) rfl rfl) ?_
  refine Eq.trans (s_load (y := 90) (pc := 55) (nx := 56) (a := 3) (b := 3) (x := 3) rfl rfl) ?_
  exact s_call (y := 90) (pc := 56) (nx := 59) (a := 91) (b := 0) (as := [(3, 44), (0, x5), (3, 3)]) (r := [(0, s0)]) rfl (Nat.le_of_ble_eq_true rfl) rfl rfl (Nat.le_of_ble_eq_true rfl) (Nat.le_of_ble_eq_true rfl) (Or.inr ⟨rfl, mk_k44 _⟩)
theorem e_90_59 (D : Mem) (x1 : Int) (x2 : Int) (x4 : Int) (x5 : Int) (s0 : Int) (s1 : Int) : qE 90 59 [(3, 44), (0, x1), (0, x2), (3, 3), (0, x4), (0, x5), (9, 0)] [(0, s1), (0, s0)] (mk D) = ((qR 28 [(3, 3), (0, x1), (0, x2)] (mk D)).bind fun w => qE 90 68 [(3, 44), (0, x1), (0, x2), (3, 3), (0, x4), (0, x5), (0, (w32 (s0 + s1)))] (psh w.1 []) w.2) := by
  refine Eq.trans (s_add (y := 90) (pc := 59) (nx := 60) (b := 0) rfl) ?_
  refine Eq.trans (s_store (y := 90) (pc := 60) (nx := 62) (a := 0) (b := 6) (ls' := [(3, 44), (0, x1), (0, x2), (3, 3), (0, x4), (0, x5), (0, (w32 (s0 + s1)))]) rfl (Nat.le_of_ble_eq_true rfl) rfl) ?_
  refine Eq.trans (s_load (y := 90) (pc := 62) (nx := 63) (a := 3) (b := 3) (x := 3) rfl rfl) ?_
  refine Eq.trans (s_load (y := 90) (pc := 63) (nx := 64) (a := 0) (b := 1) (x := x1) rfl rfl) ?_
  refine Eq.trans (s_load (y := 90) (pc := 64) (nx := 65) (a := 0) (b := 2) (x := x2) rfl rfl) ?_
  exact s_call (y := 90) (pc := 65) (nx := 68) (a := 28) (b := 0) (as := [(3, 3), (0, x1), (0, x2)]) (r := []) rfl (Nat.le_of_ble_eq_true rfl) rfl rfl (Nat.le_of_ble_eq_true rfl) (Nat.le_of_ble_eq_true rfl) (Or.inr ⟨rfl, mk_k3 _⟩)
theorem e_90_68 (D : Mem) (x1 : Int) (x2 : Int) (x4 : Int) (x5 : Int) (x6 : Int) : qE 90 68 [(3, 44), (0, x1), (0, x2), (3, 3), (0, x4), (0, x5), (0, x6)] [] (mk D) = (if 0 ≤ x4 ∧ x4 < 10 then (if 0 ≤ x5 ∧ x5 < 10 then some ((0, (w32 ((w32 ((D 97 x4) + (D 97 x5))) - x6))), (mk D)) else none) else none) := by
  refine Eq.trans (s_load (y := 90) (pc := 68) (nx := 69) (a := 3) (b := 0) (x := 44) rfl rfl) ?_
  refine Eq.trans (s_get (y := 90) (pc := 69) (nx := 72) (a := 7) (b := 5) (t := 3) (v := 97) rfl (mk_k44 _) rfl (mk_44_5 _)) ?_
  refine Eq.trans (s_load (y := 90) (pc := 72) (nx := 74) (a := 0) (b := 4) (x := x4) rfl rfl) ?_
  refine Eq.trans (s_ald (y := 90) (pc := 74) (nx := 75) (a := 1) (b := 0) (k := 1) (n := 10) (t := 0) (v := (D 97 x4)) rfl (mk_k97 _) rfl rfl (mk_l97 _) (mk_c97 _ _)) (ite_c ?_ rfl)
  refine Eq.trans (s_load (y := 90) (pc := 75) (nx := 76) (a := 3) (b := 0) (x := 44) rfl rfl) ?_
  refine Eq.trans (s_get (y := 90) (pc := 76) (nx := 79) (a := 7) (b := 5) (t := 3) (v := 97) rfl (mk_k44 _) rfl (mk_44_5 _)) ?_
  refine Eq.trans (s_load (y := 90) (pc := 79) (nx := 81) (a := 0) (b := 5) (x := x5) rfl rfl) ?_
  refine Eq.trans (s_ald (y := 90) (pc := 81) (nx := 82) (a := 1) (b := 0) (k := 1) (n := 10) (t := 0) (v := (D 97 x5)) rfl (mk_k97 _) rfl rfl (mk_l97 _) (mk_c97 _ _)) (ite_c ?_ rfl)
  refine Eq.trans (s_add (y := 90) (pc := 82) (nx := 83) (b := 0) rfl) ?_
  refine Eq.trans (s_load (y := 90) (pc := 83) (nx := 85) (a := 0) (b := 6) (x := x6) rfl rfl) ?_
  refine Eq.trans (s_sub (y := 90) (pc := 85) (nx := 86) (b := 0) rfl) ?_
  exact s_ret (y := 90) (pc := 86) (nx := 87) (a := 0) rfl (by decide)
theorem r_91 (D : Mem) (x1 : Int) : qR 91 [(3, 44), (0, x1), (3, 3)] (mk D) = qE 91 8 [(3, 44), (0, x1), (3, 3), (0, 0), (0, 0), (0, 0)] [] (mk D) := by
  show qE 91 0 [(3, 44), (0, x1), (3, 3), (9, 0), (9, 0), (9, 0)] [] (mk D) = _
  refine Eq.trans (s_push (y := 91) (pc := 0) (nx := 1) (a := 0) (b := 0) rfl) ?_
  refine Eq.trans (s_store (y := 91) (pc := 1) (nx := 2) (a := 0) (b := 3) (ls' := [(3, 44), (0, x1), (3, 3), (0, 0), (9, 0), (9, 0)]) rfl (Nat.le_of_ble_eq_true rfl) rfl) ?_
  refine Eq.trans (s_push (y := 91) (pc := 2) (nx := 3) (a := 0) (b := 0) rfl) ?_
  refine Eq.trans (s_store (y := 91) (pc := 3) (nx := 5) (a := 0) (b := 4) (ls' := [(3, 44), (0, x1), (3, 3), (0, 0), (0, 0), (9, 0)]) rfl (Nat.le_of_ble_eq_true rfl) rfl) ?_
  refine Eq.trans (s_push (y := 91) (pc := 5) (nx := 6) (a := 0) (b := 0) rfl) ?_
  refine Eq.trans (s_store (y := 91) (pc := 6) (nx := 8) (a := 0) (b := 5) (ls' := [(3, 44), (0, x1), (3, 3), (0, 0), (0, 0), (0, 0)]) rfl (Nat.le_of_ble_eq_true rfl) rfl) ?_
  rfl
theorem e_91_8 (D : Mem) (x1 : Int) (x3 : Int) (x4 : Int) (x5 : Int) : qE 91 8 [(3, 44), (0, x1), (3, 3), (0, x3), (0, x4), (0, x5)] [] (mk D) = (if x5 < 26 then ((qR 26 [(3, 3), (0, x5)] (mk D)).bind fun w => qE 91 21 [(3, 44), (0, x1), (3, 3), (0, x3), (0, x4), (0, x5)] (psh w.1 []) w.2) else some ((0, x3), (mk D))) := by
  refine Eq.trans (s_load (y := 91) (pc := 8) (nx := 10) (a := 0) (b := 5) (x := x5) rfl rfl) ?_
  refine Eq.trans (s_push (y := 91) (pc := 10) (nx := 12) (a := 0) (b := 26) rfl) ?_
  refine Eq.trans (s_icge (y := 91) (pc := 12) (nx := 15) (b := 72) (tg := 72) rfl rfl) (ite_c ?_ ?_)
  · refine Eq.trans (s_load (y := 91) (pc := 15) (nx := 16) (a := 3) (b := 2) (x := 3) rfl rfl) ?_
    refine Eq.trans (s_load (y := 91) (pc := 16) (nx := 18) (a := 0) (b := 5) (x := x5) rfl rfl) ?_
    exact s_call (y := 91) (pc := 18) (nx := 21) (a := 26) (b := 0) (as := [(3, 3), (0, x5)]) (r := []) rfl (Nat.le_of_ble_eq_true rfl) rfl rfl (Nat.le_of_ble_eq_true rfl) (Nat.le_of_ble_eq_true rfl) (Or.inr ⟨rfl, mk_k3 _⟩)
  · refine Eq.trans (s_load (y := 91) (pc := 72) (nx := 73) (a := 0) (b := 3) (x := x3) rfl rfl) ?_
    exact s_ret (y := 91) (pc := 73) (nx := 74) (a := 0) rfl (by decide)
theorem e_91_21 (D : Mem) (x1 : Int) (x3 : Int) (x4 : Int) (x5 : Int) (s0 : Int) : qE 91 21 [(3, 44), (0, x1), (3, 3), (0, x3), (0, x4), (0, x5)] [(0, s0)] (mk D) = (if s0 = x1 then (if 0 ≤ x5 ∧ x5 < 26 then (if 0 ≤ x5 ∧ x5 < 26 then (if (D 45 x5) = 0 then qE 91 64 [(3, 44), (0, x1), (3, 3), (0, (w32 (x3 + (w32 ((D 45 x5) * (w32 (x4 + 1))))))), (0, (w32 (x4 + 1))), (0, x5)] [(0, 0), (0, (w32 (x3 + (w32 ((D 45 x5) * (w32 (x4 + 1)))))))] (mk D) else ((qR 92 [(3, 44), (0, x1), (0, x5), (3, 3)] (mk D)).bind fun w => qE 91 64 [(3, 44), (0, x1), (3, 3), (0, (w32 (x3 + (w32 ((D 45 x5) * (w32 (x4 + 1))))))), (0, (w32 (x4 + 1))), (0, x5)] (psh w.1 [(0, (w32 (x3 + (w32 ((D 45 x5) * (w32 (x4 + 1)))))))]) w.2)) else none) else none) else qE 91 8 [(3, 44), (0, x1), (3, 3), (0, x3), (0, x4), (0, (w32 (x5 + 1)))] [] (mk D)) := by
  refine Eq.trans (s_load (y := 91) (pc := 21) (nx := 22) (a := 0) (b := 1) (x := x1) rfl rfl) ?_
  refine Eq.trans (s_icne (y := 91) (pc := 22) (nx := 25) (b := 66) (tg := 66) rfl rfl) (ite_c ?_ ?_)
  · refine Eq.trans (s_iinc (y := 91) (pc := 25) (nx := 28) (a := 4) (b := 1) (x := x4) (ls' := [(3, 44), (0, x1), (3, 3), (0, x3), (0, (w32 (x4 + 1))), (0, x5)]) rfl rfl rfl) ?_
    refine Eq.trans (s_load (y := 91) (pc := 28) (nx := 29) (a := 0) (b := 3) (x := x3) rfl rfl) ?_
    refine Eq.trans (s_load (y := 91) (pc := 29) (nx := 30) (a := 3) (b := 0) (x := 44) rfl rfl) ?_
    refine Eq.trans (s_get (y := 91) (pc := 30) (nx := 33) (a := 7) (b := 0) (t := 3) (v := 45) rfl (mk_k44 _) rfl (mk_44_0 _)) ?_
    refine Eq.trans (s_load (y := 91) (pc := 33) (nx := 35) (a := 0) (b := 5) (x := x5) rfl rfl) ?_
    refine Eq.trans (s_ald (y := 91) (pc := 35) (nx := 36) (a := 1) (b := 0) (k := 1) (n := 26) (t := 0) (v := (D 45 x5)) rfl (mk_k45 _) rfl rfl (mk_l45 _) (mk_c45 _ _)) (ite_c ?_ rfl)
    refine Eq.trans (s_load (y := 91) (pc := 36) (nx := 38) (a := 0) (b := 4) (x := (w32 (x4 + 1))) rfl rfl) ?_
    refine Eq.trans (s_mul (y := 91) (pc := 38) (nx := 39) (b := 0) rfl) ?_
    refine Eq.trans (s_add (y := 91) (pc := 39) (nx := 40) (b := 0) rfl) ?_
    refine Eq.trans (s_store (y := 91) (pc := 40) (nx := 41) (a := 0) (b := 3) (ls' := [(3, 44), (0, x1), (3, 3), (0, (w32 (x3 + (w32 ((D 45 x5) * (w32 (x4 + 1))))))), (0, (w32 (x4 + 1))), (0, x5)]) rfl (Nat.le_of_ble_eq_true rfl) rfl) ?_
    refine Eq.trans (s_load (y := 91) (pc := 41) (nx := 42) (a := 0) (b := 3) (x := (w32 (x3 + (w32 ((D 45 x5) * (w32 (x4 + 1))))))) rfl rfl) ?_
    refine Eq.trans (s_load (y := 91) (pc := 42) (nx := 43) (a := 3) (b := 0) (x := 44) rfl rfl) ?_
    refine Eq.trans (s_get (y := 91) (pc := 43) (nx := 46) (a := 7) (b := 0) (t := 3) (v := 45) rfl (mk_k44 _) rfl (mk_44_0 _)) ?_
    refine Eq.trans (s_load (y := 91) (pc := 46) (nx := 48) (a := 0) (b := 5) (x := x5) rfl rfl) ?_
    refine Eq.trans (s_ald (y := 91) (pc := 48) (nx := 49) (a := 1) (b := 0) (k := 1) (n := 26) (t := 0) (v := (D 45 x5)) rfl (mk_k45 _) rfl rfl (mk_l45 _) (mk_c45 _ _)) (ite_c ?_ rfl)
    refine Eq.trans (s_ifne (y := 91) (pc := 49) (nx := 52) (b := 56) (tg := 56) rfl rfl) (ite_c ?_ ?_)
    · refine Eq.trans (s_push (y := 91) (pc := 52) (nx := 53) (a := 0) (b := 0) rfl) ?_
      refine Eq.trans (s_goto (y := 91) (pc := 53) (nx := 56) (a := 0) (b := 64) (tg := 64) rfl rfl) ?_
      rfl
    · refine Eq.trans (s_load (y := 91) (pc := 56) (nx := 57) (a := 3) (b := 0) (x := 44) rfl rfl) ?_
      refine Eq.trans (s_load (y := 91) (pc := 57) (nx := 58) (a := 0) (b := 1) (x := x1) rfl rfl) ?_
      refine Eq.trans (s_load (y := 91) (pc := 58) (nx := 60) (a := 0) (b := 5) (x := x5) rfl rfl) ?_
      refine Eq.trans (s_load (y := 91) (pc := 60) (nx := 61) (a := 3) (b := 2) (x := 3) rfl rfl) ?_
      exact s_call (y := 91) (pc := 61) (nx := 64) (a := 92) (b := 0) (as := [(3, 44), (0, x1), (0, x5), (3, 3)]) (r := [(0, (w32 (x3 + (w32 ((D 45 x5) * (w32 (x4 + 1)))))))]) rfl (Nat.le_of_ble_eq_true rfl) rfl rfl (Nat.le_of_ble_eq_true rfl) (Nat.le_of_ble_eq_true rfl) (Or.inr ⟨rfl, mk_k44 _⟩)
  · refine Eq.trans (s_iinc (y := 91) (pc := 66) (nx := 69) (a := 5) (b := 1) (x := x5) (ls' := [(3, 44), (0, x1), (3, 3), (0, x3), (0, x4), (0, (w32 (x5 + 1)))]) rfl rfl rfl) ?_
    refine Eq.trans (s_goto (y := 91) (pc := 69) (nx := 72) (a := 0) (b := 8) (tg := 8) rfl rfl) ?_
    rfl
theorem e_91_64 (D : Mem) (x1 : Int) (x3 : Int) (x4 : Int) (x5 : Int) (s0 : Int) (s1 : Int) : qE 91 64 [(3, 44), (0, x1), (3, 3), (0, x3), (0, x4), (0, x5)] [(0, s1), (0, s0)] (mk D) = qE 91 8 [(3, 44), (0, x1), (3, 3), (0, (w32 (s0 + s1))), (0, x4), (0, (w32 (x5 + 1)))] [] (mk D) := by
  refine Eq.trans (s_add (y := 91) (pc := 64) (nx := 65) (b := 0) rfl) ?_
  refine Eq.trans (s_store (y := 91) (pc := 65) (nx := 66) (a := 0) (b := 3) (ls' := [(3, 44), (0, x1), (3, 3), (0, (w32 (s0 + s1))), (0, x4), (0, x5)]) rfl (Nat.le_of_ble_eq_true rfl) rfl) ?_
  refine Eq.trans (s_iinc (y := 91) (pc := 66) (nx := 69) (a := 5) (b := 1) (x := x5) (ls' := [(3, 44), (0, x1), (3, 3), (0, (w32 (s0 + s1))), (0, x4), (0, (w32 (x5 + 1)))]) rfl rfl rfl) ?_
  refine Eq.trans (s_goto (y := 91) (pc := 69) (nx := 72) (a := 0) (b := 8) (tg := 8) rfl rfl) ?_
  rfl
theorem r_92 (D : Mem) (x1 : Int) (x2 : Int) : qR 92 [(3, 44), (0, x1), (0, x2), (3, 3)] (mk D) = qE 92 6 [(3, 44), (0, x1), (0, x2), (3, 3), (0, 0), (0, 0)] [] (mk D) := by
  show qE 92 0 [(3, 44), (0, x1), (0, x2), (3, 3), (9, 0), (9, 0)] [] (mk D) = _
  refine Eq.trans (s_push (y := 92) (pc := 0) (nx := 1) (a := 0) (b := 0) rfl) ?_
  refine Eq.trans (s_store (y := 92) (pc := 1) (nx := 3) (a := 0) (b := 4) (ls' := [(3, 44), (0, x1), (0, x2), (3, 3), (0, 0), (9, 0)]) rfl (Nat.le_of_ble_eq_true rfl) rfl) ?_
  refine Eq.trans (s_push (y := 92) (pc := 3) (nx := 4) (a := 0) (b := 0) rfl) ?_
  refine Eq.trans (s_store (y := 92) (pc := 4) (nx := 6) (a := 0) (b := 5) (ls' := [(3, 44), (0, x1), (0, x2), (3, 3), (0, 0), (0, 0)]) rfl (Nat.le_of_ble_eq_true rfl) rfl) ?_
  rfl
theorem e_92_6 (D : Mem) (x1 : Int) (x2 : Int) (x4 : Int) (x5 : Int) : qE 92 6 [(3, 44), (0, x1), (0, x2), (3, 3), (0, x4), (0, x5)] [] (mk D) = (if x5 ≤ x2 then (if x2 < 26 then ((qR 26 [(3, 3), (0, x5)] (mk D)).bind fun w => qE 92 26 [(3, 44), (0, x1), (0, x2), (3, 3), (0, x4), (0, x5)] (psh w.1 [(0, x4)]) w.2) else some ((0, x4), (mk D))) else some ((0, x4), (mk D))) := by
  refine Eq.trans (s_load (y := 92) (pc := 6) (nx := 8) (a := 0) (b := 5) (x := x5) rfl rfl) ?_
  refine Eq.trans (s_load (y := 92) (pc := 8) (nx := 9) (a := 0) (b := 2) (x := x2) rfl rfl) ?_
  refine Eq.trans (s_icgt (y := 92) (pc := 9) (nx := 12) (b := 52) (tg := 52) rfl rfl) (ite_c ?_ ?_)
  · refine Eq.trans (s_load (y := 92) (pc := 12) (nx := 13) (a := 0) (b := 2) (x := x2) rfl rfl) ?_
    refine Eq.trans (s_push (y := 92) (pc := 13) (nx := 15) (a := 0) (b := 26) rfl) ?_
    refine Eq.trans (s_icge (y := 92) (pc := 15) (nx := 18) (b := 52) (tg := 52) rfl rfl) (ite_c ?_ ?_)
    · refine Eq.trans (s_load (y := 92) (pc := 18) (nx := 20) (a := 0) (b := 4) (x := x4) rfl rfl) ?_
      refine Eq.trans (s_load (y := 92) (pc := 20) (nx := 21) (a := 3) (b := 3) (x := 3) rfl rfl) ?_
      refine Eq.trans (s_load (y := 92) (pc := 21) (nx := 23) (a := 0) (b := 5) (x := x5) rfl rfl) ?_
      exact s_call (y := 92) (pc := 23) (nx := 26) (a := 26) (b := 0) (as := [(3, 3), (0, x5)]) (r := [(0, x4)]) rfl (Nat.le_of_ble_eq_true rfl) rfl rfl (Nat.le_of_ble_eq_true rfl) (Nat.le_of_ble_eq_true rfl) (Or.inr ⟨rfl, mk_k3 _⟩)
    · refine Eq.trans (s_load (y := 92) (pc := 52) (nx := 54) (a := 0) (b := 4) (x := x4) rfl rfl) ?_
      exact s_ret (y := 92) (pc := 54) (nx := 55) (a := 0) rfl (by decide)
  · refine Eq.trans (s_load (y := 92) (pc := 52) (nx := 54) (a := 0) (b := 4) (x := x4) rfl rfl) ?_
    exact s_ret (y := 92) (pc := 54) (nx := 55) (a := 0) rfl (by decide)
theorem e_92_26 (D : Mem) (x1 : Int) (x2 : Int) (x4 : Int) (x5 : Int) (s0 : Int) (s1 : Int) : qE 92 26 [(3, 44), (0, x1), (0, x2), (3, 3), (0, x4), (0, x5)] [(0, s1), (0, s0)] (mk D) = (if s1 = x1 then (if 0 ≤ x5 ∧ x5 < 26 then (if aKind 1 ((mk D) (-(mk D 46 x5)) 0) = true ∧ 0 ≤ x2 ∧ x2 < (mk D) (-(mk D 46 x5)) 1 then qE 92 6 [(3, 44), (0, x1), (0, x2), (3, 3), (0, (w32 (s0 + ((mk D) (mk D 46 x5) x2)))), (0, (w32 (x5 + 1)))] [] (mk D) else none) else none) else qE 92 6 [(3, 44), (0, x1), (0, x2), (3, 3), (0, (w32 (s0 + 0))), (0, (w32 (x5 + 1)))] [] (mk D)) := by
  refine Eq.trans (s_load (y := 92) (pc := 26) (nx := 27) (a := 0) (b := 1) (x := x1) rfl rfl) ?_
  refine Eq.trans (s_icne (y := 92) (pc := 27) (nx := 30) (b := 42) (tg := 42) rfl rfl) (ite_c ?_ ?_)
  · refine Eq.trans (s_load (y := 92) (pc := 30) (nx := 31) (a := 3) (b := 0) (x := 44) rfl rfl) ?_
    refine Eq.trans (s_get (y := 92) (pc := 31) (nx := 34) (a := 7) (b := 1) (t := 3) (v := 46) rfl (mk_k44 _) rfl (mk_44_1 _)) ?_
    refine Eq.trans (s_load (y := 92) (pc := 34) (nx := 36) (a := 0) (b := 5) (x := x5) rfl rfl) ?_
    refine Eq.trans (s_ald (y := 92) (pc := 36) (nx := 37) (a := 3) (b := 0) (k := 5) (n := 26) (t := 3) (v := (mk D 46 x5)) rfl (mk_k46 _) rfl rfl (mk_l46 _) rfl) (ite_c ?_ rfl)
    refine Eq.trans (s_load (y := 92) (pc := 37) (nx := 38) (a := 0) (b := 2) (x := x2) rfl rfl) ?_
    refine Eq.trans (s_aldq (y := 92) (pc := 38) (nx := 39) (a := 1) (b := 0) (t := 0) rfl ak_1) (ite_c ?_ rfl)
    refine Eq.trans (s_goto (y := 92) (pc := 39) (nx := 42) (a := 0) (b := 43) (tg := 43) rfl rfl) ?_
    refine Eq.trans (s_add (y := 92) (pc := 43) (nx := 44) (b := 0) rfl) ?_
    refine Eq.trans (s_store (y := 92) (pc := 44) (nx := 46) (a := 0) (b := 4) (ls' := [(3, 44), (0, x1), (0, x2), (3, 3), (0, (w32 (s0 + ((mk D) (mk D 46 x5) x2)))), (0, x5)]) rfl (Nat.le_of_ble_eq_true rfl) rfl) ?_
    refine Eq.trans (s_iinc (y := 92) (pc := 46) (nx := 49) (a := 5) (b := 1) (x := x5) (ls' := [(3, 44), (0, x1), (0, x2), (3, 3), (0, (w32 (s0 + ((mk D) (mk D 46 x5) x2)))), (0, (w32 (x5 + 1)))]) rfl rfl rfl) ?_
    refine Eq.trans (s_goto (y := 92) (pc := 49) (nx := 52) (a := 0) (b := 6) (tg := 6) rfl rfl) ?_
    rfl
  · refine Eq.trans (s_push (y := 92) (pc := 42) (nx := 43) (a := 0) (b := 0) rfl) ?_
    refine Eq.trans (s_add (y := 92) (pc := 43) (nx := 44) (b := 0) rfl) ?_
    refine Eq.trans (s_store (y := 92) (pc := 44) (nx := 46) (a := 0) (b := 4) (ls' := [(3, 44), (0, x1), (0, x2), (3, 3), (0, (w32 (s0 + 0))), (0, x5)]) rfl (Nat.le_of_ble_eq_true rfl) rfl) ?_
    refine Eq.trans (s_iinc (y := 92) (pc := 46) (nx := 49) (a := 5) (b := 1) (x := x5) (ls' := [(3, 44), (0, x1), (0, x2), (3, 3), (0, (w32 (s0 + 0))), (0, (w32 (x5 + 1)))]) rfl rfl rfl) ?_
    refine Eq.trans (s_goto (y := 92) (pc := 49) (nx := 52) (a := 0) (b := 6) (tg := 6) rfl rfl) ?_
    rfl
theorem r_95 (D : Mem) (x1 : Int) (x2 : Int) : qR 95 [(3, 2), (0, x1), (0, x2)] (mk D) = ((qR 130 [(0, x1)] (mk D)).bind fun w => qE 95 4 [(3, 2), (0, x1), (0, x2)] (psh w.1 []) w.2) := by
  show qE 95 0 [(3, 2), (0, x1), (0, x2)] [] (mk D) = _
  refine Eq.trans (s_load (y := 95) (pc := 0) (nx := 1) (a := 0) (b := 1) (x := x1) rfl rfl) ?_
  exact s_call (y := 95) (pc := 1) (nx := 4) (a := 130) (b := 0) (as := [(0, x1)]) (r := []) rfl (Nat.le_of_ble_eq_true rfl) rfl rfl (Nat.le_of_ble_eq_true rfl) (Nat.le_of_ble_eq_true rfl) (Or.inl rfl)
theorem e_95_4 (D : Mem) (x1 : Int) (x2 : Int) (s0 : Int) : qE 95 4 [(3, 2), (0, x1), (0, x2)] [(0, s0)] (mk D) = (if s0 = 0 then some ((0, (-1)), (mk D)) else ((qR 131 [(0, x2)] (mk D)).bind fun w => qE 95 11 [(3, 2), (0, x1), (0, x2)] (psh w.1 []) w.2)) := by
  refine Eq.trans (s_ifeq (y := 95) (pc := 4) (nx := 7) (b := 14) (tg := 14) rfl rfl) (ite_c ?_ ?_)
  · refine Eq.trans (s_push (y := 95) (pc := 14) (nx := 15) (a := 0) (b := (-1)) rfl) ?_
    exact s_ret (y := 95) (pc := 15) (nx := 16) (a := 0) rfl (by decide)
  · refine Eq.trans (s_load (y := 95) (pc := 7) (nx := 8) (a := 0) (b := 2) (x := x2) rfl rfl) ?_
    exact s_call (y := 95) (pc := 8) (nx := 11) (a := 131) (b := 0) (as := [(0, x2)]) (r := []) rfl (Nat.le_of_ble_eq_true rfl) rfl rfl (Nat.le_of_ble_eq_true rfl) (Nat.le_of_ble_eq_true rfl) (Or.inl rfl)
theorem e_95_11 (D : Mem) (x1 : Int) (x2 : Int) (s0 : Int) : qE 95 11 [(3, 2), (0, x1), (0, x2)] [(0, s0)] (mk D) = (if s0 = 0 then some ((0, (-1)), (mk D)) else ((qR 27 [(3, 3), (0, x1), (0, x2)] (mk D)).bind fun w => qE 95 25 [(3, 2), (0, x1), (0, x2)] (psh w.1 []) w.2)) := by
  refine Eq.trans (s_ifne (y := 95) (pc := 11) (nx := 14) (b := 16) (tg := 16) rfl rfl) (ite_c ?_ ?_)
  · refine Eq.trans (s_push (y := 95) (pc := 14) (nx := 15) (a := 0) (b := (-1)) rfl) ?_
    exact s_ret (y := 95) (pc := 15) (nx := 16) (a := 0) rfl (by decide)
  · refine Eq.trans (s_load (y := 95) (pc := 16) (nx := 17) (a := 3) (b := 0) (x := 2) rfl rfl) ?_
    refine Eq.trans (s_get (y := 95) (pc := 17) (nx := 20) (a := 9) (b := 0) (t := 3) (v := 3) rfl (mk_k2 _) rfl (mk_2_0 _)) ?_
    refine Eq.trans (s_load (y := 95) (pc := 20) (nx := 21) (a := 0) (b := 1) (x := x1) rfl rfl) ?_
    refine Eq.trans (s_load (y := 95) (pc := 21) (nx := 22) (a := 0) (b := 2) (x := x2) rfl rfl) ?_
    exact s_call (y := 95) (pc := 22) (nx := 25) (a := 27) (b := 0) (as := [(3, 3), (0, x1), (0, x2)]) (r := []) rfl (Nat.le_of_ble_eq_true rfl) rfl rfl (Nat.le_of_ble_eq_true rfl) (Nat.le_of_ble_eq_true rfl) (Or.inr ⟨rfl, mk_k3 _⟩)
theorem e_95_25 (D : Mem) (x1 : Int) (x2 : Int) (s0 : Int) : qE 95 25 [(3, 2), (0, x1), (0, x2)] [(0, s0)] (mk D) = (if s0 = 0 then some ((0, 0), (mk D)) else some ((0, 1), (mk D))) := by
  refine Eq.trans (s_ifeq (y := 95) (pc := 25) (nx := 28) (b := 32) (tg := 32) rfl rfl) (ite_c ?_ ?_)
  · refine Eq.trans (s_push (y := 95) (pc := 32) (nx := 33) (a := 0) (b := 0) rfl) ?_
    exact s_ret (y := 95) (pc := 33) (nx := 34) (a := 0) rfl (by decide)
  · refine Eq.trans (s_push (y := 95) (pc := 28) (nx := 29) (a := 0) (b := 1) rfl) ?_
    refine Eq.trans (s_goto (y := 95) (pc := 29) (nx := 32) (a := 0) (b := 33) (tg := 33) rfl rfl) ?_
    exact s_ret (y := 95) (pc := 33) (nx := 34) (a := 0) rfl (by decide)
theorem r_96 (D : Mem) (x1 : Int) (x2 : Int) : qR 96 [(3, 2), (0, x1), (0, x2)] (mk D) = ((qR 130 [(0, x1)] (mk D)).bind fun w => qE 96 4 [(3, 2), (0, x1), (0, x2)] (psh w.1 []) w.2) := by
  show qE 96 0 [(3, 2), (0, x1), (0, x2)] [] (mk D) = _
  refine Eq.trans (s_load (y := 96) (pc := 0) (nx := 1) (a := 0) (b := 1) (x := x1) rfl rfl) ?_
  exact s_call (y := 96) (pc := 1) (nx := 4) (a := 130) (b := 0) (as := [(0, x1)]) (r := []) rfl (Nat.le_of_ble_eq_true rfl) rfl rfl (Nat.le_of_ble_eq_true rfl) (Nat.le_of_ble_eq_true rfl) (Or.inl rfl)
theorem e_96_4 (D : Mem) (x1 : Int) (x2 : Int) (s0 : Int) : qE 96 4 [(3, 2), (0, x1), (0, x2)] [(0, s0)] (mk D) = (if s0 = 0 then some ((0, (-1)), (mk D)) else (qE 96 (swG (pSw.getD 0 []) x2 (Int.toNat 54)) [(3, 2), (0, x1), (0, x2)] [] (mk D))) := by
  refine Eq.trans (s_ifne (y := 96) (pc := 4) (nx := 7) (b := 9) (tg := 9) rfl rfl) (ite_c ?_ ?_)
  · refine Eq.trans (s_push (y := 96) (pc := 7) (nx := 8) (a := 0) (b := (-1)) rfl) ?_
    exact s_ret (y := 96) (pc := 8) (nx := 9) (a := 0) rfl (by decide)
  · refine Eq.trans (s_load (y := 96) (pc := 9) (nx := 10) (a := 0) (b := 2) (x := x2) rfl rfl) ?_
    refine Eq.trans (s_sw (y := 96) (pc := 10) (nx := 0) (a := 0) (b := 54) rfl) ?_
    rfl
theorem e_96_36 (D : Mem) (x1 : Int) (x2 : Int) : qE 96 36 [(3, 2), (0, x1), (0, x2)] [] (mk D) = ((qR 26 [(3, 3), (0, x1)] (mk D)).bind fun w => qE 96 44 [(3, 2), (0, x1), (0, x2)] (psh w.1 []) w.2) := by
  refine Eq.trans (s_load (y := 96) (pc := 36) (nx := 37) (a := 3) (b := 0) (x := 2) rfl rfl) ?_
  refine Eq.trans (s_get (y := 96) (pc := 37) (nx := 40) (a := 9) (b := 0) (t := 3) (v := 3) rfl (mk_k2 _) rfl (mk_2_0 _)) ?_
  refine Eq.trans (s_load (y := 96) (pc := 40) (nx := 41) (a := 0) (b := 1) (x := x1) rfl rfl) ?_
  exact s_call (y := 96) (pc := 41) (nx := 44) (a := 26) (b := 0) (as := [(3, 3), (0, x1)]) (r := []) rfl (Nat.le_of_ble_eq_true rfl) rfl rfl (Nat.le_of_ble_eq_true rfl) (Nat.le_of_ble_eq_true rfl) (Or.inr ⟨rfl, mk_k3 _⟩)
theorem e_96_44 (D : Mem) (x1 : Int) (x2 : Int) (s0 : Int) : qE 96 44 [(3, 2), (0, x1), (0, x2)] [(0, s0)] (mk D) = some ((0, s0), (mk D)) := by
  exact s_ret (y := 96) (pc := 44) (nx := 45) (a := 0) rfl (by decide)
theorem e_96_45 (D : Mem) (x1 : Int) (x2 : Int) : qE 96 45 [(3, 2), (0, x1), (0, x2)] [] (mk D) = ((qR 29 [(3, 3), (0, x1)] (mk D)).bind fun w => qE 96 53 [(3, 2), (0, x1), (0, x2)] (psh w.1 []) w.2) := by
  refine Eq.trans (s_load (y := 96) (pc := 45) (nx := 46) (a := 3) (b := 0) (x := 2) rfl rfl) ?_
  refine Eq.trans (s_get (y := 96) (pc := 46) (nx := 49) (a := 9) (b := 0) (t := 3) (v := 3) rfl (mk_k2 _) rfl (mk_2_0 _)) ?_
  refine Eq.trans (s_load (y := 96) (pc := 49) (nx := 50) (a := 0) (b := 1) (x := x1) rfl rfl) ?_
  exact s_call (y := 96) (pc := 50) (nx := 53) (a := 29) (b := 0) (as := [(3, 3), (0, x1)]) (r := []) rfl (Nat.le_of_ble_eq_true rfl) rfl rfl (Nat.le_of_ble_eq_true rfl) (Nat.le_of_ble_eq_true rfl) (Or.inr ⟨rfl, mk_k3 _⟩)
theorem e_96_53 (D : Mem) (x1 : Int) (x2 : Int) (s0 : Int) : qE 96 53 [(3, 2), (0, x1), (0, x2)] [(0, s0)] (mk D) = some ((0, s0), (mk D)) := by
  exact s_ret (y := 96) (pc := 53) (nx := 54) (a := 0) rfl (by decide)
theorem e_96_54 (D : Mem) (x1 : Int) (x2 : Int) : qE 96 54 [(3, 2), (0, x1), (0, x2)] [] (mk D) = some ((0, (-1)), (mk D)) := by
  refine Eq.trans (s_push (y := 96) (pc := 54) (nx := 55) (a := 0) (b := (-1)) rfl) ?_
  exact s_ret (y := 96) (pc := 55) (nx := 56) (a := 0) rfl (by decide)
theorem r_97 (D : Mem) (x1 : Int) (x2 : Int) : qR 97 [(3, 2), (0, x1), (0, x2)] (mk D) = ((qR 134 [(0, x1), (0, x2)] (mk D)).bind fun w => qE 97 5 [(3, 2), (0, x1), (0, x2)] (psh w.1 []) w.2) := by
  show qE 97 0 [(3, 2), (0, x1), (0, x2)] [] (mk D) = _
  refine Eq.trans (s_load (y := 97) (pc := 0) (nx := 1) (a := 0) (b := 1) (x := x1) rfl rfl) ?_
  refine Eq.trans (s_load (y := 97) (pc := 1) (nx := 2) (a := 0) (b := 2) (x := x2) rfl rfl) ?_
  exact s_call (y := 97) (pc := 2) (nx := 5) (a := 134) (b := 0) (as := [(0, x1), (0, x2)]) (r := []) rfl (Nat.le_of_ble_eq_true rfl) rfl rfl (Nat.le_of_ble_eq_true rfl) (Nat.le_of_ble_eq_true rfl) (Or.inl rfl)
theorem e_97_5 (D : Mem) (x1 : Int) (x2 : Int) (s0 : Int) : qE 97 5 [(3, 2), (0, x1), (0, x2)] [(0, s0)] (mk D) = (if s0 = 0 ∨ s0 = 1 then some ((0, s0), (mk D)) else none) := by
  exact s_retzq (y := 97) (pc := 5) (nx := 6) rfl
theorem r_98 (D : Mem) (x1 : Int) (x2 : Int) (x3 : Int) (x4 : Int) (x5 : Int) : qR 98 [(3, 2), (0, x1), (0, x2), (0, x3), (0, x4), (0, x5)] (mk D) = (if 0 ≤ (0 : Int) ∧ (0 : Int) < 5 then (if 0 ≤ (1 : Int) ∧ (1 : Int) < 5 then (if 0 ≤ (2 : Int) ∧ (2 : Int) < 5 then (if 0 ≤ (3 : Int) ∧ (3 : Int) < 5 then (if 0 ≤ (4 : Int) ∧ (4 : Int) < 5 then qE 98 40 [(3, 2), (0, x1), (0, x2), (0, x3), (0, x4), (0, x5), (0, 0), (9, 0)] [] (mk (mU (mU (mU (mU (mU D 104 (0 : Int) x1) 104 (1 : Int) x2) 104 (2 : Int) x3) 104 (3 : Int) x4) 104 (4 : Int) x5)) else none) else none) else none) else none) else none) := by
  show qE 98 0 [(3, 2), (0, x1), (0, x2), (0, x3), (0, x4), (0, x5), (9, 0), (9, 0)] [] (mk D) = _
  refine Eq.trans (s_load (y := 98) (pc := 0) (nx := 1) (a := 3) (b := 0) (x := 2) rfl rfl) ?_
  refine Eq.trans (s_get (y := 98) (pc := 1) (nx := 4) (a := 9) (b := 9) (t := 3) (v := 104) rfl (mk_k2 _) rfl (mk_2_9 _)) ?_
  refine Eq.trans (s_push (y := 98) (pc := 4) (nx := 5) (a := 0) (b := 0) rfl) ?_
  refine Eq.trans (s_load (y := 98) (pc := 5) (nx := 6) (a := 0) (b := 1) (x := x1) rfl rfl) ?_
  refine Eq.trans (s_ast (y := 98) (pc := 6) (nx := 7) (a := 1) (b := 0) (k := 1) (n := 5) (t := 0) (v := x1) (μ' := mk (mU D 104 (0 : Int) x1)) rfl (by decide) (mk_k104 _) rfl (mk_l104 _) (mu_104 _ _ _)) (ite_c ?_ rfl)
  refine Eq.trans (s_load (y := 98) (pc := 7) (nx := 8) (a := 3) (b := 0) (x := 2) rfl rfl) ?_
  refine Eq.trans (s_get (y := 98) (pc := 8) (nx := 11) (a := 9) (b := 9) (t := 3) (v := 104) rfl (mk_k2 _) rfl (mk_2_9 _)) ?_
  refine Eq.trans (s_push (y := 98) (pc := 11) (nx := 12) (a := 0) (b := 1) rfl) ?_
  refine Eq.trans (s_load (y := 98) (pc := 12) (nx := 13) (a := 0) (b := 2) (x := x2) rfl rfl) ?_
  refine Eq.trans (s_ast (y := 98) (pc := 13) (nx := 14) (a := 1) (b := 0) (k := 1) (n := 5) (t := 0) (v := x2) (μ' := mk (mU (mU D 104 (0 : Int) x1) 104 (1 : Int) x2)) rfl (by decide) (mk_k104 _) rfl (mk_l104 _) (mu_104 _ _ _)) (ite_c ?_ rfl)
  refine Eq.trans (s_load (y := 98) (pc := 14) (nx := 15) (a := 3) (b := 0) (x := 2) rfl rfl) ?_
  refine Eq.trans (s_get (y := 98) (pc := 15) (nx := 18) (a := 9) (b := 9) (t := 3) (v := 104) rfl (mk_k2 _) rfl (mk_2_9 _)) ?_
  refine Eq.trans (s_push (y := 98) (pc := 18) (nx := 19) (a := 0) (b := 2) rfl) ?_
  refine Eq.trans (s_load (y := 98) (pc := 19) (nx := 20) (a := 0) (b := 3) (x := x3) rfl rfl) ?_
  refine Eq.trans (s_ast (y := 98) (pc := 20) (nx := 21) (a := 1) (b := 0) (k := 1) (n := 5) (t := 0) (v := x3) (μ' := mk (mU (mU (mU D 104 (0 : Int) x1) 104 (1 : Int) x2) 104 (2 : Int) x3)) rfl (by decide) (mk_k104 _) rfl (mk_l104 _) (mu_104 _ _ _)) (ite_c ?_ rfl)
  refine Eq.trans (s_load (y := 98) (pc := 21) (nx := 22) (a := 3) (b := 0) (x := 2) rfl rfl) ?_
  refine Eq.trans (s_get (y := 98) (pc := 22) (nx := 25) (a := 9) (b := 9) (t := 3) (v := 104) rfl (mk_k2 _) rfl (mk_2_9 _)) ?_
  refine Eq.trans (s_push (y := 98) (pc := 25) (nx := 26) (a := 0) (b := 3) rfl) ?_
  refine Eq.trans (s_load (y := 98) (pc := 26) (nx := 28) (a := 0) (b := 4) (x := x4) rfl rfl) ?_
  refine Eq.trans (s_ast (y := 98) (pc := 28) (nx := 29) (a := 1) (b := 0) (k := 1) (n := 5) (t := 0) (v := x4) (μ' := mk (mU (mU (mU (mU D 104 (0 : Int) x1) 104 (1 : Int) x2) 104 (2 : Int) x3) 104 (3 : Int) x4)) rfl (by decide) (mk_k104 _) rfl (mk_l104 _) (mu_104 _ _ _)) (ite_c ?_ rfl)
  refine Eq.trans (s_load (y := 98) (pc := 29) (nx := 30) (a := 3) (b := 0) (x := 2) rfl rfl) ?_
  refine Eq.trans (s_get (y := 98) (pc := 30) (nx := 33) (a := 9) (b := 9) (t := 3) (v := 104) rfl (mk_k2 _) rfl (mk_2_9 _)) ?_
  refine Eq.trans (s_push (y := 98) (pc := 33) (nx := 34) (a := 0) (b := 4) rfl) ?_
  refine Eq.trans (s_load (y := 98) (pc := 34) (nx := 36) (a := 0) (b := 5) (x := x5) rfl rfl) ?_
  refine Eq.trans (s_ast (y := 98) (pc := 36) (nx := 37) (a := 1) (b := 0) (k := 1) (n := 5) (t := 0) (v := x5) (μ' := mk (mU (mU (mU (mU (mU D 104 (0 : Int) x1) 104 (1 : Int) x2) 104 (2 : Int) x3) 104 (3 : Int) x4) 104 (4 : Int) x5)) rfl (by decide) (mk_k104 _) rfl (mk_l104 _) (mu_104 _ _ _)) (ite_c ?_ rfl)
  refine Eq.trans (s_push (y := 98) (pc := 37) (nx := 38) (a := 0) (b := 0) rfl) ?_
  refine Eq.trans (s_store (y := 98) (pc := 38) (nx := 40) (a := 0) (b := 6) (ls' := [(3, 2), (0, x1), (0, x2), (0, x3), (0, x4), (0, x5), (0, 0), (9, 0)]) rfl (Nat.le_of_ble_eq_true rfl) rfl) ?_
  rfl
theorem e_98_40 (D : Mem) (x1 : Int) (x2 : Int) (x3 : Int) (x4 : Int) (x5 : Int) (x6 : Int) : qE 98 40 [(3, 2), (0, x1), (0, x2), (0, x3), (0, x4), (0, x5), (0, x6), (9, 0)] [] (mk D) = (if x6 < 5 then (if 0 ≤ x6 ∧ x6 < 5 then (if (D 104 x6) = (-1) then ((qR 55 [(3, 98)] (mk D)).bind fun w => qE 98 89 [(3, 2), (0, x1), (0, x2), (0, x3), (0, x4), (0, x5), (0, x6), (9, 0)] (psh w.1 []) w.2) else (if 0 ≤ x6 ∧ x6 < 5 then ((qR 130 [(0, (D 104 x6))] (mk D)).bind fun w => qE 98 71 [(3, 2), (0, x1), (0, x2), (0, x3), (0, x4), (0, x5), (0, x6), (9, 0)] (psh w.1 []) w.2) else none)) else none) else ((qR 55 [(3, 98)] (mk D)).bind fun w => qE 98 89 [(3, 2), (0, x1), (0, x2), (0, x3), (0, x4), (0, x5), (0, x6), (9, 0)] (psh w.1 []) w.2)) := by
  refine Eq.trans (s_load (y := 98) (pc := 40) (nx := 42) (a := 0) (b := 6) (x := x6) rfl rfl) ?_
  refine Eq.trans (s_load (y := 98) (pc := 42) (nx := 43) (a := 3) (b := 0) (x := 2) rfl rfl) ?_
  refine Eq.trans (s_get (y := 98) (pc := 43) (nx := 46) (a := 9) (b := 9) (t := 3) (v := 104) rfl (mk_k2 _) rfl (mk_2_9 _)) ?_
  refine Eq.trans (s_len (y := 98) (pc := 46) (nx := 47) (a := 0) (b := 0) (k := 1) (n := 5) rfl (mk_k104 _) (by decide) (mk_l104 _)) ?_
  refine Eq.trans (s_icge (y := 98) (pc := 47) (nx := 50) (b := 82) (tg := 82) rfl rfl) (ite_c ?_ ?_)
  · refine Eq.trans (s_load (y := 98) (pc := 50) (nx := 51) (a := 3) (b := 0) (x := 2) rfl rfl) ?_
    refine Eq.trans (s_get (y := 98) (pc := 51) (nx := 54) (a := 9) (b := 9) (t := 3) (v := 104) rfl (mk_k2 _) rfl (mk_2_9 _)) ?_
    refine Eq.trans (s_load (y := 98) (pc := 54) (nx := 56) (a := 0) (b := 6) (x := x6) rfl rfl) ?_
    refine Eq.trans (s_ald (y := 98) (pc := 56) (nx := 57) (a := 1) (b := 0) (k := 1) (n := 5) (t := 0) (v := (D 104 x6)) rfl (mk_k104 _) rfl rfl (mk_l104 _) (mk_c104 _ _)) (ite_c ?_ rfl)
    refine Eq.trans (s_push (y := 98) (pc := 57) (nx := 58) (a := 0) (b := (-1)) rfl) ?_
    refine Eq.trans (s_iceq (y := 98) (pc := 58) (nx := 61) (b := 82) (tg := 82) rfl rfl) (ite_c ?_ ?_)
    · refine Eq.trans (s_load (y := 98) (pc := 82) (nx := 83) (a := 3) (b := 0) (x := 2) rfl rfl) ?_
      refine Eq.trans (s_get (y := 98) (pc := 83) (nx := 86) (a := 9) (b := 6) (t := 3) (v := 98) rfl (mk_k2 _) rfl (mk_2_6 _)) ?_
      exact s_call (y := 98) (pc := 86) (nx := 89) (a := 55) (b := 0) (as := [(3, 98)]) (r := []) rfl (Nat.le_of_ble_eq_true rfl) rfl rfl (Nat.le_of_ble_eq_true rfl) (Nat.le_of_ble_eq_true rfl) (Or.inr ⟨rfl, mk_k98 _⟩)
    · refine Eq.trans (s_load (y := 98) (pc := 61) (nx := 62) (a := 3) (b := 0) (x := 2) rfl rfl) ?_
      refine Eq.trans (s_get (y := 98) (pc := 62) (nx := 65) (a := 9) (b := 9) (t := 3) (v := 104) rfl (mk_k2 _) rfl (mk_2_9 _)) ?_
      refine Eq.trans (s_load (y := 98) (pc := 65) (nx := 67) (a := 0) (b := 6) (x := x6) rfl rfl) ?_
      refine Eq.trans (s_ald (y := 98) (pc := 67) (nx := 68) (a := 1) (b := 0) (k := 1) (n := 5) (t := 0) (v := (D 104 x6)) rfl (mk_k104 _) rfl rfl (mk_l104 _) (mk_c104 _ _)) (ite_c ?_ rfl)
      exact s_call (y := 98) (pc := 68) (nx := 71) (a := 130) (b := 0) (as := [(0, (D 104 x6))]) (r := []) rfl (Nat.le_of_ble_eq_true rfl) rfl rfl (Nat.le_of_ble_eq_true rfl) (Nat.le_of_ble_eq_true rfl) (Or.inl rfl)
  · refine Eq.trans (s_load (y := 98) (pc := 82) (nx := 83) (a := 3) (b := 0) (x := 2) rfl rfl) ?_
    refine Eq.trans (s_get (y := 98) (pc := 83) (nx := 86) (a := 9) (b := 6) (t := 3) (v := 98) rfl (mk_k2 _) rfl (mk_2_6 _)) ?_
    exact s_call (y := 98) (pc := 86) (nx := 89) (a := 55) (b := 0) (as := [(3, 98)]) (r := []) rfl (Nat.le_of_ble_eq_true rfl) rfl rfl (Nat.le_of_ble_eq_true rfl) (Nat.le_of_ble_eq_true rfl) (Or.inr ⟨rfl, mk_k98 _⟩)
theorem e_98_71 (D : Mem) (x1 : Int) (x2 : Int) (x3 : Int) (x4 : Int) (x5 : Int) (x6 : Int) (s0 : Int) : qE 98 71 [(3, 2), (0, x1), (0, x2), (0, x3), (0, x4), (0, x5), (0, x6), (9, 0)] [(0, s0)] (mk D) = (if s0 = 0 then some ((0, (-1)), (mk D)) else qE 98 40 [(3, 2), (0, x1), (0, x2), (0, x3), (0, x4), (0, x5), (0, (w32 (x6 + 1))), (9, 0)] [] (mk D)) := by
  refine Eq.trans (s_ifne (y := 98) (pc := 71) (nx := 74) (b := 76) (tg := 76) rfl rfl) (ite_c ?_ ?_)
  · refine Eq.trans (s_push (y := 98) (pc := 74) (nx := 75) (a := 0) (b := (-1)) rfl) ?_
    exact s_ret (y := 98) (pc := 75) (nx := 76) (a := 0) rfl (by decide)
  · refine Eq.trans (s_iinc (y := 98) (pc := 76) (nx := 79) (a := 6) (b := 1) (x := x6) (ls' := [(3, 2), (0, x1), (0, x2), (0, x3), (0, x4), (0, x5), (0, (w32 (x6 + 1))), (9, 0)]) rfl rfl rfl) ?_
    refine Eq.trans (s_goto (y := 98) (pc := 79) (nx := 82) (a := 0) (b := 40) (tg := 40) rfl rfl) ?_
    rfl
theorem e_98_89 (D : Mem) (x1 : Int) (x2 : Int) (x3 : Int) (x4 : Int) (x5 : Int) (x6 : Int) (s0 : Int) : qE 98 89 [(3, 2), (0, x1), (0, x2), (0, x3), (0, x4), (0, x5), (0, x6), (9, 0)] [(0, s0)] (mk D) = (if (w32 (s0 + x6)) ≤ 10 then qE 98 103 [(3, 2), (0, x1), (0, x2), (0, x3), (0, x4), (0, x5), (0, x6), (0, 0)] [] (mk D) else some ((0, (-2)), (mk D))) := by
  refine Eq.trans (s_load (y := 98) (pc := 89) (nx := 91) (a := 0) (b := 6) (x := x6) rfl rfl) ?_
  refine Eq.trans (s_add (y := 98) (pc := 91) (nx := 92) (b := 0) rfl) ?_
  refine Eq.trans (s_push (y := 98) (pc := 92) (nx := 94) (a := 0) (b := 10) rfl) ?_
  refine Eq.trans (s_icle (y := 98) (pc := 94) (nx := 97) (b := 100) (tg := 100) rfl rfl) (ite_c ?_ ?_)
  · refine Eq.trans (s_push (y := 98) (pc := 100) (nx := 101) (a := 0) (b := 0) rfl) ?_
    refine Eq.trans (s_store (y := 98) (pc := 101) (nx := 103) (a := 0) (b := 7) (ls' := [(3, 2), (0, x1), (0, x2), (0, x3), (0, x4), (0, x5), (0, x6), (0, 0)]) rfl (Nat.le_of_ble_eq_true rfl) rfl) ?_
    rfl
  · refine Eq.trans (s_push (y := 98) (pc := 97) (nx := 99) (a := 0) (b := (-2)) rfl) ?_
    exact s_ret (y := 98) (pc := 99) (nx := 100) (a := 0) rfl (by decide)
theorem e_98_103 (D : Mem) (x1 : Int) (x2 : Int) (x3 : Int) (x4 : Int) (x5 : Int) (x6 : Int) (x7 : Int) : qE 98 103 [(3, 2), (0, x1), (0, x2), (0, x3), (0, x4), (0, x5), (0, x6), (0, x7)] [] (mk D) = (if x7 < x6 then (if 0 ≤ x7 ∧ x7 < 5 then ((qR 59 [(3, 98), (0, (D 104 x7))] (mk D)).bind fun w => qE 98 124 [(3, 2), (0, x1), (0, x2), (0, x3), (0, x4), (0, x5), (0, x6), (0, x7)] (psh w.1 []) w.2) else none) else ((qR 55 [(3, 98)] (mk D)).bind fun w => qE 98 137 [(3, 2), (0, x1), (0, x2), (0, x3), (0, x4), (0, x5), (0, x6), (0, x7)] (psh w.1 []) w.2)) := by
  refine Eq.trans (s_load (y := 98) (pc := 103) (nx := 105) (a := 0) (b := 7) (x := x7) rfl rfl) ?_
  refine Eq.trans (s_load (y := 98) (pc := 105) (nx := 107) (a := 0) (b := 6) (x := x6) rfl rfl) ?_
  refine Eq.trans (s_icge (y := 98) (pc := 107) (nx := 110) (b := 130) (tg := 130) rfl rfl) (ite_c ?_ ?_)
  · refine Eq.trans (s_load (y := 98) (pc := 110) (nx := 111) (a := 3) (b := 0) (x := 2) rfl rfl) ?_
    refine Eq.trans (s_get (y := 98) (pc := 111) (nx := 114) (a := 9) (b := 6) (t := 3) (v := 98) rfl (mk_k2 _) rfl (mk_2_6 _)) ?_
    refine Eq.trans (s_load (y := 98) (pc := 114) (nx := 115) (a := 3) (b := 0) (x := 2) rfl rfl) ?_
    refine Eq.trans (s_get (y := 98) (pc := 115) (nx := 118) (a := 9) (b := 9) (t := 3) (v := 104) rfl (mk_k2 _) rfl (mk_2_9 _)) ?_
    refine Eq.trans (s_load (y := 98) (pc := 118) (nx := 120) (a := 0) (b := 7) (x := x7) rfl rfl) ?_
    refine Eq.trans (s_ald (y := 98) (pc := 120) (nx := 121) (a := 1) (b := 0) (k := 1) (n := 5) (t := 0) (v := (D 104 x7)) rfl (mk_k104 _) rfl rfl (mk_l104 _) (mk_c104 _ _)) (ite_c ?_ rfl)
    exact s_call (y := 98) (pc := 121) (nx := 124) (a := 59) (b := 0) (as := [(3, 98), (0, (D 104 x7))]) (r := []) rfl (Nat.le_of_ble_eq_true rfl) rfl rfl (Nat.le_of_ble_eq_true rfl) (Nat.le_of_ble_eq_true rfl) (Or.inr ⟨rfl, mk_k98 _⟩)
  · refine Eq.trans (s_load (y := 98) (pc := 130) (nx := 131) (a := 3) (b := 0) (x := 2) rfl rfl) ?_
    refine Eq.trans (s_get (y := 98) (pc := 131) (nx := 134) (a := 9) (b := 6) (t := 3) (v := 98) rfl (mk_k2 _) rfl (mk_2_6 _)) ?_
    exact s_call (y := 98) (pc := 134) (nx := 137) (a := 55) (b := 0) (as := [(3, 98)]) (r := []) rfl (Nat.le_of_ble_eq_true rfl) rfl rfl (Nat.le_of_ble_eq_true rfl) (Nat.le_of_ble_eq_true rfl) (Or.inr ⟨rfl, mk_k98 _⟩)
theorem e_98_124 (D : Mem) (x1 : Int) (x2 : Int) (x3 : Int) (x4 : Int) (x5 : Int) (x6 : Int) (x7 : Int) : qE 98 124 [(3, 2), (0, x1), (0, x2), (0, x3), (0, x4), (0, x5), (0, x6), (0, x7)] [] (mk D) = qE 98 103 [(3, 2), (0, x1), (0, x2), (0, x3), (0, x4), (0, x5), (0, x6), (0, (w32 (x7 + 1)))] [] (mk D) := by
  refine Eq.trans (s_iinc (y := 98) (pc := 124) (nx := 127) (a := 7) (b := 1) (x := x7) (ls' := [(3, 2), (0, x1), (0, x2), (0, x3), (0, x4), (0, x5), (0, x6), (0, (w32 (x7 + 1)))]) rfl rfl rfl) ?_
  refine Eq.trans (s_goto (y := 98) (pc := 127) (nx := 130) (a := 0) (b := 103) (tg := 103) rfl rfl) ?_
  rfl
theorem e_98_137 (D : Mem) (x1 : Int) (x2 : Int) (x3 : Int) (x4 : Int) (x5 : Int) (x6 : Int) (x7 : Int) (s0 : Int) : qE 98 137 [(3, 2), (0, x1), (0, x2), (0, x3), (0, x4), (0, x5), (0, x6), (0, x7)] [(0, s0)] (mk D) = some ((0, s0), (mk D)) := by
  exact s_ret (y := 98) (pc := 137) (nx := 138) (a := 0) rfl (by decide)
theorem r_99 (D : Mem) : qR 99 [(3, 2)] (mk D) = ((qR 61 [(3, 98)] (mk D)).bind fun w => qE 99 7 [(3, 2)] (psh w.1 []) w.2) := by
  show qE 99 0 [(3, 2)] [] (mk D) = _
  refine Eq.trans (s_load (y := 99) (pc := 0) (nx := 1) (a := 3) (b := 0) (x := 2) rfl rfl) ?_
  refine Eq.trans (s_get (y := 99) (pc := 1) (nx := 4) (a := 9) (b := 6) (t := 3) (v := 98) rfl (mk_k2 _) rfl (mk_2_6 _)) ?_
  exact s_call (y := 99) (pc := 4) (nx := 7) (a := 61) (b := 0) (as := [(3, 98)]) (r := []) rfl (Nat.le_of_ble_eq_true rfl) rfl rfl (Nat.le_of_ble_eq_true rfl) (Nat.le_of_ble_eq_true rfl) (Or.inr ⟨rfl, mk_k98 _⟩)
theorem e_99_7 (D : Mem) (s0 : Int) : qE 99 7 [(3, 2)] [(0, s0)] (mk D) = some ((0, s0), (mk D)) := by
  exact s_ret (y := 99) (pc := 7) (nx := 8) (a := 0) rfl (by decide)
theorem r_100 (D : Mem) (x1 : Int) : qR 100 [(3, 2), (0, x1)] (mk D) = ((qR 133 [(0, x1)] (mk D)).bind fun w => qE 100 4 [(3, 2), (0, x1), (9, 0)] (psh w.1 []) w.2) := by
  show qE 100 0 [(3, 2), (0, x1), (9, 0)] [] (mk D) = _
  refine Eq.trans (s_load (y := 100) (pc := 0) (nx := 1) (a := 0) (b := 1) (x := x1) rfl rfl) ?_
  exact s_call (y := 100) (pc := 1) (nx := 4) (a := 133) (b := 0) (as := [(0, x1)]) (r := []) rfl (Nat.le_of_ble_eq_true rfl) rfl rfl (Nat.le_of_ble_eq_true rfl) (Nat.le_of_ble_eq_true rfl) (Or.inl rfl)
theorem e_100_4 (D : Mem) (x1 : Int) (s0 : Int) : qE 100 4 [(3, 2), (0, x1), (9, 0)] [(0, s0)] (mk D) = (if s0 = 0 then some ((0, (-1)), (mk D)) else ((qR 56 [(3, 98)] (mk D)).bind fun w => qE 100 16 [(3, 2), (0, x1), (9, 0)] (psh w.1 []) w.2)) := by
  refine Eq.trans (s_ifne (y := 100) (pc := 4) (nx := 7) (b := 9) (tg := 9) rfl rfl) (ite_c ?_ ?_)
  · refine Eq.trans (s_push (y := 100) (pc := 7) (nx := 8) (a := 0) (b := (-1)) rfl) ?_
    exact s_ret (y := 100) (pc := 8) (nx := 9) (a := 0) rfl (by decide)
  · refine Eq.trans (s_load (y := 100) (pc := 9) (nx := 10) (a := 3) (b := 0) (x := 2) rfl rfl) ?_
    refine Eq.trans (s_get (y := 100) (pc := 10) (nx := 13) (a := 9) (b := 6) (t := 3) (v := 98) rfl (mk_k2 _) rfl (mk_2_6 _)) ?_
    exact s_call (y := 100) (pc := 13) (nx := 16) (a := 56) (b := 0) (as := [(3, 98)]) (r := []) rfl (Nat.le_of_ble_eq_true rfl) rfl rfl (Nat.le_of_ble_eq_true rfl) (Nat.le_of_ble_eq_true rfl) (Or.inr ⟨rfl, mk_k98 _⟩)
theorem e_100_16 (D : Mem) (x1 : Int) (s0 : Int) : qE 100 16 [(3, 2), (0, x1), (9, 0)] [(0, s0)] (mk D) = (if s0 = 0 then ((qR 9 [(3, 5), (3, 98)] (mk D)).bind fun w => qE 100 33 [(3, 2), (0, x1), (9, 0)] (psh w.1 []) w.2) else some ((0, (-4)), (mk D))) := by
  refine Eq.trans (s_ifeq (y := 100) (pc := 16) (nx := 19) (b := 22) (tg := 22) rfl rfl) (ite_c ?_ ?_)
  · refine Eq.trans (s_load (y := 100) (pc := 22) (nx := 23) (a := 3) (b := 0) (x := 2) rfl rfl) ?_
    refine Eq.trans (s_get (y := 100) (pc := 23) (nx := 26) (a := 9) (b := 1) (t := 3) (v := 5) rfl (mk_k2 _) rfl (mk_2_1 _)) ?_
    refine Eq.trans (s_load (y := 100) (pc := 26) (nx := 27) (a := 3) (b := 0) (x := 2) rfl rfl) ?_
    refine Eq.trans (s_get (y := 100) (pc := 27) (nx := 30) (a := 9) (b := 6) (t := 3) (v := 98) rfl (mk_k2 _) rfl (mk_2_6 _)) ?_
    exact s_call (y := 100) (pc := 30) (nx := 33) (a := 9) (b := 0) (as := [(3, 5), (3, 98)]) (r := []) rfl (Nat.le_of_ble_eq_true rfl) rfl rfl (Nat.le_of_ble_eq_true rfl) (Nat.le_of_ble_eq_true rfl) (Or.inr ⟨rfl, mk_k5 _⟩)
  · refine Eq.trans (s_push (y := 100) (pc := 19) (nx := 21) (a := 0) (b := (-4)) rfl) ?_
    exact s_ret (y := 100) (pc := 21) (nx := 22) (a := 0) rfl (by decide)
theorem e_100_33 (D : Mem) (x1 : Int) (s0 : Int) : qE 100 33 [(3, 2), (0, x1), (9, 0)] [(0, s0)] (mk D) = (if s0 < 0 then ((qR 5 [(3, 5)] (mk D)).bind fun w => qE 100 46 [(3, 2), (0, x1), (9, 0)] (psh w.1 []) w.2) else some ((0, (-3)), (mk D))) := by
  refine Eq.trans (s_iflt (y := 100) (pc := 33) (nx := 36) (b := 39) (tg := 39) rfl rfl) (ite_c ?_ ?_)
  · refine Eq.trans (s_load (y := 100) (pc := 39) (nx := 40) (a := 3) (b := 0) (x := 2) rfl rfl) ?_
    refine Eq.trans (s_get (y := 100) (pc := 40) (nx := 43) (a := 9) (b := 1) (t := 3) (v := 5) rfl (mk_k2 _) rfl (mk_2_1 _)) ?_
    exact s_call (y := 100) (pc := 43) (nx := 46) (a := 5) (b := 0) (as := [(3, 5)]) (r := []) rfl (Nat.le_of_ble_eq_true rfl) rfl rfl (Nat.le_of_ble_eq_true rfl) (Nat.le_of_ble_eq_true rfl) (Or.inr ⟨rfl, mk_k5 _⟩)
  · refine Eq.trans (s_push (y := 100) (pc := 36) (nx := 38) (a := 0) (b := (-3)) rfl) ?_
    exact s_ret (y := 100) (pc := 38) (nx := 39) (a := 0) rfl (by decide)
theorem e_100_46 (D : Mem) (x1 : Int) (s0 : Int) : qE 100 46 [(3, 2), (0, x1), (9, 0)] [(0, s0)] (mk D) = (if s0 = 0 then ((qR 10 [(3, 5), (3, 98), (0, x1)] (mk D)).bind fun w => qE 100 64 [(3, 2), (0, x1), (9, 0)] (psh w.1 []) w.2) else some ((0, (-2)), (mk D))) := by
  refine Eq.trans (s_ifeq (y := 100) (pc := 46) (nx := 49) (b := 52) (tg := 52) rfl rfl) (ite_c ?_ ?_)
  · refine Eq.trans (s_load (y := 100) (pc := 52) (nx := 53) (a := 3) (b := 0) (x := 2) rfl rfl) ?_
    refine Eq.trans (s_get (y := 100) (pc := 53) (nx := 56) (a := 9) (b := 1) (t := 3) (v := 5) rfl (mk_k2 _) rfl (mk_2_1 _)) ?_
    refine Eq.trans (s_load (y := 100) (pc := 56) (nx := 57) (a := 3) (b := 0) (x := 2) rfl rfl) ?_
    refine Eq.trans (s_get (y := 100) (pc := 57) (nx := 60) (a := 9) (b := 6) (t := 3) (v := 98) rfl (mk_k2 _) rfl (mk_2_6 _)) ?_
    refine Eq.trans (s_load (y := 100) (pc := 60) (nx := 61) (a := 0) (b := 1) (x := x1) rfl rfl) ?_
    exact s_call (y := 100) (pc := 61) (nx := 64) (a := 10) (b := 0) (as := [(3, 5), (3, 98), (0, x1)]) (r := []) rfl (Nat.le_of_ble_eq_true rfl) rfl rfl (Nat.le_of_ble_eq_true rfl) (Nat.le_of_ble_eq_true rfl) (Or.inr ⟨rfl, mk_k5 _⟩)
  · refine Eq.trans (s_push (y := 100) (pc := 49) (nx := 51) (a := 0) (b := (-2)) rfl) ?_
    exact s_ret (y := 100) (pc := 51) (nx := 52) (a := 0) rfl (by decide)
theorem e_100_64 (D : Mem) (x1 : Int) (s0 : Int) : qE 100 64 [(3, 2), (0, x1), (9, 0)] [(0, s0)] (mk D) = ((qR 61 [(3, 98)] (mk D)).bind fun w => qE 100 72 [(3, 2), (0, x1), (0, s0)] (psh w.1 []) w.2) := by
  refine Eq.trans (s_store (y := 100) (pc := 64) (nx := 65) (a := 0) (b := 2) (ls' := [(3, 2), (0, x1), (0, s0)]) rfl (Nat.le_of_ble_eq_true rfl) rfl) ?_
  refine Eq.trans (s_load (y := 100) (pc := 65) (nx := 66) (a := 3) (b := 0) (x := 2) rfl rfl) ?_
  refine Eq.trans (s_get (y := 100) (pc := 66) (nx := 69) (a := 9) (b := 6) (t := 3) (v := 98) rfl (mk_k2 _) rfl (mk_2_6 _)) ?_
  exact s_call (y := 100) (pc := 69) (nx := 72) (a := 61) (b := 0) (as := [(3, 98)]) (r := []) rfl (Nat.le_of_ble_eq_true rfl) rfl rfl (Nat.le_of_ble_eq_true rfl) (Nat.le_of_ble_eq_true rfl) (Or.inr ⟨rfl, mk_k98 _⟩)
theorem e_100_72 (D : Mem) (x1 : Int) (x2 : Int) (s0 : Int) : qE 100 72 [(3, 2), (0, x1), (0, x2)] [(0, s0)] (mk D) = some ((0, x2), (mk D)) := by
  refine Eq.trans (s_pop (y := 100) (pc := 72) (nx := 73) (a := 0) (b := 0) rfl (by decide)) ?_
  refine Eq.trans (s_load (y := 100) (pc := 73) (nx := 74) (a := 0) (b := 2) (x := x2) rfl rfl) ?_
  exact s_ret (y := 100) (pc := 74) (nx := 75) (a := 0) rfl (by decide)
theorem r_101 (D : Mem) (x1 : Int) : qR 101 [(3, 2), (0, x1)] (mk D) = ((qR 6 [(3, 5), (0, x1)] (mk D)).bind fun w => qE 101 8 [(3, 2), (0, x1)] (psh w.1 []) w.2) := by
  show qE 101 0 [(3, 2), (0, x1)] [] (mk D) = _
  refine Eq.trans (s_load (y := 101) (pc := 0) (nx := 1) (a := 3) (b := 0) (x := 2) rfl rfl) ?_
  refine Eq.trans (s_get (y := 101) (pc := 1) (nx := 4) (a := 9) (b := 1) (t := 3) (v := 5) rfl (mk_k2 _) rfl (mk_2_1 _)) ?_
  refine Eq.trans (s_load (y := 101) (pc := 4) (nx := 5) (a := 0) (b := 1) (x := x1) rfl rfl) ?_
  exact s_call (y := 101) (pc := 5) (nx := 8) (a := 6) (b := 0) (as := [(3, 5), (0, x1)]) (r := []) rfl (Nat.le_of_ble_eq_true rfl) rfl rfl (Nat.le_of_ble_eq_true rfl) (Nat.le_of_ble_eq_true rfl) (Or.inr ⟨rfl, mk_k5 _⟩)
theorem e_101_8 (D : Mem) (x1 : Int) (s0 : Int) : qE 101 8 [(3, 2), (0, x1)] [(0, s0)] (mk D) = (if s0 = 0 then some ((0, (-1)), (mk D)) else ((qR 8 [(3, 5), (0, x1)] (mk D)).bind fun w => qE 101 21 [(3, 2), (0, x1)] (psh w.1 []) w.2)) := by
  refine Eq.trans (s_ifne (y := 101) (pc := 8) (nx := 11) (b := 13) (tg := 13) rfl rfl) (ite_c ?_ ?_)
  · refine Eq.trans (s_push (y := 101) (pc := 11) (nx := 12) (a := 0) (b := (-1)) rfl) ?_
    exact s_ret (y := 101) (pc := 12) (nx := 13) (a := 0) rfl (by decide)
  · refine Eq.trans (s_load (y := 101) (pc := 13) (nx := 14) (a := 3) (b := 0) (x := 2) rfl rfl) ?_
    refine Eq.trans (s_get (y := 101) (pc := 14) (nx := 17) (a := 9) (b := 1) (t := 3) (v := 5) rfl (mk_k2 _) rfl (mk_2_1 _)) ?_
    refine Eq.trans (s_load (y := 101) (pc := 17) (nx := 18) (a := 0) (b := 1) (x := x1) rfl rfl) ?_
    exact s_call (y := 101) (pc := 18) (nx := 21) (a := 8) (b := 0) (as := [(3, 5), (0, x1)]) (r := []) rfl (Nat.le_of_ble_eq_true rfl) rfl rfl (Nat.le_of_ble_eq_true rfl) (Nat.le_of_ble_eq_true rfl) (Or.inr ⟨rfl, mk_k5 _⟩)
theorem e_101_21 (D : Mem) (x1 : Int) (s0 : Int) : qE 101 21 [(3, 2), (0, x1)] [(0, s0)] (mk D) = (if s0 = 0 then some ((0, (-4)), (mk D)) else ((qR 12 [(3, 5), (0, x1)] (mk D)).bind fun w => qE 101 35 [(3, 2), (0, x1)] (psh w.1 []) w.2)) := by
  refine Eq.trans (s_ifne (y := 101) (pc := 21) (nx := 24) (b := 27) (tg := 27) rfl rfl) (ite_c ?_ ?_)
  · refine Eq.trans (s_push (y := 101) (pc := 24) (nx := 26) (a := 0) (b := (-4)) rfl) ?_
    exact s_ret (y := 101) (pc := 26) (nx := 27) (a := 0) rfl (by decide)
  · refine Eq.trans (s_load (y := 101) (pc := 27) (nx := 28) (a := 3) (b := 0) (x := 2) rfl rfl) ?_
    refine Eq.trans (s_get (y := 101) (pc := 28) (nx := 31) (a := 9) (b := 1) (t := 3) (v := 5) rfl (mk_k2 _) rfl (mk_2_1 _)) ?_
    refine Eq.trans (s_load (y := 101) (pc := 31) (nx := 32) (a := 0) (b := 1) (x := x1) rfl rfl) ?_
    exact s_call (y := 101) (pc := 32) (nx := 35) (a := 12) (b := 0) (as := [(3, 5), (0, x1)]) (r := []) rfl (Nat.le_of_ble_eq_true rfl) rfl rfl (Nat.le_of_ble_eq_true rfl) (Nat.le_of_ble_eq_true rfl) (Or.inr ⟨rfl, mk_k5 _⟩)
theorem e_101_35 (D : Mem) (x1 : Int) : qE 101 35 [(3, 2), (0, x1)] [] (mk D) = some ((0, 1), (mk D)) := by
  refine Eq.trans (s_push (y := 101) (pc := 35) (nx := 36) (a := 0) (b := 1) rfl) ?_
  exact s_ret (y := 101) (pc := 36) (nx := 37) (a := 0) rfl (by decide)
theorem r_102 (D : Mem) (x1 : Int) (x2 : Int) : qR 102 [(3, 2), (0, x1), (0, x2)] (mk D) = ((qR 7 [(3, 5), (0, x1)] (mk D)).bind fun w => qE 102 8 [(3, 2), (0, x1), (0, x2), (9, 0)] (psh w.1 []) w.2) := by
  show qE 102 0 [(3, 2), (0, x1), (0, x2), (9, 0)] [] (mk D) = _
  refine Eq.trans (s_load (y := 102) (pc := 0) (nx := 1) (a := 3) (b := 0) (x := 2) rfl rfl) ?_
  refine Eq.trans (s_get (y := 102) (pc := 1) (nx := 4) (a := 9) (b := 1) (t := 3) (v := 5) rfl (mk_k2 _) rfl (mk_2_1 _)) ?_
  refine Eq.trans (s_load (y := 102) (pc := 4) (nx := 5) (a := 0) (b := 1) (x := x1) rfl rfl) ?_
  exact s_call (y := 102) (pc := 5) (nx := 8) (a := 7) (b := 0) (as := [(3, 5), (0, x1)]) (r := []) rfl (Nat.le_of_ble_eq_true rfl) rfl rfl (Nat.le_of_ble_eq_true rfl) (Nat.le_of_ble_eq_true rfl) (Or.inr ⟨rfl, mk_k5 _⟩)
theorem e_102_8 (D : Mem) (x1 : Int) (x2 : Int) (s0 : Int) : qE 102 8 [(3, 2), (0, x1), (0, x2), (9, 0)] [(3, s0)] (mk D) = (if s0 = 0 then some ((0, (-1)), (mk D)) else ((qR 133 [(0, x2)] (mk D)).bind fun w => qE 102 17 [(3, 2), (0, x1), (0, x2), (3, s0)] (psh w.1 []) w.2)) := by
  refine Eq.trans (s_store (y := 102) (pc := 8) (nx := 9) (a := 3) (b := 3) (ls' := [(3, 2), (0, x1), (0, x2), (3, s0)]) rfl (Nat.le_of_ble_eq_true rfl) rfl) ?_
  refine Eq.trans (s_load (y := 102) (pc := 9) (nx := 10) (a := 3) (b := 3) (x := s0) rfl rfl) ?_
  refine Eq.trans (s_null (y := 102) (pc := 10) (nx := 13) (b := 20) (tg := 20) rfl rfl) (ite_c ?_ ?_)
  · refine Eq.trans (s_push (y := 102) (pc := 20) (nx := 21) (a := 0) (b := (-1)) rfl) ?_
    exact s_ret (y := 102) (pc := 21) (nx := 22) (a := 0) rfl (by decide)
  · refine Eq.trans (s_load (y := 102) (pc := 13) (nx := 14) (a := 0) (b := 2) (x := x2) rfl rfl) ?_
    exact s_call (y := 102) (pc := 14) (nx := 17) (a := 133) (b := 0) (as := [(0, x2)]) (r := []) rfl (Nat.le_of_ble_eq_true rfl) rfl rfl (Nat.le_of_ble_eq_true rfl) (Nat.le_of_ble_eq_true rfl) (Or.inl rfl)
theorem e_102_17 (D : Mem) (x1 : Int) (x2 : Int) (x3 : Int) (s0 : Int) : qE 102 17 [(3, 2), (0, x1), (0, x2), (3, x3)] [(0, s0)] (mk D) = (if s0 = 0 then some ((0, (-1)), (mk D)) else (if (mk D) (-x3) 0 = 18 then (if ((mk D) x3 3) = 0 then some ((0, (-4)), (mk D)) else (if (mk D) (-x3) 0 = 18 then qE 102 37 [(3, 2), (0, x1), (0, x2), (3, x3)] [] (mU (mk D) x3 1 x2) else none)) else none)) := by
  refine Eq.trans (s_ifne (y := 102) (pc := 17) (nx := 20) (b := 22) (tg := 22) rfl rfl) (ite_c ?_ ?_)
  · refine Eq.trans (s_push (y := 102) (pc := 20) (nx := 21) (a := 0) (b := (-1)) rfl) ?_
    exact s_ret (y := 102) (pc := 21) (nx := 22) (a := 0) rfl (by decide)
  · refine Eq.trans (s_load (y := 102) (pc := 22) (nx := 23) (a := 3) (b := 3) (x := x3) rfl rfl) ?_
    refine Eq.trans (s_getq (y := 102) (pc := 23) (nx := 26) (a := 8) (b := 3) (t := 0) (k := 18) rfl rfl rfl) (ite_c ?_ rfl)
    refine Eq.trans (s_ifne (y := 102) (pc := 26) (nx := 29) (b := 32) (tg := 32) rfl rfl) (ite_c ?_ ?_)
    · refine Eq.trans (s_push (y := 102) (pc := 29) (nx := 31) (a := 0) (b := (-4)) rfl) ?_
      exact s_ret (y := 102) (pc := 31) (nx := 32) (a := 0) rfl (by decide)
    · refine Eq.trans (s_load (y := 102) (pc := 32) (nx := 33) (a := 3) (b := 3) (x := x3) rfl rfl) ?_
      refine Eq.trans (s_load (y := 102) (pc := 33) (nx := 34) (a := 0) (b := 2) (x := x2) rfl rfl) ?_
      refine Eq.trans (s_putq (y := 102) (pc := 34) (nx := 37) (a := 8) (b := 1) (t := 0) (k := 18) rfl rfl rfl) (ite_c ?_ rfl)
      rfl
theorem e_102_37 (D : Mem) (x1 : Int) (x2 : Int) (x3 : Int) : qE 102 37 [(3, 2), (0, x1), (0, x2), (3, x3)] [] (mk D) = some ((0, 1), (mk D)) := by
  refine Eq.trans (s_push (y := 102) (pc := 37) (nx := 38) (a := 0) (b := 1) rfl) ?_
  exact s_ret (y := 102) (pc := 38) (nx := 39) (a := 0) rfl (by decide)
theorem r_103 (D : Mem) (x1 : Int) (x2 : Int) (x3 : Int) : qR 103 [(3, 2), (0, x1), (0, x2), (0, x3)] (mk D) = ((qR 6 [(3, 5), (0, x1)] (mk D)).bind fun w => qE 103 8 [(3, 2), (0, x1), (0, x2), (0, x3)] (psh w.1 []) w.2) := by
  show qE 103 0 [(3, 2), (0, x1), (0, x2), (0, x3)] [] (mk D) = _
  refine Eq.trans (s_load (y := 103) (pc := 0) (nx := 1) (a := 3) (b := 0) (x := 2) rfl rfl) ?_
  refine Eq.trans (s_get (y := 103) (pc := 1) (nx := 4) (a := 9) (b := 1) (t := 3) (v := 5) rfl (mk_k2 _) rfl (mk_2_1 _)) ?_
  refine Eq.trans (s_load (y := 103) (pc := 4) (nx := 5) (a := 0) (b := 1) (x := x1) rfl rfl) ?_
  exact s_call (y := 103) (pc := 5) (nx := 8) (a := 6) (b := 0) (as := [(3, 5), (0, x1)]) (r := []) rfl (Nat.le_of_ble_eq_true rfl) rfl rfl (Nat.le_of_ble_eq_true rfl) (Nat.le_of_ble_eq_true rfl) (Or.inr ⟨rfl, mk_k5 _⟩)
theorem e_103_8 (D : Mem) (x1 : Int) (x2 : Int) (x3 : Int) (s0 : Int) : qE 103 8 [(3, 2), (0, x1), (0, x2), (0, x3)] [(0, s0)] (mk D) = (if s0 = 0 then some ((0, (-1)), (mk D)) else ((qR 6 [(3, 5), (0, x2)] (mk D)).bind fun w => qE 103 19 [(3, 2), (0, x1), (0, x2), (0, x3)] (psh w.1 []) w.2)) := by
  refine Eq.trans (s_ifeq (y := 103) (pc := 8) (nx := 11) (b := 32) (tg := 32) rfl rfl) (ite_c ?_ ?_)
  · refine Eq.trans (s_push (y := 103) (pc := 32) (nx := 33) (a := 0) (b := (-1)) rfl) ?_
    exact s_ret (y := 103) (pc := 33) (nx := 34) (a := 0) rfl (by decide)
  · refine Eq.trans (s_load (y := 103) (pc := 11) (nx := 12) (a := 3) (b := 0) (x := 2) rfl rfl) ?_
    refine Eq.trans (s_get (y := 103) (pc := 12) (nx := 15) (a := 9) (b := 1) (t := 3) (v := 5) rfl (mk_k2 _) rfl (mk_2_1 _)) ?_
    refine Eq.trans (s_load (y := 103) (pc := 15) (nx := 16) (a := 0) (b := 2) (x := x2) rfl rfl) ?_
    exact s_call (y := 103) (pc := 16) (nx := 19) (a := 6) (b := 0) (as := [(3, 5), (0, x2)]) (r := []) rfl (Nat.le_of_ble_eq_true rfl) rfl rfl (Nat.le_of_ble_eq_true rfl) (Nat.le_of_ble_eq_true rfl) (Or.inr ⟨rfl, mk_k5 _⟩)
theorem e_103_19 (D : Mem) (x1 : Int) (x2 : Int) (x3 : Int) (s0 : Int) : qE 103 19 [(3, 2), (0, x1), (0, x2), (0, x3)] [(0, s0)] (mk D) = (if s0 = 0 then some ((0, (-1)), (mk D)) else (if x3 < 0 then some ((0, (-1)), (mk D)) else (if x3 ≤ 1000000 then ((qR 8 [(3, 5), (0, x1)] (mk D)).bind fun w => qE 103 42 [(3, 2), (0, x1), (0, x2), (0, x3)] (psh w.1 []) w.2) else some ((0, (-1)), (mk D))))) := by
  refine Eq.trans (s_ifeq (y := 103) (pc := 19) (nx := 22) (b := 32) (tg := 32) rfl rfl) (ite_c ?_ ?_)
  · refine Eq.trans (s_push (y := 103) (pc := 32) (nx := 33) (a := 0) (b := (-1)) rfl) ?_
    exact s_ret (y := 103) (pc := 33) (nx := 34) (a := 0) rfl (by decide)
  · refine Eq.trans (s_load (y := 103) (pc := 22) (nx := 23) (a := 0) (b := 3) (x := x3) rfl rfl) ?_
    refine Eq.trans (s_iflt (y := 103) (pc := 23) (nx := 26) (b := 32) (tg := 32) rfl rfl) (ite_c ?_ ?_)
    · refine Eq.trans (s_push (y := 103) (pc := 32) (nx := 33) (a := 0) (b := (-1)) rfl) ?_
      exact s_ret (y := 103) (pc := 33) (nx := 34) (a := 0) rfl (by decide)
    · refine Eq.trans (s_load (y := 103) (pc := 26) (nx := 27) (a := 0) (b := 3) (x := x3) rfl rfl) ?_
      refine Eq.trans (s_push (y := 103) (pc := 27) (nx := 29) (a := 0) (b := 1000000) rfl) ?_
      refine Eq.trans (s_icle (y := 103) (pc := 29) (nx := 32) (b := 34) (tg := 34) rfl rfl) (ite_c ?_ ?_)
      · refine Eq.trans (s_load (y := 103) (pc := 34) (nx := 35) (a := 3) (b := 0) (x := 2) rfl rfl) ?_
        refine Eq.trans (s_get (y := 103) (pc := 35) (nx := 38) (a := 9) (b := 1) (t := 3) (v := 5) rfl (mk_k2 _) rfl (mk_2_1 _)) ?_
        refine Eq.trans (s_load (y := 103) (pc := 38) (nx := 39) (a := 0) (b := 1) (x := x1) rfl rfl) ?_
        exact s_call (y := 103) (pc := 39) (nx := 42) (a := 8) (b := 0) (as := [(3, 5), (0, x1)]) (r := []) rfl (Nat.le_of_ble_eq_true rfl) rfl rfl (Nat.le_of_ble_eq_true rfl) (Nat.le_of_ble_eq_true rfl) (Or.inr ⟨rfl, mk_k5 _⟩)
      · refine Eq.trans (s_push (y := 103) (pc := 32) (nx := 33) (a := 0) (b := (-1)) rfl) ?_
        exact s_ret (y := 103) (pc := 33) (nx := 34) (a := 0) rfl (by decide)
theorem e_103_42 (D : Mem) (x1 : Int) (x2 : Int) (x3 : Int) (s0 : Int) : qE 103 42 [(3, 2), (0, x1), (0, x2), (0, x3)] [(0, s0)] (mk D) = (if s0 = 0 then some ((0, (-4)), (mk D)) else ((qR 8 [(3, 5), (0, x2)] (mk D)).bind fun w => qE 103 53 [(3, 2), (0, x1), (0, x2), (0, x3)] (psh w.1 []) w.2)) := by
  refine Eq.trans (s_ifeq (y := 103) (pc := 42) (nx := 45) (b := 56) (tg := 56) rfl rfl) (ite_c ?_ ?_)
  · refine Eq.trans (s_push (y := 103) (pc := 56) (nx := 58) (a := 0) (b := (-4)) rfl) ?_
    exact s_ret (y := 103) (pc := 58) (nx := 59) (a := 0) rfl (by decide)
  · refine Eq.trans (s_load (y := 103) (pc := 45) (nx := 46) (a := 3) (b := 0) (x := 2) rfl rfl) ?_
    refine Eq.trans (s_get (y := 103) (pc := 46) (nx := 49) (a := 9) (b := 1) (t := 3) (v := 5) rfl (mk_k2 _) rfl (mk_2_1 _)) ?_
    refine Eq.trans (s_load (y := 103) (pc := 49) (nx := 50) (a := 0) (b := 2) (x := x2) rfl rfl) ?_
    exact s_call (y := 103) (pc := 50) (nx := 53) (a := 8) (b := 0) (as := [(3, 5), (0, x2)]) (r := []) rfl (Nat.le_of_ble_eq_true rfl) rfl rfl (Nat.le_of_ble_eq_true rfl) (Nat.le_of_ble_eq_true rfl) (Or.inr ⟨rfl, mk_k5 _⟩)
theorem e_103_53 (D : Mem) (x1 : Int) (x2 : Int) (x3 : Int) (s0 : Int) : qE 103 53 [(3, 2), (0, x1), (0, x2), (0, x3)] [(0, s0)] (mk D) = (if s0 = 0 then some ((0, (-4)), (mk D)) else ((qR 4 [(3, 5)] (mk D)).bind fun w => qE 103 66 [(3, 2), (0, x1), (0, x2), (0, x3)] (psh w.1 []) w.2)) := by
  refine Eq.trans (s_ifne (y := 103) (pc := 53) (nx := 56) (b := 59) (tg := 59) rfl rfl) (ite_c ?_ ?_)
  · refine Eq.trans (s_push (y := 103) (pc := 56) (nx := 58) (a := 0) (b := (-4)) rfl) ?_
    exact s_ret (y := 103) (pc := 58) (nx := 59) (a := 0) rfl (by decide)
  · refine Eq.trans (s_load (y := 103) (pc := 59) (nx := 60) (a := 3) (b := 0) (x := 2) rfl rfl) ?_
    refine Eq.trans (s_get (y := 103) (pc := 60) (nx := 63) (a := 9) (b := 1) (t := 3) (v := 5) rfl (mk_k2 _) rfl (mk_2_1 _)) ?_
    exact s_call (y := 103) (pc := 63) (nx := 66) (a := 4) (b := 0) (as := [(3, 5)]) (r := []) rfl (Nat.le_of_ble_eq_true rfl) rfl rfl (Nat.le_of_ble_eq_true rfl) (Nat.le_of_ble_eq_true rfl) (Or.inr ⟨rfl, mk_k5 _⟩)
theorem e_103_66 (D : Mem) (x1 : Int) (x2 : Int) (x3 : Int) : qE 103 66 [(3, 2), (0, x1), (0, x2), (0, x3)] [(3, 7)] (mk D) = ((qR 44 [(3, 7), (0, x1), (0, x2)] (mk D)).bind fun w => qE 103 71 [(3, 2), (0, x1), (0, x2), (0, x3)] (psh w.1 []) w.2) := by
  refine Eq.trans (s_load (y := 103) (pc := 66) (nx := 67) (a := 0) (b := 1) (x := x1) rfl rfl) ?_
  refine Eq.trans (s_load (y := 103) (pc := 67) (nx := 68) (a := 0) (b := 2) (x := x2) rfl rfl) ?_
  exact s_call (y := 103) (pc := 68) (nx := 71) (a := 44) (b := 0) (as := [(3, 7), (0, x1), (0, x2)]) (r := []) rfl (Nat.le_of_ble_eq_true rfl) rfl rfl (Nat.le_of_ble_eq_true rfl) (Nat.le_of_ble_eq_true rfl) (Or.inr ⟨rfl, mk_k7 _⟩)
theorem e_103_71 (D : Mem) (x1 : Int) (x2 : Int) (x3 : Int) (s0 : Int) : qE 103 71 [(3, 2), (0, x1), (0, x2), (0, x3)] [(0, s0)] (mk D) = (if s0 = 0 then some ((0, (-2)), (mk D)) else ((qR 4 [(3, 5)] (mk D)).bind fun w => qE 103 84 [(3, 2), (0, x1), (0, x2), (0, x3)] (psh w.1 []) w.2)) := by
  refine Eq.trans (s_ifne (y := 103) (pc := 71) (nx := 74) (b := 77) (tg := 77) rfl rfl) (ite_c ?_ ?_)
  · refine Eq.trans (s_push (y := 103) (pc := 74) (nx := 76) (a := 0) (b := (-2)) rfl) ?_
    exact s_ret (y := 103) (pc := 76) (nx := 77) (a := 0) rfl (by decide)
  · refine Eq.trans (s_load (y := 103) (pc := 77) (nx := 78) (a := 3) (b := 0) (x := 2) rfl rfl) ?_
    refine Eq.trans (s_get (y := 103) (pc := 78) (nx := 81) (a := 9) (b := 1) (t := 3) (v := 5) rfl (mk_k2 _) rfl (mk_2_1 _)) ?_
    exact s_call (y := 103) (pc := 81) (nx := 84) (a := 4) (b := 0) (as := [(3, 5)]) (r := []) rfl (Nat.le_of_ble_eq_true rfl) rfl rfl (Nat.le_of_ble_eq_true rfl) (Nat.le_of_ble_eq_true rfl) (Or.inr ⟨rfl, mk_k5 _⟩)
theorem e_103_84 (D : Mem) (x1 : Int) (x2 : Int) (x3 : Int) : qE 103 84 [(3, 2), (0, x1), (0, x2), (0, x3)] [(3, 7)] (mk D) = ((qR 45 [(3, 7), (0, x1), (0, x2), (0, x3)] (mk D)).bind fun w => qE 103 90 [(3, 2), (0, x1), (0, x2), (0, x3)] (psh w.1 []) w.2) := by
  refine Eq.trans (s_load (y := 103) (pc := 84) (nx := 85) (a := 0) (b := 1) (x := x1) rfl rfl) ?_
  refine Eq.trans (s_load (y := 103) (pc := 85) (nx := 86) (a := 0) (b := 2) (x := x2) rfl rfl) ?_
  refine Eq.trans (s_load (y := 103) (pc := 86) (nx := 87) (a := 0) (b := 3) (x := x3) rfl rfl) ?_
  exact s_call (y := 103) (pc := 87) (nx := 90) (a := 45) (b := 0) (as := [(3, 7), (0, x1), (0, x2), (0, x3)]) (r := []) rfl (Nat.le_of_ble_eq_true rfl) rfl rfl (Nat.le_of_ble_eq_true rfl) (Nat.le_of_ble_eq_true rfl) (Or.inr ⟨rfl, mk_k7 _⟩)
theorem e_103_90 (D : Mem) (x1 : Int) (x2 : Int) (x3 : Int) : qE 103 90 [(3, 2), (0, x1), (0, x2), (0, x3)] [] (mk D) = some ((0, 1), (mk D)) := by
  refine Eq.trans (s_push (y := 103) (pc := 90) (nx := 91) (a := 0) (b := 1) rfl) ?_
  exact s_ret (y := 103) (pc := 91) (nx := 92) (a := 0) rfl (by decide)
theorem r_104 (D : Mem) (x1 : Int) (x2 : Int) : qR 104 [(3, 2), (0, x1), (0, x2)] (mk D) = ((qR 7 [(3, 5), (0, x1)] (mk D)).bind fun w => qE 104 8 [(3, 2), (0, x1), (0, x2), (9, 0)] (psh w.1 []) w.2) := by
  show qE 104 0 [(3, 2), (0, x1), (0, x2), (9, 0)] [] (mk D) = _
  refine Eq.trans (s_load (y := 104) (pc := 0) (nx := 1) (a := 3) (b := 0) (x := 2) rfl rfl) ?_
  refine Eq.trans (s_get (y := 104) (pc := 1) (nx := 4) (a := 9) (b := 1) (t := 3) (v := 5) rfl (mk_k2 _) rfl (mk_2_1 _)) ?_
  refine Eq.trans (s_load (y := 104) (pc := 4) (nx := 5) (a := 0) (b := 1) (x := x1) rfl rfl) ?_
  exact s_call (y := 104) (pc := 5) (nx := 8) (a := 7) (b := 0) (as := [(3, 5), (0, x1)]) (r := []) rfl (Nat.le_of_ble_eq_true rfl) rfl rfl (Nat.le_of_ble_eq_true rfl) (Nat.le_of_ble_eq_true rfl) (Or.inr ⟨rfl, mk_k5 _⟩)
theorem e_104_8 (D : Mem) (x1 : Int) (x2 : Int) (s0 : Int) : qE 104 8 [(3, 2), (0, x1), (0, x2), (9, 0)] [(3, s0)] (mk D) = (if s0 = 0 then some ((0, (-1)), (mk D)) else (qE 104 (swG (pSw.getD 1 []) x2 (Int.toNat 100)) [(3, 2), (0, x1), (0, x2), (3, s0)] [] (mk D))) := by
  refine Eq.trans (s_store (y := 104) (pc := 8) (nx := 9) (a := 3) (b := 3) (ls' := [(3, 2), (0, x1), (0, x2), (3, s0)]) rfl (Nat.le_of_ble_eq_true rfl) rfl) ?_
  refine Eq.trans (s_load (y := 104) (pc := 9) (nx := 10) (a := 3) (b := 3) (x := s0) rfl rfl) ?_
  refine Eq.trans (s_nonn (y := 104) (pc := 10) (nx := 13) (b := 15) (tg := 15) rfl rfl) (ite_c ?_ ?_)
  · refine Eq.trans (s_push (y := 104) (pc := 13) (nx := 14) (a := 0) (b := (-1)) rfl) ?_
    exact s_ret (y := 104) (pc := 14) (nx := 15) (a := 0) rfl (by decide)
  · refine Eq.trans (s_load (y := 104) (pc := 15) (nx := 16) (a := 0) (b := 2) (x := x2) rfl rfl) ?_
    refine Eq.trans (s_sw (y := 104) (pc := 16) (nx := 0) (a := 1) (b := 100) rfl) ?_
    rfl
theorem e_104_52 (D : Mem) (x1 : Int) (x2 : Int) (x3 : Int) : qE 104 52 [(3, 2), (0, x1), (0, x2), (3, x3)] [] (mk D) = (if (mk D) (-x3) 0 = 18 then (if (mk D) (-((mk D) x3 0)) 0 = 15 then (qR 55 [(3, ((mk D) x3 0))] (mk D)).bind fun w => qE 104 59 [(3, 2), (0, x1), (0, x2), (3, x3)] (psh w.1 []) w.2 else none) else none) := by
  refine Eq.trans (s_load (y := 104) (pc := 52) (nx := 53) (a := 3) (b := 3) (x := x3) rfl rfl) ?_
  refine Eq.trans (s_getq (y := 104) (pc := 53) (nx := 56) (a := 8) (b := 0) (t := 3) (k := 18) rfl rfl rfl) (ite_c ?_ rfl)
  exact s_callq (k := 15) (y := 104) (pc := 56) (nx := 59) (a := 55) (b := 0) (as := [(3, ((mk D) x3 0))]) (r := []) rfl (Nat.le_of_ble_eq_true rfl) rfl rfl (Nat.le_of_ble_eq_true rfl) (Nat.le_of_ble_eq_true rfl) (by decide) rfl rfl
theorem e_104_59 (D : Mem) (x1 : Int) (x2 : Int) (x3 : Int) (s0 : Int) : qE 104 59 [(3, 2), (0, x1), (0, x2), (3, x3)] [(0, s0)] (mk D) = some ((0, s0), (mk D)) := by
  exact s_ret (y := 104) (pc := 59) (nx := 60) (a := 0) rfl (by decide)
theorem e_104_60 (D : Mem) (x1 : Int) (x2 : Int) (x3 : Int) : qE 104 60 [(3, 2), (0, x1), (0, x2), (3, x3)] [] (mk D) = (if (mk D) (-x3) 0 = 18 then some ((0, ((mk D) x3 1)), (mk D)) else none) := by
  refine Eq.trans (s_load (y := 104) (pc := 60) (nx := 61) (a := 3) (b := 3) (x := x3) rfl rfl) ?_
  refine Eq.trans (s_getq (y := 104) (pc := 61) (nx := 64) (a := 8) (b := 1) (t := 0) (k := 18) rfl rfl rfl) (ite_c ?_ rfl)
  exact s_ret (y := 104) (pc := 64) (nx := 65) (a := 0) rfl (by decide)
theorem e_104_65 (D : Mem) (x1 : Int) (x2 : Int) (x3 : Int) : qE 104 65 [(3, 2), (0, x1), (0, x2), (3, x3)] [] (mk D) = (if (mk D) (-x3) 0 = 18 then some ((0, ((mk D) x3 2)), (mk D)) else none) := by
  refine Eq.trans (s_load (y := 104) (pc := 65) (nx := 66) (a := 3) (b := 3) (x := x3) rfl rfl) ?_
  refine Eq.trans (s_getq (y := 104) (pc := 66) (nx := 69) (a := 8) (b := 2) (t := 0) (k := 18) rfl rfl rfl) (ite_c ?_ rfl)
  exact s_ret (y := 104) (pc := 69) (nx := 70) (a := 0) rfl (by decide)
theorem e_104_70 (D : Mem) (x1 : Int) (x2 : Int) (x3 : Int) : qE 104 70 [(3, 2), (0, x1), (0, x2), (3, x3)] [] (mk D) = (if (mk D) (-x3) 0 = 18 then (if ((mk D) x3 3) = 0 then some ((0, 0), (mk D)) else some ((0, 1), (mk D))) else none) := by
  refine Eq.trans (s_load (y := 104) (pc := 70) (nx := 71) (a := 3) (b := 3) (x := x3) rfl rfl) ?_
  refine Eq.trans (s_getq (y := 104) (pc := 71) (nx := 74) (a := 8) (b := 3) (t := 0) (k := 18) rfl rfl rfl) (ite_c ?_ rfl)
  refine Eq.trans (s_ifeq (y := 104) (pc := 74) (nx := 77) (b := 81) (tg := 81) rfl rfl) (ite_c ?_ ?_)
  · refine Eq.trans (s_push (y := 104) (pc := 81) (nx := 82) (a := 0) (b := 0) rfl) ?_
    exact s_ret (y := 104) (pc := 82) (nx := 83) (a := 0) rfl (by decide)
  · refine Eq.trans (s_push (y := 104) (pc := 77) (nx := 78) (a := 0) (b := 1) rfl) ?_
    refine Eq.trans (s_goto (y := 104) (pc := 78) (nx := 81) (a := 0) (b := 82) (tg := 82) rfl rfl) ?_
    exact s_ret (y := 104) (pc := 82) (nx := 83) (a := 0) rfl (by decide)
theorem e_104_83 (D : Mem) (x1 : Int) (x2 : Int) (x3 : Int) : qE 104 83 [(3, 2), (0, x1), (0, x2), (3, x3)] [] (mk D) = (if (mk D) (-x3) 0 = 18 then (if ((mk D) x3 3) = 0 then some ((0, 0), (mk D)) else ((qR 137 [(3, 2), (0, x1)] (mk D)).bind fun w => qE 104 95 [(3, 2), (0, x1), (0, x2), (3, x3)] (psh w.1 []) w.2)) else none) := by
  refine Eq.trans (s_load (y := 104) (pc := 83) (nx := 84) (a := 3) (b := 3) (x := x3) rfl rfl) ?_
  refine Eq.trans (s_getq (y := 104) (pc := 84) (nx := 87) (a := 8) (b := 3) (t := 0) (k := 18) rfl rfl rfl) (ite_c ?_ rfl)
  refine Eq.trans (s_ifeq (y := 104) (pc := 87) (nx := 90) (b := 98) (tg := 98) rfl rfl) (ite_c ?_ ?_)
  · refine Eq.trans (s_push (y := 104) (pc := 98) (nx := 99) (a := 0) (b := 0) rfl) ?_
    exact s_ret (y := 104) (pc := 99) (nx := 100) (a := 0) rfl (by decide)
  · refine Eq.trans (s_load (y := 104) (pc := 90) (nx := 91) (a := 3) (b := 0) (x := 2) rfl rfl) ?_
    refine Eq.trans (s_load (y := 104) (pc := 91) (nx := 92) (a := 0) (b := 1) (x := x1) rfl rfl) ?_
    exact s_call (y := 104) (pc := 92) (nx := 95) (a := 137) (b := 0) (as := [(3, 2), (0, x1)]) (r := []) rfl (Nat.le_of_ble_eq_true rfl) rfl rfl (Nat.le_of_ble_eq_true rfl) (Nat.le_of_ble_eq_true rfl) (Or.inr ⟨rfl, mk_k2 _⟩)
theorem e_104_95 (D : Mem) (x1 : Int) (x2 : Int) (x3 : Int) (s0 : Int) : qE 104 95 [(3, 2), (0, x1), (0, x2), (3, x3)] [(0, s0)] (mk D) = some ((0, s0), (mk D)) := by
  refine Eq.trans (s_goto (y := 104) (pc := 95) (nx := 98) (a := 0) (b := 99) (tg := 99) rfl rfl) ?_
  exact s_ret (y := 104) (pc := 99) (nx := 100) (a := 0) rfl (by decide)
theorem e_104_100 (D : Mem) (x1 : Int) (x2 : Int) (x3 : Int) : qE 104 100 [(3, 2), (0, x1), (0, x2), (3, x3)] [] (mk D) = (if x2 < 10 then qE 104 121 [(3, 2), (0, x1), (0, x2), (3, x3)] [(0, (-1))] (mk D) else (if (mk D) (-x3) 0 = 18 then (if (mk D) (-((mk D) x3 0)) 0 = 15 then (qR 58 [(3, ((mk D) x3 0)), (0, (w32 (x2 - 10)))] (mk D)).bind fun w => qE 104 121 [(3, 2), (0, x1), (0, x2), (3, x3)] (psh w.1 []) w.2 else none) else none)) := by
  refine Eq.trans (s_load (y := 104) (pc := 100) (nx := 101) (a := 0) (b := 2) (x := x2) rfl rfl) ?_
  refine Eq.trans (s_push (y := 104) (pc := 101) (nx := 103) (a := 0) (b := 10) rfl) ?_
  refine Eq.trans (s_icge (y := 104) (pc := 103) (nx := 106) (b := 110) (tg := 110) rfl rfl) (ite_c ?_ ?_)
  · refine Eq.trans (s_push (y := 104) (pc := 106) (nx := 107) (a := 0) (b := (-1)) rfl) ?_
    refine Eq.trans (s_goto (y := 104) (pc := 107) (nx := 110) (a := 0) (b := 121) (tg := 121) rfl rfl) ?_
    rfl
  · refine Eq.trans (s_load (y := 104) (pc := 110) (nx := 111) (a := 3) (b := 3) (x := x3) rfl rfl) ?_
    refine Eq.trans (s_getq (y := 104) (pc := 111) (nx := 114) (a := 8) (b := 0) (t := 3) (k := 18) rfl rfl rfl) (ite_c ?_ rfl)
    refine Eq.trans (s_load (y := 104) (pc := 114) (nx := 115) (a := 0) (b := 2) (x := x2) rfl rfl) ?_
    refine Eq.trans (s_push (y := 104) (pc := 115) (nx := 117) (a := 0) (b := 10) rfl) ?_
    refine Eq.trans (s_sub (y := 104) (pc := 117) (nx := 118) (b := 0) rfl) ?_
    exact s_callq (k := 15) (y := 104) (pc := 118) (nx := 121) (a := 58) (b := 0) (as := [(3, ((mk D) x3 0)), (0, (w32 (x2 - 10)))]) (r := []) rfl (Nat.le_of_ble_eq_true rfl) rfl rfl (Nat.le_of_ble_eq_true rfl) (Nat.le_of_ble_eq_true rfl) (by decide) rfl rfl
theorem e_104_121 (D : Mem) (x1 : Int) (x2 : Int) (x3 : Int) (s0 : Int) : qE 104 121 [(3, 2), (0, x1), (0, x2), (3, x3)] [(0, s0)] (mk D) = some ((0, s0), (mk D)) := by
  exact s_ret (y := 104) (pc := 121) (nx := 122) (a := 0) rfl (by decide)
theorem r_105 (D : Mem) (x1 : Int) (x2 : Int) : qR 105 [(3, 2), (0, x1), (0, x2)] (mk D) = ((qR 6 [(3, 5), (0, x1)] (mk D)).bind fun w => qE 105 8 [(3, 2), (0, x1), (0, x2)] (psh w.1 []) w.2) := by
  show qE 105 0 [(3, 2), (0, x1), (0, x2)] [] (mk D) = _
  refine Eq.trans (s_load (y := 105) (pc := 0) (nx := 1) (a := 3) (b := 0) (x := 2) rfl rfl) ?_
  refine Eq.trans (s_get (y := 105) (pc := 1) (nx := 4) (a := 9) (b := 1) (t := 3) (v := 5) rfl (mk_k2 _) rfl (mk_2_1 _)) ?_
  refine Eq.trans (s_load (y := 105) (pc := 4) (nx := 5) (a := 0) (b := 1) (x := x1) rfl rfl) ?_
  exact s_call (y := 105) (pc := 5) (nx := 8) (a := 6) (b := 0) (as := [(3, 5), (0, x1)]) (r := []) rfl (Nat.le_of_ble_eq_true rfl) rfl rfl (Nat.le_of_ble_eq_true rfl) (Nat.le_of_ble_eq_true rfl) (Or.inr ⟨rfl, mk_k5 _⟩)
theorem e_105_8 (D : Mem) (x1 : Int) (x2 : Int) (s0 : Int) : qE 105 8 [(3, 2), (0, x1), (0, x2)] [(0, s0)] (mk D) = (if s0 = 0 then some ((0, (-1)), (mk D)) else ((qR 6 [(3, 5), (0, x2)] (mk D)).bind fun w => qE 105 19 [(3, 2), (0, x1), (0, x2)] (psh w.1 []) w.2)) := by
  refine Eq.trans (s_ifeq (y := 105) (pc := 8) (nx := 11) (b := 22) (tg := 22) rfl rfl) (ite_c ?_ ?_)
  · refine Eq.trans (s_push (y := 105) (pc := 22) (nx := 23) (a := 0) (b := (-1)) rfl) ?_
    exact s_ret (y := 105) (pc := 23) (nx := 24) (a := 0) rfl (by decide)
  · refine Eq.trans (s_load (y := 105) (pc := 11) (nx := 12) (a := 3) (b := 0) (x := 2) rfl rfl) ?_
    refine Eq.trans (s_get (y := 105) (pc := 12) (nx := 15) (a := 9) (b := 1) (t := 3) (v := 5) rfl (mk_k2 _) rfl (mk_2_1 _)) ?_
    refine Eq.trans (s_load (y := 105) (pc := 15) (nx := 16) (a := 0) (b := 2) (x := x2) rfl rfl) ?_
    exact s_call (y := 105) (pc := 16) (nx := 19) (a := 6) (b := 0) (as := [(3, 5), (0, x2)]) (r := []) rfl (Nat.le_of_ble_eq_true rfl) rfl rfl (Nat.le_of_ble_eq_true rfl) (Nat.le_of_ble_eq_true rfl) (Or.inr ⟨rfl, mk_k5 _⟩)
theorem e_105_19 (D : Mem) (x1 : Int) (x2 : Int) (s0 : Int) : qE 105 19 [(3, 2), (0, x1), (0, x2)] [(0, s0)] (mk D) = (if s0 = 0 then some ((0, (-1)), (mk D)) else ((qR 4 [(3, 5)] (mk D)).bind fun w => qE 105 31 [(3, 2), (0, x1), (0, x2)] (psh w.1 []) w.2)) := by
  refine Eq.trans (s_ifne (y := 105) (pc := 19) (nx := 22) (b := 24) (tg := 24) rfl rfl) (ite_c ?_ ?_)
  · refine Eq.trans (s_push (y := 105) (pc := 22) (nx := 23) (a := 0) (b := (-1)) rfl) ?_
    exact s_ret (y := 105) (pc := 23) (nx := 24) (a := 0) rfl (by decide)
  · refine Eq.trans (s_load (y := 105) (pc := 24) (nx := 25) (a := 3) (b := 0) (x := 2) rfl rfl) ?_
    refine Eq.trans (s_get (y := 105) (pc := 25) (nx := 28) (a := 9) (b := 1) (t := 3) (v := 5) rfl (mk_k2 _) rfl (mk_2_1 _)) ?_
    exact s_call (y := 105) (pc := 28) (nx := 31) (a := 4) (b := 0) (as := [(3, 5)]) (r := []) rfl (Nat.le_of_ble_eq_true rfl) rfl rfl (Nat.le_of_ble_eq_true rfl) (Nat.le_of_ble_eq_true rfl) (Or.inr ⟨rfl, mk_k5 _⟩)
theorem e_105_31 (D : Mem) (x1 : Int) (x2 : Int) : qE 105 31 [(3, 2), (0, x1), (0, x2)] [(3, 7)] (mk D) = ((qR 43 [(3, 7), (0, x1), (0, x2)] (mk D)).bind fun w => qE 105 36 [(3, 2), (0, x1), (0, x2)] (psh w.1 []) w.2) := by
  refine Eq.trans (s_load (y := 105) (pc := 31) (nx := 32) (a := 0) (b := 1) (x := x1) rfl rfl) ?_
  refine Eq.trans (s_load (y := 105) (pc := 32) (nx := 33) (a := 0) (b := 2) (x := x2) rfl rfl) ?_
  exact s_call (y := 105) (pc := 33) (nx := 36) (a := 43) (b := 0) (as := [(3, 7), (0, x1), (0, x2)]) (r := []) rfl (Nat.le_of_ble_eq_true rfl) rfl rfl (Nat.le_of_ble_eq_true rfl) (Nat.le_of_ble_eq_true rfl) (Or.inr ⟨rfl, mk_k7 _⟩)
theorem e_105_36 (D : Mem) (x1 : Int) (x2 : Int) (s0 : Int) : qE 105 36 [(3, 2), (0, x1), (0, x2)] [(0, s0)] (mk D) = some ((0, s0), (mk D)) := by
  exact s_ret (y := 105) (pc := 36) (nx := 37) (a := 0) rfl (by decide)
theorem r_106 (D : Mem) : qR 106 [(3, 2)] (mk D) = ((qR 9 [(3, 5), (3, 98)] (mk D)).bind fun w => qE 106 11 [(3, 2)] (psh w.1 []) w.2) := by
  show qE 106 0 [(3, 2)] [] (mk D) = _
  refine Eq.trans (s_load (y := 106) (pc := 0) (nx := 1) (a := 3) (b := 0) (x := 2) rfl rfl) ?_
  refine Eq.trans (s_get (y := 106) (pc := 1) (nx := 4) (a := 9) (b := 1) (t := 3) (v := 5) rfl (mk_k2 _) rfl (mk_2_1 _)) ?_
  refine Eq.trans (s_load (y := 106) (pc := 4) (nx := 5) (a := 3) (b := 0) (x := 2) rfl rfl) ?_
  refine Eq.trans (s_get (y := 106) (pc := 5) (nx := 8) (a := 9) (b := 6) (t := 3) (v := 98) rfl (mk_k2 _) rfl (mk_2_6 _)) ?_
  exact s_call (y := 106) (pc := 8) (nx := 11) (a := 9) (b := 0) (as := [(3, 5), (3, 98)]) (r := []) rfl (Nat.le_of_ble_eq_true rfl) rfl rfl (Nat.le_of_ble_eq_true rfl) (Nat.le_of_ble_eq_true rfl) (Or.inr ⟨rfl, mk_k5 _⟩)
theorem e_106_11 (D : Mem) (s0 : Int) : qE 106 11 [(3, 2)] [(0, s0)] (mk D) = some ((0, s0), (mk D)) := by
  exact s_ret (y := 106) (pc := 11) (nx := 12) (a := 0) rfl (by decide)
theorem r_107 (D : Mem) (x1 : Int) : qR 107 [(3, 2), (0, x1)] (mk D) = (qE 107 (swG (pSw.getD 2 []) x1 (Int.toNat 127)) [(3, 2), (0, x1)] [] (mk D)) := by
  show qE 107 0 [(3, 2), (0, x1)] [] (mk D) = _
  refine Eq.trans (s_load (y := 107) (pc := 0) (nx := 1) (a := 0) (b := 1) (x := x1) rfl rfl) ?_
  refine Eq.trans (s_sw (y := 107) (pc := 1) (nx := 0) (a := 2) (b := 127) rfl) ?_
  rfl
theorem e_107_52 (D : Mem) (x1 : Int) : qE 107 52 [(3, 2), (0, x1)] [] (mk D) = ((qR 1 [(3, 5)] (mk D)).bind fun w => qE 107 59 [(3, 2), (0, x1)] (psh w.1 []) w.2) := by
  refine Eq.trans (s_load (y := 107) (pc := 52) (nx := 53) (a := 3) (b := 0) (x := 2) rfl rfl) ?_
  refine Eq.trans (s_get (y := 107) (pc := 53) (nx := 56) (a := 9) (b := 1) (t := 3) (v := 5) rfl (mk_k2 _) rfl (mk_2_1 _)) ?_
  exact s_call (y := 107) (pc := 56) (nx := 59) (a := 1) (b := 0) (as := [(3, 5)]) (r := []) rfl (Nat.le_of_ble_eq_true rfl) rfl rfl (Nat.le_of_ble_eq_true rfl) (Nat.le_of_ble_eq_true rfl) (Or.inr ⟨rfl, mk_k5 _⟩)
theorem e_107_59 (D : Mem) (x1 : Int) (s0 : Int) : qE 107 59 [(3, 2), (0, x1)] [(0, s0)] (mk D) = some ((0, s0), (mk D)) := by
  exact s_ret (y := 107) (pc := 59) (nx := 60) (a := 0) rfl (by decide)
theorem e_107_60 (D : Mem) (x1 : Int) : qE 107 60 [(3, 2), (0, x1)] [] (mk D) = ((qR 2 [(3, 5)] (mk D)).bind fun w => qE 107 67 [(3, 2), (0, x1)] (psh w.1 []) w.2) := by
  refine Eq.trans (s_load (y := 107) (pc := 60) (nx := 61) (a := 3) (b := 0) (x := 2) rfl rfl) ?_
  refine Eq.trans (s_get (y := 107) (pc := 61) (nx := 64) (a := 9) (b := 1) (t := 3) (v := 5) rfl (mk_k2 _) rfl (mk_2_1 _)) ?_
  exact s_call (y := 107) (pc := 64) (nx := 67) (a := 2) (b := 0) (as := [(3, 5)]) (r := []) rfl (Nat.le_of_ble_eq_true rfl) rfl rfl (Nat.le_of_ble_eq_true rfl) (Nat.le_of_ble_eq_true rfl) (Or.inr ⟨rfl, mk_k5 _⟩)
theorem e_107_67 (D : Mem) (x1 : Int) (s0 : Int) : qE 107 67 [(3, 2), (0, x1)] [(0, s0)] (mk D) = some ((0, s0), (mk D)) := by
  exact s_ret (y := 107) (pc := 67) (nx := 68) (a := 0) rfl (by decide)
theorem e_107_68 (D : Mem) (x1 : Int) : qE 107 68 [(3, 2), (0, x1)] [] (mk D) = ((qR 4 [(3, 5)] (mk D)).bind fun w => qE 107 75 [(3, 2), (0, x1)] (psh w.1 []) w.2) := by
  refine Eq.trans (s_load (y := 107) (pc := 68) (nx := 69) (a := 3) (b := 0) (x := 2) rfl rfl) ?_
  refine Eq.trans (s_get (y := 107) (pc := 69) (nx := 72) (a := 9) (b := 1) (t := 3) (v := 5) rfl (mk_k2 _) rfl (mk_2_1 _)) ?_
  exact s_call (y := 107) (pc := 72) (nx := 75) (a := 4) (b := 0) (as := [(3, 5)]) (r := []) rfl (Nat.le_of_ble_eq_true rfl) rfl rfl (Nat.le_of_ble_eq_true rfl) (Nat.le_of_ble_eq_true rfl) (Or.inr ⟨rfl, mk_k5 _⟩)
theorem e_107_75 (D : Mem) (x1 : Int) : qE 107 75 [(3, 2), (0, x1)] [(3, 7)] (mk D) = ((qR 41 [(3, 7)] (mk D)).bind fun w => qE 107 78 [(3, 2), (0, x1)] (psh w.1 []) w.2) := by
  exact s_call (y := 107) (pc := 75) (nx := 78) (a := 41) (b := 0) (as := [(3, 7)]) (r := []) rfl (Nat.le_of_ble_eq_true rfl) rfl rfl (Nat.le_of_ble_eq_true rfl) (Nat.le_of_ble_eq_true rfl) (Or.inr ⟨rfl, mk_k7 _⟩)
theorem e_107_78 (D : Mem) (x1 : Int) (s0 : Int) : qE 107 78 [(3, 2), (0, x1)] [(0, s0)] (mk D) = some ((0, s0), (mk D)) := by
  exact s_ret (y := 107) (pc := 78) (nx := 79) (a := 0) rfl (by decide)
theorem e_107_79 (D : Mem) (x1 : Int) : qE 107 79 [(3, 2), (0, x1)] [] (mk D) = ((qR 55 [(3, 98)] (mk D)).bind fun w => qE 107 86 [(3, 2), (0, x1)] (psh w.1 []) w.2) := by
  refine Eq.trans (s_load (y := 107) (pc := 79) (nx := 80) (a := 3) (b := 0) (x := 2) rfl rfl) ?_
  refine Eq.trans (s_get (y := 107) (pc := 80) (nx := 83) (a := 9) (b := 6) (t := 3) (v := 98) rfl (mk_k2 _) rfl (mk_2_6 _)) ?_
  exact s_call (y := 107) (pc := 83) (nx := 86) (a := 55) (b := 0) (as := [(3, 98)]) (r := []) rfl (Nat.le_of_ble_eq_true rfl) rfl rfl (Nat.le_of_ble_eq_true rfl) (Nat.le_of_ble_eq_true rfl) (Or.inr ⟨rfl, mk_k98 _⟩)
theorem e_107_86 (D : Mem) (x1 : Int) (s0 : Int) : qE 107 86 [(3, 2), (0, x1)] [(0, s0)] (mk D) = some ((0, s0), (mk D)) := by
  exact s_ret (y := 107) (pc := 86) (nx := 87) (a := 0) rfl (by decide)
theorem e_107_87 (D : Mem) (x1 : Int) : qE 107 87 [(3, 2), (0, x1)] [] (mk D) = ((qR 55 [(3, 100)] (mk D)).bind fun w => qE 107 94 [(3, 2), (0, x1)] (psh w.1 []) w.2) := by
  refine Eq.trans (s_load (y := 107) (pc := 87) (nx := 88) (a := 3) (b := 0) (x := 2) rfl rfl) ?_
  refine Eq.trans (s_get (y := 107) (pc := 88) (nx := 91) (a := 9) (b := 7) (t := 3) (v := 100) rfl (mk_k2 _) rfl (mk_2_7 _)) ?_
  exact s_call (y := 107) (pc := 91) (nx := 94) (a := 55) (b := 0) (as := [(3, 100)]) (r := []) rfl (Nat.le_of_ble_eq_true rfl) rfl rfl (Nat.le_of_ble_eq_true rfl) (Nat.le_of_ble_eq_true rfl) (Or.inr ⟨rfl, mk_k100 _⟩)
theorem e_107_94 (D : Mem) (x1 : Int) (s0 : Int) : qE 107 94 [(3, 2), (0, x1)] [(0, s0)] (mk D) = some ((0, s0), (mk D)) := by
  exact s_ret (y := 107) (pc := 94) (nx := 95) (a := 0) rfl (by decide)
theorem e_107_95 (D : Mem) (x1 : Int) : qE 107 95 [(3, 2), (0, x1)] [] (mk D) = ((qR 55 [(3, 102)] (mk D)).bind fun w => qE 107 102 [(3, 2), (0, x1)] (psh w.1 []) w.2) := by
  refine Eq.trans (s_load (y := 107) (pc := 95) (nx := 96) (a := 3) (b := 0) (x := 2) rfl rfl) ?_
  refine Eq.trans (s_get (y := 107) (pc := 96) (nx := 99) (a := 9) (b := 8) (t := 3) (v := 102) rfl (mk_k2 _) rfl (mk_2_8 _)) ?_
  exact s_call (y := 107) (pc := 99) (nx := 102) (a := 55) (b := 0) (as := [(3, 102)]) (r := []) rfl (Nat.le_of_ble_eq_true rfl) rfl rfl (Nat.le_of_ble_eq_true rfl) (Nat.le_of_ble_eq_true rfl) (Or.inr ⟨rfl, mk_k102 _⟩)
theorem e_107_102 (D : Mem) (x1 : Int) (s0 : Int) : qE 107 102 [(3, 2), (0, x1)] [(0, s0)] (mk D) = some ((0, s0), (mk D)) := by
  exact s_ret (y := 107) (pc := 102) (nx := 103) (a := 0) rfl (by decide)
theorem e_107_103 (D : Mem) (x1 : Int) : qE 107 103 [(3, 2), (0, x1)] [] (mk D) = ((qR 34 [(3, 11)] (mk D)).bind fun w => qE 107 110 [(3, 2), (0, x1)] (psh w.1 []) w.2) := by
  refine Eq.trans (s_load (y := 107) (pc := 103) (nx := 104) (a := 3) (b := 0) (x := 2) rfl rfl) ?_
  refine Eq.trans (s_get (y := 107) (pc := 104) (nx := 107) (a := 9) (b := 2) (t := 3) (v := 11) rfl (mk_k2 _) rfl (mk_2_2 _)) ?_
  exact s_call (y := 107) (pc := 107) (nx := 110) (a := 34) (b := 0) (as := [(3, 11)]) (r := []) rfl (Nat.le_of_ble_eq_true rfl) rfl rfl (Nat.le_of_ble_eq_true rfl) (Nat.le_of_ble_eq_true rfl) (Or.inr ⟨rfl, mk_k11 _⟩)
theorem e_107_110 (D : Mem) (x1 : Int) (s0 : Int) : qE 107 110 [(3, 2), (0, x1)] [(0, s0)] (mk D) = some ((0, s0), (mk D)) := by
  exact s_ret (y := 107) (pc := 110) (nx := 111) (a := 0) rfl (by decide)
theorem e_107_111 (D : Mem) (x1 : Int) : qE 107 111 [(3, 2), (0, x1)] [] (mk D) = ((qR 3 [(3, 5)] (mk D)).bind fun w => qE 107 118 [(3, 2), (0, x1)] (psh w.1 []) w.2) := by
  refine Eq.trans (s_load (y := 107) (pc := 111) (nx := 112) (a := 3) (b := 0) (x := 2) rfl rfl) ?_
  refine Eq.trans (s_get (y := 107) (pc := 112) (nx := 115) (a := 9) (b := 1) (t := 3) (v := 5) rfl (mk_k2 _) rfl (mk_2_1 _)) ?_
  exact s_call (y := 107) (pc := 115) (nx := 118) (a := 3) (b := 0) (as := [(3, 5)]) (r := []) rfl (Nat.le_of_ble_eq_true rfl) rfl rfl (Nat.le_of_ble_eq_true rfl) (Nat.le_of_ble_eq_true rfl) (Or.inr ⟨rfl, mk_k5 _⟩)
theorem e_107_118 (D : Mem) (x1 : Int) (s0 : Int) : qE 107 118 [(3, 2), (0, x1)] [(0, s0)] (mk D) = some ((0, s0), (mk D)) := by
  exact s_ret (y := 107) (pc := 118) (nx := 119) (a := 0) rfl (by decide)
theorem e_107_119 (D : Mem) (x1 : Int) : qE 107 119 [(3, 2), (0, x1)] [] (mk D) = ((qR 66 [(3, 31)] (mk D)).bind fun w => qE 107 126 [(3, 2), (0, x1)] (psh w.1 []) w.2) := by
  refine Eq.trans (s_load (y := 107) (pc := 119) (nx := 120) (a := 3) (b := 0) (x := 2) rfl rfl) ?_
  refine Eq.trans (s_get (y := 107) (pc := 120) (nx := 123) (a := 9) (b := 3) (t := 3) (v := 31) rfl (mk_k2 _) rfl (mk_2_3 _)) ?_
  exact s_call (y := 107) (pc := 123) (nx := 126) (a := 66) (b := 0) (as := [(3, 31)]) (r := []) rfl (Nat.le_of_ble_eq_true rfl) rfl rfl (Nat.le_of_ble_eq_true rfl) (Nat.le_of_ble_eq_true rfl) (Or.inr ⟨rfl, mk_k31 _⟩)
theorem e_107_126 (D : Mem) (x1 : Int) (s0 : Int) : qE 107 126 [(3, 2), (0, x1)] [(0, s0)] (mk D) = some ((0, s0), (mk D)) := by
  exact s_ret (y := 107) (pc := 126) (nx := 127) (a := 0) rfl (by decide)
theorem e_107_127 (D : Mem) (x1 : Int) : qE 107 127 [(3, 2), (0, x1)] [] (mk D) = some ((0, (-1)), (mk D)) := by
  refine Eq.trans (s_push (y := 107) (pc := 127) (nx := 128) (a := 0) (b := (-1)) rfl) ?_
  exact s_ret (y := 107) (pc := 128) (nx := 129) (a := 0) rfl (by decide)
theorem r_108 (D : Mem) (x1 : Int) : qR 108 [(3, 2), (0, x1)] (mk D) = (if x1 < 0 then some ((0, (-1)), (mk D)) else (if x1 ≤ 100 then ((qR 67 [(3, 31), (0, x1)] (mk D)).bind fun w => qE 108 20 [(3, 2), (0, x1)] (psh w.1 []) w.2) else some ((0, (-1)), (mk D)))) := by
  show qE 108 0 [(3, 2), (0, x1)] [] (mk D) = _
  refine Eq.trans (s_load (y := 108) (pc := 0) (nx := 1) (a := 0) (b := 1) (x := x1) rfl rfl) ?_
  refine Eq.trans (s_iflt (y := 108) (pc := 1) (nx := 4) (b := 10) (tg := 10) rfl rfl) (ite_c ?_ ?_)
  · refine Eq.trans (s_push (y := 108) (pc := 10) (nx := 11) (a := 0) (b := (-1)) rfl) ?_
    exact s_ret (y := 108) (pc := 11) (nx := 12) (a := 0) rfl (by decide)
  · refine Eq.trans (s_load (y := 108) (pc := 4) (nx := 5) (a := 0) (b := 1) (x := x1) rfl rfl) ?_
    refine Eq.trans (s_push (y := 108) (pc := 5) (nx := 7) (a := 0) (b := 100) rfl) ?_
    refine Eq.trans (s_icle (y := 108) (pc := 7) (nx := 10) (b := 12) (tg := 12) rfl rfl) (ite_c ?_ ?_)
    · refine Eq.trans (s_load (y := 108) (pc := 12) (nx := 13) (a := 3) (b := 0) (x := 2) rfl rfl) ?_
      refine Eq.trans (s_get (y := 108) (pc := 13) (nx := 16) (a := 9) (b := 3) (t := 3) (v := 31) rfl (mk_k2 _) rfl (mk_2_3 _)) ?_
      refine Eq.trans (s_load (y := 108) (pc := 16) (nx := 17) (a := 0) (b := 1) (x := x1) rfl rfl) ?_
      exact s_call (y := 108) (pc := 17) (nx := 20) (a := 67) (b := 0) (as := [(3, 31), (0, x1)]) (r := []) rfl (Nat.le_of_ble_eq_true rfl) rfl rfl (Nat.le_of_ble_eq_true rfl) (Nat.le_of_ble_eq_true rfl) (Or.inr ⟨rfl, mk_k31 _⟩)
    · refine Eq.trans (s_push (y := 108) (pc := 10) (nx := 11) (a := 0) (b := (-1)) rfl) ?_
      exact s_ret (y := 108) (pc := 11) (nx := 12) (a := 0) rfl (by decide)
theorem e_108_20 (D : Mem) (x1 : Int) : qE 108 20 [(3, 2), (0, x1)] [] (mk D) = some ((0, 1), (mk D)) := by
  refine Eq.trans (s_push (y := 108) (pc := 20) (nx := 21) (a := 0) (b := 1) rfl) ?_
  exact s_ret (y := 108) (pc := 21) (nx := 22) (a := 0) rfl (by decide)
theorem r_109 (D : Mem) (x1 : Int) (x2 : Int) : qR 109 [(3, 2), (0, x1), (0, x2)] (mk D) = (if x1 < 0 then some ((0, (-1)), (mk D)) else (if x1 < 3 then (if x2 < 0 then some ((0, (-1)), (mk D)) else (if x2 ≤ 100000 then ((qR 68 [(3, 31), (0, x1), (0, x2)] (mk D)).bind fun w => qE 109 30 [(3, 2), (0, x1), (0, x2)] (psh w.1 []) w.2) else some ((0, (-1)), (mk D)))) else some ((0, (-1)), (mk D)))) := by
  show qE 109 0 [(3, 2), (0, x1), (0, x2)] [] (mk D) = _
  refine Eq.trans (s_load (y := 109) (pc := 0) (nx := 1) (a := 0) (b := 1) (x := x1) rfl rfl) ?_
  refine Eq.trans (s_iflt (y := 109) (pc := 1) (nx := 4) (b := 19) (tg := 19) rfl rfl) (ite_c ?_ ?_)
  · refine Eq.trans (s_push (y := 109) (pc := 19) (nx := 20) (a := 0) (b := (-1)) rfl) ?_
    exact s_ret (y := 109) (pc := 20) (nx := 21) (a := 0) rfl (by decide)
  · refine Eq.trans (s_load (y := 109) (pc := 4) (nx := 5) (a := 0) (b := 1) (x := x1) rfl rfl) ?_
    refine Eq.trans (s_push (y := 109) (pc := 5) (nx := 6) (a := 0) (b := 3) rfl) ?_
    refine Eq.trans (s_icge (y := 109) (pc := 6) (nx := 9) (b := 19) (tg := 19) rfl rfl) (ite_c ?_ ?_)
    · refine Eq.trans (s_load (y := 109) (pc := 9) (nx := 10) (a := 0) (b := 2) (x := x2) rfl rfl) ?_
      refine Eq.trans (s_iflt (y := 109) (pc := 10) (nx := 13) (b := 19) (tg := 19) rfl rfl) (ite_c ?_ ?_)
      · refine Eq.trans (s_push (y := 109) (pc := 19) (nx := 20) (a := 0) (b := (-1)) rfl) ?_
        exact s_ret (y := 109) (pc := 20) (nx := 21) (a := 0) rfl (by decide)
      · refine Eq.trans (s_load (y := 109) (pc := 13) (nx := 14) (a := 0) (b := 2) (x := x2) rfl rfl) ?_
        refine Eq.trans (s_push (y := 109) (pc := 14) (nx := 16) (a := 0) (b := 100000) rfl) ?_
        refine Eq.trans (s_icle (y := 109) (pc := 16) (nx := 19) (b := 21) (tg := 21) rfl rfl) (ite_c ?_ ?_)
        · refine Eq.trans (s_load (y := 109) (pc := 21) (nx := 22) (a := 3) (b := 0) (x := 2) rfl rfl) ?_
          refine Eq.trans (s_get (y := 109) (pc := 22) (nx := 25) (a := 9) (b := 3) (t := 3) (v := 31) rfl (mk_k2 _) rfl (mk_2_3 _)) ?_
          refine Eq.trans (s_load (y := 109) (pc := 25) (nx := 26) (a := 0) (b := 1) (x := x1) rfl rfl) ?_
          refine Eq.trans (s_load (y := 109) (pc := 26) (nx := 27) (a := 0) (b := 2) (x := x2) rfl rfl) ?_
          exact s_call (y := 109) (pc := 27) (nx := 30) (a := 68) (b := 0) (as := [(3, 31), (0, x1), (0, x2)]) (r := []) rfl (Nat.le_of_ble_eq_true rfl) rfl rfl (Nat.le_of_ble_eq_true rfl) (Nat.le_of_ble_eq_true rfl) (Or.inr ⟨rfl, mk_k31 _⟩)
        · refine Eq.trans (s_push (y := 109) (pc := 19) (nx := 20) (a := 0) (b := (-1)) rfl) ?_
          exact s_ret (y := 109) (pc := 20) (nx := 21) (a := 0) rfl (by decide)
    · refine Eq.trans (s_push (y := 109) (pc := 19) (nx := 20) (a := 0) (b := (-1)) rfl) ?_
      exact s_ret (y := 109) (pc := 20) (nx := 21) (a := 0) rfl (by decide)
theorem e_109_30 (D : Mem) (x1 : Int) (x2 : Int) : qE 109 30 [(3, 2), (0, x1), (0, x2)] [] (mk D) = some ((0, 1), (mk D)) := by
  refine Eq.trans (s_push (y := 109) (pc := 30) (nx := 31) (a := 0) (b := 1) rfl) ?_
  exact s_ret (y := 109) (pc := 31) (nx := 32) (a := 0) rfl (by decide)
theorem r_110 (D : Mem) (x1 : Int) : qR 110 [(3, 2), (0, x1)] (mk D) = ((qR 131 [(0, x1)] (mk D)).bind fun w => qE 110 4 [(3, 2), (0, x1)] (psh w.1 []) w.2) := by
  show qE 110 0 [(3, 2), (0, x1)] [] (mk D) = _
  refine Eq.trans (s_load (y := 110) (pc := 0) (nx := 1) (a := 0) (b := 1) (x := x1) rfl rfl) ?_
  exact s_call (y := 110) (pc := 1) (nx := 4) (a := 131) (b := 0) (as := [(0, x1)]) (r := []) rfl (Nat.le_of_ble_eq_true rfl) rfl rfl (Nat.le_of_ble_eq_true rfl) (Nat.le_of_ble_eq_true rfl) (Or.inl rfl)
theorem e_110_4 (D : Mem) (x1 : Int) (s0 : Int) : qE 110 4 [(3, 2), (0, x1)] [(0, s0)] (mk D) = (if s0 = 0 then some ((0, (-1)), (mk D)) else ((qR 57 [(3, 100)] (mk D)).bind fun w => qE 110 16 [(3, 2), (0, x1)] (psh w.1 []) w.2)) := by
  refine Eq.trans (s_ifne (y := 110) (pc := 4) (nx := 7) (b := 9) (tg := 9) rfl rfl) (ite_c ?_ ?_)
  · refine Eq.trans (s_push (y := 110) (pc := 7) (nx := 8) (a := 0) (b := (-1)) rfl) ?_
    exact s_ret (y := 110) (pc := 8) (nx := 9) (a := 0) rfl (by decide)
  · refine Eq.trans (s_load (y := 110) (pc := 9) (nx := 10) (a := 3) (b := 0) (x := 2) rfl rfl) ?_
    refine Eq.trans (s_get (y := 110) (pc := 10) (nx := 13) (a := 9) (b := 7) (t := 3) (v := 100) rfl (mk_k2 _) rfl (mk_2_7 _)) ?_
    exact s_call (y := 110) (pc := 13) (nx := 16) (a := 57) (b := 0) (as := [(3, 100)]) (r := []) rfl (Nat.le_of_ble_eq_true rfl) rfl rfl (Nat.le_of_ble_eq_true rfl) (Nat.le_of_ble_eq_true rfl) (Or.inr ⟨rfl, mk_k100 _⟩)
theorem e_110_16 (D : Mem) (x1 : Int) (s0 : Int) : qE 110 16 [(3, 2), (0, x1)] [(0, s0)] (mk D) = (if s0 = 0 then ((qR 59 [(3, 100), (0, x1)] (mk D)).bind fun w => qE 110 30 [(3, 2), (0, x1)] (psh w.1 []) w.2) else some ((0, (-2)), (mk D))) := by
  refine Eq.trans (s_ifeq (y := 110) (pc := 16) (nx := 19) (b := 22) (tg := 22) rfl rfl) (ite_c ?_ ?_)
  · refine Eq.trans (s_load (y := 110) (pc := 22) (nx := 23) (a := 3) (b := 0) (x := 2) rfl rfl) ?_
    refine Eq.trans (s_get (y := 110) (pc := 23) (nx := 26) (a := 9) (b := 7) (t := 3) (v := 100) rfl (mk_k2 _) rfl (mk_2_7 _)) ?_
    refine Eq.trans (s_load (y := 110) (pc := 26) (nx := 27) (a := 0) (b := 1) (x := x1) rfl rfl) ?_
    exact s_call (y := 110) (pc := 27) (nx := 30) (a := 59) (b := 0) (as := [(3, 100), (0, x1)]) (r := []) rfl (Nat.le_of_ble_eq_true rfl) rfl rfl (Nat.le_of_ble_eq_true rfl) (Nat.le_of_ble_eq_true rfl) (Or.inr ⟨rfl, mk_k100 _⟩)
  · refine Eq.trans (s_push (y := 110) (pc := 19) (nx := 21) (a := 0) (b := (-2)) rfl) ?_
    exact s_ret (y := 110) (pc := 21) (nx := 22) (a := 0) rfl (by decide)
theorem e_110_30 (D : Mem) (x1 : Int) : qE 110 30 [(3, 2), (0, x1)] [] (mk D) = ((qR 55 [(3, 100)] (mk D)).bind fun w => qE 110 37 [(3, 2), (0, x1)] (psh w.1 []) w.2) := by
  refine Eq.trans (s_load (y := 110) (pc := 30) (nx := 31) (a := 3) (b := 0) (x := 2) rfl rfl) ?_
  refine Eq.trans (s_get (y := 110) (pc := 31) (nx := 34) (a := 9) (b := 7) (t := 3) (v := 100) rfl (mk_k2 _) rfl (mk_2_7 _)) ?_
  exact s_call (y := 110) (pc := 34) (nx := 37) (a := 55) (b := 0) (as := [(3, 100)]) (r := []) rfl (Nat.le_of_ble_eq_true rfl) rfl rfl (Nat.le_of_ble_eq_true rfl) (Nat.le_of_ble_eq_true rfl) (Or.inr ⟨rfl, mk_k100 _⟩)
theorem e_110_37 (D : Mem) (x1 : Int) (s0 : Int) : qE 110 37 [(3, 2), (0, x1)] [(0, s0)] (mk D) = some ((0, s0), (mk D)) := by
  exact s_ret (y := 110) (pc := 37) (nx := 38) (a := 0) rfl (by decide)
theorem r_111 (D : Mem) : qR 111 [(3, 2)] (mk D) = ((qR 56 [(3, 100)] (mk D)).bind fun w => qE 111 7 [(3, 2)] (psh w.1 []) w.2) := by
  show qE 111 0 [(3, 2)] [] (mk D) = _
  refine Eq.trans (s_load (y := 111) (pc := 0) (nx := 1) (a := 3) (b := 0) (x := 2) rfl rfl) ?_
  refine Eq.trans (s_get (y := 111) (pc := 1) (nx := 4) (a := 9) (b := 7) (t := 3) (v := 100) rfl (mk_k2 _) rfl (mk_2_7 _)) ?_
  exact s_call (y := 111) (pc := 4) (nx := 7) (a := 56) (b := 0) (as := [(3, 100)]) (r := []) rfl (Nat.le_of_ble_eq_true rfl) rfl rfl (Nat.le_of_ble_eq_true rfl) (Nat.le_of_ble_eq_true rfl) (Or.inr ⟨rfl, mk_k100 _⟩)
theorem e_111_7 (D : Mem) (s0 : Int) : qE 111 7 [(3, 2)] [(0, s0)] (mk D) = (if s0 = 0 then ((qR 60 [(3, 100)] (mk D)).bind fun w => qE 111 20 [(3, 2)] (psh w.1 []) w.2) else some ((0, (-4)), (mk D))) := by
  refine Eq.trans (s_ifeq (y := 111) (pc := 7) (nx := 10) (b := 13) (tg := 13) rfl rfl) (ite_c ?_ ?_)
  · refine Eq.trans (s_load (y := 111) (pc := 13) (nx := 14) (a := 3) (b := 0) (x := 2) rfl rfl) ?_
    refine Eq.trans (s_get (y := 111) (pc := 14) (nx := 17) (a := 9) (b := 7) (t := 3) (v := 100) rfl (mk_k2 _) rfl (mk_2_7 _)) ?_
    exact s_call (y := 111) (pc := 17) (nx := 20) (a := 60) (b := 0) (as := [(3, 100)]) (r := []) rfl (Nat.le_of_ble_eq_true rfl) rfl rfl (Nat.le_of_ble_eq_true rfl) (Nat.le_of_ble_eq_true rfl) (Or.inr ⟨rfl, mk_k100 _⟩)
  · refine Eq.trans (s_push (y := 111) (pc := 10) (nx := 12) (a := 0) (b := (-4)) rfl) ?_
    exact s_ret (y := 111) (pc := 12) (nx := 13) (a := 0) rfl (by decide)
theorem e_111_20 (D : Mem) : qE 111 20 [(3, 2)] [] (mk D) = ((qR 55 [(3, 100)] (mk D)).bind fun w => qE 111 27 [(3, 2)] (psh w.1 []) w.2) := by
  refine Eq.trans (s_load (y := 111) (pc := 20) (nx := 21) (a := 3) (b := 0) (x := 2) rfl rfl) ?_
  refine Eq.trans (s_get (y := 111) (pc := 21) (nx := 24) (a := 9) (b := 7) (t := 3) (v := 100) rfl (mk_k2 _) rfl (mk_2_7 _)) ?_
  exact s_call (y := 111) (pc := 24) (nx := 27) (a := 55) (b := 0) (as := [(3, 100)]) (r := []) rfl (Nat.le_of_ble_eq_true rfl) rfl rfl (Nat.le_of_ble_eq_true rfl) (Nat.le_of_ble_eq_true rfl) (Or.inr ⟨rfl, mk_k100 _⟩)
theorem e_111_27 (D : Mem) (s0 : Int) : qE 111 27 [(3, 2)] [(0, s0)] (mk D) = some ((0, s0), (mk D)) := by
  exact s_ret (y := 111) (pc := 27) (nx := 28) (a := 0) rfl (by decide)
theorem r_112 (D : Mem) (x1 : Int) (x2 : Int) : qR 112 [(3, 2), (0, x1), (0, x2)] (mk D) = ((qR 135 [(0, x1)] (mk D)).bind fun w => qE 112 4 [(3, 2), (0, x1), (0, x2), (9, 0)] (psh w.1 []) w.2) := by
  show qE 112 0 [(3, 2), (0, x1), (0, x2), (9, 0)] [] (mk D) = _
  refine Eq.trans (s_load (y := 112) (pc := 0) (nx := 1) (a := 0) (b := 1) (x := x1) rfl rfl) ?_
  exact s_call (y := 112) (pc := 1) (nx := 4) (a := 135) (b := 0) (as := [(0, x1)]) (r := []) rfl (Nat.le_of_ble_eq_true rfl) rfl rfl (Nat.le_of_ble_eq_true rfl) (Nat.le_of_ble_eq_true rfl) (Or.inl rfl)
theorem e_112_4 (D : Mem) (x1 : Int) (x2 : Int) (s0 : Int) : qE 112 4 [(3, 2), (0, x1), (0, x2), (9, 0)] [(0, s0)] (mk D) = (if s0 < 0 then some ((0, s0), (mk D)) else ((qR 138 [(3, 2), (0, x1), (0, x2)] (mk D)).bind fun w => qE 112 17 [(3, 2), (0, x1), (0, x2), (0, s0)] (psh w.1 []) w.2)) := by
  refine Eq.trans (s_store (y := 112) (pc := 4) (nx := 5) (a := 0) (b := 3) (ls' := [(3, 2), (0, x1), (0, x2), (0, s0)]) rfl (Nat.le_of_ble_eq_true rfl) rfl) ?_
  refine Eq.trans (s_load (y := 112) (pc := 5) (nx := 6) (a := 0) (b := 3) (x := s0) rfl rfl) ?_
  refine Eq.trans (s_ifge (y := 112) (pc := 6) (nx := 9) (b := 11) (tg := 11) rfl rfl) (ite_c ?_ ?_)
  · refine Eq.trans (s_load (y := 112) (pc := 9) (nx := 10) (a := 0) (b := 3) (x := s0) rfl rfl) ?_
    exact s_ret (y := 112) (pc := 10) (nx := 11) (a := 0) rfl (by decide)
  · refine Eq.trans (s_load (y := 112) (pc := 11) (nx := 12) (a := 3) (b := 0) (x := 2) rfl rfl) ?_
    refine Eq.trans (s_load (y := 112) (pc := 12) (nx := 13) (a := 0) (b := 1) (x := x1) rfl rfl) ?_
    refine Eq.trans (s_load (y := 112) (pc := 13) (nx := 14) (a := 0) (b := 2) (x := x2) rfl rfl) ?_
    exact s_call (y := 112) (pc := 14) (nx := 17) (a := 138) (b := 0) (as := [(3, 2), (0, x1), (0, x2)]) (r := []) rfl (Nat.le_of_ble_eq_true rfl) rfl rfl (Nat.le_of_ble_eq_true rfl) (Nat.le_of_ble_eq_true rfl) (Or.inr ⟨rfl, mk_k2 _⟩)
theorem e_112_17 (D : Mem) (x1 : Int) (x2 : Int) (x3 : Int) : qE 112 17 [(3, 2), (0, x1), (0, x2), (0, x3)] [] (mk D) = ((qR 76 [(3, 31)] (mk D)).bind fun w => qE 112 24 [(3, 2), (0, x1), (0, x2), (0, x3)] (psh w.1 []) w.2) := by
  refine Eq.trans (s_load (y := 112) (pc := 17) (nx := 18) (a := 3) (b := 0) (x := 2) rfl rfl) ?_
  refine Eq.trans (s_get (y := 112) (pc := 18) (nx := 21) (a := 9) (b := 3) (t := 3) (v := 31) rfl (mk_k2 _) rfl (mk_2_3 _)) ?_
  exact s_call (y := 112) (pc := 21) (nx := 24) (a := 76) (b := 0) (as := [(3, 31)]) (r := []) rfl (Nat.le_of_ble_eq_true rfl) rfl rfl (Nat.le_of_ble_eq_true rfl) (Nat.le_of_ble_eq_true rfl) (Or.inr ⟨rfl, mk_k31 _⟩)
theorem e_112_24 (D : Mem) (x1 : Int) (x2 : Int) (x3 : Int) (s0 : Int) : qE 112 24 [(3, 2), (0, x1), (0, x2), (0, x3)] [(0, s0)] (mk D) = some ((0, s0), (mk D)) := by
  exact s_ret (y := 112) (pc := 24) (nx := 25) (a := 0) rfl (by decide)
theorem r_113 (D : Mem) (x1 : Int) (x2 : Int) (x3 : Int) : qR 113 [(3, 2), (0, x1), (0, x2), (0, x3)] (mk D) = ((qR 135 [(0, x1)] (mk D)).bind fun w => qE 113 4 [(3, 2), (0, x1), (0, x2), (0, x3)] (psh w.1 []) w.2) := by
  show qE 113 0 [(3, 2), (0, x1), (0, x2), (0, x3)] [] (mk D) = _
  refine Eq.trans (s_load (y := 113) (pc := 0) (nx := 1) (a := 0) (b := 1) (x := x1) rfl rfl) ?_
  exact s_call (y := 113) (pc := 1) (nx := 4) (a := 135) (b := 0) (as := [(0, x1)]) (r := []) rfl (Nat.le_of_ble_eq_true rfl) rfl rfl (Nat.le_of_ble_eq_true rfl) (Nat.le_of_ble_eq_true rfl) (Or.inl rfl)
theorem e_113_4 (D : Mem) (x1 : Int) (x2 : Int) (x3 : Int) (s0 : Int) : qE 113 4 [(3, 2), (0, x1), (0, x2), (0, x3)] [(0, s0)] (mk D) = (if s0 < 0 then some ((0, (-1)), (mk D)) else ((qR 138 [(3, 2), (0, x1), (0, x2)] (mk D)).bind fun w => qE 113 15 [(3, 2), (0, x1), (0, x2), (0, x3)] (psh w.1 []) w.2)) := by
  refine Eq.trans (s_ifge (y := 113) (pc := 4) (nx := 7) (b := 9) (tg := 9) rfl rfl) (ite_c ?_ ?_)
  · refine Eq.trans (s_push (y := 113) (pc := 7) (nx := 8) (a := 0) (b := (-1)) rfl) ?_
    exact s_ret (y := 113) (pc := 8) (nx := 9) (a := 0) rfl (by decide)
  · refine Eq.trans (s_load (y := 113) (pc := 9) (nx := 10) (a := 3) (b := 0) (x := 2) rfl rfl) ?_
    refine Eq.trans (s_load (y := 113) (pc := 10) (nx := 11) (a := 0) (b := 1) (x := x1) rfl rfl) ?_
    refine Eq.trans (s_load (y := 113) (pc := 11) (nx := 12) (a := 0) (b := 2) (x := x2) rfl rfl) ?_
    exact s_call (y := 113) (pc := 12) (nx := 15) (a := 138) (b := 0) (as := [(3, 2), (0, x1), (0, x2)]) (r := []) rfl (Nat.le_of_ble_eq_true rfl) rfl rfl (Nat.le_of_ble_eq_true rfl) (Nat.le_of_ble_eq_true rfl) (Or.inr ⟨rfl, mk_k2 _⟩)
theorem e_113_15 (D : Mem) (x1 : Int) (x2 : Int) (x3 : Int) : qE 113 15 [(3, 2), (0, x1), (0, x2), (0, x3)] [] (mk D) = ((qR 77 [(3, 31), (0, x3)] (mk D)).bind fun w => qE 113 23 [(3, 2), (0, x1), (0, x2), (0, x3)] (psh w.1 []) w.2) := by
  refine Eq.trans (s_load (y := 113) (pc := 15) (nx := 16) (a := 3) (b := 0) (x := 2) rfl rfl) ?_
  refine Eq.trans (s_get (y := 113) (pc := 16) (nx := 19) (a := 9) (b := 3) (t := 3) (v := 31) rfl (mk_k2 _) rfl (mk_2_3 _)) ?_
  refine Eq.trans (s_load (y := 113) (pc := 19) (nx := 20) (a := 0) (b := 3) (x := x3) rfl rfl) ?_
  exact s_call (y := 113) (pc := 20) (nx := 23) (a := 77) (b := 0) (as := [(3, 31), (0, x3)]) (r := []) rfl (Nat.le_of_ble_eq_true rfl) rfl rfl (Nat.le_of_ble_eq_true rfl) (Nat.le_of_ble_eq_true rfl) (Or.inr ⟨rfl, mk_k31 _⟩)
theorem e_113_23 (D : Mem) (x1 : Int) (x2 : Int) (x3 : Int) (s0 : Int) : qE 113 23 [(3, 2), (0, x1), (0, x2), (0, x3)] [(0, s0)] (mk D) = some ((0, s0), (mk D)) := by
  exact s_ret (y := 113) (pc := 23) (nx := 24) (a := 0) rfl (by decide)
theorem r_114 (D : Mem) (x1 : Int) (x2 : Int) : qR 114 [(3, 2), (0, x1), (0, x2)] (mk D) = ((qR 6 [(3, 5), (0, x2)] (mk D)).bind fun w => qE 114 8 [(3, 2), (0, x1), (0, x2)] (psh w.1 []) w.2) := by
  show qE 114 0 [(3, 2), (0, x1), (0, x2)] [] (mk D) = _
  refine Eq.trans (s_load (y := 114) (pc := 0) (nx := 1) (a := 3) (b := 0) (x := 2) rfl rfl) ?_
  refine Eq.trans (s_get (y := 114) (pc := 1) (nx := 4) (a := 9) (b := 1) (t := 3) (v := 5) rfl (mk_k2 _) rfl (mk_2_1 _)) ?_
  refine Eq.trans (s_load (y := 114) (pc := 4) (nx := 5) (a := 0) (b := 2) (x := x2) rfl rfl) ?_
  exact s_call (y := 114) (pc := 5) (nx := 8) (a := 6) (b := 0) (as := [(3, 5), (0, x2)]) (r := []) rfl (Nat.le_of_ble_eq_true rfl) rfl rfl (Nat.le_of_ble_eq_true rfl) (Nat.le_of_ble_eq_true rfl) (Or.inr ⟨rfl, mk_k5 _⟩)
theorem e_114_8 (D : Mem) (x1 : Int) (x2 : Int) (s0 : Int) : qE 114 8 [(3, 2), (0, x1), (0, x2)] [(0, s0)] (mk D) = (if s0 = 0 then some ((0, (-2)), (mk D)) else ((qR 132 [(0, x1)] (mk D)).bind fun w => qE 114 15 [(3, 2), (0, x1), (0, x2)] (psh w.1 []) w.2)) := by
  refine Eq.trans (s_ifeq (y := 114) (pc := 8) (nx := 11) (b := 18) (tg := 18) rfl rfl) (ite_c ?_ ?_)
  · refine Eq.trans (s_push (y := 114) (pc := 18) (nx := 20) (a := 0) (b := (-2)) rfl) ?_
    exact s_ret (y := 114) (pc := 20) (nx := 21) (a := 0) rfl (by decide)
  · refine Eq.trans (s_load (y := 114) (pc := 11) (nx := 12) (a := 0) (b := 1) (x := x1) rfl rfl) ?_
    exact s_call (y := 114) (pc := 12) (nx := 15) (a := 132) (b := 0) (as := [(0, x1)]) (r := []) rfl (Nat.le_of_ble_eq_true rfl) rfl rfl (Nat.le_of_ble_eq_true rfl) (Nat.le_of_ble_eq_true rfl) (Or.inl rfl)
theorem e_114_15 (D : Mem) (x1 : Int) (x2 : Int) (s0 : Int) : qE 114 15 [(3, 2), (0, x1), (0, x2)] [(0, s0)] (mk D) = (if s0 = 0 then some ((0, (-2)), (mk D)) else (if x1 = 0 then some ((0, (-5)), (mk D)) else ((qR 8 [(3, 5), (0, x2)] (mk D)).bind fun w => qE 114 36 [(3, 2), (0, x1), (0, x2)] (psh w.1 []) w.2))) := by
  refine Eq.trans (s_ifne (y := 114) (pc := 15) (nx := 18) (b := 21) (tg := 21) rfl rfl) (ite_c ?_ ?_)
  · refine Eq.trans (s_push (y := 114) (pc := 18) (nx := 20) (a := 0) (b := (-2)) rfl) ?_
    exact s_ret (y := 114) (pc := 20) (nx := 21) (a := 0) rfl (by decide)
  · refine Eq.trans (s_load (y := 114) (pc := 21) (nx := 22) (a := 0) (b := 1) (x := x1) rfl rfl) ?_
    refine Eq.trans (s_ifne (y := 114) (pc := 22) (nx := 25) (b := 28) (tg := 28) rfl rfl) (ite_c ?_ ?_)
    · refine Eq.trans (s_push (y := 114) (pc := 25) (nx := 27) (a := 0) (b := (-5)) rfl) ?_
      exact s_ret (y := 114) (pc := 27) (nx := 28) (a := 0) rfl (by decide)
    · refine Eq.trans (s_load (y := 114) (pc := 28) (nx := 29) (a := 3) (b := 0) (x := 2) rfl rfl) ?_
      refine Eq.trans (s_get (y := 114) (pc := 29) (nx := 32) (a := 9) (b := 1) (t := 3) (v := 5) rfl (mk_k2 _) rfl (mk_2_1 _)) ?_
      refine Eq.trans (s_load (y := 114) (pc := 32) (nx := 33) (a := 0) (b := 2) (x := x2) rfl rfl) ?_
      exact s_call (y := 114) (pc := 33) (nx := 36) (a := 8) (b := 0) (as := [(3, 5), (0, x2)]) (r := []) rfl (Nat.le_of_ble_eq_true rfl) rfl rfl (Nat.le_of_ble_eq_true rfl) (Nat.le_of_ble_eq_true rfl) (Or.inr ⟨rfl, mk_k5 _⟩)
theorem e_114_36 (D : Mem) (x1 : Int) (x2 : Int) (s0 : Int) : qE 114 36 [(3, 2), (0, x1), (0, x2)] [(0, s0)] (mk D) = (if s0 = 0 then some ((0, (-1)), (mk D)) else ((qR 69 [(3, 31)] (mk D)).bind fun w => qE 114 48 [(3, 2), (0, x1), (0, x2)] (psh w.1 []) w.2)) := by
  refine Eq.trans (s_ifne (y := 114) (pc := 36) (nx := 39) (b := 41) (tg := 41) rfl rfl) (ite_c ?_ ?_)
  · refine Eq.trans (s_push (y := 114) (pc := 39) (nx := 40) (a := 0) (b := (-1)) rfl) ?_
    exact s_ret (y := 114) (pc := 40) (nx := 41) (a := 0) rfl (by decide)
  · refine Eq.trans (s_load (y := 114) (pc := 41) (nx := 42) (a := 3) (b := 0) (x := 2) rfl rfl) ?_
    refine Eq.trans (s_get (y := 114) (pc := 42) (nx := 45) (a := 9) (b := 3) (t := 3) (v := 31) rfl (mk_k2 _) rfl (mk_2_3 _)) ?_
    exact s_call (y := 114) (pc := 45) (nx := 48) (a := 69) (b := 0) (as := [(3, 31)]) (r := []) rfl (Nat.le_of_ble_eq_true rfl) rfl rfl (Nat.le_of_ble_eq_true rfl) (Nat.le_of_ble_eq_true rfl) (Or.inr ⟨rfl, mk_k31 _⟩)
theorem e_114_48 (D : Mem) (x1 : Int) (x2 : Int) : qE 114 48 [(3, 2), (0, x1), (0, x2)] [] (mk D) = ((qR 15 [(3, 100)] (mk D)).bind fun w => qE 114 60 [(3, 2), (0, x1), (0, x2)] (psh w.1 [(0, x2), (3, 31)]) w.2) := by
  refine Eq.trans (s_load (y := 114) (pc := 48) (nx := 49) (a := 3) (b := 0) (x := 2) rfl rfl) ?_
  refine Eq.trans (s_get (y := 114) (pc := 49) (nx := 52) (a := 9) (b := 3) (t := 3) (v := 31) rfl (mk_k2 _) rfl (mk_2_3 _)) ?_
  refine Eq.trans (s_load (y := 114) (pc := 52) (nx := 53) (a := 0) (b := 2) (x := x2) rfl rfl) ?_
  refine Eq.trans (s_load (y := 114) (pc := 53) (nx := 54) (a := 3) (b := 0) (x := 2) rfl rfl) ?_
  refine Eq.trans (s_get (y := 114) (pc := 54) (nx := 57) (a := 9) (b := 7) (t := 3) (v := 100) rfl (mk_k2 _) rfl (mk_2_7 _)) ?_
  exact s_call (y := 114) (pc := 57) (nx := 60) (a := 15) (b := 0) (as := [(3, 100)]) (r := [(0, x2), (3, 31)]) rfl (Nat.le_of_ble_eq_true rfl) rfl rfl (Nat.le_of_ble_eq_true rfl) (Nat.le_of_ble_eq_true rfl) (Or.inl rfl)
theorem e_114_60 (D : Mem) (x1 : Int) (x2 : Int) (s1 : Int) (s2 : Int) : qE 114 60 [(3, 2), (0, x1), (0, x2)] [(1, s2), (0, s1), (3, 31)] (mk D) = ((qR 73 [(3, 31), (0, s1), (1, s2), (0, x1), (0, 100000)] (mk D)).bind fun w => qE 114 66 [(3, 2), (0, x1), (0, x2)] (psh w.1 []) w.2) := by
  refine Eq.trans (s_load (y := 114) (pc := 60) (nx := 61) (a := 0) (b := 1) (x := x1) rfl rfl) ?_
  refine Eq.trans (s_push (y := 114) (pc := 61) (nx := 63) (a := 0) (b := 100000) rfl) ?_
  exact s_call (y := 114) (pc := 63) (nx := 66) (a := 73) (b := 0) (as := [(3, 31), (0, s1), (1, s2), (0, x1), (0, 100000)]) (r := []) rfl (Nat.le_of_ble_eq_true rfl) rfl rfl (Nat.le_of_ble_eq_true rfl) (Nat.le_of_ble_eq_true rfl) (Or.inr ⟨rfl, mk_k31 _⟩)
theorem e_114_66 (D : Mem) (x1 : Int) (x2 : Int) (s0 : Int) : qE 114 66 [(3, 2), (0, x1), (0, x2)] [(0, s0)] (mk D) = some ((0, s0), (mk D)) := by
  exact s_ret (y := 114) (pc := 66) (nx := 67) (a := 0) rfl (by decide)
theorem r_115 (D : Mem) (x1 : Int) (x2 : Int) (x3 : Int) : qR 115 [(3, 2), (0, x1), (0, x2), (0, x3)] (mk D) = ((qR 135 [(0, x1)] (mk D)).bind fun w => qE 115 4 [(3, 2), (0, x1), (0, x2), (0, x3), (9, 0), (9, 0)] (psh w.1 []) w.2) := by
  show qE 115 0 [(3, 2), (0, x1), (0, x2), (0, x3), (9, 0), (9, 0)] [] (mk D) = _
  refine Eq.trans (s_load (y := 115) (pc := 0) (nx := 1) (a := 0) (b := 1) (x := x1) rfl rfl) ?_
  exact s_call (y := 115) (pc := 1) (nx := 4) (a := 135) (b := 0) (as := [(0, x1)]) (r := []) rfl (Nat.le_of_ble_eq_true rfl) rfl rfl (Nat.le_of_ble_eq_true rfl) (Nat.le_of_ble_eq_true rfl) (Or.inl rfl)
theorem e_115_4 (D : Mem) (x1 : Int) (x2 : Int) (x3 : Int) (s0 : Int) : qE 115 4 [(3, 2), (0, x1), (0, x2), (0, x3), (9, 0), (9, 0)] [(0, s0)] (mk D) = (if s0 < 0 then some ((0, s0), (mk D)) else ((qR 138 [(3, 2), (0, x1), (0, x2)] (mk D)).bind fun w => qE 115 20 [(3, 2), (0, x1), (0, x2), (0, x3), (0, s0), (9, 0)] (psh w.1 []) w.2)) := by
  refine Eq.trans (s_store (y := 115) (pc := 4) (nx := 6) (a := 0) (b := 4) (ls' := [(3, 2), (0, x1), (0, x2), (0, x3), (0, s0), (9, 0)]) rfl (Nat.le_of_ble_eq_true rfl) rfl) ?_
  refine Eq.trans (s_load (y := 115) (pc := 6) (nx := 8) (a := 0) (b := 4) (x := s0) rfl rfl) ?_
  refine Eq.trans (s_ifge (y := 115) (pc := 8) (nx := 11) (b := 14) (tg := 14) rfl rfl) (ite_c ?_ ?_)
  · refine Eq.trans (s_load (y := 115) (pc := 11) (nx := 13) (a := 0) (b := 4) (x := s0) rfl rfl) ?_
    exact s_ret (y := 115) (pc := 13) (nx := 14) (a := 0) rfl (by decide)
  · refine Eq.trans (s_load (y := 115) (pc := 14) (nx := 15) (a := 3) (b := 0) (x := 2) rfl rfl) ?_
    refine Eq.trans (s_load (y := 115) (pc := 15) (nx := 16) (a := 0) (b := 1) (x := x1) rfl rfl) ?_
    refine Eq.trans (s_load (y := 115) (pc := 16) (nx := 17) (a := 0) (b := 2) (x := x2) rfl rfl) ?_
    exact s_call (y := 115) (pc := 17) (nx := 20) (a := 138) (b := 0) (as := [(3, 2), (0, x1), (0, x2)]) (r := []) rfl (Nat.le_of_ble_eq_true rfl) rfl rfl (Nat.le_of_ble_eq_true rfl) (Nat.le_of_ble_eq_true rfl) (Or.inr ⟨rfl, mk_k2 _⟩)
theorem e_115_20 (D : Mem) (x1 : Int) (x2 : Int) (x3 : Int) (x4 : Int) : qE 115 20 [(3, 2), (0, x1), (0, x2), (0, x3), (0, x4), (9, 0)] [] (mk D) = ((qR 77 [(3, 31), (0, x3)] (mk D)).bind fun w => qE 115 28 [(3, 2), (0, x1), (0, x2), (0, x3), (0, x4), (9, 0)] (psh w.1 []) w.2) := by
  refine Eq.trans (s_load (y := 115) (pc := 20) (nx := 21) (a := 3) (b := 0) (x := 2) rfl rfl) ?_
  refine Eq.trans (s_get (y := 115) (pc := 21) (nx := 24) (a := 9) (b := 3) (t := 3) (v := 31) rfl (mk_k2 _) rfl (mk_2_3 _)) ?_
  refine Eq.trans (s_load (y := 115) (pc := 24) (nx := 25) (a := 0) (b := 3) (x := x3) rfl rfl) ?_
  exact s_call (y := 115) (pc := 25) (nx := 28) (a := 77) (b := 0) (as := [(3, 31), (0, x3)]) (r := []) rfl (Nat.le_of_ble_eq_true rfl) rfl rfl (Nat.le_of_ble_eq_true rfl) (Nat.le_of_ble_eq_true rfl) (Or.inr ⟨rfl, mk_k31 _⟩)
theorem e_115_28 (D : Mem) (x1 : Int) (x2 : Int) (x3 : Int) (x4 : Int) (s0 : Int) : qE 115 28 [(3, 2), (0, x1), (0, x2), (0, x3), (0, x4), (9, 0)] [(0, s0)] (mk D) = (if s0 < 0 then some ((0, (-6)), (mk D)) else ((qR 57 [(3, 102)] (mk D)).bind fun w => qE 115 45 [(3, 2), (0, x1), (0, x2), (0, x3), (0, x4), (0, s0)] (psh w.1 []) w.2)) := by
  refine Eq.trans (s_store (y := 115) (pc := 28) (nx := 30) (a := 0) (b := 5) (ls' := [(3, 2), (0, x1), (0, x2), (0, x3), (0, x4), (0, s0)]) rfl (Nat.le_of_ble_eq_true rfl) rfl) ?_
  refine Eq.trans (s_load (y := 115) (pc := 30) (nx := 32) (a := 0) (b := 5) (x := s0) rfl rfl) ?_
  refine Eq.trans (s_ifge (y := 115) (pc := 32) (nx := 35) (b := 38) (tg := 38) rfl rfl) (ite_c ?_ ?_)
  · refine Eq.trans (s_push (y := 115) (pc := 35) (nx := 37) (a := 0) (b := (-6)) rfl) ?_
    exact s_ret (y := 115) (pc := 37) (nx := 38) (a := 0) rfl (by decide)
  · refine Eq.trans (s_load (y := 115) (pc := 38) (nx := 39) (a := 3) (b := 0) (x := 2) rfl rfl) ?_
    refine Eq.trans (s_get (y := 115) (pc := 39) (nx := 42) (a := 9) (b := 8) (t := 3) (v := 102) rfl (mk_k2 _) rfl (mk_2_8 _)) ?_
    exact s_call (y := 115) (pc := 42) (nx := 45) (a := 57) (b := 0) (as := [(3, 102)]) (r := []) rfl (Nat.le_of_ble_eq_true rfl) rfl rfl (Nat.le_of_ble_eq_true rfl) (Nat.le_of_ble_eq_true rfl) (Or.inr ⟨rfl, mk_k102 _⟩)
theorem e_115_45 (D : Mem) (x1 : Int) (x2 : Int) (x3 : Int) (x4 : Int) (x5 : Int) (s0 : Int) : qE 115 45 [(3, 2), (0, x1), (0, x2), (0, x3), (0, x4), (0, x5)] [(0, s0)] (mk D) = (if s0 = 0 then ((qR 139 [(3, 2), (0, x5)] (mk D)).bind fun w => qE 115 57 [(3, 2), (0, x1), (0, x2), (0, x3), (0, x4), (0, x5)] (psh w.1 []) w.2) else some ((0, (-2)), (mk D))) := by
  refine Eq.trans (s_ifeq (y := 115) (pc := 45) (nx := 48) (b := 51) (tg := 51) rfl rfl) (ite_c ?_ ?_)
  · refine Eq.trans (s_load (y := 115) (pc := 51) (nx := 52) (a := 3) (b := 0) (x := 2) rfl rfl) ?_
    refine Eq.trans (s_load (y := 115) (pc := 52) (nx := 54) (a := 0) (b := 5) (x := x5) rfl rfl) ?_
    exact s_call (y := 115) (pc := 54) (nx := 57) (a := 139) (b := 0) (as := [(3, 2), (0, x5)]) (r := []) rfl (Nat.le_of_ble_eq_true rfl) rfl rfl (Nat.le_of_ble_eq_true rfl) (Nat.le_of_ble_eq_true rfl) (Or.inr ⟨rfl, mk_k2 _⟩)
  · refine Eq.trans (s_push (y := 115) (pc := 48) (nx := 50) (a := 0) (b := (-2)) rfl) ?_
    exact s_ret (y := 115) (pc := 50) (nx := 51) (a := 0) rfl (by decide)
theorem e_115_57 (D : Mem) (x1 : Int) (x2 : Int) (x3 : Int) (x4 : Int) (x5 : Int) : qE 115 57 [(3, 2), (0, x1), (0, x2), (0, x3), (0, x4), (0, x5)] [] (mk D) = ((qR 61 [(3, 100)] (mk D)).bind fun w => qE 115 64 [(3, 2), (0, x1), (0, x2), (0, x3), (0, x4), (0, x5)] (psh w.1 []) w.2) := by
  refine Eq.trans (s_load (y := 115) (pc := 57) (nx := 58) (a := 3) (b := 0) (x := 2) rfl rfl) ?_
  refine Eq.trans (s_get (y := 115) (pc := 58) (nx := 61) (a := 9) (b := 7) (t := 3) (v := 100) rfl (mk_k2 _) rfl (mk_2_7 _)) ?_
  exact s_call (y := 115) (pc := 61) (nx := 64) (a := 61) (b := 0) (as := [(3, 100)]) (r := []) rfl (Nat.le_of_ble_eq_true rfl) rfl rfl (Nat.le_of_ble_eq_true rfl) (Nat.le_of_ble_eq_true rfl) (Or.inr ⟨rfl, mk_k100 _⟩)
theorem e_115_64 (D : Mem) (x1 : Int) (x2 : Int) (x3 : Int) (x4 : Int) (x5 : Int) (s0 : Int) : qE 115 64 [(3, 2), (0, x1), (0, x2), (0, x3), (0, x4), (0, x5)] [(0, s0)] (mk D) = some ((0, x5), (mk D)) := by
  refine Eq.trans (s_pop (y := 115) (pc := 64) (nx := 65) (a := 0) (b := 0) rfl (by decide)) ?_
  refine Eq.trans (s_load (y := 115) (pc := 65) (nx := 67) (a := 0) (b := 5) (x := x5) rfl rfl) ?_
  exact s_ret (y := 115) (pc := 67) (nx := 68) (a := 0) rfl (by decide)
theorem r_116 (D : Mem) : qR 116 [(3, 2)] (mk D) = ((qR 56 [(3, 98)] (mk D)).bind fun w => qE 116 7 [(3, 2), (9, 0), (9, 0), (9, 0), (9, 0)] (psh w.1 []) w.2) := by
  show qE 116 0 [(3, 2), (9, 0), (9, 0), (9, 0), (9, 0)] [] (mk D) = _
  refine Eq.trans (s_load (y := 116) (pc := 0) (nx := 1) (a := 3) (b := 0) (x := 2) rfl rfl) ?_
  refine Eq.trans (s_get (y := 116) (pc := 1) (nx := 4) (a := 9) (b := 6) (t := 3) (v := 98) rfl (mk_k2 _) rfl (mk_2_6 _)) ?_
  exact s_call (y := 116) (pc := 4) (nx := 7) (a := 56) (b := 0) (as := [(3, 98)]) (r := []) rfl (Nat.le_of_ble_eq_true rfl) rfl rfl (Nat.le_of_ble_eq_true rfl) (Nat.le_of_ble_eq_true rfl) (Or.inr ⟨rfl, mk_k98 _⟩)
theorem e_116_7 (D : Mem) (s0 : Int) : qE 116 7 [(3, 2), (9, 0), (9, 0), (9, 0), (9, 0)] [(0, s0)] (mk D) = (if s0 = 0 then ((qR 9 [(3, 5), (3, 98)] (mk D)).bind fun w => qE 116 24 [(3, 2), (9, 0), (9, 0), (9, 0), (9, 0)] (psh w.1 []) w.2) else some ((0, (-4)), (mk D))) := by
  refine Eq.trans (s_ifeq (y := 116) (pc := 7) (nx := 10) (b := 13) (tg := 13) rfl rfl) (ite_c ?_ ?_)
  · refine Eq.trans (s_load (y := 116) (pc := 13) (nx := 14) (a := 3) (b := 0) (x := 2) rfl rfl) ?_
    refine Eq.trans (s_get (y := 116) (pc := 14) (nx := 17) (a := 9) (b := 1) (t := 3) (v := 5) rfl (mk_k2 _) rfl (mk_2_1 _)) ?_
    refine Eq.trans (s_load (y := 116) (pc := 17) (nx := 18) (a := 3) (b := 0) (x := 2) rfl rfl) ?_
    refine Eq.trans (s_get (y := 116) (pc := 18) (nx := 21) (a := 9) (b := 6) (t := 3) (v := 98) rfl (mk_k2 _) rfl (mk_2_6 _)) ?_
    exact s_call (y := 116) (pc := 21) (nx := 24) (a := 9) (b := 0) (as := [(3, 5), (3, 98)]) (r := []) rfl (Nat.le_of_ble_eq_true rfl) rfl rfl (Nat.le_of_ble_eq_true rfl) (Nat.le_of_ble_eq_true rfl) (Or.inr ⟨rfl, mk_k5 _⟩)
  · refine Eq.trans (s_push (y := 116) (pc := 10) (nx := 12) (a := 0) (b := (-4)) rfl) ?_
    exact s_ret (y := 116) (pc := 12) (nx := 13) (a := 0) rfl (by decide)
theorem e_116_24 (D : Mem) (s0 : Int) : qE 116 24 [(3, 2), (9, 0), (9, 0), (9, 0), (9, 0)] [(0, s0)] (mk D) = (if s0 < 0 then ((qR 36 [(3, 11), (3, 98)] (mk D)).bind fun w => qE 116 40 [(3, 2), (0, s0), (9, 0), (9, 0), (9, 0)] (psh w.1 []) w.2) else qE 116 51 [(3, 2), (0, s0), (9, 0), (9, 0), (9, 0)] [(0, 0)] (mk D)) := by
  refine Eq.trans (s_store (y := 116) (pc := 24) (nx := 25) (a := 0) (b := 1) (ls' := [(3, 2), (0, s0), (9, 0), (9, 0), (9, 0)]) rfl (Nat.le_of_ble_eq_true rfl) rfl) ?_
  refine Eq.trans (s_load (y := 116) (pc := 25) (nx := 26) (a := 0) (b := 1) (x := s0) rfl rfl) ?_
  refine Eq.trans (s_ifge (y := 116) (pc := 26) (nx := 29) (b := 50) (tg := 50) rfl rfl) (ite_c ?_ ?_)
  · refine Eq.trans (s_load (y := 116) (pc := 29) (nx := 30) (a := 3) (b := 0) (x := 2) rfl rfl) ?_
    refine Eq.trans (s_get (y := 116) (pc := 30) (nx := 33) (a := 9) (b := 2) (t := 3) (v := 11) rfl (mk_k2 _) rfl (mk_2_2 _)) ?_
    refine Eq.trans (s_load (y := 116) (pc := 33) (nx := 34) (a := 3) (b := 0) (x := 2) rfl rfl) ?_
    refine Eq.trans (s_get (y := 116) (pc := 34) (nx := 37) (a := 9) (b := 6) (t := 3) (v := 98) rfl (mk_k2 _) rfl (mk_2_6 _)) ?_
    exact s_call (y := 116) (pc := 37) (nx := 40) (a := 36) (b := 0) (as := [(3, 11), (3, 98)]) (r := []) rfl (Nat.le_of_ble_eq_true rfl) rfl rfl (Nat.le_of_ble_eq_true rfl) (Nat.le_of_ble_eq_true rfl) (Or.inr ⟨rfl, mk_k11 _⟩)
  · refine Eq.trans (s_push (y := 116) (pc := 50) (nx := 51) (a := 0) (b := 0) rfl) ?_
    rfl
theorem e_116_40 (D : Mem) (x1 : Int) (s0 : Int) : qE 116 40 [(3, 2), (0, x1), (9, 0), (9, 0), (9, 0)] [(0, s0)] (mk D) = (if (w32 (s0 + 1)) < 3 then qE 116 51 [(3, 2), (0, x1), (9, 0), (9, 0), (9, 0)] [(0, 0)] (mk D) else qE 116 51 [(3, 2), (0, x1), (9, 0), (9, 0), (9, 0)] [(0, 1)] (mk D)) := by
  refine Eq.trans (s_push (y := 116) (pc := 40) (nx := 41) (a := 0) (b := 1) rfl) ?_
  refine Eq.trans (s_add (y := 116) (pc := 41) (nx := 42) (b := 0) rfl) ?_
  refine Eq.trans (s_push (y := 116) (pc := 42) (nx := 43) (a := 0) (b := 3) rfl) ?_
  refine Eq.trans (s_iclt (y := 116) (pc := 43) (nx := 46) (b := 50) (tg := 50) rfl rfl) (ite_c ?_ ?_)
  · refine Eq.trans (s_push (y := 116) (pc := 50) (nx := 51) (a := 0) (b := 0) rfl) ?_
    rfl
  · refine Eq.trans (s_push (y := 116) (pc := 46) (nx := 47) (a := 0) (b := 1) rfl) ?_
    refine Eq.trans (s_goto (y := 116) (pc := 47) (nx := 50) (a := 0) (b := 51) (tg := 51) rfl rfl) ?_
    rfl
theorem e_116_51 (D : Mem) (x1 : Int) (s0 : Int) : qE 116 51 [(3, 2), (0, x1), (9, 0), (9, 0), (9, 0)] [(0, s0)] (mk D) = (if x1 < 0 then (if s0 = 0 then qE 116 80 [(3, 2), (0, x1), (0, s0), (0, 0), (9, 0)] [] (mk D) else qE 116 60 [(3, 2), (0, x1), (0, s0), (9, 0), (9, 0)] [] (mk D)) else qE 116 60 [(3, 2), (0, x1), (0, s0), (9, 0), (9, 0)] [] (mk D)) := by
  refine Eq.trans (s_store (y := 116) (pc := 51) (nx := 52) (a := 0) (b := 2) (ls' := [(3, 2), (0, x1), (0, s0), (9, 0), (9, 0)]) rfl (Nat.le_of_ble_eq_true rfl) rfl) ?_
  refine Eq.trans (s_load (y := 116) (pc := 52) (nx := 53) (a := 0) (b := 1) (x := x1) rfl rfl) ?_
  refine Eq.trans (s_ifge (y := 116) (pc := 53) (nx := 56) (b := 60) (tg := 60) rfl rfl) (ite_c ?_ ?_)
  · refine Eq.trans (s_load (y := 116) (pc := 56) (nx := 57) (a := 0) (b := 2) (x := s0) rfl rfl) ?_
    refine Eq.trans (s_ifeq (y := 116) (pc := 57) (nx := 60) (b := 64) (tg := 64) rfl rfl) (ite_c ?_ ?_)
    · refine Eq.trans (s_push (y := 116) (pc := 64) (nx := 65) (a := 0) (b := 0) rfl) ?_
      refine Eq.trans (s_store (y := 116) (pc := 65) (nx := 66) (a := 0) (b := 3) (ls' := [(3, 2), (0, x1), (0, s0), (0, 0), (9, 0)]) rfl (Nat.le_of_ble_eq_true rfl) rfl) ?_
      refine Eq.trans (s_load (y := 116) (pc := 66) (nx := 67) (a := 0) (b := 3) (x := 0) rfl rfl) ?_
      refine Eq.trans (s_ifeq (y := 116) (pc := 67) (nx := 70) (b := 80) (tg := 80) rfl rfl) (Eq.trans (if_pos (by decide)) ?_)
      rfl
    · rfl
  · rfl
theorem e_116_60 (D : Mem) (x1 : Int) (x2 : Int) : qE 116 60 [(3, 2), (0, x1), (0, x2), (9, 0), (9, 0)] [] (mk D) = ((qR 57 [(3, 102)] (mk D)).bind fun w => qE 116 77 [(3, 2), (0, x1), (0, x2), (0, 1), (9, 0)] (psh w.1 []) w.2) := by
  refine Eq.trans (s_push (y := 116) (pc := 60) (nx := 61) (a := 0) (b := 1) rfl) ?_
  refine Eq.trans (s_goto (y := 116) (pc := 61) (nx := 64) (a := 0) (b := 65) (tg := 65) rfl rfl) ?_
  refine Eq.trans (s_store (y := 116) (pc := 65) (nx := 66) (a := 0) (b := 3) (ls' := [(3, 2), (0, x1), (0, x2), (0, 1), (9, 0)]) rfl (Nat.le_of_ble_eq_true rfl) rfl) ?_
  refine Eq.trans (s_load (y := 116) (pc := 66) (nx := 67) (a := 0) (b := 3) (x := 1) rfl rfl) ?_
  refine Eq.trans (s_ifeq (y := 116) (pc := 67) (nx := 70) (b := 80) (tg := 80) rfl rfl) (Eq.trans (if_neg (by decide)) ?_)
  refine Eq.trans (s_load (y := 116) (pc := 70) (nx := 71) (a := 3) (b := 0) (x := 2) rfl rfl) ?_
  refine Eq.trans (s_get (y := 116) (pc := 71) (nx := 74) (a := 9) (b := 8) (t := 3) (v := 102) rfl (mk_k2 _) rfl (mk_2_8 _)) ?_
  exact s_call (y := 116) (pc := 74) (nx := 77) (a := 57) (b := 0) (as := [(3, 102)]) (r := []) rfl (Nat.le_of_ble_eq_true rfl) rfl rfl (Nat.le_of_ble_eq_true rfl) (Nat.le_of_ble_eq_true rfl) (Or.inr ⟨rfl, mk_k102 _⟩)
theorem e_116_77 (D : Mem) (x1 : Int) (x2 : Int) (x3 : Int) (s0 : Int) : qE 116 77 [(3, 2), (0, x1), (0, x2), (0, x3), (9, 0)] [(0, s0)] (mk D) = (if s0 = 0 then qE 116 80 [(3, 2), (0, x1), (0, x2), (0, x3), (9, 0)] [] (mk D) else some ((0, (-2)), (mk D))) := by
  refine Eq.trans (s_ifne (y := 116) (pc := 77) (nx := 80) (b := 94) (tg := 94) rfl rfl) (ite_c ?_ ?_)
  · rfl
  · refine Eq.trans (s_push (y := 116) (pc := 94) (nx := 96) (a := 0) (b := (-2)) rfl) ?_
    exact s_ret (y := 116) (pc := 96) (nx := 97) (a := 0) rfl (by decide)
theorem e_116_80 (D : Mem) (x1 : Int) (x2 : Int) (x3 : Int) : qE 116 80 [(3, 2), (0, x1), (0, x2), (0, x3), (9, 0)] [] (mk D) = (if x2 = 0 then (if x2 = 0 then qE 116 125 [(3, 2), (0, x1), (0, x2), (0, x3), (9, 0)] [] (mk D) else ((qR 39 [(3, 11), (3, 98)] (mk D)).bind fun w => qE 116 112 [(3, 2), (0, x1), (0, x2), (0, x3), (9, 0)] (psh w.1 []) w.2)) else ((qR 5 [(3, 5)] (mk D)).bind fun w => qE 116 91 [(3, 2), (0, x1), (0, x2), (0, x3), (9, 0)] (psh w.1 []) w.2)) := by
  refine Eq.trans (s_load (y := 116) (pc := 80) (nx := 81) (a := 0) (b := 2) (x := x2) rfl rfl) ?_
  refine Eq.trans (s_ifeq (y := 116) (pc := 81) (nx := 84) (b := 97) (tg := 97) rfl rfl) (ite_c ?_ ?_)
  · refine Eq.trans (s_load (y := 116) (pc := 97) (nx := 98) (a := 0) (b := 2) (x := x2) rfl rfl) ?_
    refine Eq.trans (s_ifeq (y := 116) (pc := 98) (nx := 101) (b := 125) (tg := 125) rfl rfl) (ite_c ?_ ?_)
    · rfl
    · refine Eq.trans (s_load (y := 116) (pc := 101) (nx := 102) (a := 3) (b := 0) (x := 2) rfl rfl) ?_
      refine Eq.trans (s_get (y := 116) (pc := 102) (nx := 105) (a := 9) (b := 2) (t := 3) (v := 11) rfl (mk_k2 _) rfl (mk_2_2 _)) ?_
      refine Eq.trans (s_load (y := 116) (pc := 105) (nx := 106) (a := 3) (b := 0) (x := 2) rfl rfl) ?_
      refine Eq.trans (s_get (y := 116) (pc := 106) (nx := 109) (a := 9) (b := 6) (t := 3) (v := 98) rfl (mk_k2 _) rfl (mk_2_6 _)) ?_
      exact s_call (y := 116) (pc := 109) (nx := 112) (a := 39) (b := 0) (as := [(3, 11), (3, 98)]) (r := []) rfl (Nat.le_of_ble_eq_true rfl) rfl rfl (Nat.le_of_ble_eq_true rfl) (Nat.le_of_ble_eq_true rfl) (Or.inr ⟨rfl, mk_k11 _⟩)
  · refine Eq.trans (s_load (y := 116) (pc := 84) (nx := 85) (a := 3) (b := 0) (x := 2) rfl rfl) ?_
    refine Eq.trans (s_get (y := 116) (pc := 85) (nx := 88) (a := 9) (b := 1) (t := 3) (v := 5) rfl (mk_k2 _) rfl (mk_2_1 _)) ?_
    exact s_call (y := 116) (pc := 88) (nx := 91) (a := 5) (b := 0) (as := [(3, 5)]) (r := []) rfl (Nat.le_of_ble_eq_true rfl) rfl rfl (Nat.le_of_ble_eq_true rfl) (Nat.le_of_ble_eq_true rfl) (Or.inr ⟨rfl, mk_k5 _⟩)
theorem e_116_91 (D : Mem) (x1 : Int) (x2 : Int) (x3 : Int) (s0 : Int) : qE 116 91 [(3, 2), (0, x1), (0, x2), (0, x3), (9, 0)] [(0, s0)] (mk D) = (if s0 = 0 then (if x2 = 0 then qE 116 125 [(3, 2), (0, x1), (0, x2), (0, x3), (9, 0)] [] (mk D) else ((qR 39 [(3, 11), (3, 98)] (mk D)).bind fun w => qE 116 112 [(3, 2), (0, x1), (0, x2), (0, x3), (9, 0)] (psh w.1 []) w.2)) else some ((0, (-2)), (mk D))) := by
  refine Eq.trans (s_ifeq (y := 116) (pc := 91) (nx := 94) (b := 97) (tg := 97) rfl rfl) (ite_c ?_ ?_)
  · refine Eq.trans (s_load (y := 116) (pc := 97) (nx := 98) (a := 0) (b := 2) (x := x2) rfl rfl) ?_
    refine Eq.trans (s_ifeq (y := 116) (pc := 98) (nx := 101) (b := 125) (tg := 125) rfl rfl) (ite_c ?_ ?_)
    · rfl
    · refine Eq.trans (s_load (y := 116) (pc := 101) (nx := 102) (a := 3) (b := 0) (x := 2) rfl rfl) ?_
      refine Eq.trans (s_get (y := 116) (pc := 102) (nx := 105) (a := 9) (b := 2) (t := 3) (v := 11) rfl (mk_k2 _) rfl (mk_2_2 _)) ?_
      refine Eq.trans (s_load (y := 116) (pc := 105) (nx := 106) (a := 3) (b := 0) (x := 2) rfl rfl) ?_
      refine Eq.trans (s_get (y := 116) (pc := 106) (nx := 109) (a := 9) (b := 6) (t := 3) (v := 98) rfl (mk_k2 _) rfl (mk_2_6 _)) ?_
      exact s_call (y := 116) (pc := 109) (nx := 112) (a := 39) (b := 0) (as := [(3, 11), (3, 98)]) (r := []) rfl (Nat.le_of_ble_eq_true rfl) rfl rfl (Nat.le_of_ble_eq_true rfl) (Nat.le_of_ble_eq_true rfl) (Or.inr ⟨rfl, mk_k11 _⟩)
  · refine Eq.trans (s_push (y := 116) (pc := 94) (nx := 96) (a := 0) (b := (-2)) rfl) ?_
    exact s_ret (y := 116) (pc := 96) (nx := 97) (a := 0) rfl (by decide)
theorem e_116_112 (D : Mem) (x1 : Int) (x2 : Int) (x3 : Int) : qE 116 112 [(3, 2), (0, x1), (0, x2), (0, x3), (9, 0)] [] (mk D) = ((qR 10 [(3, 5), (3, 98), (0, 2)] (mk D)).bind fun w => qE 116 124 [(3, 2), (0, x1), (0, x2), (0, x3), (9, 0)] (psh w.1 []) w.2) := by
  refine Eq.trans (s_load (y := 116) (pc := 112) (nx := 113) (a := 3) (b := 0) (x := 2) rfl rfl) ?_
  refine Eq.trans (s_get (y := 116) (pc := 113) (nx := 116) (a := 9) (b := 1) (t := 3) (v := 5) rfl (mk_k2 _) rfl (mk_2_1 _)) ?_
  refine Eq.trans (s_load (y := 116) (pc := 116) (nx := 117) (a := 3) (b := 0) (x := 2) rfl rfl) ?_
  refine Eq.trans (s_get (y := 116) (pc := 117) (nx := 120) (a := 9) (b := 6) (t := 3) (v := 98) rfl (mk_k2 _) rfl (mk_2_6 _)) ?_
  refine Eq.trans (s_push (y := 116) (pc := 120) (nx := 121) (a := 0) (b := 2) rfl) ?_
  exact s_call (y := 116) (pc := 121) (nx := 124) (a := 10) (b := 0) (as := [(3, 5), (3, 98), (0, 2)]) (r := []) rfl (Nat.le_of_ble_eq_true rfl) rfl rfl (Nat.le_of_ble_eq_true rfl) (Nat.le_of_ble_eq_true rfl) (Or.inr ⟨rfl, mk_k5 _⟩)
theorem e_116_124 (D : Mem) (x1 : Int) (x2 : Int) (x3 : Int) (s0 : Int) : qE 116 124 [(3, 2), (0, x1), (0, x2), (0, x3), (9, 0)] [(0, s0)] (mk D) = qE 116 125 [(3, 2), (0, s0), (0, x2), (0, x3), (9, 0)] [] (mk D) := by
  refine Eq.trans (s_store (y := 116) (pc := 124) (nx := 125) (a := 0) (b := 1) (ls' := [(3, 2), (0, s0), (0, x2), (0, x3), (9, 0)]) rfl (Nat.le_of_ble_eq_true rfl) rfl) ?_
  rfl
theorem e_116_125 (D : Mem) (x1 : Int) (x2 : Int) (x3 : Int) : qE 116 125 [(3, 2), (0, x1), (0, x2), (0, x3), (9, 0)] [] (mk D) = (if x3 = 0 then ((qR 37 [(3, 11), (3, 98)] (mk D)).bind fun w => qE 116 153 [(3, 2), (0, x1), (0, x2), (0, x3), (0, x1)] (psh w.1 [(0, 100)]) w.2) else ((qR 139 [(3, 2), (0, x1)] (mk D)).bind fun w => qE 116 137 [(3, 2), (0, x1), (0, x2), (0, x3), (0, x1)] (psh w.1 []) w.2)) := by
  refine Eq.trans (s_load (y := 116) (pc := 125) (nx := 126) (a := 0) (b := 1) (x := x1) rfl rfl) ?_
  refine Eq.trans (s_store (y := 116) (pc := 126) (nx := 128) (a := 0) (b := 4) (ls' := [(3, 2), (0, x1), (0, x2), (0, x3), (0, x1)]) rfl (Nat.le_of_ble_eq_true rfl) rfl) ?_
  refine Eq.trans (s_load (y := 116) (pc := 128) (nx := 129) (a := 0) (b := 3) (x := x3) rfl rfl) ?_
  refine Eq.trans (s_ifeq (y := 116) (pc := 129) (nx := 132) (b := 140) (tg := 140) rfl rfl) (ite_c ?_ ?_)
  · refine Eq.trans (s_push (y := 116) (pc := 140) (nx := 142) (a := 0) (b := 100) rfl) ?_
    refine Eq.trans (s_load (y := 116) (pc := 142) (nx := 143) (a := 3) (b := 0) (x := 2) rfl rfl) ?_
    refine Eq.trans (s_get (y := 116) (pc := 143) (nx := 146) (a := 9) (b := 2) (t := 3) (v := 11) rfl (mk_k2 _) rfl (mk_2_2 _)) ?_
    refine Eq.trans (s_load (y := 116) (pc := 146) (nx := 147) (a := 3) (b := 0) (x := 2) rfl rfl) ?_
    refine Eq.trans (s_get (y := 116) (pc := 147) (nx := 150) (a := 9) (b := 6) (t := 3) (v := 98) rfl (mk_k2 _) rfl (mk_2_6 _)) ?_
    exact s_call (y := 116) (pc := 150) (nx := 153) (a := 37) (b := 0) (as := [(3, 11), (3, 98)]) (r := [(0, 100)]) rfl (Nat.le_of_ble_eq_true rfl) rfl rfl (Nat.le_of_ble_eq_true rfl) (Nat.le_of_ble_eq_true rfl) (Or.inr ⟨rfl, mk_k11 _⟩)
  · refine Eq.trans (s_load (y := 116) (pc := 132) (nx := 133) (a := 3) (b := 0) (x := 2) rfl rfl) ?_
    refine Eq.trans (s_load (y := 116) (pc := 133) (nx := 134) (a := 0) (b := 1) (x := x1) rfl rfl) ?_
    exact s_call (y := 116) (pc := 134) (nx := 137) (a := 139) (b := 0) (as := [(3, 2), (0, x1)]) (r := []) rfl (Nat.le_of_ble_eq_true rfl) rfl rfl (Nat.le_of_ble_eq_true rfl) (Nat.le_of_ble_eq_true rfl) (Or.inr ⟨rfl, mk_k2 _⟩)
theorem e_116_137 (D : Mem) (x1 : Int) (x2 : Int) (x3 : Int) (x4 : Int) : qE 116 137 [(3, 2), (0, x1), (0, x2), (0, x3), (0, x4)] [] (mk D) = ((qR 61 [(3, 98)] (mk D)).bind fun w => qE 116 163 [(3, 2), (0, x1), (0, x2), (0, x3), (0, x4)] (psh w.1 []) w.2) := by
  refine Eq.trans (s_goto (y := 116) (pc := 137) (nx := 140) (a := 0) (b := 156) (tg := 156) rfl rfl) ?_
  refine Eq.trans (s_load (y := 116) (pc := 156) (nx := 157) (a := 3) (b := 0) (x := 2) rfl rfl) ?_
  refine Eq.trans (s_get (y := 116) (pc := 157) (nx := 160) (a := 9) (b := 6) (t := 3) (v := 98) rfl (mk_k2 _) rfl (mk_2_6 _)) ?_
  exact s_call (y := 116) (pc := 160) (nx := 163) (a := 61) (b := 0) (as := [(3, 98)]) (r := []) rfl (Nat.le_of_ble_eq_true rfl) rfl rfl (Nat.le_of_ble_eq_true rfl) (Nat.le_of_ble_eq_true rfl) (Or.inr ⟨rfl, mk_k98 _⟩)
theorem e_116_153 (D : Mem) (x1 : Int) (x2 : Int) (x3 : Int) (x4 : Int) (s1 : Int) : qE 116 153 [(3, 2), (0, x1), (0, x2), (0, x3), (0, x4)] [(0, s1), (0, 100)] (mk D) = ((qR 61 [(3, 98)] (mk D)).bind fun w => qE 116 163 [(3, 2), (0, x1), (0, x2), (0, x3), (0, (w32 (100 + s1)))] (psh w.1 []) w.2) := by
  refine Eq.trans (s_add (y := 116) (pc := 153) (nx := 154) (b := 0) rfl) ?_
  refine Eq.trans (s_store (y := 116) (pc := 154) (nx := 156) (a := 0) (b := 4) (ls' := [(3, 2), (0, x1), (0, x2), (0, x3), (0, (w32 (100 + s1)))]) rfl (Nat.le_of_ble_eq_true rfl) rfl) ?_
  refine Eq.trans (s_load (y := 116) (pc := 156) (nx := 157) (a := 3) (b := 0) (x := 2) rfl rfl) ?_
  refine Eq.trans (s_get (y := 116) (pc := 157) (nx := 160) (a := 9) (b := 6) (t := 3) (v := 98) rfl (mk_k2 _) rfl (mk_2_6 _)) ?_
  exact s_call (y := 116) (pc := 160) (nx := 163) (a := 61) (b := 0) (as := [(3, 98)]) (r := []) rfl (Nat.le_of_ble_eq_true rfl) rfl rfl (Nat.le_of_ble_eq_true rfl) (Nat.le_of_ble_eq_true rfl) (Or.inr ⟨rfl, mk_k98 _⟩)
theorem e_116_163 (D : Mem) (x1 : Int) (x2 : Int) (x3 : Int) (x4 : Int) (s0 : Int) : qE 116 163 [(3, 2), (0, x1), (0, x2), (0, x3), (0, x4)] [(0, s0)] (mk D) = some ((0, x4), (mk D)) := by
  refine Eq.trans (s_pop (y := 116) (pc := 163) (nx := 164) (a := 0) (b := 0) rfl (by decide)) ?_
  refine Eq.trans (s_load (y := 116) (pc := 164) (nx := 166) (a := 0) (b := 4) (x := x4) rfl rfl) ?_
  exact s_ret (y := 116) (pc := 166) (nx := 167) (a := 0) rfl (by decide)
theorem r_117 (D : Mem) : qR 117 [(3, 2)] (mk D) = ((qR 36 [(3, 11), (3, 98)] (mk D)).bind fun w => qE 117 11 [(3, 2)] (psh w.1 []) w.2) := by
  show qE 117 0 [(3, 2)] [] (mk D) = _
  refine Eq.trans (s_load (y := 117) (pc := 0) (nx := 1) (a := 3) (b := 0) (x := 2) rfl rfl) ?_
  refine Eq.trans (s_get (y := 117) (pc := 1) (nx := 4) (a := 9) (b := 2) (t := 3) (v := 11) rfl (mk_k2 _) rfl (mk_2_2 _)) ?_
  refine Eq.trans (s_load (y := 117) (pc := 4) (nx := 5) (a := 3) (b := 0) (x := 2) rfl rfl) ?_
  refine Eq.trans (s_get (y := 117) (pc := 5) (nx := 8) (a := 9) (b := 6) (t := 3) (v := 98) rfl (mk_k2 _) rfl (mk_2_6 _)) ?_
  exact s_call (y := 117) (pc := 8) (nx := 11) (a := 36) (b := 0) (as := [(3, 11), (3, 98)]) (r := []) rfl (Nat.le_of_ble_eq_true rfl) rfl rfl (Nat.le_of_ble_eq_true rfl) (Nat.le_of_ble_eq_true rfl) (Or.inr ⟨rfl, mk_k11 _⟩)
theorem e_117_11 (D : Mem) (s0 : Int) : qE 117 11 [(3, 2)] [(0, s0)] (mk D) = some ((0, s0), (mk D)) := by
  exact s_ret (y := 117) (pc := 11) (nx := 12) (a := 0) rfl (by decide)
theorem r_118 (D : Mem) (x1 : Int) : qR 118 [(3, 2), (0, x1)] (mk D) = ((qR 6 [(3, 5), (0, x1)] (mk D)).bind fun w => qE 118 8 [(3, 2), (0, x1)] (psh w.1 []) w.2) := by
  show qE 118 0 [(3, 2), (0, x1)] [] (mk D) = _
  refine Eq.trans (s_load (y := 118) (pc := 0) (nx := 1) (a := 3) (b := 0) (x := 2) rfl rfl) ?_
  refine Eq.trans (s_get (y := 118) (pc := 1) (nx := 4) (a := 9) (b := 1) (t := 3) (v := 5) rfl (mk_k2 _) rfl (mk_2_1 _)) ?_
  refine Eq.trans (s_load (y := 118) (pc := 4) (nx := 5) (a := 0) (b := 1) (x := x1) rfl rfl) ?_
  exact s_call (y := 118) (pc := 5) (nx := 8) (a := 6) (b := 0) (as := [(3, 5), (0, x1)]) (r := []) rfl (Nat.le_of_ble_eq_true rfl) rfl rfl (Nat.le_of_ble_eq_true rfl) (Nat.le_of_ble_eq_true rfl) (Or.inr ⟨rfl, mk_k5 _⟩)
theorem e_118_8 (D : Mem) (x1 : Int) (s0 : Int) : qE 118 8 [(3, 2), (0, x1)] [(0, s0)] (mk D) = (if s0 = 0 then some ((0, (-1)), (mk D)) else ((qR 8 [(3, 5), (0, x1)] (mk D)).bind fun w => qE 118 21 [(3, 2), (0, x1)] (psh w.1 []) w.2)) := by
  refine Eq.trans (s_ifne (y := 118) (pc := 8) (nx := 11) (b := 13) (tg := 13) rfl rfl) (ite_c ?_ ?_)
  · refine Eq.trans (s_push (y := 118) (pc := 11) (nx := 12) (a := 0) (b := (-1)) rfl) ?_
    exact s_ret (y := 118) (pc := 12) (nx := 13) (a := 0) rfl (by decide)
  · refine Eq.trans (s_load (y := 118) (pc := 13) (nx := 14) (a := 3) (b := 0) (x := 2) rfl rfl) ?_
    refine Eq.trans (s_get (y := 118) (pc := 14) (nx := 17) (a := 9) (b := 1) (t := 3) (v := 5) rfl (mk_k2 _) rfl (mk_2_1 _)) ?_
    refine Eq.trans (s_load (y := 118) (pc := 17) (nx := 18) (a := 0) (b := 1) (x := x1) rfl rfl) ?_
    exact s_call (y := 118) (pc := 18) (nx := 21) (a := 8) (b := 0) (as := [(3, 5), (0, x1)]) (r := []) rfl (Nat.le_of_ble_eq_true rfl) rfl rfl (Nat.le_of_ble_eq_true rfl) (Nat.le_of_ble_eq_true rfl) (Or.inr ⟨rfl, mk_k5 _⟩)
theorem e_118_21 (D : Mem) (x1 : Int) (s0 : Int) : qE 118 21 [(3, 2), (0, x1)] [(0, s0)] (mk D) = (if s0 = 0 then some ((0, (-4)), (mk D)) else ((qR 57 [(3, 102)] (mk D)).bind fun w => qE 118 34 [(3, 2), (0, x1)] (psh w.1 []) w.2)) := by
  refine Eq.trans (s_ifne (y := 118) (pc := 21) (nx := 24) (b := 27) (tg := 27) rfl rfl) (ite_c ?_ ?_)
  · refine Eq.trans (s_push (y := 118) (pc := 24) (nx := 26) (a := 0) (b := (-4)) rfl) ?_
    exact s_ret (y := 118) (pc := 26) (nx := 27) (a := 0) rfl (by decide)
  · refine Eq.trans (s_load (y := 118) (pc := 27) (nx := 28) (a := 3) (b := 0) (x := 2) rfl rfl) ?_
    refine Eq.trans (s_get (y := 118) (pc := 28) (nx := 31) (a := 9) (b := 8) (t := 3) (v := 102) rfl (mk_k2 _) rfl (mk_2_8 _)) ?_
    exact s_call (y := 118) (pc := 31) (nx := 34) (a := 57) (b := 0) (as := [(3, 102)]) (r := []) rfl (Nat.le_of_ble_eq_true rfl) rfl rfl (Nat.le_of_ble_eq_true rfl) (Nat.le_of_ble_eq_true rfl) (Or.inr ⟨rfl, mk_k102 _⟩)
theorem e_118_34 (D : Mem) (x1 : Int) (s0 : Int) : qE 118 34 [(3, 2), (0, x1)] [(0, s0)] (mk D) = (if s0 = 0 then ((qR 59 [(3, 102), (0, x1)] (mk D)).bind fun w => qE 118 48 [(3, 2), (0, x1)] (psh w.1 []) w.2) else some ((0, (-2)), (mk D))) := by
  refine Eq.trans (s_ifeq (y := 118) (pc := 34) (nx := 37) (b := 40) (tg := 40) rfl rfl) (ite_c ?_ ?_)
  · refine Eq.trans (s_load (y := 118) (pc := 40) (nx := 41) (a := 3) (b := 0) (x := 2) rfl rfl) ?_
    refine Eq.trans (s_get (y := 118) (pc := 41) (nx := 44) (a := 9) (b := 8) (t := 3) (v := 102) rfl (mk_k2 _) rfl (mk_2_8 _)) ?_
    refine Eq.trans (s_load (y := 118) (pc := 44) (nx := 45) (a := 0) (b := 1) (x := x1) rfl rfl) ?_
    exact s_call (y := 118) (pc := 45) (nx := 48) (a := 59) (b := 0) (as := [(3, 102), (0, x1)]) (r := []) rfl (Nat.le_of_ble_eq_true rfl) rfl rfl (Nat.le_of_ble_eq_true rfl) (Nat.le_of_ble_eq_true rfl) (Or.inr ⟨rfl, mk_k102 _⟩)
  · refine Eq.trans (s_push (y := 118) (pc := 37) (nx := 39) (a := 0) (b := (-2)) rfl) ?_
    exact s_ret (y := 118) (pc := 39) (nx := 40) (a := 0) rfl (by decide)
theorem e_118_48 (D : Mem) (x1 : Int) : qE 118 48 [(3, 2), (0, x1)] [] (mk D) = ((qR 55 [(3, 102)] (mk D)).bind fun w => qE 118 55 [(3, 2), (0, x1)] (psh w.1 []) w.2) := by
  refine Eq.trans (s_load (y := 118) (pc := 48) (nx := 49) (a := 3) (b := 0) (x := 2) rfl rfl) ?_
  refine Eq.trans (s_get (y := 118) (pc := 49) (nx := 52) (a := 9) (b := 8) (t := 3) (v := 102) rfl (mk_k2 _) rfl (mk_2_8 _)) ?_
  exact s_call (y := 118) (pc := 52) (nx := 55) (a := 55) (b := 0) (as := [(3, 102)]) (r := []) rfl (Nat.le_of_ble_eq_true rfl) rfl rfl (Nat.le_of_ble_eq_true rfl) (Nat.le_of_ble_eq_true rfl) (Or.inr ⟨rfl, mk_k102 _⟩)
theorem e_118_55 (D : Mem) (x1 : Int) (s0 : Int) : qE 118 55 [(3, 2), (0, x1)] [(0, s0)] (mk D) = some ((0, s0), (mk D)) := by
  exact s_ret (y := 118) (pc := 55) (nx := 56) (a := 0) rfl (by decide)
theorem r_119 (D : Mem) : qR 119 [(3, 2)] (mk D) = ((qR 61 [(3, 102)] (mk D)).bind fun w => qE 119 7 [(3, 2)] (psh w.1 []) w.2) := by
  show qE 119 0 [(3, 2)] [] (mk D) = _
  refine Eq.trans (s_load (y := 119) (pc := 0) (nx := 1) (a := 3) (b := 0) (x := 2) rfl rfl) ?_
  refine Eq.trans (s_get (y := 119) (pc := 1) (nx := 4) (a := 9) (b := 8) (t := 3) (v := 102) rfl (mk_k2 _) rfl (mk_2_8 _)) ?_
  exact s_call (y := 119) (pc := 4) (nx := 7) (a := 61) (b := 0) (as := [(3, 102)]) (r := []) rfl (Nat.le_of_ble_eq_true rfl) rfl rfl (Nat.le_of_ble_eq_true rfl) (Nat.le_of_ble_eq_true rfl) (Or.inr ⟨rfl, mk_k102 _⟩)
theorem e_119_7 (D : Mem) (s0 : Int) : qE 119 7 [(3, 2)] [(0, s0)] (mk D) = some ((0, s0), (mk D)) := by
  exact s_ret (y := 119) (pc := 7) (nx := 8) (a := 0) rfl (by decide)
theorem r_120 (D : Mem) (x1 : Int) : qR 120 [(3, 2), (0, x1)] (mk D) = ((qR 58 [(3, 102), (0, x1)] (mk D)).bind fun w => qE 120 8 [(3, 2), (0, x1)] (psh w.1 []) w.2) := by
  show qE 120 0 [(3, 2), (0, x1)] [] (mk D) = _
  refine Eq.trans (s_load (y := 120) (pc := 0) (nx := 1) (a := 3) (b := 0) (x := 2) rfl rfl) ?_
  refine Eq.trans (s_get (y := 120) (pc := 1) (nx := 4) (a := 9) (b := 8) (t := 3) (v := 102) rfl (mk_k2 _) rfl (mk_2_8 _)) ?_
  refine Eq.trans (s_load (y := 120) (pc := 4) (nx := 5) (a := 0) (b := 1) (x := x1) rfl rfl) ?_
  exact s_call (y := 120) (pc := 5) (nx := 8) (a := 58) (b := 0) (as := [(3, 102), (0, x1)]) (r := []) rfl (Nat.le_of_ble_eq_true rfl) rfl rfl (Nat.le_of_ble_eq_true rfl) (Nat.le_of_ble_eq_true rfl) (Or.inr ⟨rfl, mk_k102 _⟩)
theorem e_120_8 (D : Mem) (x1 : Int) (s0 : Int) : qE 120 8 [(3, 2), (0, x1)] [(0, s0)] (mk D) = some ((0, s0), (mk D)) := by
  exact s_ret (y := 120) (pc := 8) (nx := 9) (a := 0) rfl (by decide)
theorem r_121 (D : Mem) (x1 : Int) (x2 : Int) : qR 121 [(3, 2), (0, x1), (0, x2)] (mk D) = ((qR 6 [(3, 5), (0, x1)] (mk D)).bind fun w => qE 121 8 [(3, 2), (0, x1), (0, x2)] (psh w.1 []) w.2) := by
  show qE 121 0 [(3, 2), (0, x1), (0, x2)] [] (mk D) = _
  refine Eq.trans (s_load (y := 121) (pc := 0) (nx := 1) (a := 3) (b := 0) (x := 2) rfl rfl) ?_
  refine Eq.trans (s_get (y := 121) (pc := 1) (nx := 4) (a := 9) (b := 1) (t := 3) (v := 5) rfl (mk_k2 _) rfl (mk_2_1 _)) ?_
  refine Eq.trans (s_load (y := 121) (pc := 4) (nx := 5) (a := 0) (b := 1) (x := x1) rfl rfl) ?_
  exact s_call (y := 121) (pc := 5) (nx := 8) (a := 6) (b := 0) (as := [(3, 5), (0, x1)]) (r := []) rfl (Nat.le_of_ble_eq_true rfl) rfl rfl (Nat.le_of_ble_eq_true rfl) (Nat.le_of_ble_eq_true rfl) (Or.inr ⟨rfl, mk_k5 _⟩)
theorem e_121_8 (D : Mem) (x1 : Int) (x2 : Int) (s0 : Int) : qE 121 8 [(3, 2), (0, x1), (0, x2)] [(0, s0)] (mk D) = (if s0 = 0 then some ((0, (-1)), (mk D)) else ((qR 132 [(0, x2)] (mk D)).bind fun w => qE 121 15 [(3, 2), (0, x1), (0, x2)] (psh w.1 []) w.2)) := by
  refine Eq.trans (s_ifeq (y := 121) (pc := 8) (nx := 11) (b := 18) (tg := 18) rfl rfl) (ite_c ?_ ?_)
  · refine Eq.trans (s_push (y := 121) (pc := 18) (nx := 19) (a := 0) (b := (-1)) rfl) ?_
    exact s_ret (y := 121) (pc := 19) (nx := 20) (a := 0) rfl (by decide)
  · refine Eq.trans (s_load (y := 121) (pc := 11) (nx := 12) (a := 0) (b := 2) (x := x2) rfl rfl) ?_
    exact s_call (y := 121) (pc := 12) (nx := 15) (a := 132) (b := 0) (as := [(0, x2)]) (r := []) rfl (Nat.le_of_ble_eq_true rfl) rfl rfl (Nat.le_of_ble_eq_true rfl) (Nat.le_of_ble_eq_true rfl) (Or.inl rfl)
theorem e_121_15 (D : Mem) (x1 : Int) (x2 : Int) (s0 : Int) : qE 121 15 [(3, 2), (0, x1), (0, x2)] [(0, s0)] (mk D) = (if s0 = 0 then some ((0, (-1)), (mk D)) else ((qR 8 [(3, 5), (0, x1)] (mk D)).bind fun w => qE 121 28 [(3, 2), (0, x1), (0, x2)] (psh w.1 []) w.2)) := by
  refine Eq.trans (s_ifne (y := 121) (pc := 15) (nx := 18) (b := 20) (tg := 20) rfl rfl) (ite_c ?_ ?_)
  · refine Eq.trans (s_push (y := 121) (pc := 18) (nx := 19) (a := 0) (b := (-1)) rfl) ?_
    exact s_ret (y := 121) (pc := 19) (nx := 20) (a := 0) rfl (by decide)
  · refine Eq.trans (s_load (y := 121) (pc := 20) (nx := 21) (a := 3) (b := 0) (x := 2) rfl rfl) ?_
    refine Eq.trans (s_get (y := 121) (pc := 21) (nx := 24) (a := 9) (b := 1) (t := 3) (v := 5) rfl (mk_k2 _) rfl (mk_2_1 _)) ?_
    refine Eq.trans (s_load (y := 121) (pc := 24) (nx := 25) (a := 0) (b := 1) (x := x1) rfl rfl) ?_
    exact s_call (y := 121) (pc := 25) (nx := 28) (a := 8) (b := 0) (as := [(3, 5), (0, x1)]) (r := []) rfl (Nat.le_of_ble_eq_true rfl) rfl rfl (Nat.le_of_ble_eq_true rfl) (Nat.le_of_ble_eq_true rfl) (Or.inr ⟨rfl, mk_k5 _⟩)
theorem e_121_28 (D : Mem) (x1 : Int) (x2 : Int) (s0 : Int) : qE 121 28 [(3, 2), (0, x1), (0, x2)] [(0, s0)] (mk D) = (if s0 = 0 then some ((0, (-4)), (mk D)) else ((qR 69 [(3, 31)] (mk D)).bind fun w => qE 121 41 [(3, 2), (0, x1), (0, x2)] (psh w.1 []) w.2)) := by
  refine Eq.trans (s_ifne (y := 121) (pc := 28) (nx := 31) (b := 34) (tg := 34) rfl rfl) (ite_c ?_ ?_)
  · refine Eq.trans (s_push (y := 121) (pc := 31) (nx := 33) (a := 0) (b := (-4)) rfl) ?_
    exact s_ret (y := 121) (pc := 33) (nx := 34) (a := 0) rfl (by decide)
  · refine Eq.trans (s_load (y := 121) (pc := 34) (nx := 35) (a := 3) (b := 0) (x := 2) rfl rfl) ?_
    refine Eq.trans (s_get (y := 121) (pc := 35) (nx := 38) (a := 9) (b := 3) (t := 3) (v := 31) rfl (mk_k2 _) rfl (mk_2_3 _)) ?_
    exact s_call (y := 121) (pc := 38) (nx := 41) (a := 69) (b := 0) (as := [(3, 31)]) (r := []) rfl (Nat.le_of_ble_eq_true rfl) rfl rfl (Nat.le_of_ble_eq_true rfl) (Nat.le_of_ble_eq_true rfl) (Or.inr ⟨rfl, mk_k31 _⟩)
theorem e_121_41 (D : Mem) (x1 : Int) (x2 : Int) : qE 121 41 [(3, 2), (0, x1), (0, x2)] [] (mk D) = ((qR 136 [(3, 2)] (mk D)).bind fun w => qE 121 49 [(3, 2), (0, x1), (0, x2)] (psh w.1 [(3, 31)]) w.2) := by
  refine Eq.trans (s_load (y := 121) (pc := 41) (nx := 42) (a := 3) (b := 0) (x := 2) rfl rfl) ?_
  refine Eq.trans (s_get (y := 121) (pc := 42) (nx := 45) (a := 9) (b := 3) (t := 3) (v := 31) rfl (mk_k2 _) rfl (mk_2_3 _)) ?_
  refine Eq.trans (s_load (y := 121) (pc := 45) (nx := 46) (a := 3) (b := 0) (x := 2) rfl rfl) ?_
  exact s_call (y := 121) (pc := 46) (nx := 49) (a := 136) (b := 0) (as := [(3, 2)]) (r := [(3, 31)]) rfl (Nat.le_of_ble_eq_true rfl) rfl rfl (Nat.le_of_ble_eq_true rfl) (Nat.le_of_ble_eq_true rfl) (Or.inr ⟨rfl, mk_k2 _⟩)
theorem e_121_49 (D : Mem) (x1 : Int) (x2 : Int) (s1 : Int) : qE 121 49 [(3, 2), (0, x1), (0, x2)] [(0, s1), (3, 31)] (mk D) = ((qR 70 [(3, 31), (0, s1)] (mk D)).bind fun w => qE 121 52 [(3, 2), (0, x1), (0, x2)] (psh w.1 []) w.2) := by
  exact s_call (y := 121) (pc := 49) (nx := 52) (a := 70) (b := 0) (as := [(3, 31), (0, s1)]) (r := []) rfl (Nat.le_of_ble_eq_true rfl) rfl rfl (Nat.le_of_ble_eq_true rfl) (Nat.le_of_ble_eq_true rfl) (Or.inr ⟨rfl, mk_k31 _⟩)
theorem e_121_52 (D : Mem) (x1 : Int) (x2 : Int) : qE 121 52 [(3, 2), (0, x1), (0, x2)] [] (mk D) = ((qR 78 [(3, 31), (0, x1), (3, 105)] (mk D)).bind fun w => qE 121 64 [(3, 2), (0, x1), (0, x2)] (psh w.1 []) w.2) := by
  refine Eq.trans (s_load (y := 121) (pc := 52) (nx := 53) (a := 3) (b := 0) (x := 2) rfl rfl) ?_
  refine Eq.trans (s_get (y := 121) (pc := 53) (nx := 56) (a := 9) (b := 3) (t := 3) (v := 31) rfl (mk_k2 _) rfl (mk_2_3 _)) ?_
  refine Eq.trans (s_load (y := 121) (pc := 56) (nx := 57) (a := 0) (b := 1) (x := x1) rfl rfl) ?_
  refine Eq.trans (s_load (y := 121) (pc := 57) (nx := 58) (a := 3) (b := 0) (x := 2) rfl rfl) ?_
  refine Eq.trans (s_get (y := 121) (pc := 58) (nx := 61) (a := 9) (b := 10) (t := 3) (v := 105) rfl (mk_k2 _) rfl (mk_2_10 _)) ?_
  exact s_call (y := 121) (pc := 61) (nx := 64) (a := 78) (b := 0) (as := [(3, 31), (0, x1), (3, 105)]) (r := []) rfl (Nat.le_of_ble_eq_true rfl) rfl rfl (Nat.le_of_ble_eq_true rfl) (Nat.le_of_ble_eq_true rfl) (Or.inr ⟨rfl, mk_k31 _⟩)
theorem e_121_64 (D : Mem) (x1 : Int) (x2 : Int) : qE 121 64 [(3, 2), (0, x1), (0, x2)] [] (mk D) = (if 0 ≤ x2 ∧ x2 < 4 then some ((0, (D 105 x2)), (mk D)) else none) := by
  refine Eq.trans (s_load (y := 121) (pc := 64) (nx := 65) (a := 3) (b := 0) (x := 2) rfl rfl) ?_
  refine Eq.trans (s_get (y := 121) (pc := 65) (nx := 68) (a := 9) (b := 10) (t := 3) (v := 105) rfl (mk_k2 _) rfl (mk_2_10 _)) ?_
  refine Eq.trans (s_load (y := 121) (pc := 68) (nx := 69) (a := 0) (b := 2) (x := x2) rfl rfl) ?_
  refine Eq.trans (s_ald (y := 121) (pc := 69) (nx := 70) (a := 1) (b := 0) (k := 1) (n := 4) (t := 0) (v := (D 105 x2)) rfl (mk_k105 _) rfl rfl (mk_l105 _) (mk_c105 _ _)) (ite_c ?_ rfl)
  exact s_ret (y := 121) (pc := 70) (nx := 71) (a := 0) rfl (by decide)
theorem r_122 (D : Mem) : qR 122 [(3, 2)] (mk D) = ((qR 140 [(3, 2)] (mk D)).bind fun w => qE 122 4 [(3, 2)] (psh w.1 []) w.2) := by
  show qE 122 0 [(3, 2)] [] (mk D) = _
  refine Eq.trans (s_load (y := 122) (pc := 0) (nx := 1) (a := 3) (b := 0) (x := 2) rfl rfl) ?_
  exact s_call (y := 122) (pc := 1) (nx := 4) (a := 140) (b := 0) (as := [(3, 2)]) (r := []) rfl (Nat.le_of_ble_eq_true rfl) rfl rfl (Nat.le_of_ble_eq_true rfl) (Nat.le_of_ble_eq_true rfl) (Or.inr ⟨rfl, mk_k2 _⟩)
theorem e_122_4 (D : Mem) (s0 : Int) : qE 122 4 [(3, 2)] [(0, s0)] (mk D) = (if s0 = 0 then some ((0, (-4)), (mk D)) else ((qR 50 [(3, 39), (3, 102), (3, 31)] (mk D)).bind fun w => qE 122 25 [(3, 2)] (psh w.1 []) w.2)) := by
  refine Eq.trans (s_ifne (y := 122) (pc := 4) (nx := 7) (b := 10) (tg := 10) rfl rfl) (ite_c ?_ ?_)
  · refine Eq.trans (s_push (y := 122) (pc := 7) (nx := 9) (a := 0) (b := (-4)) rfl) ?_
    exact s_ret (y := 122) (pc := 9) (nx := 10) (a := 0) rfl (by decide)
  · refine Eq.trans (s_load (y := 122) (pc := 10) (nx := 11) (a := 3) (b := 0) (x := 2) rfl rfl) ?_
    refine Eq.trans (s_get (y := 122) (pc := 11) (nx := 14) (a := 9) (b := 4) (t := 3) (v := 39) rfl (mk_k2 _) rfl (mk_2_4 _)) ?_
    refine Eq.trans (s_load (y := 122) (pc := 14) (nx := 15) (a := 3) (b := 0) (x := 2) rfl rfl) ?_
    refine Eq.trans (s_get (y := 122) (pc := 15) (nx := 18) (a := 9) (b := 8) (t := 3) (v := 102) rfl (mk_k2 _) rfl (mk_2_8 _)) ?_
    refine Eq.trans (s_load (y := 122) (pc := 18) (nx := 19) (a := 3) (b := 0) (x := 2) rfl rfl) ?_
    refine Eq.trans (s_get (y := 122) (pc := 19) (nx := 22) (a := 9) (b := 3) (t := 3) (v := 31) rfl (mk_k2 _) rfl (mk_2_3 _)) ?_
    exact s_call (y := 122) (pc := 22) (nx := 25) (a := 50) (b := 0) (as := [(3, 39), (3, 102), (3, 31)]) (r := []) rfl (Nat.le_of_ble_eq_true rfl) rfl rfl (Nat.le_of_ble_eq_true rfl) (Nat.le_of_ble_eq_true rfl) (Or.inr ⟨rfl, mk_k39 _⟩)
theorem e_122_25 (D : Mem) : qE 122 25 [(3, 2)] [] (mk D) = ((qR 52 [(3, 39)] (mk D)).bind fun w => qE 122 32 [(3, 2)] (psh w.1 []) w.2) := by
  refine Eq.trans (s_load (y := 122) (pc := 25) (nx := 26) (a := 3) (b := 0) (x := 2) rfl rfl) ?_
  refine Eq.trans (s_get (y := 122) (pc := 26) (nx := 29) (a := 9) (b := 4) (t := 3) (v := 39) rfl (mk_k2 _) rfl (mk_2_4 _)) ?_
  exact s_call (y := 122) (pc := 29) (nx := 32) (a := 52) (b := 0) (as := [(3, 39)]) (r := []) rfl (Nat.le_of_ble_eq_true rfl) rfl rfl (Nat.le_of_ble_eq_true rfl) (Nat.le_of_ble_eq_true rfl) (Or.inr ⟨rfl, mk_k39 _⟩)
theorem e_122_32 (D : Mem) (s0 : Int) : qE 122 32 [(3, 2)] [(0, s0)] (mk D) = some ((0, s0), (mk D)) := by
  exact s_ret (y := 122) (pc := 32) (nx := 33) (a := 0) rfl (by decide)
theorem r_123 (D : Mem) (x1 : Int) : qR 123 [(3, 2), (0, x1)] (mk D) = ((qR 140 [(3, 2)] (mk D)).bind fun w => qE 123 4 [(3, 2), (0, x1)] (psh w.1 []) w.2) := by
  show qE 123 0 [(3, 2), (0, x1)] [] (mk D) = _
  refine Eq.trans (s_load (y := 123) (pc := 0) (nx := 1) (a := 3) (b := 0) (x := 2) rfl rfl) ?_
  exact s_call (y := 123) (pc := 1) (nx := 4) (a := 140) (b := 0) (as := [(3, 2)]) (r := []) rfl (Nat.le_of_ble_eq_true rfl) rfl rfl (Nat.le_of_ble_eq_true rfl) (Nat.le_of_ble_eq_true rfl) (Or.inr ⟨rfl, mk_k2 _⟩)
theorem e_123_4 (D : Mem) (x1 : Int) (s0 : Int) : qE 123 4 [(3, 2), (0, x1)] [(0, s0)] (mk D) = (if s0 = 0 then some ((0, (-1)), (mk D)) else (if x1 < 0 then some ((0, (-1)), (mk D)) else ((qR 55 [(3, 102)] (mk D)).bind fun w => qE 123 19 [(3, 2), (0, x1)] (psh w.1 [(0, x1)]) w.2))) := by
  refine Eq.trans (s_ifeq (y := 123) (pc := 4) (nx := 7) (b := 22) (tg := 22) rfl rfl) (ite_c ?_ ?_)
  · refine Eq.trans (s_push (y := 123) (pc := 22) (nx := 23) (a := 0) (b := (-1)) rfl) ?_
    exact s_ret (y := 123) (pc := 23) (nx := 24) (a := 0) rfl (by decide)
  · refine Eq.trans (s_load (y := 123) (pc := 7) (nx := 8) (a := 0) (b := 1) (x := x1) rfl rfl) ?_
    refine Eq.trans (s_iflt (y := 123) (pc := 8) (nx := 11) (b := 22) (tg := 22) rfl rfl) (ite_c ?_ ?_)
    · refine Eq.trans (s_push (y := 123) (pc := 22) (nx := 23) (a := 0) (b := (-1)) rfl) ?_
      exact s_ret (y := 123) (pc := 23) (nx := 24) (a := 0) rfl (by decide)
    · refine Eq.trans (s_load (y := 123) (pc := 11) (nx := 12) (a := 0) (b := 1) (x := x1) rfl rfl) ?_
      refine Eq.trans (s_load (y := 123) (pc := 12) (nx := 13) (a := 3) (b := 0) (x := 2) rfl rfl) ?_
      refine Eq.trans (s_get (y := 123) (pc := 13) (nx := 16) (a := 9) (b := 8) (t := 3) (v := 102) rfl (mk_k2 _) rfl (mk_2_8 _)) ?_
      exact s_call (y := 123) (pc := 16) (nx := 19) (a := 55) (b := 0) (as := [(3, 102)]) (r := [(0, x1)]) rfl (Nat.le_of_ble_eq_true rfl) rfl rfl (Nat.le_of_ble_eq_true rfl) (Nat.le_of_ble_eq_true rfl) (Or.inr ⟨rfl, mk_k102 _⟩)
theorem e_123_19 (D : Mem) (x1 : Int) (s0 : Int) (s1 : Int) : qE 123 19 [(3, 2), (0, x1)] [(0, s1), (0, s0)] (mk D) = (if s0 < s1 then ((qR 50 [(3, 39), (3, 102), (3, 31)] (mk D)).bind fun w => qE 123 39 [(3, 2), (0, x1)] (psh w.1 []) w.2) else some ((0, (-1)), (mk D))) := by
  refine Eq.trans (s_iclt (y := 123) (pc := 19) (nx := 22) (b := 24) (tg := 24) rfl rfl) (ite_c ?_ ?_)
  · refine Eq.trans (s_load (y := 123) (pc := 24) (nx := 25) (a := 3) (b := 0) (x := 2) rfl rfl) ?_
    refine Eq.trans (s_get (y := 123) (pc := 25) (nx := 28) (a := 9) (b := 4) (t := 3) (v := 39) rfl (mk_k2 _) rfl (mk_2_4 _)) ?_
    refine Eq.trans (s_load (y := 123) (pc := 28) (nx := 29) (a := 3) (b := 0) (x := 2) rfl rfl) ?_
    refine Eq.trans (s_get (y := 123) (pc := 29) (nx := 32) (a := 9) (b := 8) (t := 3) (v := 102) rfl (mk_k2 _) rfl (mk_2_8 _)) ?_
    refine Eq.trans (s_load (y := 123) (pc := 32) (nx := 33) (a := 3) (b := 0) (x := 2) rfl rfl) ?_
    refine Eq.trans (s_get (y := 123) (pc := 33) (nx := 36) (a := 9) (b := 3) (t := 3) (v := 31) rfl (mk_k2 _) rfl (mk_2_3 _)) ?_
    exact s_call (y := 123) (pc := 36) (nx := 39) (a := 50) (b := 0) (as := [(3, 39), (3, 102), (3, 31)]) (r := []) rfl (Nat.le_of_ble_eq_true rfl) rfl rfl (Nat.le_of_ble_eq_true rfl) (Nat.le_of_ble_eq_true rfl) (Or.inr ⟨rfl, mk_k39 _⟩)
  · refine Eq.trans (s_push (y := 123) (pc := 22) (nx := 23) (a := 0) (b := (-1)) rfl) ?_
    exact s_ret (y := 123) (pc := 23) (nx := 24) (a := 0) rfl (by decide)
theorem e_123_39 (D : Mem) (x1 : Int) : qE 123 39 [(3, 2), (0, x1)] [] (mk D) = ((qR 53 [(3, 39), (0, x1)] (mk D)).bind fun w => qE 123 47 [(3, 2), (0, x1)] (psh w.1 []) w.2) := by
  refine Eq.trans (s_load (y := 123) (pc := 39) (nx := 40) (a := 3) (b := 0) (x := 2) rfl rfl) ?_
  refine Eq.trans (s_get (y := 123) (pc := 40) (nx := 43) (a := 9) (b := 4) (t := 3) (v := 39) rfl (mk_k2 _) rfl (mk_2_4 _)) ?_
  refine Eq.trans (s_load (y := 123) (pc := 43) (nx := 44) (a := 0) (b := 1) (x := x1) rfl rfl) ?_
  exact s_call (y := 123) (pc := 44) (nx := 47) (a := 53) (b := 0) (as := [(3, 39), (0, x1)]) (r := []) rfl (Nat.le_of_ble_eq_true rfl) rfl rfl (Nat.le_of_ble_eq_true rfl) (Nat.le_of_ble_eq_true rfl) (Or.inr ⟨rfl, mk_k39 _⟩)
theorem e_123_47 (D : Mem) (x1 : Int) (s0 : Int) : qE 123 47 [(3, 2), (0, x1)] [(0, s0)] (mk D) = some ((0, s0), (mk D)) := by
  exact s_ret (y := 123) (pc := 47) (nx := 48) (a := 0) rfl (by decide)
theorem r_124 (D : Mem) : qR 124 [(3, 2)] (mk D) = qE 124 4 [(3, 2), (0, 0), (0, 0), (9, 0)] [] (mk D) := by
  show qE 124 0 [(3, 2), (9, 0), (9, 0), (9, 0)] [] (mk D) = _
  refine Eq.trans (s_push (y := 124) (pc := 0) (nx := 1) (a := 0) (b := 0) rfl) ?_
  refine Eq.trans (s_store (y := 124) (pc := 1) (nx := 2) (a := 0) (b := 1) (ls' := [(3, 2), (0, 0), (9, 0), (9, 0)]) rfl (Nat.le_of_ble_eq_true rfl) rfl) ?_
  refine Eq.trans (s_push (y := 124) (pc := 2) (nx := 3) (a := 0) (b := 0) rfl) ?_
  refine Eq.trans (s_store (y := 124) (pc := 3) (nx := 4) (a := 0) (b := 2) (ls' := [(3, 2), (0, 0), (0, 0), (9, 0)]) rfl (Nat.le_of_ble_eq_true rfl) rfl) ?_
  rfl
theorem e_124_4 (D : Mem) (x1 : Int) (x2 : Int) (v3 : PV) : qE 124 4 [(3, 2), (0, x1), (0, x2), v3] [] (mk D) = ((qR 55 [(3, 102)] (mk D)).bind fun w => qE 124 12 [(3, 2), (0, x1), (0, x2), v3] (psh w.1 [(0, x2)]) w.2) := by
  refine Eq.trans (s_load (y := 124) (pc := 4) (nx := 5) (a := 0) (b := 2) (x := x2) rfl rfl) ?_
  refine Eq.trans (s_load (y := 124) (pc := 5) (nx := 6) (a := 3) (b := 0) (x := 2) rfl rfl) ?_
  refine Eq.trans (s_get (y := 124) (pc := 6) (nx := 9) (a := 9) (b := 8) (t := 3) (v := 102) rfl (mk_k2 _) rfl (mk_2_8 _)) ?_
  exact s_call (y := 124) (pc := 9) (nx := 12) (a := 55) (b := 0) (as := [(3, 102)]) (r := [(0, x2)]) rfl (Nat.le_of_ble_eq_true rfl) rfl rfl (Nat.le_of_ble_eq_true rfl) (Nat.le_of_ble_eq_true rfl) (Or.inr ⟨rfl, mk_k102 _⟩)
theorem e_124_12 (D : Mem) (x1 : Int) (x2 : Int) (v3 : PV) (s0 : Int) (s1 : Int) : qE 124 12 [(3, 2), (0, x1), (0, x2), v3] [(0, s1), (0, s0)] (mk D) = (if s0 < s1 then ((qR 58 [(3, 102), (0, x2)] (mk D)).bind fun w => qE 124 27 [(3, 2), (0, x1), (0, x2), v3] (psh w.1 [(3, 5)]) w.2) else some ((0, x1), (mk D))) := by
  refine Eq.trans (s_icge (y := 124) (pc := 12) (nx := 15) (b := 62) (tg := 62) rfl rfl) (ite_c ?_ ?_)
  · refine Eq.trans (s_load (y := 124) (pc := 15) (nx := 16) (a := 3) (b := 0) (x := 2) rfl rfl) ?_
    refine Eq.trans (s_get (y := 124) (pc := 16) (nx := 19) (a := 9) (b := 1) (t := 3) (v := 5) rfl (mk_k2 _) rfl (mk_2_1 _)) ?_
    refine Eq.trans (s_load (y := 124) (pc := 19) (nx := 20) (a := 3) (b := 0) (x := 2) rfl rfl) ?_
    refine Eq.trans (s_get (y := 124) (pc := 20) (nx := 23) (a := 9) (b := 8) (t := 3) (v := 102) rfl (mk_k2 _) rfl (mk_2_8 _)) ?_
    refine Eq.trans (s_load (y := 124) (pc := 23) (nx := 24) (a := 0) (b := 2) (x := x2) rfl rfl) ?_
    exact s_call (y := 124) (pc := 24) (nx := 27) (a := 58) (b := 0) (as := [(3, 102), (0, x2)]) (r := [(3, 5)]) rfl (Nat.le_of_ble_eq_true rfl) rfl rfl (Nat.le_of_ble_eq_true rfl) (Nat.le_of_ble_eq_true rfl) (Or.inr ⟨rfl, mk_k102 _⟩)
  · refine Eq.trans (s_load (y := 124) (pc := 62) (nx := 63) (a := 0) (b := 1) (x := x1) rfl rfl) ?_
    exact s_ret (y := 124) (pc := 63) (nx := 64) (a := 0) rfl (by decide)
theorem e_124_27 (D : Mem) (x1 : Int) (x2 : Int) (v3 : PV) (s1 : Int) : qE 124 27 [(3, 2), (0, x1), (0, x2), v3] [(0, s1), (3, 5)] (mk D) = ((qR 7 [(3, 5), (0, s1)] (mk D)).bind fun w => qE 124 30 [(3, 2), (0, x1), (0, x2), v3] (psh w.1 []) w.2) := by
  exact s_call (y := 124) (pc := 27) (nx := 30) (a := 7) (b := 0) (as := [(3, 5), (0, s1)]) (r := []) rfl (Nat.le_of_ble_eq_true rfl) rfl rfl (Nat.le_of_ble_eq_true rfl) (Nat.le_of_ble_eq_true rfl) (Or.inr ⟨rfl, mk_k5 _⟩)
theorem e_124_30 (D : Mem) (x1 : Int) (x2 : Int) (v3 : PV) (s0 : Int) : qE 124 30 [(3, 2), (0, x1), (0, x2), v3] [(3, s0)] (mk D) = (if s0 = 0 then qE 124 4 [(3, 2), (0, x1), (0, (w32 (x2 + 1))), (3, s0)] [] (mk D) else (if (mk D) (-s0) 0 = 18 then (if ((mk D) s0 3) = 0 then qE 124 4 [(3, 2), (0, x1), (0, (w32 (x2 + 1))), (3, s0)] [] (mk D) else (if (mk D) (-s0) 0 = 18 then ((qR 30 [(3, 3), (3, ((mk D) s0 0))] (mk D)).bind fun w => qE 124 54 [(3, 2), (0, x1), (0, x2), (3, s0)] (psh w.1 [(0, x1)]) w.2) else none)) else none)) := by
  refine Eq.trans (s_store (y := 124) (pc := 30) (nx := 31) (a := 3) (b := 3) (ls' := [(3, 2), (0, x1), (0, x2), (3, s0)]) rfl (Nat.le_of_ble_eq_true rfl) rfl) ?_
  refine Eq.trans (s_load (y := 124) (pc := 31) (nx := 32) (a := 3) (b := 3) (x := s0) rfl rfl) ?_
  refine Eq.trans (s_null (y := 124) (pc := 32) (nx := 35) (b := 56) (tg := 56) rfl rfl) (ite_c ?_ ?_)
  · refine Eq.trans (s_iinc (y := 124) (pc := 56) (nx := 59) (a := 2) (b := 1) (x := x2) (ls' := [(3, 2), (0, x1), (0, (w32 (x2 + 1))), (3, s0)]) rfl rfl rfl) ?_
    refine Eq.trans (s_goto (y := 124) (pc := 59) (nx := 62) (a := 0) (b := 4) (tg := 4) rfl rfl) ?_
    rfl
  · refine Eq.trans (s_load (y := 124) (pc := 35) (nx := 36) (a := 3) (b := 3) (x := s0) rfl rfl) ?_
    refine Eq.trans (s_getq (y := 124) (pc := 36) (nx := 39) (a := 8) (b := 3) (t := 0) (k := 18) rfl rfl rfl) (ite_c ?_ rfl)
    refine Eq.trans (s_ifeq (y := 124) (pc := 39) (nx := 42) (b := 56) (tg := 56) rfl rfl) (ite_c ?_ ?_)
    · refine Eq.trans (s_iinc (y := 124) (pc := 56) (nx := 59) (a := 2) (b := 1) (x := x2) (ls' := [(3, 2), (0, x1), (0, (w32 (x2 + 1))), (3, s0)]) rfl rfl rfl) ?_
      refine Eq.trans (s_goto (y := 124) (pc := 59) (nx := 62) (a := 0) (b := 4) (tg := 4) rfl rfl) ?_
      rfl
    · refine Eq.trans (s_load (y := 124) (pc := 42) (nx := 43) (a := 0) (b := 1) (x := x1) rfl rfl) ?_
      refine Eq.trans (s_load (y := 124) (pc := 43) (nx := 44) (a := 3) (b := 0) (x := 2) rfl rfl) ?_
      refine Eq.trans (s_get (y := 124) (pc := 44) (nx := 47) (a := 9) (b := 0) (t := 3) (v := 3) rfl (mk_k2 _) rfl (mk_2_0 _)) ?_
      refine Eq.trans (s_load (y := 124) (pc := 47) (nx := 48) (a := 3) (b := 3) (x := s0) rfl rfl) ?_
      refine Eq.trans (s_getq (y := 124) (pc := 48) (nx := 51) (a := 8) (b := 0) (t := 3) (k := 18) rfl rfl rfl) (ite_c ?_ rfl)
      exact s_call (y := 124) (pc := 51) (nx := 54) (a := 30) (b := 0) (as := [(3, 3), (3, ((mk D) s0 0))]) (r := [(0, x1)]) rfl (Nat.le_of_ble_eq_true rfl) rfl rfl (Nat.le_of_ble_eq_true rfl) (Nat.le_of_ble_eq_true rfl) (Or.inr ⟨rfl, mk_k3 _⟩)
theorem e_124_54 (D : Mem) (x1 : Int) (x2 : Int) (x3 : Int) (s0 : Int) (s1 : Int) : qE 124 54 [(3, 2), (0, x1), (0, x2), (3, x3)] [(0, s1), (0, s0)] (mk D) = qE 124 4 [(3, 2), (0, (w32 (s0 + s1))), (0, (w32 (x2 + 1))), (3, x3)] [] (mk D) := by
  refine Eq.trans (s_add (y := 124) (pc := 54) (nx := 55) (b := 0) rfl) ?_
  refine Eq.trans (s_store (y := 124) (pc := 55) (nx := 56) (a := 0) (b := 1) (ls' := [(3, 2), (0, (w32 (s0 + s1))), (0, x2), (3, x3)]) rfl (Nat.le_of_ble_eq_true rfl) rfl) ?_
  refine Eq.trans (s_iinc (y := 124) (pc := 56) (nx := 59) (a := 2) (b := 1) (x := x2) (ls' := [(3, 2), (0, (w32 (s0 + s1))), (0, (w32 (x2 + 1))), (3, x3)]) rfl rfl rfl) ?_
  refine Eq.trans (s_goto (y := 124) (pc := 59) (nx := 62) (a := 0) (b := 4) (tg := 4) rfl rfl) ?_
  rfl
theorem r_125 (D : Mem) : qR 125 [(3, 2)] (mk D) = ((qR 85 [(3, 44), (3, 102), (3, 5)] (mk D)).bind fun w => qE 125 15 [(3, 2)] (psh w.1 []) w.2) := by
  show qE 125 0 [(3, 2)] [] (mk D) = _
  refine Eq.trans (s_load (y := 125) (pc := 0) (nx := 1) (a := 3) (b := 0) (x := 2) rfl rfl) ?_
  refine Eq.trans (s_get (y := 125) (pc := 1) (nx := 4) (a := 9) (b := 5) (t := 3) (v := 44) rfl (mk_k2 _) rfl (mk_2_5 _)) ?_
  refine Eq.trans (s_load (y := 125) (pc := 4) (nx := 5) (a := 3) (b := 0) (x := 2) rfl rfl) ?_
  refine Eq.trans (s_get (y := 125) (pc := 5) (nx := 8) (a := 9) (b := 8) (t := 3) (v := 102) rfl (mk_k2 _) rfl (mk_2_8 _)) ?_
  refine Eq.trans (s_load (y := 125) (pc := 8) (nx := 9) (a := 3) (b := 0) (x := 2) rfl rfl) ?_
  refine Eq.trans (s_get (y := 125) (pc := 9) (nx := 12) (a := 9) (b := 1) (t := 3) (v := 5) rfl (mk_k2 _) rfl (mk_2_1 _)) ?_
  exact s_call (y := 125) (pc := 12) (nx := 15) (a := 85) (b := 0) (as := [(3, 44), (3, 102), (3, 5)]) (r := []) rfl (Nat.le_of_ble_eq_true rfl) rfl rfl (Nat.le_of_ble_eq_true rfl) (Nat.le_of_ble_eq_true rfl) (Or.inr ⟨rfl, mk_k44 _⟩)
theorem e_125_15 (D : Mem) : qE 125 15 [(3, 2)] [] (mk D) = ((qR 87 [(3, 44), (3, 3)] (mk D)).bind fun w => qE 125 26 [(3, 2)] (psh w.1 []) w.2) := by
  refine Eq.trans (s_load (y := 125) (pc := 15) (nx := 16) (a := 3) (b := 0) (x := 2) rfl rfl) ?_
  refine Eq.trans (s_get (y := 125) (pc := 16) (nx := 19) (a := 9) (b := 5) (t := 3) (v := 44) rfl (mk_k2 _) rfl (mk_2_5 _)) ?_
  refine Eq.trans (s_load (y := 125) (pc := 19) (nx := 20) (a := 3) (b := 0) (x := 2) rfl rfl) ?_
  refine Eq.trans (s_get (y := 125) (pc := 20) (nx := 23) (a := 9) (b := 0) (t := 3) (v := 3) rfl (mk_k2 _) rfl (mk_2_0 _)) ?_
  exact s_call (y := 125) (pc := 23) (nx := 26) (a := 87) (b := 0) (as := [(3, 44), (3, 3)]) (r := []) rfl (Nat.le_of_ble_eq_true rfl) rfl rfl (Nat.le_of_ble_eq_true rfl) (Nat.le_of_ble_eq_true rfl) (Or.inr ⟨rfl, mk_k44 _⟩)
theorem e_125_26 (D : Mem) (s0 : Int) : qE 125 26 [(3, 2)] [(0, s0)] (mk D) = some ((0, s0), (mk D)) := by
  exact s_ret (y := 125) (pc := 26) (nx := 27) (a := 0) rfl (by decide)
theorem r_126 (D : Mem) : qR 126 [(3, 2)] (mk D) = ((qR 85 [(3, 44), (3, 102), (3, 5)] (mk D)).bind fun w => qE 126 15 [(3, 2)] (psh w.1 []) w.2) := by
  show qE 126 0 [(3, 2)] [] (mk D) = _
  refine Eq.trans (s_load (y := 126) (pc := 0) (nx := 1) (a := 3) (b := 0) (x := 2) rfl rfl) ?_
  refine Eq.trans (s_get (y := 126) (pc := 1) (nx := 4) (a := 9) (b := 5) (t := 3) (v := 44) rfl (mk_k2 _) rfl (mk_2_5 _)) ?_
  refine Eq.trans (s_load (y := 126) (pc := 4) (nx := 5) (a := 3) (b := 0) (x := 2) rfl rfl) ?_
  refine Eq.trans (s_get (y := 126) (pc := 5) (nx := 8) (a := 9) (b := 8) (t := 3) (v := 102) rfl (mk_k2 _) rfl (mk_2_8 _)) ?_
  refine Eq.trans (s_load (y := 126) (pc := 8) (nx := 9) (a := 3) (b := 0) (x := 2) rfl rfl) ?_
  refine Eq.trans (s_get (y := 126) (pc := 9) (nx := 12) (a := 9) (b := 1) (t := 3) (v := 5) rfl (mk_k2 _) rfl (mk_2_1 _)) ?_
  exact s_call (y := 126) (pc := 12) (nx := 15) (a := 85) (b := 0) (as := [(3, 44), (3, 102), (3, 5)]) (r := []) rfl (Nat.le_of_ble_eq_true rfl) rfl rfl (Nat.le_of_ble_eq_true rfl) (Nat.le_of_ble_eq_true rfl) (Or.inr ⟨rfl, mk_k44 _⟩)
theorem e_126_15 (D : Mem) : qE 126 15 [(3, 2)] [] (mk D) = ((qR 89 [(3, 44), (3, 3)] (mk D)).bind fun w => qE 126 26 [(3, 2)] (psh w.1 []) w.2) := by
  refine Eq.trans (s_load (y := 126) (pc := 15) (nx := 16) (a := 3) (b := 0) (x := 2) rfl rfl) ?_
  refine Eq.trans (s_get (y := 126) (pc := 16) (nx := 19) (a := 9) (b := 5) (t := 3) (v := 44) rfl (mk_k2 _) rfl (mk_2_5 _)) ?_
  refine Eq.trans (s_load (y := 126) (pc := 19) (nx := 20) (a := 3) (b := 0) (x := 2) rfl rfl) ?_
  refine Eq.trans (s_get (y := 126) (pc := 20) (nx := 23) (a := 9) (b := 0) (t := 3) (v := 3) rfl (mk_k2 _) rfl (mk_2_0 _)) ?_
  exact s_call (y := 126) (pc := 23) (nx := 26) (a := 89) (b := 0) (as := [(3, 44), (3, 3)]) (r := []) rfl (Nat.le_of_ble_eq_true rfl) rfl rfl (Nat.le_of_ble_eq_true rfl) (Nat.le_of_ble_eq_true rfl) (Or.inr ⟨rfl, mk_k44 _⟩)
theorem e_126_26 (D : Mem) (s0 : Int) : qE 126 26 [(3, 2)] [(0, s0)] (mk D) = some ((0, s0), (mk D)) := by
  exact s_ret (y := 126) (pc := 26) (nx := 27) (a := 0) rfl (by decide)
theorem r_127 (D : Mem) : qR 127 [(3, 2)] (mk D) = ((qR 69 [(3, 31)] (mk D)).bind fun w => qE 127 7 [(3, 2)] (psh w.1 []) w.2) := by
  show qE 127 0 [(3, 2)] [] (mk D) = _
  refine Eq.trans (s_load (y := 127) (pc := 0) (nx := 1) (a := 3) (b := 0) (x := 2) rfl rfl) ?_
  refine Eq.trans (s_get (y := 127) (pc := 1) (nx := 4) (a := 9) (b := 3) (t := 3) (v := 31) rfl (mk_k2 _) rfl (mk_2_3 _)) ?_
  exact s_call (y := 127) (pc := 4) (nx := 7) (a := 69) (b := 0) (as := [(3, 31)]) (r := []) rfl (Nat.le_of_ble_eq_true rfl) rfl rfl (Nat.le_of_ble_eq_true rfl) (Nat.le_of_ble_eq_true rfl) (Or.inr ⟨rfl, mk_k31 _⟩)
theorem e_127_7 (D : Mem) : qE 127 7 [(3, 2)] [] (mk D) = ((qR 81 [(3, 31)] (mk D)).bind fun w => qE 127 18 [(3, 2)] (psh w.1 [(3, 31)]) w.2) := by
  refine Eq.trans (s_load (y := 127) (pc := 7) (nx := 8) (a := 3) (b := 0) (x := 2) rfl rfl) ?_
  refine Eq.trans (s_get (y := 127) (pc := 8) (nx := 11) (a := 9) (b := 3) (t := 3) (v := 31) rfl (mk_k2 _) rfl (mk_2_3 _)) ?_
  refine Eq.trans (s_load (y := 127) (pc := 11) (nx := 12) (a := 3) (b := 0) (x := 2) rfl rfl) ?_
  refine Eq.trans (s_get (y := 127) (pc := 12) (nx := 15) (a := 9) (b := 3) (t := 3) (v := 31) rfl (mk_k2 _) rfl (mk_2_3 _)) ?_
  exact s_call (y := 127) (pc := 15) (nx := 18) (a := 81) (b := 0) (as := [(3, 31)]) (r := [(3, 31)]) rfl (Nat.le_of_ble_eq_true rfl) rfl rfl (Nat.le_of_ble_eq_true rfl) (Nat.le_of_ble_eq_true rfl) (Or.inr ⟨rfl, mk_k31 _⟩)
theorem e_127_18 (D : Mem) (s1 : Int) : qE 127 18 [(3, 2)] [(0, s1), (3, 31)] (mk D) = ((qR 79 [(3, 31), (0, s1)] (mk D)).bind fun w => qE 127 21 [(3, 2)] (psh w.1 []) w.2) := by
  exact s_call (y := 127) (pc := 18) (nx := 21) (a := 79) (b := 0) (as := [(3, 31), (0, s1)]) (r := []) rfl (Nat.le_of_ble_eq_true rfl) rfl rfl (Nat.le_of_ble_eq_true rfl) (Nat.le_of_ble_eq_true rfl) (Or.inr ⟨rfl, mk_k31 _⟩)
theorem e_127_21 (D : Mem) (s0 : Int) : qE 127 21 [(3, 2)] [(0, s0)] (mk D) = some ((0, s0), (mk D)) := by
  exact s_ret (y := 127) (pc := 21) (nx := 22) (a := 0) rfl (by decide)
theorem r_128 (D : Mem) (x1 : Int) : qR 128 [(3, 2), (0, x1)] (mk D) = ((qR 69 [(3, 31)] (mk D)).bind fun w => qE 128 7 [(3, 2), (0, x1)] (psh w.1 []) w.2) := by
  show qE 128 0 [(3, 2), (0, x1)] [] (mk D) = _
  refine Eq.trans (s_load (y := 128) (pc := 0) (nx := 1) (a := 3) (b := 0) (x := 2) rfl rfl) ?_
  refine Eq.trans (s_get (y := 128) (pc := 1) (nx := 4) (a := 9) (b := 3) (t := 3) (v := 31) rfl (mk_k2 _) rfl (mk_2_3 _)) ?_
  exact s_call (y := 128) (pc := 4) (nx := 7) (a := 69) (b := 0) (as := [(3, 31)]) (r := []) rfl (Nat.le_of_ble_eq_true rfl) rfl rfl (Nat.le_of_ble_eq_true rfl) (Nat.le_of_ble_eq_true rfl) (Or.inr ⟨rfl, mk_k31 _⟩)
theorem e_128_7 (D : Mem) (x1 : Int) : qE 128 7 [(3, 2), (0, x1)] [] (mk D) = ((qR 81 [(3, 31)] (mk D)).bind fun w => qE 128 18 [(3, 2), (0, x1)] (psh w.1 [(3, 31)]) w.2) := by
  refine Eq.trans (s_load (y := 128) (pc := 7) (nx := 8) (a := 3) (b := 0) (x := 2) rfl rfl) ?_
  refine Eq.trans (s_get (y := 128) (pc := 8) (nx := 11) (a := 9) (b := 3) (t := 3) (v := 31) rfl (mk_k2 _) rfl (mk_2_3 _)) ?_
  refine Eq.trans (s_load (y := 128) (pc := 11) (nx := 12) (a := 3) (b := 0) (x := 2) rfl rfl) ?_
  refine Eq.trans (s_get (y := 128) (pc := 12) (nx := 15) (a := 9) (b := 3) (t := 3) (v := 31) rfl (mk_k2 _) rfl (mk_2_3 _)) ?_
  exact s_call (y := 128) (pc := 15) (nx := 18) (a := 81) (b := 0) (as := [(3, 31)]) (r := [(3, 31)]) rfl (Nat.le_of_ble_eq_true rfl) rfl rfl (Nat.le_of_ble_eq_true rfl) (Nat.le_of_ble_eq_true rfl) (Or.inr ⟨rfl, mk_k31 _⟩)
theorem e_128_18 (D : Mem) (x1 : Int) (s1 : Int) : qE 128 18 [(3, 2), (0, x1)] [(0, s1), (3, 31)] (mk D) = ((qR 82 [(3, 31), (0, s1), (0, x1)] (mk D)).bind fun w => qE 128 22 [(3, 2), (0, x1)] (psh w.1 []) w.2) := by
  refine Eq.trans (s_load (y := 128) (pc := 18) (nx := 19) (a := 0) (b := 1) (x := x1) rfl rfl) ?_
  exact s_call (y := 128) (pc := 19) (nx := 22) (a := 82) (b := 0) (as := [(3, 31), (0, s1), (0, x1)]) (r := []) rfl (Nat.le_of_ble_eq_true rfl) rfl rfl (Nat.le_of_ble_eq_true rfl) (Nat.le_of_ble_eq_true rfl) (Or.inr ⟨rfl, mk_k31 _⟩)
theorem e_128_22 (D : Mem) (x1 : Int) (s0 : Int) : qE 128 22 [(3, 2), (0, x1)] [(0, s0)] (mk D) = some ((0, s0), (mk D)) := by
  exact s_ret (y := 128) (pc := 22) (nx := 23) (a := 0) rfl (by decide)
theorem r_129 (D : Mem) : qR 129 [(3, 2)] (mk D) = ((qR 69 [(3, 31)] (mk D)).bind fun w => qE 129 7 [(3, 2)] (psh w.1 []) w.2) := by
  show qE 129 0 [(3, 2)] [] (mk D) = _
  refine Eq.trans (s_load (y := 129) (pc := 0) (nx := 1) (a := 3) (b := 0) (x := 2) rfl rfl) ?_
  refine Eq.trans (s_get (y := 129) (pc := 1) (nx := 4) (a := 9) (b := 3) (t := 3) (v := 31) rfl (mk_k2 _) rfl (mk_2_3 _)) ?_
  exact s_call (y := 129) (pc := 4) (nx := 7) (a := 69) (b := 0) (as := [(3, 31)]) (r := []) rfl (Nat.le_of_ble_eq_true rfl) rfl rfl (Nat.le_of_ble_eq_true rfl) (Nat.le_of_ble_eq_true rfl) (Or.inr ⟨rfl, mk_k31 _⟩)
theorem e_129_7 (D : Mem) : qE 129 7 [(3, 2)] [] (mk D) = ((qR 83 [(3, 31)] (mk D)).bind fun w => qE 129 14 [(3, 2)] (psh w.1 []) w.2) := by
  refine Eq.trans (s_load (y := 129) (pc := 7) (nx := 8) (a := 3) (b := 0) (x := 2) rfl rfl) ?_
  refine Eq.trans (s_get (y := 129) (pc := 8) (nx := 11) (a := 9) (b := 3) (t := 3) (v := 31) rfl (mk_k2 _) rfl (mk_2_3 _)) ?_
  exact s_call (y := 129) (pc := 11) (nx := 14) (a := 83) (b := 0) (as := [(3, 31)]) (r := []) rfl (Nat.le_of_ble_eq_true rfl) rfl rfl (Nat.le_of_ble_eq_true rfl) (Nat.le_of_ble_eq_true rfl) (Or.inr ⟨rfl, mk_k31 _⟩)
theorem e_129_14 (D : Mem) (s0 : Int) : qE 129 14 [(3, 2)] [(0, s0)] (mk D) = some ((0, s0), (mk D)) := by
  exact s_ret (y := 129) (pc := 14) (nx := 15) (a := 0) rfl (by decide)
theorem r_130 (μ : Mem) (x0 : Int) : qR 130 [(0, x0)] μ = (if x0 < 0 then some ((0, 0), μ) else (if x0 < 26 then some ((0, 1), μ) else some ((0, 0), μ))) := by
  show qE 130 0 [(0, x0)] [] μ = _
  refine Eq.trans (s_load (y := 130) (pc := 0) (nx := 1) (a := 0) (b := 0) (x := x0) rfl rfl) ?_
  refine Eq.trans (s_iflt (y := 130) (pc := 1) (nx := 4) (b := 14) (tg := 14) rfl rfl) (ite_c ?_ ?_)
  · refine Eq.trans (s_push (y := 130) (pc := 14) (nx := 15) (a := 0) (b := 0) rfl) ?_
    exact s_retz (y := 130) (pc := 15) (nx := 16) rfl (by decide)
  · refine Eq.trans (s_load (y := 130) (pc := 4) (nx := 5) (a := 0) (b := 0) (x := x0) rfl rfl) ?_
    refine Eq.trans (s_push (y := 130) (pc := 5) (nx := 7) (a := 0) (b := 26) rfl) ?_
    refine Eq.trans (s_icge (y := 130) (pc := 7) (nx := 10) (b := 14) (tg := 14) rfl rfl) (ite_c ?_ ?_)
    · refine Eq.trans (s_push (y := 130) (pc := 10) (nx := 11) (a := 0) (b := 1) rfl) ?_
      refine Eq.trans (s_goto (y := 130) (pc := 11) (nx := 14) (a := 0) (b := 15) (tg := 15) rfl rfl) ?_
      exact s_retz (y := 130) (pc := 15) (nx := 16) rfl (by decide)
    · refine Eq.trans (s_push (y := 130) (pc := 14) (nx := 15) (a := 0) (b := 0) rfl) ?_
      exact s_retz (y := 130) (pc := 15) (nx := 16) rfl (by decide)
