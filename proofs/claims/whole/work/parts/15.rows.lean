theorem r_194 (D : Mem) (x1 : Int) : qR 194 [(3, 106), (0, x1)] (mk D) = qE 194 4 [(3, 106), (0, x1), (0, 1), (0, 0), (9, 0)] [] (mk D) := by
  show qE 194 0 [(3, 106), (0, x1), (9, 0), (9, 0), (9, 0)] [] (mk D) = _
  refine Eq.trans (s_push (y := 194) (pc := 0) (nx := 1) (a := 0) (b := 1) rfl) ?_
  refine Eq.trans (s_store (y := 194) (pc := 1) (nx := 2) (a := 0) (b := 2) (ls' := [(3, 106), (0, x1), (0, 1), (9, 0), (9, 0)]) rfl (Nat.le_of_ble_eq_true rfl) rfl) ?_
  refine Eq.trans (s_push (y := 194) (pc := 2) (nx := 3) (a := 0) (b := 0) rfl) ?_
  refine Eq.trans (s_store (y := 194) (pc := 3) (nx := 4) (a := 0) (b := 3) (ls' := [(3, 106), (0, x1), (0, 1), (0, 0), (9, 0)]) rfl (Nat.le_of_ble_eq_true rfl) rfl) ?_
  rfl
theorem e_194_4 (D : Mem) (x1 : Int) (x2 : Int) (x3 : Int) (v4 : PV) : qE 194 4 [(3, 106), (0, x1), (0, x2), (0, x3), v4] [] (mk D) = (if 0 ≤ x1 ∧ x1 < 80 then (if x3 < (D 109 x1) then (if 0 ≤ (w32 ((w32 (10 * x1)) + x3)) ∧ (w32 ((w32 (10 * x1)) + x3)) < 800 then ((qR 145 [(3, 106), (0, (D 108 (w32 ((w32 (10 * x1)) + x3))))] (mk D)).bind fun w => qE 194 34 [(3, 106), (0, x1), (0, x2), (0, x3), (0, (D 108 (w32 ((w32 (10 * x1)) + x3))))] (psh w.1 [(0, x2)]) w.2) else none) else some ((0, x2), (mk D))) else none) := by
  refine Eq.trans (s_load (y := 194) (pc := 4) (nx := 5) (a := 0) (b := 3) (x := x3) rfl rfl) ?_
  refine Eq.trans (s_load (y := 194) (pc := 5) (nx := 6) (a := 3) (b := 0) (x := 106) rfl rfl) ?_
  refine Eq.trans (s_get (y := 194) (pc := 6) (nx := 9) (a := 10) (b := 2) (t := 3) (v := 109) rfl (mk_k106 _) rfl (mk_106_2 _)) ?_
  refine Eq.trans (s_load (y := 194) (pc := 9) (nx := 10) (a := 0) (b := 1) (x := x1) rfl rfl) ?_
  refine Eq.trans (s_ald (y := 194) (pc := 10) (nx := 11) (a := 1) (b := 0) (k := 1) (n := 80) (t := 0) (v := (D 109 x1)) rfl (mk_k109 _) rfl rfl (mk_l109 _) (mk_c109 _ _)) (ite_c ?_ rfl)
  refine Eq.trans (s_icge (y := 194) (pc := 11) (nx := 14) (b := 82) (tg := 82) rfl rfl) (ite_c ?_ ?_)
  · refine Eq.trans (s_load (y := 194) (pc := 14) (nx := 15) (a := 3) (b := 0) (x := 106) rfl rfl) ?_
    refine Eq.trans (s_get (y := 194) (pc := 15) (nx := 18) (a := 10) (b := 1) (t := 3) (v := 108) rfl (mk_k106 _) rfl (mk_106_1 _)) ?_
    refine Eq.trans (s_push (y := 194) (pc := 18) (nx := 20) (a := 0) (b := 10) rfl) ?_
    refine Eq.trans (s_load (y := 194) (pc := 20) (nx := 21) (a := 0) (b := 1) (x := x1) rfl rfl) ?_
    refine Eq.trans (s_mul (y := 194) (pc := 21) (nx := 22) (b := 0) rfl) ?_
    refine Eq.trans (s_load (y := 194) (pc := 22) (nx := 23) (a := 0) (b := 3) (x := x3) rfl rfl) ?_
    refine Eq.trans (s_add (y := 194) (pc := 23) (nx := 24) (b := 0) rfl) ?_
    refine Eq.trans (s_ald (y := 194) (pc := 24) (nx := 25) (a := 1) (b := 0) (k := 1) (n := 800) (t := 0) (v := (D 108 (w32 ((w32 (10 * x1)) + x3)))) rfl (mk_k108 _) rfl rfl (mk_l108 _) (mk_c108 _ _)) (ite_c ?_ rfl)
    refine Eq.trans (s_store (y := 194) (pc := 25) (nx := 27) (a := 0) (b := 4) (ls' := [(3, 106), (0, x1), (0, x2), (0, x3), (0, (D 108 (w32 ((w32 (10 * x1)) + x3))))]) rfl (Nat.le_of_ble_eq_true rfl) rfl) ?_
    refine Eq.trans (s_load (y := 194) (pc := 27) (nx := 28) (a := 0) (b := 2) (x := x2) rfl rfl) ?_
    refine Eq.trans (s_load (y := 194) (pc := 28) (nx := 29) (a := 3) (b := 0) (x := 106) rfl rfl) ?_
    refine Eq.trans (s_load (y := 194) (pc := 29) (nx := 31) (a := 0) (b := 4) (x := (D 108 (w32 ((w32 (10 * x1)) + x3)))) rfl rfl) ?_
    exact s_call (y := 194) (pc := 31) (nx := 34) (a := 145) (b := 0) (as := [(3, 106), (0, (D 108 (w32 ((w32 (10 * x1)) + x3))))]) (r := [(0, x2)]) rfl (Nat.le_of_ble_eq_true rfl) rfl rfl (Nat.le_of_ble_eq_true rfl) (Nat.le_of_ble_eq_true rfl) (Or.inr ⟨rfl, mk_k106 _⟩)
  · refine Eq.trans (s_load (y := 194) (pc := 82) (nx := 83) (a := 0) (b := 2) (x := x2) rfl rfl) ?_
    exact s_ret (y := 194) (pc := 83) (nx := 84) (a := 0) rfl (by decide)
theorem e_194_34 (D : Mem) (x1 : Int) (x2 : Int) (x3 : Int) (x4 : Int) (s0 : Int) (s1 : Int) : qE 194 34 [(3, 106), (0, x1), (0, x2), (0, x3), (0, x4)] [(0, s1), (0, s0)] (mk D) = (if x3 ≤ 0 then qE 194 4 [(3, 106), (0, x1), (0, (w32 ((w32 (s0 + s1)) + 0))), (0, (w32 (x3 + 1))), (0, x4)] [] (mk D) else (if 0 ≤ (w32 ((w32 ((w32 (10 * x1)) + x3)) - 1)) ∧ (w32 ((w32 ((w32 (10 * x1)) + x3)) - 1)) < 800 then (if 0 ≤ (D 108 (w32 ((w32 ((w32 (10 * x1)) + x3)) - 1))) ∧ (D 108 (w32 ((w32 ((w32 (10 * x1)) + x3)) - 1))) < 26 then (if 0 ≤ x4 ∧ x4 < 26 then (if (D 107 (D 108 (w32 ((w32 ((w32 (10 * x1)) + x3)) - 1)))) = (D 107 x4) then qE 194 4 [(3, 106), (0, x1), (0, (w32 ((w32 (s0 + s1)) + 1))), (0, (w32 (x3 + 1))), (0, x4)] [] (mk D) else qE 194 4 [(3, 106), (0, x1), (0, (w32 ((w32 (s0 + s1)) + 0))), (0, (w32 (x3 + 1))), (0, x4)] [] (mk D)) else none) else none) else none)) := by
  refine Eq.trans (s_add (y := 194) (pc := 34) (nx := 35) (b := 0) rfl) ?_
  refine Eq.trans (s_store (y := 194) (pc := 35) (nx := 36) (a := 0) (b := 2) (ls' := [(3, 106), (0, x1), (0, (w32 (s0 + s1))), (0, x3), (0, x4)]) rfl (Nat.le_of_ble_eq_true rfl) rfl) ?_
  refine Eq.trans (s_load (y := 194) (pc := 36) (nx := 37) (a := 0) (b := 2) (x := (w32 (s0 + s1))) rfl rfl) ?_
  refine Eq.trans (s_load (y := 194) (pc := 37) (nx := 38) (a := 0) (b := 3) (x := x3) rfl rfl) ?_
  refine Eq.trans (s_ifle (y := 194) (pc := 38) (nx := 41) (b := 73) (tg := 73) rfl rfl) (ite_c ?_ ?_)
  · refine Eq.trans (s_push (y := 194) (pc := 73) (nx := 74) (a := 0) (b := 0) rfl) ?_
    refine Eq.trans (s_add (y := 194) (pc := 74) (nx := 75) (b := 0) rfl) ?_
    refine Eq.trans (s_store (y := 194) (pc := 75) (nx := 76) (a := 0) (b := 2) (ls' := [(3, 106), (0, x1), (0, (w32 ((w32 (s0 + s1)) + 0))), (0, x3), (0, x4)]) rfl (Nat.le_of_ble_eq_true rfl) rfl) ?_
    refine Eq.trans (s_iinc (y := 194) (pc := 76) (nx := 79) (a := 3) (b := 1) (x := x3) (ls' := [(3, 106), (0, x1), (0, (w32 ((w32 (s0 + s1)) + 0))), (0, (w32 (x3 + 1))), (0, x4)]) rfl rfl rfl) ?_
    refine Eq.trans (s_goto (y := 194) (pc := 79) (nx := 82) (a := 0) (b := 4) (tg := 4) rfl rfl) ?_
    rfl
  · refine Eq.trans (s_load (y := 194) (pc := 41) (nx := 42) (a := 3) (b := 0) (x := 106) rfl rfl) ?_
    refine Eq.trans (s_get (y := 194) (pc := 42) (nx := 45) (a := 10) (b := 0) (t := 3) (v := 107) rfl (mk_k106 _) rfl (mk_106_0 _)) ?_
    refine Eq.trans (s_load (y := 194) (pc := 45) (nx := 46) (a := 3) (b := 0) (x := 106) rfl rfl) ?_
    refine Eq.trans (s_get (y := 194) (pc := 46) (nx := 49) (a := 10) (b := 1) (t := 3) (v := 108) rfl (mk_k106 _) rfl (mk_106_1 _)) ?_
    refine Eq.trans (s_push (y := 194) (pc := 49) (nx := 51) (a := 0) (b := 10) rfl) ?_
    refine Eq.trans (s_load (y := 194) (pc := 51) (nx := 52) (a := 0) (b := 1) (x := x1) rfl rfl) ?_
    refine Eq.trans (s_mul (y := 194) (pc := 52) (nx := 53) (b := 0) rfl) ?_
    refine Eq.trans (s_load (y := 194) (pc := 53) (nx := 54) (a := 0) (b := 3) (x := x3) rfl rfl) ?_
    refine Eq.trans (s_add (y := 194) (pc := 54) (nx := 55) (b := 0) rfl) ?_
    refine Eq.trans (s_push (y := 194) (pc := 55) (nx := 56) (a := 0) (b := 1) rfl) ?_
    refine Eq.trans (s_sub (y := 194) (pc := 56) (nx := 57) (b := 0) rfl) ?_
    refine Eq.trans (s_ald (y := 194) (pc := 57) (nx := 58) (a := 1) (b := 0) (k := 1) (n := 800) (t := 0) (v := (D 108 (w32 ((w32 ((w32 (10 * x1)) + x3)) - 1)))) rfl (mk_k108 _) rfl rfl (mk_l108 _) (mk_c108 _ _)) (ite_c ?_ rfl)
    refine Eq.trans (s_ald (y := 194) (pc := 58) (nx := 59) (a := 1) (b := 0) (k := 1) (n := 26) (t := 0) (v := (D 107 (D 108 (w32 ((w32 ((w32 (10 * x1)) + x3)) - 1))))) rfl (mk_k107 _) rfl rfl (mk_l107 _) (mk_c107 _ _)) (ite_c ?_ rfl)
    refine Eq.trans (s_load (y := 194) (pc := 59) (nx := 60) (a := 3) (b := 0) (x := 106) rfl rfl) ?_
    refine Eq.trans (s_get (y := 194) (pc := 60) (nx := 63) (a := 10) (b := 0) (t := 3) (v := 107) rfl (mk_k106 _) rfl (mk_106_0 _)) ?_
    refine Eq.trans (s_load (y := 194) (pc := 63) (nx := 65) (a := 0) (b := 4) (x := x4) rfl rfl) ?_
    refine Eq.trans (s_ald (y := 194) (pc := 65) (nx := 66) (a := 1) (b := 0) (k := 1) (n := 26) (t := 0) (v := (D 107 x4)) rfl (mk_k107 _) rfl rfl (mk_l107 _) (mk_c107 _ _)) (ite_c ?_ rfl)
    refine Eq.trans (s_icne (y := 194) (pc := 66) (nx := 69) (b := 73) (tg := 73) rfl rfl) (ite_c ?_ ?_)
    · refine Eq.trans (s_push (y := 194) (pc := 69) (nx := 70) (a := 0) (b := 1) rfl) ?_
      refine Eq.trans (s_goto (y := 194) (pc := 70) (nx := 73) (a := 0) (b := 74) (tg := 74) rfl rfl) ?_
      refine Eq.trans (s_add (y := 194) (pc := 74) (nx := 75) (b := 0) rfl) ?_
      refine Eq.trans (s_store (y := 194) (pc := 75) (nx := 76) (a := 0) (b := 2) (ls' := [(3, 106), (0, x1), (0, (w32 ((w32 (s0 + s1)) + 1))), (0, x3), (0, x4)]) rfl (Nat.le_of_ble_eq_true rfl) rfl) ?_
      refine Eq.trans (s_iinc (y := 194) (pc := 76) (nx := 79) (a := 3) (b := 1) (x := x3) (ls' := [(3, 106), (0, x1), (0, (w32 ((w32 (s0 + s1)) + 1))), (0, (w32 (x3 + 1))), (0, x4)]) rfl rfl rfl) ?_
      refine Eq.trans (s_goto (y := 194) (pc := 79) (nx := 82) (a := 0) (b := 4) (tg := 4) rfl rfl) ?_
      rfl
    · refine Eq.trans (s_push (y := 194) (pc := 73) (nx := 74) (a := 0) (b := 0) rfl) ?_
      refine Eq.trans (s_add (y := 194) (pc := 74) (nx := 75) (b := 0) rfl) ?_
      refine Eq.trans (s_store (y := 194) (pc := 75) (nx := 76) (a := 0) (b := 2) (ls' := [(3, 106), (0, x1), (0, (w32 ((w32 (s0 + s1)) + 0))), (0, x3), (0, x4)]) rfl (Nat.le_of_ble_eq_true rfl) rfl) ?_
      refine Eq.trans (s_iinc (y := 194) (pc := 76) (nx := 79) (a := 3) (b := 1) (x := x3) (ls' := [(3, 106), (0, x1), (0, (w32 ((w32 (s0 + s1)) + 0))), (0, (w32 (x3 + 1))), (0, x4)]) rfl rfl rfl) ?_
      refine Eq.trans (s_goto (y := 194) (pc := 79) (nx := 82) (a := 0) (b := 4) (tg := 4) rfl rfl) ?_
      rfl
theorem r_195 (D : Mem) (x1 : Int) : qR 195 [(3, 106), (0, x1)] (mk D) = qE 195 4 [(3, 106), (0, x1), (0, 0), (0, 0)] [] (mk D) := by
  show qE 195 0 [(3, 106), (0, x1), (9, 0), (9, 0)] [] (mk D) = _
  refine Eq.trans (s_push (y := 195) (pc := 0) (nx := 1) (a := 0) (b := 0) rfl) ?_
  refine Eq.trans (s_store (y := 195) (pc := 1) (nx := 2) (a := 0) (b := 2) (ls' := [(3, 106), (0, x1), (0, 0), (9, 0)]) rfl (Nat.le_of_ble_eq_true rfl) rfl) ?_
  refine Eq.trans (s_push (y := 195) (pc := 2) (nx := 3) (a := 0) (b := 0) rfl) ?_
  refine Eq.trans (s_store (y := 195) (pc := 3) (nx := 4) (a := 0) (b := 3) (ls' := [(3, 106), (0, x1), (0, 0), (0, 0)]) rfl (Nat.le_of_ble_eq_true rfl) rfl) ?_
  rfl
theorem e_195_4 (D : Mem) (x1 : Int) (x2 : Int) (x3 : Int) : qE 195 4 [(3, 106), (0, x1), (0, x2), (0, x3)] [] (mk D) = (if x3 < (D 106 30) then (if 0 ≤ x3 ∧ x3 < 80 then (if (D 125 x3) = x1 then qE 195 4 [(3, 106), (0, x1), (0, x3), (0, (w32 (x3 + 1)))] [] (mk D) else qE 195 4 [(3, 106), (0, x1), (0, x2), (0, (w32 (x3 + 1)))] [] (mk D)) else none) else some ((0, x2), (mk D))) := by
  refine Eq.trans (s_load (y := 195) (pc := 4) (nx := 5) (a := 0) (b := 3) (x := x3) rfl rfl) ?_
  refine Eq.trans (s_load (y := 195) (pc := 5) (nx := 6) (a := 3) (b := 0) (x := 106) rfl rfl) ?_
  refine Eq.trans (s_get (y := 195) (pc := 6) (nx := 9) (a := 10) (b := 30) (t := 0) (v := (D 106 30)) rfl (mk_k106 _) rfl (mk_106_30 _)) ?_
  refine Eq.trans (s_icge (y := 195) (pc := 9) (nx := 12) (b := 34) (tg := 34) rfl rfl) (ite_c ?_ ?_)
  · refine Eq.trans (s_load (y := 195) (pc := 12) (nx := 13) (a := 3) (b := 0) (x := 106) rfl rfl) ?_
    refine Eq.trans (s_get (y := 195) (pc := 13) (nx := 16) (a := 10) (b := 28) (t := 3) (v := 125) rfl (mk_k106 _) rfl (mk_106_28 _)) ?_
    refine Eq.trans (s_load (y := 195) (pc := 16) (nx := 17) (a := 0) (b := 3) (x := x3) rfl rfl) ?_
    refine Eq.trans (s_ald (y := 195) (pc := 17) (nx := 18) (a := 1) (b := 0) (k := 1) (n := 80) (t := 0) (v := (D 125 x3)) rfl (mk_k125 _) rfl rfl (mk_l125 _) (mk_c125 _ _)) (ite_c ?_ rfl)
    refine Eq.trans (s_load (y := 195) (pc := 18) (nx := 19) (a := 0) (b := 1) (x := x1) rfl rfl) ?_
    refine Eq.trans (s_icne (y := 195) (pc := 19) (nx := 22) (b := 26) (tg := 26) rfl rfl) (ite_c ?_ ?_)
    · refine Eq.trans (s_load (y := 195) (pc := 22) (nx := 23) (a := 0) (b := 3) (x := x3) rfl rfl) ?_
      refine Eq.trans (s_goto (y := 195) (pc := 23) (nx := 26) (a := 0) (b := 27) (tg := 27) rfl rfl) ?_
      refine Eq.trans (s_store (y := 195) (pc := 27) (nx := 28) (a := 0) (b := 2) (ls' := [(3, 106), (0, x1), (0, x3), (0, x3)]) rfl (Nat.le_of_ble_eq_true rfl) rfl) ?_
      refine Eq.trans (s_iinc (y := 195) (pc := 28) (nx := 31) (a := 3) (b := 1) (x := x3) (ls' := [(3, 106), (0, x1), (0, x3), (0, (w32 (x3 + 1)))]) rfl rfl rfl) ?_
      refine Eq.trans (s_goto (y := 195) (pc := 31) (nx := 34) (a := 0) (b := 4) (tg := 4) rfl rfl) ?_
      rfl
    · refine Eq.trans (s_load (y := 195) (pc := 26) (nx := 27) (a := 0) (b := 2) (x := x2) rfl rfl) ?_
      refine Eq.trans (s_store (y := 195) (pc := 27) (nx := 28) (a := 0) (b := 2) (ls' := [(3, 106), (0, x1), (0, x2), (0, x3)]) rfl (Nat.le_of_ble_eq_true rfl) rfl) ?_
      refine Eq.trans (s_iinc (y := 195) (pc := 28) (nx := 31) (a := 3) (b := 1) (x := x3) (ls' := [(3, 106), (0, x1), (0, x2), (0, (w32 (x3 + 1)))]) rfl rfl rfl) ?_
      refine Eq.trans (s_goto (y := 195) (pc := 31) (nx := 34) (a := 0) (b := 4) (tg := 4) rfl rfl) ?_
      rfl
  · refine Eq.trans (s_load (y := 195) (pc := 34) (nx := 35) (a := 0) (b := 2) (x := x2) rfl rfl) ?_
    exact s_ret (y := 195) (pc := 35) (nx := 36) (a := 0) rfl (by decide)
theorem r_196 (D : Mem) (x1 : Int) (x2 : Int) (x3 : Int) : qR 196 [(3, 106), (0, x1), (0, x2), (0, x3)] (mk D) = ((qR 171 [(3, 106), (0, x1), (0, x2)] (mk D)).bind fun w => qE 196 6 [(3, 106), (0, x1), (0, x2), (0, x3)] (psh w.1 []) w.2) := by
  show qE 196 0 [(3, 106), (0, x1), (0, x2), (0, x3)] [] (mk D) = _
  refine Eq.trans (s_load (y := 196) (pc := 0) (nx := 1) (a := 3) (b := 0) (x := 106) rfl rfl) ?_
  refine Eq.trans (s_load (y := 196) (pc := 1) (nx := 2) (a := 0) (b := 1) (x := x1) rfl rfl) ?_
  refine Eq.trans (s_load (y := 196) (pc := 2) (nx := 3) (a := 0) (b := 2) (x := x2) rfl rfl) ?_
  exact s_call (y := 196) (pc := 3) (nx := 6) (a := 171) (b := 0) (as := [(3, 106), (0, x1), (0, x2)]) (r := []) rfl (Nat.le_of_ble_eq_true rfl) rfl rfl (Nat.le_of_ble_eq_true rfl) (Nat.le_of_ble_eq_true rfl) (Or.inr ⟨rfl, mk_k106 _⟩)
theorem e_196_6 (D : Mem) (x1 : Int) (x2 : Int) (x3 : Int) : qE 196 6 [(3, 106), (0, x1), (0, x2), (0, x3)] [] (mk D) = ((qR 179 [(3, 106), (0, x2), (0, (-1)), (0, x3)] (mk D)).bind fun w => qE 196 13 [(3, 106), (0, x1), (0, x2), (0, x3)] (psh w.1 []) w.2) := by
  refine Eq.trans (s_load (y := 196) (pc := 6) (nx := 7) (a := 3) (b := 0) (x := 106) rfl rfl) ?_
  refine Eq.trans (s_load (y := 196) (pc := 7) (nx := 8) (a := 0) (b := 2) (x := x2) rfl rfl) ?_
  refine Eq.trans (s_push (y := 196) (pc := 8) (nx := 9) (a := 0) (b := (-1)) rfl) ?_
  refine Eq.trans (s_load (y := 196) (pc := 9) (nx := 10) (a := 0) (b := 3) (x := x3) rfl rfl) ?_
  exact s_call (y := 196) (pc := 10) (nx := 13) (a := 179) (b := 0) (as := [(3, 106), (0, x2), (0, (-1)), (0, x3)]) (r := []) rfl (Nat.le_of_ble_eq_true rfl) rfl rfl (Nat.le_of_ble_eq_true rfl) (Nat.le_of_ble_eq_true rfl) (Or.inr ⟨rfl, mk_k106 _⟩)
theorem e_196_13 (D : Mem) (x1 : Int) (x2 : Int) (x3 : Int) : qE 196 13 [(3, 106), (0, x1), (0, x2), (0, x3)] [] (mk D) = ((qR 195 [(3, 106), (0, x1)] (mk D)).bind fun w => qE 196 22 [(3, 106), (0, x1), (0, x2), (0, x3)] (psh w.1 [(0, (D 106 27))]) w.2) := by
  refine Eq.trans (s_load (y := 196) (pc := 13) (nx := 14) (a := 3) (b := 0) (x := 106) rfl rfl) ?_
  refine Eq.trans (s_get (y := 196) (pc := 14) (nx := 17) (a := 10) (b := 27) (t := 0) (v := (D 106 27)) rfl (mk_k106 _) rfl (mk_106_27 _)) ?_
  refine Eq.trans (s_load (y := 196) (pc := 17) (nx := 18) (a := 3) (b := 0) (x := 106) rfl rfl) ?_
  refine Eq.trans (s_load (y := 196) (pc := 18) (nx := 19) (a := 0) (b := 1) (x := x1) rfl rfl) ?_
  exact s_call (y := 196) (pc := 19) (nx := 22) (a := 195) (b := 0) (as := [(3, 106), (0, x1)]) (r := [(0, (D 106 27))]) rfl (Nat.le_of_ble_eq_true rfl) rfl rfl (Nat.le_of_ble_eq_true rfl) (Nat.le_of_ble_eq_true rfl) (Or.inr ⟨rfl, mk_k106 _⟩)
theorem e_196_22 (D : Mem) (x1 : Int) (x2 : Int) (x3 : Int) (s0 : Int) (s1 : Int) : qE 196 22 [(3, 106), (0, x1), (0, x2), (0, x3)] [(0, s1), (0, s0)] (mk D) = some ((0, (w32 ((w32 (s0 + s1)) + 1))), (mk D)) := by
  refine Eq.trans (s_add (y := 196) (pc := 22) (nx := 23) (b := 0) rfl) ?_
  refine Eq.trans (s_push (y := 196) (pc := 23) (nx := 24) (a := 0) (b := 1) rfl) ?_
  refine Eq.trans (s_add (y := 196) (pc := 24) (nx := 25) (b := 0) rfl) ?_
  exact s_ret (y := 196) (pc := 25) (nx := 26) (a := 0) rfl (by decide)
theorem r_197 (D : Mem) (x1 : Int) (x2 : Int) (x3 : Int) : qR 197 [(3, 106), (0, x1), (0, x2), (0, x3)] (mk D) = (if x2 = 0 then ((qR 194 [(3, 106), (0, x1)] (mk D)).bind fun w => qE 197 9 [(3, 106), (0, x1), (0, x2), (0, x3), (9, 0), (9, 0)] (psh w.1 []) w.2) else (if x2 = 3 then ((qR 171 [(3, 106), (0, x1), (0, 1)] (mk D)).bind fun w => qE 197 21 [(3, 106), (0, x1), (0, x2), (0, x3), (9, 0), (9, 0)] (psh w.1 []) w.2) else qE 197 71 [(3, 106), (0, x1), (0, x2), (0, x3), (9, 0), (9, 0)] [] (mk D))) := by
  show qE 197 0 [(3, 106), (0, x1), (0, x2), (0, x3), (9, 0), (9, 0)] [] (mk D) = _
  refine Eq.trans (s_load (y := 197) (pc := 0) (nx := 1) (a := 0) (b := 2) (x := x2) rfl rfl) ?_
  refine Eq.trans (s_ifne (y := 197) (pc := 1) (nx := 4) (b := 10) (tg := 10) rfl rfl) (ite_c ?_ ?_)
  · refine Eq.trans (s_load (y := 197) (pc := 4) (nx := 5) (a := 3) (b := 0) (x := 106) rfl rfl) ?_
    refine Eq.trans (s_load (y := 197) (pc := 5) (nx := 6) (a := 0) (b := 1) (x := x1) rfl rfl) ?_
    exact s_call (y := 197) (pc := 6) (nx := 9) (a := 194) (b := 0) (as := [(3, 106), (0, x1)]) (r := []) rfl (Nat.le_of_ble_eq_true rfl) rfl rfl (Nat.le_of_ble_eq_true rfl) (Nat.le_of_ble_eq_true rfl) (Or.inr ⟨rfl, mk_k106 _⟩)
  · refine Eq.trans (s_load (y := 197) (pc := 10) (nx := 11) (a := 0) (b := 2) (x := x2) rfl rfl) ?_
    refine Eq.trans (s_push (y := 197) (pc := 11) (nx := 12) (a := 0) (b := 3) rfl) ?_
    refine Eq.trans (s_icne (y := 197) (pc := 12) (nx := 15) (b := 71) (tg := 71) rfl rfl) (ite_c ?_ ?_)
    · refine Eq.trans (s_load (y := 197) (pc := 15) (nx := 16) (a := 3) (b := 0) (x := 106) rfl rfl) ?_
      refine Eq.trans (s_load (y := 197) (pc := 16) (nx := 17) (a := 0) (b := 1) (x := x1) rfl rfl) ?_
      refine Eq.trans (s_push (y := 197) (pc := 17) (nx := 18) (a := 0) (b := 1) rfl) ?_
      exact s_call (y := 197) (pc := 18) (nx := 21) (a := 171) (b := 0) (as := [(3, 106), (0, x1), (0, 1)]) (r := []) rfl (Nat.le_of_ble_eq_true rfl) rfl rfl (Nat.le_of_ble_eq_true rfl) (Nat.le_of_ble_eq_true rfl) (Or.inr ⟨rfl, mk_k106 _⟩)
    · rfl
theorem e_197_9 (D : Mem) (x1 : Int) (x2 : Int) (x3 : Int) (s0 : Int) : qE 197 9 [(3, 106), (0, x1), (0, x2), (0, x3), (9, 0), (9, 0)] [(0, s0)] (mk D) = some ((0, s0), (mk D)) := by
  exact s_ret (y := 197) (pc := 9) (nx := 10) (a := 0) rfl (by decide)
theorem e_197_21 (D : Mem) (x1 : Int) (x2 : Int) (x3 : Int) : qE 197 21 [(3, 106), (0, x1), (0, x2), (0, x3), (9, 0), (9, 0)] [] (mk D) = qE 197 30 [(3, 106), (0, x1), (0, x2), (0, x3), (0, (D 106 27)), (0, 1)] [] (mk D) := by
  refine Eq.trans (s_load (y := 197) (pc := 21) (nx := 22) (a := 3) (b := 0) (x := 106) rfl rfl) ?_
  refine Eq.trans (s_get (y := 197) (pc := 22) (nx := 25) (a := 10) (b := 27) (t := 0) (v := (D 106 27)) rfl (mk_k106 _) rfl (mk_106_27 _)) ?_
  refine Eq.trans (s_store (y := 197) (pc := 25) (nx := 27) (a := 0) (b := 4) (ls' := [(3, 106), (0, x1), (0, x2), (0, x3), (0, (D 106 27)), (9, 0)]) rfl (Nat.le_of_ble_eq_true rfl) rfl) ?_
  refine Eq.trans (s_push (y := 197) (pc := 27) (nx := 28) (a := 0) (b := 1) rfl) ?_
  refine Eq.trans (s_store (y := 197) (pc := 28) (nx := 30) (a := 0) (b := 5) (ls' := [(3, 106), (0, x1), (0, x2), (0, x3), (0, (D 106 27)), (0, 1)]) rfl (Nat.le_of_ble_eq_true rfl) rfl) ?_
  rfl
theorem e_197_30 (D : Mem) (x1 : Int) (x2 : Int) (x3 : Int) (x4 : Int) (x5 : Int) : qE 197 30 [(3, 106), (0, x1), (0, x2), (0, x3), (0, x4), (0, x5)] [] (mk D) = (if x5 ≤ x4 then ((qR 179 [(3, 106), (0, 3), (0, (-1)), (0, x3)] (mk (mU D 106 27 x5))).bind fun w => qE 197 50 [(3, 106), (0, x1), (0, x2), (0, x3), (0, x4), (0, x5)] (psh w.1 []) w.2) else qE 197 71 [(3, 106), (0, x1), (0, x2), (0, x3), (0, x4), (0, x5)] [] (mk D)) := by
  refine Eq.trans (s_load (y := 197) (pc := 30) (nx := 32) (a := 0) (b := 5) (x := x5) rfl rfl) ?_
  refine Eq.trans (s_load (y := 197) (pc := 32) (nx := 34) (a := 0) (b := 4) (x := x4) rfl rfl) ?_
  refine Eq.trans (s_icgt (y := 197) (pc := 34) (nx := 37) (b := 71) (tg := 71) rfl rfl) (ite_c ?_ ?_)
  · refine Eq.trans (s_load (y := 197) (pc := 37) (nx := 38) (a := 3) (b := 0) (x := 106) rfl rfl) ?_
    refine Eq.trans (s_load (y := 197) (pc := 38) (nx := 40) (a := 0) (b := 5) (x := x5) rfl rfl) ?_
    refine Eq.trans (s_put (y := 197) (pc := 40) (nx := 43) (a := 10) (b := 27) (t := 0) (v := x5) (μ' := mk (mU D 106 27 x5)) rfl (mk_k106 _) rfl (mu_106_27 _ _)) ?_
    refine Eq.trans (s_load (y := 197) (pc := 43) (nx := 44) (a := 3) (b := 0) (x := 106) rfl rfl) ?_
    refine Eq.trans (s_push (y := 197) (pc := 44) (nx := 45) (a := 0) (b := 3) rfl) ?_
    refine Eq.trans (s_push (y := 197) (pc := 45) (nx := 46) (a := 0) (b := (-1)) rfl) ?_
    refine Eq.trans (s_load (y := 197) (pc := 46) (nx := 47) (a := 0) (b := 3) (x := x3) rfl rfl) ?_
    exact s_call (y := 197) (pc := 47) (nx := 50) (a := 179) (b := 0) (as := [(3, 106), (0, 3), (0, (-1)), (0, x3)]) (r := []) rfl (Nat.le_of_ble_eq_true rfl) rfl rfl (Nat.le_of_ble_eq_true rfl) (Nat.le_of_ble_eq_true rfl) (Or.inr ⟨rfl, mk_k106 _⟩)
  · rfl
theorem e_197_50 (D : Mem) (x1 : Int) (x2 : Int) (x3 : Int) (x4 : Int) (x5 : Int) : qE 197 50 [(3, 106), (0, x1), (0, x2), (0, x3), (0, x4), (0, x5)] [] (mk D) = (if 0 ≤ (0 : Int) ∧ (0 : Int) < 80 then (if (D 125 (0 : Int)) = x1 then some ((0, (w32 (x5 + 1))), (mk D)) else qE 197 30 [(3, 106), (0, x1), (0, x2), (0, x3), (0, x4), (0, (w32 (x5 + 1)))] [] (mk D)) else none) := by
  refine Eq.trans (s_load (y := 197) (pc := 50) (nx := 51) (a := 3) (b := 0) (x := 106) rfl rfl) ?_
  refine Eq.trans (s_get (y := 197) (pc := 51) (nx := 54) (a := 10) (b := 28) (t := 3) (v := 125) rfl (mk_k106 _) rfl (mk_106_28 _)) ?_
  refine Eq.trans (s_push (y := 197) (pc := 54) (nx := 55) (a := 0) (b := 0) rfl) ?_
  refine Eq.trans (s_ald (y := 197) (pc := 55) (nx := 56) (a := 1) (b := 0) (k := 1) (n := 80) (t := 0) (v := (D 125 (0 : Int))) rfl (mk_k125 _) rfl rfl (mk_l125 _) (mk_c125 _ _)) (ite_c ?_ rfl)
  refine Eq.trans (s_load (y := 197) (pc := 56) (nx := 57) (a := 0) (b := 1) (x := x1) rfl rfl) ?_
  refine Eq.trans (s_icne (y := 197) (pc := 57) (nx := 60) (b := 65) (tg := 65) rfl rfl) (ite_c ?_ ?_)
  · refine Eq.trans (s_load (y := 197) (pc := 60) (nx := 62) (a := 0) (b := 5) (x := x5) rfl rfl) ?_
    refine Eq.trans (s_push (y := 197) (pc := 62) (nx := 63) (a := 0) (b := 1) rfl) ?_
    refine Eq.trans (s_add (y := 197) (pc := 63) (nx := 64) (b := 0) rfl) ?_
    exact s_ret (y := 197) (pc := 64) (nx := 65) (a := 0) rfl (by decide)
  · refine Eq.trans (s_iinc (y := 197) (pc := 65) (nx := 68) (a := 5) (b := 1) (x := x5) (ls' := [(3, 106), (0, x1), (0, x2), (0, x3), (0, x4), (0, (w32 (x5 + 1)))]) rfl rfl rfl) ?_
    refine Eq.trans (s_goto (y := 197) (pc := 68) (nx := 71) (a := 0) (b := 30) (tg := 30) rfl rfl) ?_
    rfl
theorem e_197_71 (D : Mem) (x1 : Int) (x2 : Int) (x3 : Int) (v4 : PV) (v5 : PV) : qE 197 71 [(3, 106), (0, x1), (0, x2), (0, x3), v4, v5] [] (mk D) = (if x2 = 3 then ((qR 196 [(3, 106), (0, x1), (0, 1), (0, x3)] (mk D)).bind fun w => qE 197 87 [(3, 106), (0, x1), (0, x2), (0, x3), v4, v5] (psh w.1 []) w.2) else ((qR 196 [(3, 106), (0, x1), (0, x2), (0, x3)] (mk D)).bind fun w => qE 197 87 [(3, 106), (0, x1), (0, x2), (0, x3), v4, v5] (psh w.1 []) w.2)) := by
  refine Eq.trans (s_load (y := 197) (pc := 71) (nx := 72) (a := 3) (b := 0) (x := 106) rfl rfl) ?_
  refine Eq.trans (s_load (y := 197) (pc := 72) (nx := 73) (a := 0) (b := 1) (x := x1) rfl rfl) ?_
  refine Eq.trans (s_load (y := 197) (pc := 73) (nx := 74) (a := 0) (b := 2) (x := x2) rfl rfl) ?_
  refine Eq.trans (s_push (y := 197) (pc := 74) (nx := 75) (a := 0) (b := 3) rfl) ?_
  refine Eq.trans (s_icne (y := 197) (pc := 75) (nx := 78) (b := 82) (tg := 82) rfl rfl) (ite_c ?_ ?_)
  · refine Eq.trans (s_push (y := 197) (pc := 78) (nx := 79) (a := 0) (b := 1) rfl) ?_
    refine Eq.trans (s_goto (y := 197) (pc := 79) (nx := 82) (a := 0) (b := 83) (tg := 83) rfl rfl) ?_
    refine Eq.trans (s_load (y := 197) (pc := 83) (nx := 84) (a := 0) (b := 3) (x := x3) rfl rfl) ?_
    exact s_call (y := 197) (pc := 84) (nx := 87) (a := 196) (b := 0) (as := [(3, 106), (0, x1), (0, 1), (0, x3)]) (r := []) rfl (Nat.le_of_ble_eq_true rfl) rfl rfl (Nat.le_of_ble_eq_true rfl) (Nat.le_of_ble_eq_true rfl) (Or.inr ⟨rfl, mk_k106 _⟩)
  · refine Eq.trans (s_load (y := 197) (pc := 82) (nx := 83) (a := 0) (b := 2) (x := x2) rfl rfl) ?_
    refine Eq.trans (s_load (y := 197) (pc := 83) (nx := 84) (a := 0) (b := 3) (x := x3) rfl rfl) ?_
    exact s_call (y := 197) (pc := 84) (nx := 87) (a := 196) (b := 0) (as := [(3, 106), (0, x1), (0, x2), (0, x3)]) (r := []) rfl (Nat.le_of_ble_eq_true rfl) rfl rfl (Nat.le_of_ble_eq_true rfl) (Nat.le_of_ble_eq_true rfl) (Or.inr ⟨rfl, mk_k106 _⟩)
theorem e_197_87 (D : Mem) (x1 : Int) (x2 : Int) (x3 : Int) (v4 : PV) (v5 : PV) (s0 : Int) : qE 197 87 [(3, 106), (0, x1), (0, x2), (0, x3), v4, v5] [(0, s0)] (mk D) = some ((0, s0), (mk D)) := by
  exact s_ret (y := 197) (pc := 87) (nx := 88) (a := 0) rfl (by decide)
theorem r_198 (D : Mem) (x1 : Int) (x2 : Int) : qR 198 [(3, 106), (0, x1), (0, x2)] (mk D) = ((qR 143 [(3, 106), (0, x1)] (mk D)).bind fun w => qE 198 5 [(3, 106), (0, x1), (0, x2)] (psh w.1 []) w.2) := by
  show qE 198 0 [(3, 106), (0, x1), (0, x2)] [] (mk D) = _
  refine Eq.trans (s_load (y := 198) (pc := 0) (nx := 1) (a := 3) (b := 0) (x := 106) rfl rfl) ?_
  refine Eq.trans (s_load (y := 198) (pc := 1) (nx := 2) (a := 0) (b := 1) (x := x1) rfl rfl) ?_
  exact s_call (y := 198) (pc := 2) (nx := 5) (a := 143) (b := 0) (as := [(3, 106), (0, x1)]) (r := []) rfl (Nat.le_of_ble_eq_true rfl) rfl rfl (Nat.le_of_ble_eq_true rfl) (Nat.le_of_ble_eq_true rfl) (Or.inr ⟨rfl, mk_k106 _⟩)
theorem e_198_5 (D : Mem) (x1 : Int) (x2 : Int) (s0 : Int) : qE 198 5 [(3, 106), (0, x1), (0, x2)] [(0, s0)] (mk D) = (if s0 = 0 then some ((0, (-1)), (mk D)) else ((qR 142 [(0, x2), (0, 0), (0, 3)] (mk D)).bind fun w => qE 198 14 [(3, 106), (0, x1), (0, x2)] (psh w.1 []) w.2)) := by
  refine Eq.trans (s_ifeq (y := 198) (pc := 5) (nx := 8) (b := 17) (tg := 17) rfl rfl) (ite_c ?_ ?_)
  · refine Eq.trans (s_push (y := 198) (pc := 17) (nx := 18) (a := 0) (b := (-1)) rfl) ?_
    exact s_ret (y := 198) (pc := 18) (nx := 19) (a := 0) rfl (by decide)
  · refine Eq.trans (s_load (y := 198) (pc := 8) (nx := 9) (a := 0) (b := 2) (x := x2) rfl rfl) ?_
    refine Eq.trans (s_push (y := 198) (pc := 9) (nx := 10) (a := 0) (b := 0) rfl) ?_
    refine Eq.trans (s_push (y := 198) (pc := 10) (nx := 11) (a := 0) (b := 3) rfl) ?_
    exact s_call (y := 198) (pc := 11) (nx := 14) (a := 142) (b := 0) (as := [(0, x2), (0, 0), (0, 3)]) (r := []) rfl (Nat.le_of_ble_eq_true rfl) rfl rfl (Nat.le_of_ble_eq_true rfl) (Nat.le_of_ble_eq_true rfl) (Or.inl rfl)
theorem e_198_14 (D : Mem) (x1 : Int) (x2 : Int) (s0 : Int) : qE 198 14 [(3, 106), (0, x1), (0, x2)] [(0, s0)] (mk D) = (if s0 = 0 then some ((0, (-1)), (mk D)) else (if 0 ≤ x1 ∧ x1 < 80 then (if (D 112 x1) = 0 then some ((0, (-4)), (mk D)) else ((qR 159 [(3, 106)] (mk D)).bind fun w => qE 198 35 [(3, 106), (0, x1), (0, x2)] (psh w.1 [(0, x2), (0, x1), (3, 106)]) w.2)) else none)) := by
  refine Eq.trans (s_ifne (y := 198) (pc := 14) (nx := 17) (b := 19) (tg := 19) rfl rfl) (ite_c ?_ ?_)
  · refine Eq.trans (s_push (y := 198) (pc := 17) (nx := 18) (a := 0) (b := (-1)) rfl) ?_
    exact s_ret (y := 198) (pc := 18) (nx := 19) (a := 0) rfl (by decide)
  · refine Eq.trans (s_load (y := 198) (pc := 19) (nx := 20) (a := 3) (b := 0) (x := 106) rfl rfl) ?_
    refine Eq.trans (s_get (y := 198) (pc := 20) (nx := 23) (a := 10) (b := 5) (t := 3) (v := 112) rfl (mk_k106 _) rfl (mk_106_5 _)) ?_
    refine Eq.trans (s_load (y := 198) (pc := 23) (nx := 24) (a := 0) (b := 1) (x := x1) rfl rfl) ?_
    refine Eq.trans (s_ald (y := 198) (pc := 24) (nx := 25) (a := 6) (b := 0) (k := 6) (n := 80) (t := 0) (v := (D 112 x1)) rfl (mk_k112 _) rfl rfl (mk_l112 _) (mk_c112 _ _)) (ite_c ?_ rfl)
    refine Eq.trans (s_ifeq (y := 198) (pc := 25) (nx := 28) (b := 41) (tg := 41) rfl rfl) (ite_c ?_ ?_)
    · refine Eq.trans (s_push (y := 198) (pc := 41) (nx := 43) (a := 0) (b := (-4)) rfl) ?_
      exact s_ret (y := 198) (pc := 43) (nx := 44) (a := 0) rfl (by decide)
    · refine Eq.trans (s_load (y := 198) (pc := 28) (nx := 29) (a := 3) (b := 0) (x := 106) rfl rfl) ?_
      refine Eq.trans (s_load (y := 198) (pc := 29) (nx := 30) (a := 0) (b := 1) (x := x1) rfl rfl) ?_
      refine Eq.trans (s_load (y := 198) (pc := 30) (nx := 31) (a := 0) (b := 2) (x := x2) rfl rfl) ?_
      refine Eq.trans (s_load (y := 198) (pc := 31) (nx := 32) (a := 3) (b := 0) (x := 106) rfl rfl) ?_
      exact s_call (y := 198) (pc := 32) (nx := 35) (a := 159) (b := 0) (as := [(3, 106)]) (r := [(0, x2), (0, x1), (3, 106)]) rfl (Nat.le_of_ble_eq_true rfl) rfl rfl (Nat.le_of_ble_eq_true rfl) (Nat.le_of_ble_eq_true rfl) (Or.inr ⟨rfl, mk_k106 _⟩)
theorem e_198_35 (D : Mem) (x1 : Int) (x2 : Int) (s1 : Int) (s2 : Int) (s3 : Int) : qE 198 35 [(3, 106), (0, x1), (0, x2)] [(0, s3), (0, s2), (0, s1), (3, 106)] (mk D) = ((qR 197 [(3, 106), (0, s1), (0, s2), (0, s3)] (mk D)).bind fun w => qE 198 38 [(3, 106), (0, x1), (0, x2)] (psh w.1 []) w.2) := by
  exact s_call (y := 198) (pc := 35) (nx := 38) (a := 197) (b := 0) (as := [(3, 106), (0, s1), (0, s2), (0, s3)]) (r := []) rfl (Nat.le_of_ble_eq_true rfl) rfl rfl (Nat.le_of_ble_eq_true rfl) (Nat.le_of_ble_eq_true rfl) (Or.inr ⟨rfl, mk_k106 _⟩)
theorem e_198_38 (D : Mem) (x1 : Int) (x2 : Int) (s0 : Int) : qE 198 38 [(3, 106), (0, x1), (0, x2)] [(0, s0)] (mk D) = some ((0, s0), (mk D)) := by
  refine Eq.trans (s_goto (y := 198) (pc := 38) (nx := 41) (a := 0) (b := 43) (tg := 43) rfl rfl) ?_
  exact s_ret (y := 198) (pc := 43) (nx := 44) (a := 0) rfl (by decide)
theorem r_199 (D : Mem) (x1 : Int) (x2 : Int) : qR 199 [(3, 106), (0, x1), (0, x2)] (mk D) = qE 199 6 [(3, 106), (0, x1), (0, x2), (0, 2147483647), (0, 0), (9, 0)] [] (mk D) := by
  show qE 199 0 [(3, 106), (0, x1), (0, x2), (9, 0), (9, 0), (9, 0)] [] (mk D) = _
  refine Eq.trans (s_push (y := 199) (pc := 0) (nx := 2) (a := 0) (b := 2147483647) rfl) ?_
  refine Eq.trans (s_store (y := 199) (pc := 2) (nx := 3) (a := 0) (b := 3) (ls' := [(3, 106), (0, x1), (0, x2), (0, 2147483647), (9, 0), (9, 0)]) rfl (Nat.le_of_ble_eq_true rfl) rfl) ?_
  refine Eq.trans (s_push (y := 199) (pc := 3) (nx := 4) (a := 0) (b := 0) rfl) ?_
  refine Eq.trans (s_store (y := 199) (pc := 4) (nx := 6) (a := 0) (b := 4) (ls' := [(3, 106), (0, x1), (0, x2), (0, 2147483647), (0, 0), (9, 0)]) rfl (Nat.le_of_ble_eq_true rfl) rfl) ?_
  rfl
theorem e_199_6 (D : Mem) (x1 : Int) (x2 : Int) (x3 : Int) (x4 : Int) (v5 : PV) : qE 199 6 [(3, 106), (0, x1), (0, x2), (0, x3), (0, x4), v5] [] (mk D) = (if x4 < 4 then (if 0 ≤ (w32 ((w32 (4 * x1)) + x4)) ∧ (w32 ((w32 (4 * x1)) + x4)) < 244 then (if x4 = x2 then qE 199 34 [(3, 106), (0, x1), (0, x2), (0, x3), (0, x4), v5] [(0, 0), (0, (D 127 (w32 ((w32 (4 * x1)) + x4))))] (mk D) else qE 199 34 [(3, 106), (0, x1), (0, x2), (0, x3), (0, x4), v5] [(0, 1), (0, (D 127 (w32 ((w32 (4 * x1)) + x4))))] (mk D)) else none) else some ((0, x3), (mk D))) := by
  refine Eq.trans (s_load (y := 199) (pc := 6) (nx := 8) (a := 0) (b := 4) (x := x4) rfl rfl) ?_
  refine Eq.trans (s_push (y := 199) (pc := 8) (nx := 9) (a := 0) (b := 4) rfl) ?_
  refine Eq.trans (s_icge (y := 199) (pc := 9) (nx := 12) (b := 56) (tg := 56) rfl rfl) (ite_c ?_ ?_)
  · refine Eq.trans (s_load (y := 199) (pc := 12) (nx := 13) (a := 3) (b := 0) (x := 106) rfl rfl) ?_
    refine Eq.trans (s_get (y := 199) (pc := 13) (nx := 16) (a := 10) (b := 31) (t := 3) (v := 127) rfl (mk_k106 _) rfl (mk_106_31 _)) ?_
    refine Eq.trans (s_push (y := 199) (pc := 16) (nx := 17) (a := 0) (b := 4) rfl) ?_
    refine Eq.trans (s_load (y := 199) (pc := 17) (nx := 18) (a := 0) (b := 1) (x := x1) rfl rfl) ?_
    refine Eq.trans (s_mul (y := 199) (pc := 18) (nx := 19) (b := 0) rfl) ?_
    refine Eq.trans (s_load (y := 199) (pc := 19) (nx := 21) (a := 0) (b := 4) (x := x4) rfl rfl) ?_
    refine Eq.trans (s_add (y := 199) (pc := 21) (nx := 22) (b := 0) rfl) ?_
    refine Eq.trans (s_ald (y := 199) (pc := 22) (nx := 23) (a := 1) (b := 0) (k := 1) (n := 244) (t := 0) (v := (D 127 (w32 ((w32 (4 * x1)) + x4)))) rfl (mk_k127 _) rfl rfl (mk_l127 _) (mk_c127 _ _)) (ite_c ?_ rfl)
    refine Eq.trans (s_load (y := 199) (pc := 23) (nx := 25) (a := 0) (b := 4) (x := x4) rfl rfl) ?_
    refine Eq.trans (s_load (y := 199) (pc := 25) (nx := 26) (a := 0) (b := 2) (x := x2) rfl rfl) ?_
    refine Eq.trans (s_icne (y := 199) (pc := 26) (nx := 29) (b := 33) (tg := 33) rfl rfl) (ite_c ?_ ?_)
    · refine Eq.trans (s_push (y := 199) (pc := 29) (nx := 30) (a := 0) (b := 0) rfl) ?_
      refine Eq.trans (s_goto (y := 199) (pc := 30) (nx := 33) (a := 0) (b := 34) (tg := 34) rfl rfl) ?_
      rfl
    · refine Eq.trans (s_push (y := 199) (pc := 33) (nx := 34) (a := 0) (b := 1) rfl) ?_
      rfl
  · refine Eq.trans (s_load (y := 199) (pc := 56) (nx := 57) (a := 0) (b := 3) (x := x3) rfl rfl) ?_
    exact s_ret (y := 199) (pc := 57) (nx := 58) (a := 0) rfl (by decide)
theorem e_199_34 (D : Mem) (x1 : Int) (x2 : Int) (x3 : Int) (x4 : Int) (v5 : PV) (s0 : Int) (s1 : Int) : qE 199 34 [(3, 106), (0, x1), (0, x2), (0, x3), (0, x4), v5] [(0, s1), (0, s0)] (mk D) = (if (w32 (s0 + s1)) < x3 then qE 199 6 [(3, 106), (0, x1), (0, x2), (0, (w32 (s0 + s1))), (0, (w32 (x4 + 1))), (0, (w32 (s0 + s1)))] [] (mk D) else qE 199 6 [(3, 106), (0, x1), (0, x2), (0, x3), (0, (w32 (x4 + 1))), (0, (w32 (s0 + s1)))] [] (mk D)) := by
  refine Eq.trans (s_add (y := 199) (pc := 34) (nx := 35) (b := 0) rfl) ?_
  refine Eq.trans (s_store (y := 199) (pc := 35) (nx := 37) (a := 0) (b := 5) (ls' := [(3, 106), (0, x1), (0, x2), (0, x3), (0, x4), (0, (w32 (s0 + s1)))]) rfl (Nat.le_of_ble_eq_true rfl) rfl) ?_
  refine Eq.trans (s_load (y := 199) (pc := 37) (nx := 39) (a := 0) (b := 5) (x := (w32 (s0 + s1))) rfl rfl) ?_
  refine Eq.trans (s_load (y := 199) (pc := 39) (nx := 40) (a := 0) (b := 3) (x := x3) rfl rfl) ?_
  refine Eq.trans (s_icge (y := 199) (pc := 40) (nx := 43) (b := 48) (tg := 48) rfl rfl) (ite_c ?_ ?_)
  · refine Eq.trans (s_load (y := 199) (pc := 43) (nx := 45) (a := 0) (b := 5) (x := (w32 (s0 + s1))) rfl rfl) ?_
    refine Eq.trans (s_goto (y := 199) (pc := 45) (nx := 48) (a := 0) (b := 49) (tg := 49) rfl rfl) ?_
    refine Eq.trans (s_store (y := 199) (pc := 49) (nx := 50) (a := 0) (b := 3) (ls' := [(3, 106), (0, x1), (0, x2), (0, (w32 (s0 + s1))), (0, x4), (0, (w32 (s0 + s1)))]) rfl (Nat.le_of_ble_eq_true rfl) rfl) ?_
    refine Eq.trans (s_iinc (y := 199) (pc := 50) (nx := 53) (a := 4) (b := 1) (x := x4) (ls' := [(3, 106), (0, x1), (0, x2), (0, (w32 (s0 + s1))), (0, (w32 (x4 + 1))), (0, (w32 (s0 + s1)))]) rfl rfl rfl) ?_
    refine Eq.trans (s_goto (y := 199) (pc := 53) (nx := 56) (a := 0) (b := 6) (tg := 6) rfl rfl) ?_
    rfl
  · refine Eq.trans (s_load (y := 199) (pc := 48) (nx := 49) (a := 0) (b := 3) (x := x3) rfl rfl) ?_
    refine Eq.trans (s_store (y := 199) (pc := 49) (nx := 50) (a := 0) (b := 3) (ls' := [(3, 106), (0, x1), (0, x2), (0, x3), (0, x4), (0, (w32 (s0 + s1)))]) rfl (Nat.le_of_ble_eq_true rfl) rfl) ?_
    refine Eq.trans (s_iinc (y := 199) (pc := 50) (nx := 53) (a := 4) (b := 1) (x := x4) (ls' := [(3, 106), (0, x1), (0, x2), (0, x3), (0, (w32 (x4 + 1))), (0, (w32 (s0 + s1)))]) rfl rfl rfl) ?_
    refine Eq.trans (s_goto (y := 199) (pc := 53) (nx := 56) (a := 0) (b := 6) (tg := 6) rfl rfl) ?_
    rfl
theorem r_200 (D : Mem) : qR 200 [(3, 106)] (mk D) = (if (D 106 16) ≤ 0 then qE 200 15 [(3, 106), (0, 0), (0, 0), (9, 0), (9, 0)] [] (mk D) else qE 200 15 [(3, 106), (0, 1), (0, 0), (9, 0), (9, 0)] [] (mk D)) := by
  show qE 200 0 [(3, 106), (9, 0), (9, 0), (9, 0), (9, 0)] [] (mk D) = _
  refine Eq.trans (s_load (y := 200) (pc := 0) (nx := 1) (a := 3) (b := 0) (x := 106) rfl rfl) ?_
  refine Eq.trans (s_get (y := 200) (pc := 1) (nx := 4) (a := 10) (b := 16) (t := 0) (v := (D 106 16)) rfl (mk_k106 _) rfl (mk_106_16 _)) ?_
  refine Eq.trans (s_ifle (y := 200) (pc := 4) (nx := 7) (b := 11) (tg := 11) rfl rfl) (ite_c ?_ ?_)
  · refine Eq.trans (s_push (y := 200) (pc := 11) (nx := 12) (a := 0) (b := 0) rfl) ?_
    refine Eq.trans (s_store (y := 200) (pc := 12) (nx := 13) (a := 0) (b := 1) (ls' := [(3, 106), (0, 0), (9, 0), (9, 0), (9, 0)]) rfl (Nat.le_of_ble_eq_true rfl) rfl) ?_
    refine Eq.trans (s_push (y := 200) (pc := 13) (nx := 14) (a := 0) (b := 0) rfl) ?_
    refine Eq.trans (s_store (y := 200) (pc := 14) (nx := 15) (a := 0) (b := 2) (ls' := [(3, 106), (0, 0), (0, 0), (9, 0), (9, 0)]) rfl (Nat.le_of_ble_eq_true rfl) rfl) ?_
    rfl
  · refine Eq.trans (s_push (y := 200) (pc := 7) (nx := 8) (a := 0) (b := 1) rfl) ?_
    refine Eq.trans (s_goto (y := 200) (pc := 8) (nx := 11) (a := 0) (b := 12) (tg := 12) rfl rfl) ?_
    refine Eq.trans (s_store (y := 200) (pc := 12) (nx := 13) (a := 0) (b := 1) (ls' := [(3, 106), (0, 1), (9, 0), (9, 0), (9, 0)]) rfl (Nat.le_of_ble_eq_true rfl) rfl) ?_
    refine Eq.trans (s_push (y := 200) (pc := 13) (nx := 14) (a := 0) (b := 0) rfl) ?_
    refine Eq.trans (s_store (y := 200) (pc := 14) (nx := 15) (a := 0) (b := 2) (ls' := [(3, 106), (0, 1), (0, 0), (9, 0), (9, 0)]) rfl (Nat.le_of_ble_eq_true rfl) rfl) ?_
    rfl
theorem e_200_15 (D : Mem) (x1 : Int) (x2 : Int) : qE 200 15 [(3, 106), (0, x1), (0, x2), (9, 0), (9, 0)] [] (mk D) = (if x2 < (D 106 16) then (if x1 = 0 then qE 200 15 [(3, 106), (0, 0), (0, (w32 (x2 + 1))), (9, 0), (9, 0)] [] (mk D) else (if 0 ≤ x2 ∧ x2 < 60 then (if 0 ≤ (D 117 x2) ∧ (D 117 x2) < 80 then (if (D 112 (D 117 x2)) = 0 then qE 200 15 [(3, 106), (0, 0), (0, (w32 (x2 + 1))), (9, 0), (9, 0)] [] (mk D) else qE 200 15 [(3, 106), (0, 1), (0, (w32 (x2 + 1))), (9, 0), (9, 0)] [] (mk D)) else none) else none)) else (if x1 = 0 then some ((0, 0), (mk D)) else qE 200 66 [(3, 106), (0, x1), (0, (w32 ((D 106 16) - 1))), (9, 0), (9, 0)] [] (mk D))) := by
  refine Eq.trans (s_load (y := 200) (pc := 15) (nx := 16) (a := 0) (b := 2) (x := x2) rfl rfl) ?_
  refine Eq.trans (s_load (y := 200) (pc := 16) (nx := 17) (a := 3) (b := 0) (x := 106) rfl rfl) ?_
  refine Eq.trans (s_get (y := 200) (pc := 17) (nx := 20) (a := 10) (b := 16) (t := 0) (v := (D 106 16)) rfl (mk_k106 _) rfl (mk_106_16 _)) ?_
  refine Eq.trans (s_icge (y := 200) (pc := 20) (nx := 23) (b := 53) (tg := 53) rfl rfl) (ite_c ?_ ?_)
  · refine Eq.trans (s_load (y := 200) (pc := 23) (nx := 24) (a := 0) (b := 1) (x := x1) rfl rfl) ?_
    refine Eq.trans (s_ifeq (y := 200) (pc := 24) (nx := 27) (b := 45) (tg := 45) rfl rfl) (ite_c ?_ ?_)
    · refine Eq.trans (s_push (y := 200) (pc := 45) (nx := 46) (a := 0) (b := 0) rfl) ?_
      refine Eq.trans (s_store (y := 200) (pc := 46) (nx := 47) (a := 0) (b := 1) (ls' := [(3, 106), (0, 0), (0, x2), (9, 0), (9, 0)]) rfl (Nat.le_of_ble_eq_true rfl) rfl) ?_
      refine Eq.trans (s_iinc (y := 200) (pc := 47) (nx := 50) (a := 2) (b := 1) (x := x2) (ls' := [(3, 106), (0, 0), (0, (w32 (x2 + 1))), (9, 0), (9, 0)]) rfl rfl rfl) ?_
      refine Eq.trans (s_goto (y := 200) (pc := 50) (nx := 53) (a := 0) (b := 15) (tg := 15) rfl rfl) ?_
      rfl
    · refine Eq.trans (s_load (y := 200) (pc := 27) (nx := 28) (a := 3) (b := 0) (x := 106) rfl rfl) ?_
      refine Eq.trans (s_get (y := 200) (pc := 28) (nx := 31) (a := 10) (b := 5) (t := 3) (v := 112) rfl (mk_k106 _) rfl (mk_106_5 _)) ?_
      refine Eq.trans (s_load (y := 200) (pc := 31) (nx := 32) (a := 3) (b := 0) (x := 106) rfl rfl) ?_
      refine Eq.trans (s_get (y := 200) (pc := 32) (nx := 35) (a := 10) (b := 15) (t := 3) (v := 117) rfl (mk_k106 _) rfl (mk_106_15 _)) ?_
      refine Eq.trans (s_load (y := 200) (pc := 35) (nx := 36) (a := 0) (b := 2) (x := x2) rfl rfl) ?_
      refine Eq.trans (s_ald (y := 200) (pc := 36) (nx := 37) (a := 1) (b := 0) (k := 1) (n := 60) (t := 0) (v := (D 117 x2)) rfl (mk_k117 _) rfl rfl (mk_l117 _) (mk_c117 _ _)) (ite_c ?_ rfl)
      refine Eq.trans (s_ald (y := 200) (pc := 37) (nx := 38) (a := 6) (b := 0) (k := 6) (n := 80) (t := 0) (v := (D 112 (D 117 x2))) rfl (mk_k112 _) rfl rfl (mk_l112 _) (mk_c112 _ _)) (ite_c ?_ rfl)
      refine Eq.trans (s_ifeq (y := 200) (pc := 38) (nx := 41) (b := 45) (tg := 45) rfl rfl) (ite_c ?_ ?_)
      · refine Eq.trans (s_push (y := 200) (pc := 45) (nx := 46) (a := 0) (b := 0) rfl) ?_
        refine Eq.trans (s_store (y := 200) (pc := 46) (nx := 47) (a := 0) (b := 1) (ls' := [(3, 106), (0, 0), (0, x2), (9, 0), (9, 0)]) rfl (Nat.le_of_ble_eq_true rfl) rfl) ?_
        refine Eq.trans (s_iinc (y := 200) (pc := 47) (nx := 50) (a := 2) (b := 1) (x := x2) (ls' := [(3, 106), (0, 0), (0, (w32 (x2 + 1))), (9, 0), (9, 0)]) rfl rfl rfl) ?_
        refine Eq.trans (s_goto (y := 200) (pc := 50) (nx := 53) (a := 0) (b := 15) (tg := 15) rfl rfl) ?_
        rfl
      · refine Eq.trans (s_push (y := 200) (pc := 41) (nx := 42) (a := 0) (b := 1) rfl) ?_
        refine Eq.trans (s_goto (y := 200) (pc := 42) (nx := 45) (a := 0) (b := 46) (tg := 46) rfl rfl) ?_
        refine Eq.trans (s_store (y := 200) (pc := 46) (nx := 47) (a := 0) (b := 1) (ls' := [(3, 106), (0, 1), (0, x2), (9, 0), (9, 0)]) rfl (Nat.le_of_ble_eq_true rfl) rfl) ?_
        refine Eq.trans (s_iinc (y := 200) (pc := 47) (nx := 50) (a := 2) (b := 1) (x := x2) (ls' := [(3, 106), (0, 1), (0, (w32 (x2 + 1))), (9, 0), (9, 0)]) rfl rfl rfl) ?_
        refine Eq.trans (s_goto (y := 200) (pc := 50) (nx := 53) (a := 0) (b := 15) (tg := 15) rfl rfl) ?_
        rfl
  · refine Eq.trans (s_load (y := 200) (pc := 53) (nx := 54) (a := 0) (b := 1) (x := x1) rfl rfl) ?_
    refine Eq.trans (s_ifne (y := 200) (pc := 54) (nx := 57) (b := 59) (tg := 59) rfl rfl) (ite_c ?_ ?_)
    · refine Eq.trans (s_push (y := 200) (pc := 57) (nx := 58) (a := 0) (b := 0) rfl) ?_
      exact s_retz (y := 200) (pc := 58) (nx := 59) rfl (by decide)
    · refine Eq.trans (s_load (y := 200) (pc := 59) (nx := 60) (a := 3) (b := 0) (x := 106) rfl rfl) ?_
      refine Eq.trans (s_get (y := 200) (pc := 60) (nx := 63) (a := 10) (b := 16) (t := 0) (v := (D 106 16)) rfl (mk_k106 _) rfl (mk_106_16 _)) ?_
      refine Eq.trans (s_push (y := 200) (pc := 63) (nx := 64) (a := 0) (b := 1) rfl) ?_
      refine Eq.trans (s_sub (y := 200) (pc := 64) (nx := 65) (b := 0) rfl) ?_
      refine Eq.trans (s_store (y := 200) (pc := 65) (nx := 66) (a := 0) (b := 2) (ls' := [(3, 106), (0, x1), (0, (w32 ((D 106 16) - 1))), (9, 0), (9, 0)]) rfl (Nat.le_of_ble_eq_true rfl) rfl) ?_
      rfl
theorem e_200_66 (D : Mem) (x1 : Int) (x2 : Int) (v3 : PV) (v4 : PV) : qE 200 66 [(3, 106), (0, x1), (0, x2), v3, v4] [] (mk D) = (if x2 < 0 then some ((0, 1), (mk D)) else qE 200 72 [(3, 106), (0, x1), (0, x2), (0, 0), v4] [] (mk D)) := by
  refine Eq.trans (s_load (y := 200) (pc := 66) (nx := 67) (a := 0) (b := 2) (x := x2) rfl rfl) ?_
  refine Eq.trans (s_iflt (y := 200) (pc := 67) (nx := 70) (b := 153) (tg := 153) rfl rfl) (ite_c ?_ ?_)
  · refine Eq.trans (s_push (y := 200) (pc := 153) (nx := 154) (a := 0) (b := 1) rfl) ?_
    exact s_retz (y := 200) (pc := 154) (nx := 155) rfl (by decide)
  · refine Eq.trans (s_push (y := 200) (pc := 70) (nx := 71) (a := 0) (b := 0) rfl) ?_
    refine Eq.trans (s_store (y := 200) (pc := 71) (nx := 72) (a := 0) (b := 3) (ls' := [(3, 106), (0, x1), (0, x2), (0, 0), v4]) rfl (Nat.le_of_ble_eq_true rfl) rfl) ?_
    rfl
theorem e_200_72 (D : Mem) (x1 : Int) (x2 : Int) (x3 : Int) (v4 : PV) : qE 200 72 [(3, 106), (0, x1), (0, x2), (0, x3), v4] [] (mk D) = (if x3 < 4 then (if (w32 (x2 + 1)) < (D 106 16) then ((qR 199 [(3, 106), (0, (w32 (x2 + 1))), (0, x3)] (mk D)).bind fun w => qE 200 95 [(3, 106), (0, x1), (0, x2), (0, x3), v4] (psh w.1 []) w.2) else qE 200 99 [(3, 106), (0, x1), (0, x2), (0, x3), v4] [(0, 0)] (mk D)) else qE 200 66 [(3, 106), (0, x1), (0, (w32 (x2 + (-1)))), (0, x3), v4] [] (mk D)) := by
  refine Eq.trans (s_load (y := 200) (pc := 72) (nx := 73) (a := 0) (b := 3) (x := x3) rfl rfl) ?_
  refine Eq.trans (s_push (y := 200) (pc := 73) (nx := 74) (a := 0) (b := 4) rfl) ?_
  refine Eq.trans (s_icge (y := 200) (pc := 74) (nx := 77) (b := 147) (tg := 147) rfl rfl) (ite_c ?_ ?_)
  · refine Eq.trans (s_load (y := 200) (pc := 77) (nx := 78) (a := 0) (b := 2) (x := x2) rfl rfl) ?_
    refine Eq.trans (s_push (y := 200) (pc := 78) (nx := 79) (a := 0) (b := 1) rfl) ?_
    refine Eq.trans (s_add (y := 200) (pc := 79) (nx := 80) (b := 0) rfl) ?_
    refine Eq.trans (s_load (y := 200) (pc := 80) (nx := 81) (a := 3) (b := 0) (x := 106) rfl rfl) ?_
    refine Eq.trans (s_get (y := 200) (pc := 81) (nx := 84) (a := 10) (b := 16) (t := 0) (v := (D 106 16)) rfl (mk_k106 _) rfl (mk_106_16 _)) ?_
    refine Eq.trans (s_icge (y := 200) (pc := 84) (nx := 87) (b := 98) (tg := 98) rfl rfl) (ite_c ?_ ?_)
    · refine Eq.trans (s_load (y := 200) (pc := 87) (nx := 88) (a := 3) (b := 0) (x := 106) rfl rfl) ?_
      refine Eq.trans (s_load (y := 200) (pc := 88) (nx := 89) (a := 0) (b := 2) (x := x2) rfl rfl) ?_
      refine Eq.trans (s_push (y := 200) (pc := 89) (nx := 90) (a := 0) (b := 1) rfl) ?_
      refine Eq.trans (s_add (y := 200) (pc := 90) (nx := 91) (b := 0) rfl) ?_
      refine Eq.trans (s_load (y := 200) (pc := 91) (nx := 92) (a := 0) (b := 3) (x := x3) rfl rfl) ?_
      exact s_call (y := 200) (pc := 92) (nx := 95) (a := 199) (b := 0) (as := [(3, 106), (0, (w32 (x2 + 1))), (0, x3)]) (r := []) rfl (Nat.le_of_ble_eq_true rfl) rfl rfl (Nat.le_of_ble_eq_true rfl) (Nat.le_of_ble_eq_true rfl) (Or.inr ⟨rfl, mk_k106 _⟩)
    · refine Eq.trans (s_push (y := 200) (pc := 98) (nx := 99) (a := 0) (b := 0) rfl) ?_
      rfl
  · refine Eq.trans (s_iinc (y := 200) (pc := 147) (nx := 150) (a := 2) (b := (-1)) (x := x2) (ls' := [(3, 106), (0, x1), (0, (w32 (x2 + (-1)))), (0, x3), v4]) rfl rfl rfl) ?_
    refine Eq.trans (s_goto (y := 200) (pc := 150) (nx := 153) (a := 0) (b := 66) (tg := 66) rfl rfl) ?_
    rfl
theorem e_200_95 (D : Mem) (x1 : Int) (x2 : Int) (x3 : Int) (v4 : PV) (s0 : Int) : qE 200 95 [(3, 106), (0, x1), (0, x2), (0, x3), v4] [(0, s0)] (mk D) = qE 200 99 [(3, 106), (0, x1), (0, x2), (0, x3), v4] [(0, s0)] (mk D) := by
  refine Eq.trans (s_goto (y := 200) (pc := 95) (nx := 98) (a := 0) (b := 99) (tg := 99) rfl rfl) ?_
  rfl
theorem e_200_99 (D : Mem) (x1 : Int) (x2 : Int) (x3 : Int) (v4 : PV) (s0 : Int) : qE 200 99 [(3, 106), (0, x1), (0, x2), (0, x3), v4] [(0, s0)] (mk D) = (if 0 ≤ x2 ∧ x2 < 60 then (if x2 = 0 then ((qR 197 [(3, 106), (0, (D 117 x2)), (0, x3), (0, (-1))] (mk D)).bind fun w => qE 200 137 [(3, 106), (0, x1), (0, x2), (0, x3), (0, s0)] (psh w.1 [(0, (w32 ((w32 (4 * x2)) + x3))), (3, 127)]) w.2) else (if 0 ≤ (w32 (x2 - 1)) ∧ (w32 (x2 - 1)) < 60 then ((qR 197 [(3, 106), (0, (D 117 x2)), (0, x3), (0, (D 117 (w32 (x2 - 1))))] (mk D)).bind fun w => qE 200 137 [(3, 106), (0, x1), (0, x2), (0, x3), (0, s0)] (psh w.1 [(0, (w32 ((w32 (4 * x2)) + x3))), (3, 127)]) w.2) else none)) else none) := by
  refine Eq.trans (s_store (y := 200) (pc := 99) (nx := 101) (a := 0) (b := 4) (ls' := [(3, 106), (0, x1), (0, x2), (0, x3), (0, s0)]) rfl (Nat.le_of_ble_eq_true rfl) rfl) ?_
  refine Eq.trans (s_load (y := 200) (pc := 101) (nx := 102) (a := 3) (b := 0) (x := 106) rfl rfl) ?_
  refine Eq.trans (s_get (y := 200) (pc := 102) (nx := 105) (a := 10) (b := 31) (t := 3) (v := 127) rfl (mk_k106 _) rfl (mk_106_31 _)) ?_
  refine Eq.trans (s_push (y := 200) (pc := 105) (nx := 106) (a := 0) (b := 4) rfl) ?_
  refine Eq.trans (s_load (y := 200) (pc := 106) (nx := 107) (a := 0) (b := 2) (x := x2) rfl rfl) ?_
  refine Eq.trans (s_mul (y := 200) (pc := 107) (nx := 108) (b := 0) rfl) ?_
  refine Eq.trans (s_load (y := 200) (pc := 108) (nx := 109) (a := 0) (b := 3) (x := x3) rfl rfl) ?_
  refine Eq.trans (s_add (y := 200) (pc := 109) (nx := 110) (b := 0) rfl) ?_
  refine Eq.trans (s_load (y := 200) (pc := 110) (nx := 111) (a := 3) (b := 0) (x := 106) rfl rfl) ?_
  refine Eq.trans (s_load (y := 200) (pc := 111) (nx := 112) (a := 3) (b := 0) (x := 106) rfl rfl) ?_
  refine Eq.trans (s_get (y := 200) (pc := 112) (nx := 115) (a := 10) (b := 15) (t := 3) (v := 117) rfl (mk_k106 _) rfl (mk_106_15 _)) ?_
  refine Eq.trans (s_load (y := 200) (pc := 115) (nx := 116) (a := 0) (b := 2) (x := x2) rfl rfl) ?_
  refine Eq.trans (s_ald (y := 200) (pc := 116) (nx := 117) (a := 1) (b := 0) (k := 1) (n := 60) (t := 0) (v := (D 117 x2)) rfl (mk_k117 _) rfl rfl (mk_l117 _) (mk_c117 _ _)) (ite_c ?_ rfl)
  refine Eq.trans (s_load (y := 200) (pc := 117) (nx := 118) (a := 0) (b := 3) (x := x3) rfl rfl) ?_
  refine Eq.trans (s_load (y := 200) (pc := 118) (nx := 119) (a := 0) (b := 2) (x := x2) rfl rfl) ?_
  refine Eq.trans (s_ifne (y := 200) (pc := 119) (nx := 122) (b := 126) (tg := 126) rfl rfl) (ite_c ?_ ?_)
  · refine Eq.trans (s_push (y := 200) (pc := 122) (nx := 123) (a := 0) (b := (-1)) rfl) ?_
    refine Eq.trans (s_goto (y := 200) (pc := 123) (nx := 126) (a := 0) (b := 134) (tg := 134) rfl rfl) ?_
    exact s_call (y := 200) (pc := 134) (nx := 137) (a := 197) (b := 0) (as := [(3, 106), (0, (D 117 x2)), (0, x3), (0, (-1))]) (r := [(0, (w32 ((w32 (4 * x2)) + x3))), (3, 127)]) rfl (Nat.le_of_ble_eq_true rfl) rfl rfl (Nat.le_of_ble_eq_true rfl) (Nat.le_of_ble_eq_true rfl) (Or.inr ⟨rfl, mk_k106 _⟩)
  · refine Eq.trans (s_load (y := 200) (pc := 126) (nx := 127) (a := 3) (b := 0) (x := 106) rfl rfl) ?_
    refine Eq.trans (s_get (y := 200) (pc := 127) (nx := 130) (a := 10) (b := 15) (t := 3) (v := 117) rfl (mk_k106 _) rfl (mk_106_15 _)) ?_
    refine Eq.trans (s_load (y := 200) (pc := 130) (nx := 131) (a := 0) (b := 2) (x := x2) rfl rfl) ?_
    refine Eq.trans (s_push (y := 200) (pc := 131) (nx := 132) (a := 0) (b := 1) rfl) ?_
    refine Eq.trans (s_sub (y := 200) (pc := 132) (nx := 133) (b := 0) rfl) ?_
    refine Eq.trans (s_ald (y := 200) (pc := 133) (nx := 134) (a := 1) (b := 0) (k := 1) (n := 60) (t := 0) (v := (D 117 (w32 (x2 - 1)))) rfl (mk_k117 _) rfl rfl (mk_l117 _) (mk_c117 _ _)) (ite_c ?_ rfl)
    exact s_call (y := 200) (pc := 134) (nx := 137) (a := 197) (b := 0) (as := [(3, 106), (0, (D 117 x2)), (0, x3), (0, (D 117 (w32 (x2 - 1))))]) (r := [(0, (w32 ((w32 (4 * x2)) + x3))), (3, 127)]) rfl (Nat.le_of_ble_eq_true rfl) rfl rfl (Nat.le_of_ble_eq_true rfl) (Nat.le_of_ble_eq_true rfl) (Or.inr ⟨rfl, mk_k106 _⟩)
theorem e_200_137 (D : Mem) (x1 : Int) (x2 : Int) (x3 : Int) (x4 : Int) (s1 : Int) (s2 : Int) : qE 200 137 [(3, 106), (0, x1), (0, x2), (0, x3), (0, x4)] [(0, s2), (0, s1), (3, 127)] (mk D) = (if 0 ≤ s1 ∧ s1 < 244 then qE 200 72 [(3, 106), (0, x1), (0, x2), (0, (w32 (x3 + 1))), (0, x4)] [] (mk (mU D 127 s1 (w32 (s2 + x4)))) else none) := by
  refine Eq.trans (s_load (y := 200) (pc := 137) (nx := 139) (a := 0) (b := 4) (x := x4) rfl rfl) ?_
  refine Eq.trans (s_add (y := 200) (pc := 139) (nx := 140) (b := 0) rfl) ?_
  refine Eq.trans (s_ast (y := 200) (pc := 140) (nx := 141) (a := 1) (b := 0) (k := 1) (n := 244) (t := 0) (v := (w32 (s2 + x4))) (μ' := mk (mU D 127 s1 (w32 (s2 + x4)))) rfl (by decide) (mk_k127 _) rfl (mk_l127 _) (mu_127 _ _ _)) (ite_c ?_ rfl)
  refine Eq.trans (s_iinc (y := 200) (pc := 141) (nx := 144) (a := 3) (b := 1) (x := x3) (ls' := [(3, 106), (0, x1), (0, x2), (0, (w32 (x3 + 1))), (0, x4)]) rfl rfl rfl) ?_
  refine Eq.trans (s_goto (y := 200) (pc := 144) (nx := 147) (a := 0) (b := 72) (tg := 72) rfl rfl) ?_
  rfl
theorem r_201 (D : Mem) : qR 201 [(3, 106)] (mk D) = ((qR 200 [(3, 106)] (mk D)).bind fun w => qE 201 4 [(3, 106)] (psh w.1 []) w.2) := by
  show qE 201 0 [(3, 106)] [] (mk D) = _
  refine Eq.trans (s_load (y := 201) (pc := 0) (nx := 1) (a := 3) (b := 0) (x := 106) rfl rfl) ?_
  exact s_call (y := 201) (pc := 1) (nx := 4) (a := 200) (b := 0) (as := [(3, 106)]) (r := []) rfl (Nat.le_of_ble_eq_true rfl) rfl rfl (Nat.le_of_ble_eq_true rfl) (Nat.le_of_ble_eq_true rfl) (Or.inr ⟨rfl, mk_k106 _⟩)
theorem e_201_4 (D : Mem) (s0 : Int) : qE 201 4 [(3, 106)] [(0, s0)] (mk D) = (if s0 = 0 then some ((0, (-4)), (mk D)) else ((qR 199 [(3, 106), (0, 0), (0, 0)] (mk D)).bind fun w => qE 201 13 [(3, 106)] (psh w.1 []) w.2)) := by
  refine Eq.trans (s_ifeq (y := 201) (pc := 4) (nx := 7) (b := 16) (tg := 16) rfl rfl) (ite_c ?_ ?_)
  · refine Eq.trans (s_push (y := 201) (pc := 16) (nx := 18) (a := 0) (b := (-4)) rfl) ?_
    exact s_ret (y := 201) (pc := 18) (nx := 19) (a := 0) rfl (by decide)
  · refine Eq.trans (s_load (y := 201) (pc := 7) (nx := 8) (a := 3) (b := 0) (x := 106) rfl rfl) ?_
    refine Eq.trans (s_push (y := 201) (pc := 8) (nx := 9) (a := 0) (b := 0) rfl) ?_
    refine Eq.trans (s_push (y := 201) (pc := 9) (nx := 10) (a := 0) (b := 0) rfl) ?_
    exact s_call (y := 201) (pc := 10) (nx := 13) (a := 199) (b := 0) (as := [(3, 106), (0, 0), (0, 0)]) (r := []) rfl (Nat.le_of_ble_eq_true rfl) rfl rfl (Nat.le_of_ble_eq_true rfl) (Nat.le_of_ble_eq_true rfl) (Or.inr ⟨rfl, mk_k106 _⟩)
theorem e_201_13 (D : Mem) (s0 : Int) : qE 201 13 [(3, 106)] [(0, s0)] (mk D) = some ((0, s0), (mk D)) := by
  refine Eq.trans (s_goto (y := 201) (pc := 13) (nx := 16) (a := 0) (b := 18) (tg := 18) rfl rfl) ?_
  exact s_ret (y := 201) (pc := 18) (nx := 19) (a := 0) rfl (by decide)
theorem r_202 (D : Mem) (x1 : Int) : qR 202 [(3, 106), (0, x1)] (mk D) = ((qR 200 [(3, 106)] (mk D)).bind fun w => qE 202 4 [(3, 106), (0, x1), (9, 0), (9, 0), (9, 0), (9, 0), (9, 0)] (psh w.1 []) w.2) := by
  show qE 202 0 [(3, 106), (0, x1), (9, 0), (9, 0), (9, 0), (9, 0), (9, 0)] [] (mk D) = _
  refine Eq.trans (s_load (y := 202) (pc := 0) (nx := 1) (a := 3) (b := 0) (x := 106) rfl rfl) ?_
  exact s_call (y := 202) (pc := 1) (nx := 4) (a := 200) (b := 0) (as := [(3, 106)]) (r := []) rfl (Nat.le_of_ble_eq_true rfl) rfl rfl (Nat.le_of_ble_eq_true rfl) (Nat.le_of_ble_eq_true rfl) (Or.inr ⟨rfl, mk_k106 _⟩)
theorem e_202_4 (D : Mem) (x1 : Int) (s0 : Int) : qE 202 4 [(3, 106), (0, x1), (9, 0), (9, 0), (9, 0), (9, 0), (9, 0)] [(0, s0)] (mk D) = (if s0 = 0 then some ((0, (-1)), (mk D)) else ((qR 142 [(0, x1), (0, 0), (0, (w32 ((D 106 16) - 1)))] (mk D)).bind fun w => qE 202 18 [(3, 106), (0, x1), (9, 0), (9, 0), (9, 0), (9, 0), (9, 0)] (psh w.1 []) w.2)) := by
  refine Eq.trans (s_ifeq (y := 202) (pc := 4) (nx := 7) (b := 21) (tg := 21) rfl rfl) (ite_c ?_ ?_)
  · refine Eq.trans (s_push (y := 202) (pc := 21) (nx := 22) (a := 0) (b := (-1)) rfl) ?_
    exact s_ret (y := 202) (pc := 22) (nx := 23) (a := 0) rfl (by decide)
  · refine Eq.trans (s_load (y := 202) (pc := 7) (nx := 8) (a := 0) (b := 1) (x := x1) rfl rfl) ?_
    refine Eq.trans (s_push (y := 202) (pc := 8) (nx := 9) (a := 0) (b := 0) rfl) ?_
    refine Eq.trans (s_load (y := 202) (pc := 9) (nx := 10) (a := 3) (b := 0) (x := 106) rfl rfl) ?_
    refine Eq.trans (s_get (y := 202) (pc := 10) (nx := 13) (a := 10) (b := 16) (t := 0) (v := (D 106 16)) rfl (mk_k106 _) rfl (mk_106_16 _)) ?_
    refine Eq.trans (s_push (y := 202) (pc := 13) (nx := 14) (a := 0) (b := 1) rfl) ?_
    refine Eq.trans (s_sub (y := 202) (pc := 14) (nx := 15) (b := 0) rfl) ?_
    exact s_call (y := 202) (pc := 15) (nx := 18) (a := 142) (b := 0) (as := [(0, x1), (0, 0), (0, (w32 ((D 106 16) - 1)))]) (r := []) rfl (Nat.le_of_ble_eq_true rfl) rfl rfl (Nat.le_of_ble_eq_true rfl) (Nat.le_of_ble_eq_true rfl) (Or.inl rfl)
theorem e_202_18 (D : Mem) (x1 : Int) (s0 : Int) : qE 202 18 [(3, 106), (0, x1), (9, 0), (9, 0), (9, 0), (9, 0), (9, 0)] [(0, s0)] (mk D) = (if s0 = 0 then some ((0, (-1)), (mk D)) else qE 202 27 [(3, 106), (0, x1), (0, 0), (0, 0), (9, 0), (9, 0), (9, 0)] [] (mk D)) := by
  refine Eq.trans (s_ifne (y := 202) (pc := 18) (nx := 21) (b := 23) (tg := 23) rfl rfl) (ite_c ?_ ?_)
  · refine Eq.trans (s_push (y := 202) (pc := 21) (nx := 22) (a := 0) (b := (-1)) rfl) ?_
    exact s_ret (y := 202) (pc := 22) (nx := 23) (a := 0) rfl (by decide)
  · refine Eq.trans (s_push (y := 202) (pc := 23) (nx := 24) (a := 0) (b := 0) rfl) ?_
    refine Eq.trans (s_store (y := 202) (pc := 24) (nx := 25) (a := 0) (b := 2) (ls' := [(3, 106), (0, x1), (0, 0), (9, 0), (9, 0), (9, 0), (9, 0)]) rfl (Nat.le_of_ble_eq_true rfl) rfl) ?_
    refine Eq.trans (s_push (y := 202) (pc := 25) (nx := 26) (a := 0) (b := 0) rfl) ?_
    refine Eq.trans (s_store (y := 202) (pc := 26) (nx := 27) (a := 0) (b := 3) (ls' := [(3, 106), (0, x1), (0, 0), (0, 0), (9, 0), (9, 0), (9, 0)]) rfl (Nat.le_of_ble_eq_true rfl) rfl) ?_
    rfl
theorem e_202_27 (D : Mem) (x1 : Int) (x2 : Int) (x3 : Int) (v4 : PV) (v5 : PV) (v6 : PV) : qE 202 27 [(3, 106), (0, x1), (0, x2), (0, x3), v4, v5, v6] [] (mk D) = (if x3 ≤ x1 then ((qR 199 [(3, 106), (0, x3), (0, x2)] (mk D)).bind fun w => qE 202 38 [(3, 106), (0, x1), (0, x2), (0, x3), v4, v5, v6] (psh w.1 []) w.2) else some ((0, x2), (mk D))) := by
  refine Eq.trans (s_load (y := 202) (pc := 27) (nx := 28) (a := 0) (b := 3) (x := x3) rfl rfl) ?_
  refine Eq.trans (s_load (y := 202) (pc := 28) (nx := 29) (a := 0) (b := 1) (x := x1) rfl rfl) ?_
  refine Eq.trans (s_icgt (y := 202) (pc := 29) (nx := 32) (b := 103) (tg := 103) rfl rfl) (ite_c ?_ ?_)
  · refine Eq.trans (s_load (y := 202) (pc := 32) (nx := 33) (a := 3) (b := 0) (x := 106) rfl rfl) ?_
    refine Eq.trans (s_load (y := 202) (pc := 33) (nx := 34) (a := 0) (b := 3) (x := x3) rfl rfl) ?_
    refine Eq.trans (s_load (y := 202) (pc := 34) (nx := 35) (a := 0) (b := 2) (x := x2) rfl rfl) ?_
    exact s_call (y := 202) (pc := 35) (nx := 38) (a := 199) (b := 0) (as := [(3, 106), (0, x3), (0, x2)]) (r := []) rfl (Nat.le_of_ble_eq_true rfl) rfl rfl (Nat.le_of_ble_eq_true rfl) (Nat.le_of_ble_eq_true rfl) (Or.inr ⟨rfl, mk_k106 _⟩)
  · refine Eq.trans (s_load (y := 202) (pc := 103) (nx := 104) (a := 0) (b := 2) (x := x2) rfl rfl) ?_
    exact s_ret (y := 202) (pc := 104) (nx := 105) (a := 0) rfl (by decide)
theorem e_202_38 (D : Mem) (x1 : Int) (x2 : Int) (x3 : Int) (v4 : PV) (v5 : PV) (v6 : PV) (s0 : Int) : qE 202 38 [(3, 106), (0, x1), (0, x2), (0, x3), v4, v5, v6] [(0, s0)] (mk D) = qE 202 46 [(3, 106), (0, x1), (0, x2), (0, x3), (0, s0), (0, (-1)), (0, 3)] [] (mk D) := by
  refine Eq.trans (s_store (y := 202) (pc := 38) (nx := 40) (a := 0) (b := 4) (ls' := [(3, 106), (0, x1), (0, x2), (0, x3), (0, s0), v5, v6]) rfl (Nat.le_of_ble_eq_true rfl) rfl) ?_
  refine Eq.trans (s_push (y := 202) (pc := 40) (nx := 41) (a := 0) (b := (-1)) rfl) ?_
  refine Eq.trans (s_store (y := 202) (pc := 41) (nx := 43) (a := 0) (b := 5) (ls' := [(3, 106), (0, x1), (0, x2), (0, x3), (0, s0), (0, (-1)), v6]) rfl (Nat.le_of_ble_eq_true rfl) rfl) ?_
  refine Eq.trans (s_push (y := 202) (pc := 43) (nx := 44) (a := 0) (b := 3) rfl) ?_
  refine Eq.trans (s_store (y := 202) (pc := 44) (nx := 46) (a := 0) (b := 6) (ls' := [(3, 106), (0, x1), (0, x2), (0, x3), (0, s0), (0, (-1)), (0, 3)]) rfl (Nat.le_of_ble_eq_true rfl) rfl) ?_
  rfl
theorem e_202_46 (D : Mem) (x1 : Int) (x2 : Int) (x3 : Int) (x4 : Int) (x5 : Int) (x6 : Int) : qE 202 46 [(3, 106), (0, x1), (0, x2), (0, x3), (0, x4), (0, x5), (0, x6)] [] (mk D) = (if x6 < 0 then qE 202 27 [(3, 106), (0, x1), (0, x5), (0, (w32 (x3 + 1))), (0, x4), (0, x5), (0, x6)] [] (mk D) else (if 0 ≤ (w32 ((w32 (4 * x3)) + x6)) ∧ (w32 ((w32 (4 * x3)) + x6)) < 244 then (if x6 = x2 then qE 202 73 [(3, 106), (0, x1), (0, x2), (0, x3), (0, x4), (0, x5), (0, x6)] [(0, 0), (0, (D 127 (w32 ((w32 (4 * x3)) + x6))))] (mk D) else qE 202 73 [(3, 106), (0, x1), (0, x2), (0, x3), (0, x4), (0, x5), (0, x6)] [(0, 1), (0, (D 127 (w32 ((w32 (4 * x3)) + x6))))] (mk D)) else none)) := by
  refine Eq.trans (s_load (y := 202) (pc := 46) (nx := 48) (a := 0) (b := 6) (x := x6) rfl rfl) ?_
  refine Eq.trans (s_iflt (y := 202) (pc := 48) (nx := 51) (b := 94) (tg := 94) rfl rfl) (ite_c ?_ ?_)
  · refine Eq.trans (s_load (y := 202) (pc := 94) (nx := 96) (a := 0) (b := 5) (x := x5) rfl rfl) ?_
    refine Eq.trans (s_store (y := 202) (pc := 96) (nx := 97) (a := 0) (b := 2) (ls' := [(3, 106), (0, x1), (0, x5), (0, x3), (0, x4), (0, x5), (0, x6)]) rfl (Nat.le_of_ble_eq_true rfl) rfl) ?_
    refine Eq.trans (s_iinc (y := 202) (pc := 97) (nx := 100) (a := 3) (b := 1) (x := x3) (ls' := [(3, 106), (0, x1), (0, x5), (0, (w32 (x3 + 1))), (0, x4), (0, x5), (0, x6)]) rfl rfl rfl) ?_
    refine Eq.trans (s_goto (y := 202) (pc := 100) (nx := 103) (a := 0) (b := 27) (tg := 27) rfl rfl) ?_
    rfl
  · refine Eq.trans (s_load (y := 202) (pc := 51) (nx := 52) (a := 3) (b := 0) (x := 106) rfl rfl) ?_
    refine Eq.trans (s_get (y := 202) (pc := 52) (nx := 55) (a := 10) (b := 31) (t := 3) (v := 127) rfl (mk_k106 _) rfl (mk_106_31 _)) ?_
    refine Eq.trans (s_push (y := 202) (pc := 55) (nx := 56) (a := 0) (b := 4) rfl) ?_
    refine Eq.trans (s_load (y := 202) (pc := 56) (nx := 57) (a := 0) (b := 3) (x := x3) rfl rfl) ?_
    refine Eq.trans (s_mul (y := 202) (pc := 57) (nx := 58) (b := 0) rfl) ?_
    refine Eq.trans (s_load (y := 202) (pc := 58) (nx := 60) (a := 0) (b := 6) (x := x6) rfl rfl) ?_
    refine Eq.trans (s_add (y := 202) (pc := 60) (nx := 61) (b := 0) rfl) ?_
    refine Eq.trans (s_ald (y := 202) (pc := 61) (nx := 62) (a := 1) (b := 0) (k := 1) (n := 244) (t := 0) (v := (D 127 (w32 ((w32 (4 * x3)) + x6)))) rfl (mk_k127 _) rfl rfl (mk_l127 _) (mk_c127 _ _)) (ite_c ?_ rfl)
    refine Eq.trans (s_load (y := 202) (pc := 62) (nx := 64) (a := 0) (b := 6) (x := x6) rfl rfl) ?_
    refine Eq.trans (s_load (y := 202) (pc := 64) (nx := 65) (a := 0) (b := 2) (x := x2) rfl rfl) ?_
    refine Eq.trans (s_icne (y := 202) (pc := 65) (nx := 68) (b := 72) (tg := 72) rfl rfl) (ite_c ?_ ?_)
    · refine Eq.trans (s_push (y := 202) (pc := 68) (nx := 69) (a := 0) (b := 0) rfl) ?_
      refine Eq.trans (s_goto (y := 202) (pc := 69) (nx := 72) (a := 0) (b := 73) (tg := 73) rfl rfl) ?_
      rfl
    · refine Eq.trans (s_push (y := 202) (pc := 72) (nx := 73) (a := 0) (b := 1) rfl) ?_
      rfl
theorem e_202_73 (D : Mem) (x1 : Int) (x2 : Int) (x3 : Int) (x4 : Int) (x5 : Int) (x6 : Int) (s0 : Int) (s1 : Int) : qE 202 73 [(3, 106), (0, x1), (0, x2), (0, x3), (0, x4), (0, x5), (0, x6)] [(0, s1), (0, s0)] (mk D) = (if (w32 (s0 + s1)) = x4 then qE 202 46 [(3, 106), (0, x1), (0, x2), (0, x3), (0, x4), (0, x6), (0, (w32 (x6 + (-1))))] [] (mk D) else qE 202 46 [(3, 106), (0, x1), (0, x2), (0, x3), (0, x4), (0, x5), (0, (w32 (x6 + (-1))))] [] (mk D)) := by
  refine Eq.trans (s_add (y := 202) (pc := 73) (nx := 74) (b := 0) rfl) ?_
  refine Eq.trans (s_load (y := 202) (pc := 74) (nx := 76) (a := 0) (b := 4) (x := x4) rfl rfl) ?_
  refine Eq.trans (s_icne (y := 202) (pc := 76) (nx := 79) (b := 84) (tg := 84) rfl rfl) (ite_c ?_ ?_)
  · refine Eq.trans (s_load (y := 202) (pc := 79) (nx := 81) (a := 0) (b := 6) (x := x6) rfl rfl) ?_
    refine Eq.trans (s_goto (y := 202) (pc := 81) (nx := 84) (a := 0) (b := 86) (tg := 86) rfl rfl) ?_
    refine Eq.trans (s_store (y := 202) (pc := 86) (nx := 88) (a := 0) (b := 5) (ls' := [(3, 106), (0, x1), (0, x2), (0, x3), (0, x4), (0, x6), (0, x6)]) rfl (Nat.le_of_ble_eq_true rfl) rfl) ?_
    refine Eq.trans (s_iinc (y := 202) (pc := 88) (nx := 91) (a := 6) (b := (-1)) (x := x6) (ls' := [(3, 106), (0, x1), (0, x2), (0, x3), (0, x4), (0, x6), (0, (w32 (x6 + (-1))))]) rfl rfl rfl) ?_
    refine Eq.trans (s_goto (y := 202) (pc := 91) (nx := 94) (a := 0) (b := 46) (tg := 46) rfl rfl) ?_
    rfl
  · refine Eq.trans (s_load (y := 202) (pc := 84) (nx := 86) (a := 0) (b := 5) (x := x5) rfl rfl) ?_
    refine Eq.trans (s_store (y := 202) (pc := 86) (nx := 88) (a := 0) (b := 5) (ls' := [(3, 106), (0, x1), (0, x2), (0, x3), (0, x4), (0, x5), (0, x6)]) rfl (Nat.le_of_ble_eq_true rfl) rfl) ?_
    refine Eq.trans (s_iinc (y := 202) (pc := 88) (nx := 91) (a := 6) (b := (-1)) (x := x6) (ls' := [(3, 106), (0, x1), (0, x2), (0, x3), (0, x4), (0, x5), (0, (w32 (x6 + (-1))))]) rfl rfl rfl) ?_
    refine Eq.trans (s_goto (y := 202) (pc := 91) (nx := 94) (a := 0) (b := 46) (tg := 46) rfl rfl) ?_
    rfl
theorem r_203 (D : Mem) : qR 203 [(3, 106)] (mk D) = qE 203 4 [(3, 106), (0, 0), (0, 0)] [] (mk D) := by
  show qE 203 0 [(3, 106), (9, 0), (9, 0)] [] (mk D) = _
  refine Eq.trans (s_push (y := 203) (pc := 0) (nx := 1) (a := 0) (b := 0) rfl) ?_
  refine Eq.trans (s_store (y := 203) (pc := 1) (nx := 2) (a := 0) (b := 1) (ls' := [(3, 106), (0, 0), (9, 0)]) rfl (Nat.le_of_ble_eq_true rfl) rfl) ?_
  refine Eq.trans (s_push (y := 203) (pc := 2) (nx := 3) (a := 0) (b := 0) rfl) ?_
  refine Eq.trans (s_store (y := 203) (pc := 3) (nx := 4) (a := 0) (b := 2) (ls' := [(3, 106), (0, 0), (0, 0)]) rfl (Nat.le_of_ble_eq_true rfl) rfl) ?_
  rfl
theorem e_203_4 (D : Mem) (x1 : Int) (x2 : Int) : qE 203 4 [(3, 106), (0, x1), (0, x2)] [] (mk D) = (if x2 < (D 106 16) then (if 0 ≤ x2 ∧ x2 < 60 then (if 0 ≤ (D 117 x2) ∧ (D 117 x2) < 80 then (if (D 112 (D 117 x2)) = 0 then qE 203 4 [(3, 106), (0, (w32 (x1 + 0))), (0, (w32 (x2 + 1)))] [] (mk D) else (if 0 ≤ x2 ∧ x2 < 60 then ((qR 194 [(3, 106), (0, (D 117 x2))] (mk D)).bind fun w => qE 203 37 [(3, 106), (0, x1), (0, x2)] (psh w.1 [(0, x1)]) w.2) else none)) else none) else none) else some ((0, x1), (mk D))) := by
  refine Eq.trans (s_load (y := 203) (pc := 4) (nx := 5) (a := 0) (b := 2) (x := x2) rfl rfl) ?_
  refine Eq.trans (s_load (y := 203) (pc := 5) (nx := 6) (a := 3) (b := 0) (x := 106) rfl rfl) ?_
  refine Eq.trans (s_get (y := 203) (pc := 6) (nx := 9) (a := 10) (b := 16) (t := 0) (v := (D 106 16)) rfl (mk_k106 _) rfl (mk_106_16 _)) ?_
  refine Eq.trans (s_icge (y := 203) (pc := 9) (nx := 12) (b := 49) (tg := 49) rfl rfl) (ite_c ?_ ?_)
  · refine Eq.trans (s_load (y := 203) (pc := 12) (nx := 13) (a := 0) (b := 1) (x := x1) rfl rfl) ?_
    refine Eq.trans (s_load (y := 203) (pc := 13) (nx := 14) (a := 3) (b := 0) (x := 106) rfl rfl) ?_
    refine Eq.trans (s_get (y := 203) (pc := 14) (nx := 17) (a := 10) (b := 5) (t := 3) (v := 112) rfl (mk_k106 _) rfl (mk_106_5 _)) ?_
    refine Eq.trans (s_load (y := 203) (pc := 17) (nx := 18) (a := 3) (b := 0) (x := 106) rfl rfl) ?_
    refine Eq.trans (s_get (y := 203) (pc := 18) (nx := 21) (a := 10) (b := 15) (t := 3) (v := 117) rfl (mk_k106 _) rfl (mk_106_15 _)) ?_
    refine Eq.trans (s_load (y := 203) (pc := 21) (nx := 22) (a := 0) (b := 2) (x := x2) rfl rfl) ?_
    refine Eq.trans (s_ald (y := 203) (pc := 22) (nx := 23) (a := 1) (b := 0) (k := 1) (n := 60) (t := 0) (v := (D 117 x2)) rfl (mk_k117 _) rfl rfl (mk_l117 _) (mk_c117 _ _)) (ite_c ?_ rfl)
    refine Eq.trans (s_ald (y := 203) (pc := 23) (nx := 24) (a := 6) (b := 0) (k := 6) (n := 80) (t := 0) (v := (D 112 (D 117 x2))) rfl (mk_k112 _) rfl rfl (mk_l112 _) (mk_c112 _ _)) (ite_c ?_ rfl)
    refine Eq.trans (s_ifeq (y := 203) (pc := 24) (nx := 27) (b := 40) (tg := 40) rfl rfl) (ite_c ?_ ?_)
    · refine Eq.trans (s_push (y := 203) (pc := 40) (nx := 41) (a := 0) (b := 0) rfl) ?_
      refine Eq.trans (s_add (y := 203) (pc := 41) (nx := 42) (b := 0) rfl) ?_
      refine Eq.trans (s_store (y := 203) (pc := 42) (nx := 43) (a := 0) (b := 1) (ls' := [(3, 106), (0, (w32 (x1 + 0))), (0, x2)]) rfl (Nat.le_of_ble_eq_true rfl) rfl) ?_
      refine Eq.trans (s_iinc (y := 203) (pc := 43) (nx := 46) (a := 2) (b := 1) (x := x2) (ls' := [(3, 106), (0, (w32 (x1 + 0))), (0, (w32 (x2 + 1)))]) rfl rfl rfl) ?_
      refine Eq.trans (s_goto (y := 203) (pc := 46) (nx := 49) (a := 0) (b := 4) (tg := 4) rfl rfl) ?_
      rfl
    · refine Eq.trans (s_load (y := 203) (pc := 27) (nx := 28) (a := 3) (b := 0) (x := 106) rfl rfl) ?_
      refine Eq.trans (s_load (y := 203) (pc := 28) (nx := 29) (a := 3) (b := 0) (x := 106) rfl rfl) ?_
      refine Eq.trans (s_get (y := 203) (pc := 29) (nx := 32) (a := 10) (b := 15) (t := 3) (v := 117) rfl (mk_k106 _) rfl (mk_106_15 _)) ?_
      refine Eq.trans (s_load (y := 203) (pc := 32) (nx := 33) (a := 0) (b := 2) (x := x2) rfl rfl) ?_
      refine Eq.trans (s_ald (y := 203) (pc := 33) (nx := 34) (a := 1) (b := 0) (k := 1) (n := 60) (t := 0) (v := (D 117 x2)) rfl (mk_k117 _) rfl rfl (mk_l117 _) (mk_c117 _ _)) (ite_c ?_ rfl)
      exact s_call (y := 203) (pc := 34) (nx := 37) (a := 194) (b := 0) (as := [(3, 106), (0, (D 117 x2))]) (r := [(0, x1)]) rfl (Nat.le_of_ble_eq_true rfl) rfl rfl (Nat.le_of_ble_eq_true rfl) (Nat.le_of_ble_eq_true rfl) (Or.inr ⟨rfl, mk_k106 _⟩)
  · refine Eq.trans (s_load (y := 203) (pc := 49) (nx := 50) (a := 0) (b := 1) (x := x1) rfl rfl) ?_
    exact s_ret (y := 203) (pc := 50) (nx := 51) (a := 0) rfl (by decide)
theorem e_203_37 (D : Mem) (x1 : Int) (x2 : Int) (s0 : Int) (s1 : Int) : qE 203 37 [(3, 106), (0, x1), (0, x2)] [(0, s1), (0, s0)] (mk D) = qE 203 4 [(3, 106), (0, (w32 (s0 + s1))), (0, (w32 (x2 + 1)))] [] (mk D) := by
  refine Eq.trans (s_goto (y := 203) (pc := 37) (nx := 40) (a := 0) (b := 41) (tg := 41) rfl rfl) ?_
  refine Eq.trans (s_add (y := 203) (pc := 41) (nx := 42) (b := 0) rfl) ?_
  refine Eq.trans (s_store (y := 203) (pc := 42) (nx := 43) (a := 0) (b := 1) (ls' := [(3, 106), (0, (w32 (s0 + s1))), (0, x2)]) rfl (Nat.le_of_ble_eq_true rfl) rfl) ?_
  refine Eq.trans (s_iinc (y := 203) (pc := 43) (nx := 46) (a := 2) (b := 1) (x := x2) (ls' := [(3, 106), (0, (w32 (s0 + s1))), (0, (w32 (x2 + 1)))]) rfl rfl rfl) ?_
  refine Eq.trans (s_goto (y := 203) (pc := 46) (nx := 49) (a := 0) (b := 4) (tg := 4) rfl rfl) ?_
  rfl
theorem r_204 (D : Mem) : qR 204 [(3, 106)] (mk D) = ((qR 203 [(3, 106)] (mk D)).bind fun w => qE 204 4 [(3, 106)] (psh w.1 []) w.2) := by
  show qE 204 0 [(3, 106)] [] (mk D) = _
  refine Eq.trans (s_load (y := 204) (pc := 0) (nx := 1) (a := 3) (b := 0) (x := 106) rfl rfl) ?_
  exact s_call (y := 204) (pc := 1) (nx := 4) (a := 203) (b := 0) (as := [(3, 106)]) (r := []) rfl (Nat.le_of_ble_eq_true rfl) rfl rfl (Nat.le_of_ble_eq_true rfl) (Nat.le_of_ble_eq_true rfl) (Or.inr ⟨rfl, mk_k106 _⟩)
theorem e_204_4 (D : Mem) (s0 : Int) : qE 204 4 [(3, 106)] [(0, s0)] (mk D) = some ((0, s0), (mk D)) := by
  exact s_ret (y := 204) (pc := 4) (nx := 5) (a := 0) rfl (by decide)
theorem r_205 (D : Mem) : qR 205 [(3, 106)] (mk D) = qE 205 2 [(3, 106), (0, 0), (9, 0), (9, 0), (9, 0), (9, 0)] [] (mk D) := by
  show qE 205 0 [(3, 106), (9, 0), (9, 0), (9, 0), (9, 0), (9, 0)] [] (mk D) = _
  refine Eq.trans (s_push (y := 205) (pc := 0) (nx := 1) (a := 0) (b := 0) rfl) ?_
  refine Eq.trans (s_store (y := 205) (pc := 1) (nx := 2) (a := 0) (b := 1) (ls' := [(3, 106), (0, 0), (9, 0), (9, 0), (9, 0), (9, 0)]) rfl (Nat.le_of_ble_eq_true rfl) rfl) ?_
  rfl
theorem e_205_2 (D : Mem) (x1 : Int) : qE 205 2 [(3, 106), (0, x1), (9, 0), (9, 0), (9, 0), (9, 0)] [] (mk D) = (if x1 < 676 then (if 0 ≤ x1 ∧ x1 < 676 then (if 0 ≤ (w32 (x1 - Int.tdiv x1 26 * 26)) ∧ (w32 (x1 - Int.tdiv x1 26 * 26)) < 26 then qE 205 2 [(3, 106), (0, (w32 (x1 + 1))), (9, 0), (9, 0), (9, 0), (9, 0)] [] (mk (mU (mU D 129 x1 0) 128 (w32 (x1 - Int.tdiv x1 26 * 26)) 0)) else none) else none) else qE 205 36 [(3, 106), (0, 0), (0, 0), (9, 0), (9, 0), (9, 0)] [] (mk D)) := by
  refine Eq.trans (s_load (y := 205) (pc := 2) (nx := 3) (a := 0) (b := 1) (x := x1) rfl rfl) ?_
  refine Eq.trans (s_push (y := 205) (pc := 3) (nx := 6) (a := 0) (b := 676) rfl) ?_
  refine Eq.trans (s_icge (y := 205) (pc := 6) (nx := 9) (b := 32) (tg := 32) rfl rfl) (ite_c ?_ ?_)
  · refine Eq.trans (s_load (y := 205) (pc := 9) (nx := 10) (a := 3) (b := 0) (x := 106) rfl rfl) ?_
    refine Eq.trans (s_get (y := 205) (pc := 10) (nx := 13) (a := 10) (b := 33) (t := 3) (v := 129) rfl (mk_k106 _) rfl (mk_106_33 _)) ?_
    refine Eq.trans (s_load (y := 205) (pc := 13) (nx := 14) (a := 0) (b := 1) (x := x1) rfl rfl) ?_
    refine Eq.trans (s_push (y := 205) (pc := 14) (nx := 15) (a := 0) (b := 0) rfl) ?_
    refine Eq.trans (s_ast (y := 205) (pc := 15) (nx := 16) (a := 1) (b := 0) (k := 1) (n := 676) (t := 0) (v := 0) (μ' := mk (mU D 129 x1 0)) rfl (by decide) (mk_k129 _) rfl (mk_l129 _) (mu_129 _ _ _)) (ite_c ?_ rfl)
    refine Eq.trans (s_load (y := 205) (pc := 16) (nx := 17) (a := 3) (b := 0) (x := 106) rfl rfl) ?_
    refine Eq.trans (s_get (y := 205) (pc := 17) (nx := 20) (a := 10) (b := 32) (t := 3) (v := 128) rfl (mk_k106 _) rfl (mk_106_32 _)) ?_
    refine Eq.trans (s_load (y := 205) (pc := 20) (nx := 21) (a := 0) (b := 1) (x := x1) rfl rfl) ?_
    refine Eq.trans (s_push (y := 205) (pc := 21) (nx := 23) (a := 0) (b := 26) rfl) ?_
    refine Eq.trans (s_rem (y := 205) (pc := 23) (nx := 24) (b := 0) rfl (by decide)) ?_
    refine Eq.trans (s_push (y := 205) (pc := 24) (nx := 25) (a := 0) (b := 0) rfl) ?_
    refine Eq.trans (s_ast (y := 205) (pc := 25) (nx := 26) (a := 1) (b := 0) (k := 1) (n := 26) (t := 0) (v := 0) (μ' := mk (mU (mU D 129 x1 0) 128 (w32 (x1 - Int.tdiv x1 26 * 26)) 0)) rfl (by decide) (mk_k128 _) rfl (mk_l128 _) (mu_128 _ _ _)) (ite_c ?_ rfl)
    refine Eq.trans (s_iinc (y := 205) (pc := 26) (nx := 29) (a := 1) (b := 1) (x := x1) (ls' := [(3, 106), (0, (w32 (x1 + 1))), (9, 0), (9, 0), (9, 0), (9, 0)]) rfl rfl rfl) ?_
    refine Eq.trans (s_goto (y := 205) (pc := 29) (nx := 32) (a := 0) (b := 2) (tg := 2) rfl rfl) ?_
    rfl
  · refine Eq.trans (s_push (y := 205) (pc := 32) (nx := 33) (a := 0) (b := 0) rfl) ?_
    refine Eq.trans (s_store (y := 205) (pc := 33) (nx := 34) (a := 0) (b := 1) (ls' := [(3, 106), (0, 0), (9, 0), (9, 0), (9, 0), (9, 0)]) rfl (Nat.le_of_ble_eq_true rfl) rfl) ?_
    refine Eq.trans (s_push (y := 205) (pc := 34) (nx := 35) (a := 0) (b := 0) rfl) ?_
    refine Eq.trans (s_store (y := 205) (pc := 35) (nx := 36) (a := 0) (b := 2) (ls' := [(3, 106), (0, 0), (0, 0), (9, 0), (9, 0), (9, 0)]) rfl (Nat.le_of_ble_eq_true rfl) rfl) ?_
    rfl
theorem e_205_36 (D : Mem) (x1 : Int) (x2 : Int) (v3 : PV) (v4 : PV) (v5 : PV) : qE 205 36 [(3, 106), (0, x1), (0, x2), v3, v4, v5] [] (mk D) = (if x2 < (D 106 16) then (if 0 ≤ x2 ∧ x2 < 60 then (if 0 ≤ (D 117 x2) ∧ (D 117 x2) < 80 then (if (D 112 (D 117 x2)) = 0 then qE 205 71 [(3, 106), (0, (w32 (x1 + 0))), (0, x2), (0, (D 117 x2)), (0, 0), v5] [] (mk D) else qE 205 71 [(3, 106), (0, (w32 (x1 + 1))), (0, x2), (0, (D 117 x2)), (0, 0), v5] [] (mk D)) else none) else none) else some ((0, x1), (mk D))) := by
  refine Eq.trans (s_load (y := 205) (pc := 36) (nx := 37) (a := 0) (b := 2) (x := x2) rfl rfl) ?_
  refine Eq.trans (s_load (y := 205) (pc := 37) (nx := 38) (a := 3) (b := 0) (x := 106) rfl rfl) ?_
  refine Eq.trans (s_get (y := 205) (pc := 38) (nx := 41) (a := 10) (b := 16) (t := 0) (v := (D 106 16)) rfl (mk_k106 _) rfl (mk_106_16 _)) ?_
  refine Eq.trans (s_icge (y := 205) (pc := 41) (nx := 44) (b := 162) (tg := 162) rfl rfl) (ite_c ?_ ?_)
  · refine Eq.trans (s_load (y := 205) (pc := 44) (nx := 45) (a := 3) (b := 0) (x := 106) rfl rfl) ?_
    refine Eq.trans (s_get (y := 205) (pc := 45) (nx := 48) (a := 10) (b := 15) (t := 3) (v := 117) rfl (mk_k106 _) rfl (mk_106_15 _)) ?_
    refine Eq.trans (s_load (y := 205) (pc := 48) (nx := 49) (a := 0) (b := 2) (x := x2) rfl rfl) ?_
    refine Eq.trans (s_ald (y := 205) (pc := 49) (nx := 50) (a := 1) (b := 0) (k := 1) (n := 60) (t := 0) (v := (D 117 x2)) rfl (mk_k117 _) rfl rfl (mk_l117 _) (mk_c117 _ _)) (ite_c ?_ rfl)
    refine Eq.trans (s_store (y := 205) (pc := 50) (nx := 51) (a := 0) (b := 3) (ls' := [(3, 106), (0, x1), (0, x2), (0, (D 117 x2)), v4, v5]) rfl (Nat.le_of_ble_eq_true rfl) rfl) ?_
    refine Eq.trans (s_load (y := 205) (pc := 51) (nx := 52) (a := 0) (b := 1) (x := x1) rfl rfl) ?_
    refine Eq.trans (s_load (y := 205) (pc := 52) (nx := 53) (a := 3) (b := 0) (x := 106) rfl rfl) ?_
    refine Eq.trans (s_get (y := 205) (pc := 53) (nx := 56) (a := 10) (b := 5) (t := 3) (v := 112) rfl (mk_k106 _) rfl (mk_106_5 _)) ?_
    refine Eq.trans (s_load (y := 205) (pc := 56) (nx := 57) (a := 0) (b := 3) (x := (D 117 x2)) rfl rfl) ?_
    refine Eq.trans (s_ald (y := 205) (pc := 57) (nx := 58) (a := 6) (b := 0) (k := 6) (n := 80) (t := 0) (v := (D 112 (D 117 x2))) rfl (mk_k112 _) rfl rfl (mk_l112 _) (mk_c112 _ _)) (ite_c ?_ rfl)
    refine Eq.trans (s_ifeq (y := 205) (pc := 58) (nx := 61) (b := 65) (tg := 65) rfl rfl) (ite_c ?_ ?_)
    · refine Eq.trans (s_push (y := 205) (pc := 65) (nx := 66) (a := 0) (b := 0) rfl) ?_
      refine Eq.trans (s_add (y := 205) (pc := 66) (nx := 67) (b := 0) rfl) ?_
      refine Eq.trans (s_store (y := 205) (pc := 67) (nx := 68) (a := 0) (b := 1) (ls' := [(3, 106), (0, (w32 (x1 + 0))), (0, x2), (0, (D 117 x2)), v4, v5]) rfl (Nat.le_of_ble_eq_true rfl) rfl) ?_
      refine Eq.trans (s_push (y := 205) (pc := 68) (nx := 69) (a := 0) (b := 0) rfl) ?_
      refine Eq.trans (s_store (y := 205) (pc := 69) (nx := 71) (a := 0) (b := 4) (ls' := [(3, 106), (0, (w32 (x1 + 0))), (0, x2), (0, (D 117 x2)), (0, 0), v5]) rfl (Nat.le_of_ble_eq_true rfl) rfl) ?_
      rfl
    · refine Eq.trans (s_push (y := 205) (pc := 61) (nx := 62) (a := 0) (b := 1) rfl) ?_
      refine Eq.trans (s_goto (y := 205) (pc := 62) (nx := 65) (a := 0) (b := 66) (tg := 66) rfl rfl) ?_
      refine Eq.trans (s_add (y := 205) (pc := 66) (nx := 67) (b := 0) rfl) ?_
      refine Eq.trans (s_store (y := 205) (pc := 67) (nx := 68) (a := 0) (b := 1) (ls' := [(3, 106), (0, (w32 (x1 + 1))), (0, x2), (0, (D 117 x2)), v4, v5]) rfl (Nat.le_of_ble_eq_true rfl) rfl) ?_
      refine Eq.trans (s_push (y := 205) (pc := 68) (nx := 69) (a := 0) (b := 0) rfl) ?_
      refine Eq.trans (s_store (y := 205) (pc := 69) (nx := 71) (a := 0) (b := 4) (ls' := [(3, 106), (0, (w32 (x1 + 1))), (0, x2), (0, (D 117 x2)), (0, 0), v5]) rfl (Nat.le_of_ble_eq_true rfl) rfl) ?_
      rfl
  · refine Eq.trans (s_load (y := 205) (pc := 162) (nx := 163) (a := 0) (b := 1) (x := x1) rfl rfl) ?_
    exact s_ret (y := 205) (pc := 163) (nx := 164) (a := 0) rfl (by decide)
theorem e_205_71 (D : Mem) (x1 : Int) (x2 : Int) (x3 : Int) (x4 : Int) (v5 : PV) : qE 205 71 [(3, 106), (0, x1), (0, x2), (0, x3), (0, x4), v5] [] (mk D) = (if 0 ≤ x3 ∧ x3 < 80 then (if (D 112 x3) = 0 then qE 205 36 [(3, 106), (0, x1), (0, (w32 (x2 + 1))), (0, x3), (0, x4), v5] [] (mk D) else (if 0 ≤ x3 ∧ x3 < 80 then (if x4 < (D 109 x3) then (if 0 ≤ (w32 ((w32 (10 * x3)) + x4)) ∧ (w32 ((w32 (10 * x3)) + x4)) < 800 then (if 0 ≤ (D 108 (w32 ((w32 (10 * x3)) + x4))) ∧ (D 108 (w32 ((w32 (10 * x3)) + x4))) < 26 then (if 0 ≤ (D 108 (w32 ((w32 (10 * x3)) + x4))) ∧ (D 108 (w32 ((w32 (10 * x3)) + x4))) < 26 then (if x4 ≤ 0 then qE 205 71 [(3, 106), (0, x1), (0, x2), (0, x3), (0, (w32 (x4 + 1))), (0, (D 108 (w32 ((w32 (10 * x3)) + x4))))] [] (mk (mU D 128 (D 108 (w32 ((w32 (10 * x3)) + x4))) (w32 ((D 128 (D 108 (w32 ((w32 (10 * x3)) + x4)))) + 1)))) else (if 0 ≤ (w32 ((w32 ((w32 (10 * x3)) + x4)) - 1)) ∧ (w32 ((w32 ((w32 (10 * x3)) + x4)) - 1)) < 800 then (if 0 ≤ (w32 ((w32 (26 * ((mU D 128 (D 108 (w32 ((w32 (10 * x3)) + x4))) (w32 ((D 128 (D 108 (w32 ((w32 (10 * x3)) + x4)))) + 1))) 108 (w32 ((w32 ((w32 (10 * x3)) + x4)) - 1))))) + (D 108 (w32 ((w32 (10 * x3)) + x4))))) ∧ (w32 ((w32 (26 * ((mU D 128 (D 108 (w32 ((w32 (10 * x3)) + x4))) (w32 ((D 128 (D 108 (w32 ((w32 (10 * x3)) + x4)))) + 1))) 108 (w32 ((w32 ((w32 (10 * x3)) + x4)) - 1))))) + (D 108 (w32 ((w32 (10 * x3)) + x4))))) < 676 then (if 0 ≤ (w32 ((w32 (26 * ((mU D 128 (D 108 (w32 ((w32 (10 * x3)) + x4))) (w32 ((D 128 (D 108 (w32 ((w32 (10 * x3)) + x4)))) + 1))) 108 (w32 ((w32 ((w32 (10 * x3)) + x4)) - 1))))) + (D 108 (w32 ((w32 (10 * x3)) + x4))))) ∧ (w32 ((w32 (26 * ((mU D 128 (D 108 (w32 ((w32 (10 * x3)) + x4))) (w32 ((D 128 (D 108 (w32 ((w32 (10 * x3)) + x4)))) + 1))) 108 (w32 ((w32 ((w32 (10 * x3)) + x4)) - 1))))) + (D 108 (w32 ((w32 (10 * x3)) + x4))))) < 676 then qE 205 71 [(3, 106), (0, x1), (0, x2), (0, x3), (0, (w32 (x4 + 1))), (0, (D 108 (w32 ((w32 (10 * x3)) + x4))))] [] (mk (mU (mU D 128 (D 108 (w32 ((w32 (10 * x3)) + x4))) (w32 ((D 128 (D 108 (w32 ((w32 (10 * x3)) + x4)))) + 1))) 129 (w32 ((w32 (26 * ((mU D 128 (D 108 (w32 ((w32 (10 * x3)) + x4))) (w32 ((D 128 (D 108 (w32 ((w32 (10 * x3)) + x4)))) + 1))) 108 (w32 ((w32 ((w32 (10 * x3)) + x4)) - 1))))) + (D 108 (w32 ((w32 (10 * x3)) + x4))))) (w32 (((mU D 128 (D 108 (w32 ((w32 (10 * x3)) + x4))) (w32 ((D 128 (D 108 (w32 ((w32 (10 * x3)) + x4)))) + 1))) 129 (w32 ((w32 (26 * ((mU D 128 (D 108 (w32 ((w32 (10 * x3)) + x4))) (w32 ((D 128 (D 108 (w32 ((w32 (10 * x3)) + x4)))) + 1))) 108 (w32 ((w32 ((w32 (10 * x3)) + x4)) - 1))))) + (D 108 (w32 ((w32 (10 * x3)) + x4)))))) + 1)))) else none) else none) else none)) else none) else none) else none) else qE 205 36 [(3, 106), (0, x1), (0, (w32 (x2 + 1))), (0, x3), (0, x4), v5] [] (mk D)) else none)) else none) := by
  refine Eq.trans (s_load (y := 205) (pc := 71) (nx := 72) (a := 3) (b := 0) (x := 106) rfl rfl) ?_
  refine Eq.trans (s_get (y := 205) (pc := 72) (nx := 75) (a := 10) (b := 5) (t := 3) (v := 112) rfl (mk_k106 _) rfl (mk_106_5 _)) ?_
  refine Eq.trans (s_load (y := 205) (pc := 75) (nx := 76) (a := 0) (b := 3) (x := x3) rfl rfl) ?_
  refine Eq.trans (s_ald (y := 205) (pc := 76) (nx := 77) (a := 6) (b := 0) (k := 6) (n := 80) (t := 0) (v := (D 112 x3)) rfl (mk_k112 _) rfl rfl (mk_l112 _) (mk_c112 _ _)) (ite_c ?_ rfl)
  refine Eq.trans (s_ifeq (y := 205) (pc := 77) (nx := 80) (b := 156) (tg := 156) rfl rfl) (ite_c ?_ ?_)
  · refine Eq.trans (s_iinc (y := 205) (pc := 156) (nx := 159) (a := 2) (b := 1) (x := x2) (ls' := [(3, 106), (0, x1), (0, (w32 (x2 + 1))), (0, x3), (0, x4), v5]) rfl rfl rfl) ?_
    refine Eq.trans (s_goto (y := 205) (pc := 159) (nx := 162) (a := 0) (b := 36) (tg := 36) rfl rfl) ?_
    rfl
  · refine Eq.trans (s_load (y := 205) (pc := 80) (nx := 82) (a := 0) (b := 4) (x := x4) rfl rfl) ?_
    refine Eq.trans (s_load (y := 205) (pc := 82) (nx := 83) (a := 3) (b := 0) (x := 106) rfl rfl) ?_
    refine Eq.trans (s_get (y := 205) (pc := 83) (nx := 86) (a := 10) (b := 2) (t := 3) (v := 109) rfl (mk_k106 _) rfl (mk_106_2 _)) ?_
    refine Eq.trans (s_load (y := 205) (pc := 86) (nx := 87) (a := 0) (b := 3) (x := x3) rfl rfl) ?_
    refine Eq.trans (s_ald (y := 205) (pc := 87) (nx := 88) (a := 1) (b := 0) (k := 1) (n := 80) (t := 0) (v := (D 109 x3)) rfl (mk_k109 _) rfl rfl (mk_l109 _) (mk_c109 _ _)) (ite_c ?_ rfl)
    refine Eq.trans (s_icge (y := 205) (pc := 88) (nx := 91) (b := 156) (tg := 156) rfl rfl) (ite_c ?_ ?_)
    · refine Eq.trans (s_load (y := 205) (pc := 91) (nx := 92) (a := 3) (b := 0) (x := 106) rfl rfl) ?_
      refine Eq.trans (s_get (y := 205) (pc := 92) (nx := 95) (a := 10) (b := 1) (t := 3) (v := 108) rfl (mk_k106 _) rfl (mk_106_1 _)) ?_
      refine Eq.trans (s_push (y := 205) (pc := 95) (nx := 97) (a := 0) (b := 10) rfl) ?_
      refine Eq.trans (s_load (y := 205) (pc := 97) (nx := 98) (a := 0) (b := 3) (x := x3) rfl rfl) ?_
      refine Eq.trans (s_mul (y := 205) (pc := 98) (nx := 99) (b := 0) rfl) ?_
      refine Eq.trans (s_load (y := 205) (pc := 99) (nx := 101) (a := 0) (b := 4) (x := x4) rfl rfl) ?_
      refine Eq.trans (s_add (y := 205) (pc := 101) (nx := 102) (b := 0) rfl) ?_
      refine Eq.trans (s_ald (y := 205) (pc := 102) (nx := 103) (a := 1) (b := 0) (k := 1) (n := 800) (t := 0) (v := (D 108 (w32 ((w32 (10 * x3)) + x4)))) rfl (mk_k108 _) rfl rfl (mk_l108 _) (mk_c108 _ _)) (ite_c ?_ rfl)
      refine Eq.trans (s_store (y := 205) (pc := 103) (nx := 105) (a := 0) (b := 5) (ls' := [(3, 106), (0, x1), (0, x2), (0, x3), (0, x4), (0, (D 108 (w32 ((w32 (10 * x3)) + x4))))]) rfl (Nat.le_of_ble_eq_true rfl) rfl) ?_
      refine Eq.trans (s_load (y := 205) (pc := 105) (nx := 106) (a := 3) (b := 0) (x := 106) rfl rfl) ?_
      refine Eq.trans (s_get (y := 205) (pc := 106) (nx := 109) (a := 10) (b := 32) (t := 3) (v := 128) rfl (mk_k106 _) rfl (mk_106_32 _)) ?_
      refine Eq.trans (s_load (y := 205) (pc := 109) (nx := 111) (a := 0) (b := 5) (x := (D 108 (w32 ((w32 (10 * x3)) + x4)))) rfl rfl) ?_
      refine Eq.trans (s_dup2 (y := 205) (pc := 111) (nx := 112) (a := 0) (b := 0) rfl (by decide) (by decide)) ?_
      refine Eq.trans (s_ald (y := 205) (pc := 112) (nx := 113) (a := 1) (b := 0) (k := 1) (n := 26) (t := 0) (v := (D 128 (D 108 (w32 ((w32 (10 * x3)) + x4))))) rfl (mk_k128 _) rfl rfl (mk_l128 _) (mk_c128 _ _)) (ite_c ?_ rfl)
      refine Eq.trans (s_push (y := 205) (pc := 113) (nx := 114) (a := 0) (b := 1) rfl) ?_
      refine Eq.trans (s_add (y := 205) (pc := 114) (nx := 115) (b := 0) rfl) ?_
      refine Eq.trans (s_ast (y := 205) (pc := 115) (nx := 116) (a := 1) (b := 0) (k := 1) (n := 26) (t := 0) (v := (w32 ((D 128 (D 108 (w32 ((w32 (10 * x3)) + x4)))) + 1))) (μ' := mk (mU D 128 (D 108 (w32 ((w32 (10 * x3)) + x4))) (w32 ((D 128 (D 108 (w32 ((w32 (10 * x3)) + x4)))) + 1)))) rfl (by decide) (mk_k128 _) rfl (mk_l128 _) (mu_128 _ _ _)) (ite_c ?_ rfl)
      refine Eq.trans (s_load (y := 205) (pc := 116) (nx := 118) (a := 0) (b := 4) (x := x4) rfl rfl) ?_
      refine Eq.trans (s_ifle (y := 205) (pc := 118) (nx := 121) (b := 150) (tg := 150) rfl rfl) (ite_c ?_ ?_)
      · refine Eq.trans (s_iinc (y := 205) (pc := 150) (nx := 153) (a := 4) (b := 1) (x := x4) (ls' := [(3, 106), (0, x1), (0, x2), (0, x3), (0, (w32 (x4 + 1))), (0, (D 108 (w32 ((w32 (10 * x3)) + x4))))]) rfl rfl rfl) ?_
        refine Eq.trans (s_goto (y := 205) (pc := 153) (nx := 156) (a := 0) (b := 71) (tg := 71) rfl rfl) ?_
        rfl
      · refine Eq.trans (s_load (y := 205) (pc := 121) (nx := 122) (a := 3) (b := 0) (x := 106) rfl rfl) ?_
        refine Eq.trans (s_get (y := 205) (pc := 122) (nx := 125) (a := 10) (b := 33) (t := 3) (v := 129) rfl (mk_k106 _) rfl (mk_106_33 _)) ?_
        refine Eq.trans (s_push (y := 205) (pc := 125) (nx := 127) (a := 0) (b := 26) rfl) ?_
        refine Eq.trans (s_load (y := 205) (pc := 127) (nx := 128) (a := 3) (b := 0) (x := 106) rfl rfl) ?_
        refine Eq.trans (s_get (y := 205) (pc := 128) (nx := 131) (a := 10) (b := 1) (t := 3) (v := 108) rfl (mk_k106 _) rfl (mk_106_1 _)) ?_
        refine Eq.trans (s_push (y := 205) (pc := 131) (nx := 133) (a := 0) (b := 10) rfl) ?_
        refine Eq.trans (s_load (y := 205) (pc := 133) (nx := 134) (a := 0) (b := 3) (x := x3) rfl rfl) ?_
        refine Eq.trans (s_mul (y := 205) (pc := 134) (nx := 135) (b := 0) rfl) ?_
        refine Eq.trans (s_load (y := 205) (pc := 135) (nx := 137) (a := 0) (b := 4) (x := x4) rfl rfl) ?_
        refine Eq.trans (s_add (y := 205) (pc := 137) (nx := 138) (b := 0) rfl) ?_
        refine Eq.trans (s_push (y := 205) (pc := 138) (nx := 139) (a := 0) (b := 1) rfl) ?_
        refine Eq.trans (s_sub (y := 205) (pc := 139) (nx := 140) (b := 0) rfl) ?_
        refine Eq.trans (s_ald (y := 205) (pc := 140) (nx := 141) (a := 1) (b := 0) (k := 1) (n := 800) (t := 0) (v := ((mU D 128 (D 108 (w32 ((w32 (10 * x3)) + x4))) (w32 ((D 128 (D 108 (w32 ((w32 (10 * x3)) + x4)))) + 1))) 108 (w32 ((w32 ((w32 (10 * x3)) + x4)) - 1)))) rfl (mk_k108 _) rfl rfl (mk_l108 _) (mk_c108 _ _)) (ite_c ?_ rfl)
        refine Eq.trans (s_mul (y := 205) (pc := 141) (nx := 142) (b := 0) rfl) ?_
        refine Eq.trans (s_load (y := 205) (pc := 142) (nx := 144) (a := 0) (b := 5) (x := (D 108 (w32 ((w32 (10 * x3)) + x4)))) rfl rfl) ?_
        refine Eq.trans (s_add (y := 205) (pc := 144) (nx := 145) (b := 0) rfl) ?_
        refine Eq.trans (s_dup2 (y := 205) (pc := 145) (nx := 146) (a := 0) (b := 0) rfl (by decide) (by decide)) ?_
        refine Eq.trans (s_ald (y := 205) (pc := 146) (nx := 147) (a := 1) (b := 0) (k := 1) (n := 676) (t := 0) (v := ((mU D 128 (D 108 (w32 ((w32 (10 * x3)) + x4))) (w32 ((D 128 (D 108 (w32 ((w32 (10 * x3)) + x4)))) + 1))) 129 (w32 ((w32 (26 * ((mU D 128 (D 108 (w32 ((w32 (10 * x3)) + x4))) (w32 ((D 128 (D 108 (w32 ((w32 (10 * x3)) + x4)))) + 1))) 108 (w32 ((w32 ((w32 (10 * x3)) + x4)) - 1))))) + (D 108 (w32 ((w32 (10 * x3)) + x4))))))) rfl (mk_k129 _) rfl rfl (mk_l129 _) (mk_c129 _ _)) (ite_c ?_ rfl)
        refine Eq.trans (s_push (y := 205) (pc := 147) (nx := 148) (a := 0) (b := 1) rfl) ?_
        refine Eq.trans (s_add (y := 205) (pc := 148) (nx := 149) (b := 0) rfl) ?_
        refine Eq.trans (s_ast (y := 205) (pc := 149) (nx := 150) (a := 1) (b := 0) (k := 1) (n := 676) (t := 0) (v := (w32 (((mU D 128 (D 108 (w32 ((w32 (10 * x3)) + x4))) (w32 ((D 128 (D 108 (w32 ((w32 (10 * x3)) + x4)))) + 1))) 129 (w32 ((w32 (26 * ((mU D 128 (D 108 (w32 ((w32 (10 * x3)) + x4))) (w32 ((D 128 (D 108 (w32 ((w32 (10 * x3)) + x4)))) + 1))) 108 (w32 ((w32 ((w32 (10 * x3)) + x4)) - 1))))) + (D 108 (w32 ((w32 (10 * x3)) + x4)))))) + 1))) (μ' := mk (mU (mU D 128 (D 108 (w32 ((w32 (10 * x3)) + x4))) (w32 ((D 128 (D 108 (w32 ((w32 (10 * x3)) + x4)))) + 1))) 129 (w32 ((w32 (26 * ((mU D 128 (D 108 (w32 ((w32 (10 * x3)) + x4))) (w32 ((D 128 (D 108 (w32 ((w32 (10 * x3)) + x4)))) + 1))) 108 (w32 ((w32 ((w32 (10 * x3)) + x4)) - 1))))) + (D 108 (w32 ((w32 (10 * x3)) + x4))))) (w32 (((mU D 128 (D 108 (w32 ((w32 (10 * x3)) + x4))) (w32 ((D 128 (D 108 (w32 ((w32 (10 * x3)) + x4)))) + 1))) 129 (w32 ((w32 (26 * ((mU D 128 (D 108 (w32 ((w32 (10 * x3)) + x4))) (w32 ((D 128 (D 108 (w32 ((w32 (10 * x3)) + x4)))) + 1))) 108 (w32 ((w32 ((w32 (10 * x3)) + x4)) - 1))))) + (D 108 (w32 ((w32 (10 * x3)) + x4)))))) + 1)))) rfl (by decide) (mk_k129 _) rfl (mk_l129 _) (mu_129 _ _ _)) (ite_c ?_ rfl)
        refine Eq.trans (s_iinc (y := 205) (pc := 150) (nx := 153) (a := 4) (b := 1) (x := x4) (ls' := [(3, 106), (0, x1), (0, x2), (0, x3), (0, (w32 (x4 + 1))), (0, (D 108 (w32 ((w32 (10 * x3)) + x4))))]) rfl rfl rfl) ?_
        refine Eq.trans (s_goto (y := 205) (pc := 153) (nx := 156) (a := 0) (b := 71) (tg := 71) rfl rfl) ?_
        rfl
    · refine Eq.trans (s_iinc (y := 205) (pc := 156) (nx := 159) (a := 2) (b := 1) (x := x2) (ls' := [(3, 106), (0, x1), (0, (w32 (x2 + 1))), (0, x3), (0, x4), v5]) rfl rfl rfl) ?_
      refine Eq.trans (s_goto (y := 205) (pc := 159) (nx := 162) (a := 0) (b := 36) (tg := 36) rfl rfl) ?_
      rfl
theorem r_206 (D : Mem) (x1 : Int) (x2 : Int) : qR 206 [(3, 106), (0, x1), (0, x2)] (mk D) = qE 206 5 [(3, 106), (0, x1), (0, x2), (0, 0), (0, x1), (9, 0)] [] (mk D) := by
  show qE 206 0 [(3, 106), (0, x1), (0, x2), (9, 0), (9, 0), (9, 0)] [] (mk D) = _
  refine Eq.trans (s_push (y := 206) (pc := 0) (nx := 1) (a := 0) (b := 0) rfl) ?_
  refine Eq.trans (s_store (y := 206) (pc := 1) (nx := 2) (a := 0) (b := 3) (ls' := [(3, 106), (0, x1), (0, x2), (0, 0), (9, 0), (9, 0)]) rfl (Nat.le_of_ble_eq_true rfl) rfl) ?_
  refine Eq.trans (s_load (y := 206) (pc := 2) (nx := 3) (a := 0) (b := 1) (x := x1) rfl rfl) ?_
  refine Eq.trans (s_store (y := 206) (pc := 3) (nx := 5) (a := 0) (b := 4) (ls' := [(3, 106), (0, x1), (0, x2), (0, 0), (0, x1), (9, 0)]) rfl (Nat.le_of_ble_eq_true rfl) rfl) ?_
  rfl
theorem e_206_5 (D : Mem) (x1 : Int) (x2 : Int) (x3 : Int) (x4 : Int) (v5 : PV) : qE 206 5 [(3, 106), (0, x1), (0, x2), (0, x3), (0, x4), v5] [] (mk D) = (if x4 ≤ x2 then (if 0 ≤ x4 ∧ x4 < 26 then qE 206 31 [(3, 106), (0, x1), (0, x2), (0, (w32 (x3 + (w32 ((D 128 x4) * (w32 ((w32 (x4 - x1)) + 1))))))), (0, x4), (0, x1)] [] (mk D) else none) else some ((0, x3), (mk D))) := by
  refine Eq.trans (s_load (y := 206) (pc := 5) (nx := 7) (a := 0) (b := 4) (x := x4) rfl rfl) ?_
  refine Eq.trans (s_load (y := 206) (pc := 7) (nx := 8) (a := 0) (b := 2) (x := x2) rfl rfl) ?_
  refine Eq.trans (s_icgt (y := 206) (pc := 8) (nx := 11) (b := 65) (tg := 65) rfl rfl) (ite_c ?_ ?_)
  · refine Eq.trans (s_load (y := 206) (pc := 11) (nx := 12) (a := 0) (b := 3) (x := x3) rfl rfl) ?_
    refine Eq.trans (s_load (y := 206) (pc := 12) (nx := 13) (a := 3) (b := 0) (x := 106) rfl rfl) ?_
    refine Eq.trans (s_get (y := 206) (pc := 13) (nx := 16) (a := 10) (b := 32) (t := 3) (v := 128) rfl (mk_k106 _) rfl (mk_106_32 _)) ?_
    refine Eq.trans (s_load (y := 206) (pc := 16) (nx := 18) (a := 0) (b := 4) (x := x4) rfl rfl) ?_
    refine Eq.trans (s_ald (y := 206) (pc := 18) (nx := 19) (a := 1) (b := 0) (k := 1) (n := 26) (t := 0) (v := (D 128 x4)) rfl (mk_k128 _) rfl rfl (mk_l128 _) (mk_c128 _ _)) (ite_c ?_ rfl)
    refine Eq.trans (s_load (y := 206) (pc := 19) (nx := 21) (a := 0) (b := 4) (x := x4) rfl rfl) ?_
    refine Eq.trans (s_load (y := 206) (pc := 21) (nx := 22) (a := 0) (b := 1) (x := x1) rfl rfl) ?_
    refine Eq.trans (s_sub (y := 206) (pc := 22) (nx := 23) (b := 0) rfl) ?_
    refine Eq.trans (s_push (y := 206) (pc := 23) (nx := 24) (a := 0) (b := 1) rfl) ?_
    refine Eq.trans (s_add (y := 206) (pc := 24) (nx := 25) (b := 0) rfl) ?_
    refine Eq.trans (s_mul (y := 206) (pc := 25) (nx := 26) (b := 0) rfl) ?_
    refine Eq.trans (s_add (y := 206) (pc := 26) (nx := 27) (b := 0) rfl) ?_
    refine Eq.trans (s_store (y := 206) (pc := 27) (nx := 28) (a := 0) (b := 3) (ls' := [(3, 106), (0, x1), (0, x2), (0, (w32 (x3 + (w32 ((D 128 x4) * (w32 ((w32 (x4 - x1)) + 1))))))), (0, x4), v5]) rfl (Nat.le_of_ble_eq_true rfl) rfl) ?_
    refine Eq.trans (s_load (y := 206) (pc := 28) (nx := 29) (a := 0) (b := 1) (x := x1) rfl rfl) ?_
    refine Eq.trans (s_store (y := 206) (pc := 29) (nx := 31) (a := 0) (b := 5) (ls' := [(3, 106), (0, x1), (0, x2), (0, (w32 (x3 + (w32 ((D 128 x4) * (w32 ((w32 (x4 - x1)) + 1))))))), (0, x4), (0, x1)]) rfl (Nat.le_of_ble_eq_true rfl) rfl) ?_
    rfl
  · refine Eq.trans (s_load (y := 206) (pc := 65) (nx := 66) (a := 0) (b := 3) (x := x3) rfl rfl) ?_
    exact s_ret (y := 206) (pc := 66) (nx := 67) (a := 0) rfl (by decide)
theorem e_206_31 (D : Mem) (x1 : Int) (x2 : Int) (x3 : Int) (x4 : Int) (x5 : Int) : qE 206 31 [(3, 106), (0, x1), (0, x2), (0, x3), (0, x4), (0, x5)] [] (mk D) = (if x5 ≤ x2 then (if 0 ≤ (w32 ((w32 (26 * x4)) + x5)) ∧ (w32 ((w32 (26 * x4)) + x5)) < 676 then qE 206 31 [(3, 106), (0, x1), (0, x2), (0, (w32 (x3 + (D 129 (w32 ((w32 (26 * x4)) + x5)))))), (0, x4), (0, (w32 (x5 + 1)))] [] (mk D) else none) else qE 206 5 [(3, 106), (0, x1), (0, x2), (0, x3), (0, (w32 (x4 + 1))), (0, x5)] [] (mk D)) := by
  refine Eq.trans (s_load (y := 206) (pc := 31) (nx := 33) (a := 0) (b := 5) (x := x5) rfl rfl) ?_
  refine Eq.trans (s_load (y := 206) (pc := 33) (nx := 34) (a := 0) (b := 2) (x := x2) rfl rfl) ?_
  refine Eq.trans (s_icgt (y := 206) (pc := 34) (nx := 37) (b := 59) (tg := 59) rfl rfl) (ite_c ?_ ?_)
  · refine Eq.trans (s_load (y := 206) (pc := 37) (nx := 38) (a := 0) (b := 3) (x := x3) rfl rfl) ?_
    refine Eq.trans (s_load (y := 206) (pc := 38) (nx := 39) (a := 3) (b := 0) (x := 106) rfl rfl) ?_
    refine Eq.trans (s_get (y := 206) (pc := 39) (nx := 42) (a := 10) (b := 33) (t := 3) (v := 129) rfl (mk_k106 _) rfl (mk_106_33 _)) ?_
    refine Eq.trans (s_push (y := 206) (pc := 42) (nx := 44) (a := 0) (b := 26) rfl) ?_
    refine Eq.trans (s_load (y := 206) (pc := 44) (nx := 46) (a := 0) (b := 4) (x := x4) rfl rfl) ?_
    refine Eq.trans (s_mul (y := 206) (pc := 46) (nx := 47) (b := 0) rfl) ?_
    refine Eq.trans (s_load (y := 206) (pc := 47) (nx := 49) (a := 0) (b := 5) (x := x5) rfl rfl) ?_
    refine Eq.trans (s_add (y := 206) (pc := 49) (nx := 50) (b := 0) rfl) ?_
    refine Eq.trans (s_ald (y := 206) (pc := 50) (nx := 51) (a := 1) (b := 0) (k := 1) (n := 676) (t := 0) (v := (D 129 (w32 ((w32 (26 * x4)) + x5)))) rfl (mk_k129 _) rfl rfl (mk_l129 _) (mk_c129 _ _)) (ite_c ?_ rfl)
    refine Eq.trans (s_add (y := 206) (pc := 51) (nx := 52) (b := 0) rfl) ?_
    refine Eq.trans (s_store (y := 206) (pc := 52) (nx := 53) (a := 0) (b := 3) (ls' := [(3, 106), (0, x1), (0, x2), (0, (w32 (x3 + (D 129 (w32 ((w32 (26 * x4)) + x5)))))), (0, x4), (0, x5)]) rfl (Nat.le_of_ble_eq_true rfl) rfl) ?_
    refine Eq.trans (s_iinc (y := 206) (pc := 53) (nx := 56) (a := 5) (b := 1) (x := x5) (ls' := [(3, 106), (0, x1), (0, x2), (0, (w32 (x3 + (D 129 (w32 ((w32 (26 * x4)) + x5)))))), (0, x4), (0, (w32 (x5 + 1)))]) rfl rfl rfl) ?_
    refine Eq.trans (s_goto (y := 206) (pc := 56) (nx := 59) (a := 0) (b := 31) (tg := 31) rfl rfl) ?_
    rfl
  · refine Eq.trans (s_iinc (y := 206) (pc := 59) (nx := 62) (a := 4) (b := 1) (x := x4) (ls' := [(3, 106), (0, x1), (0, x2), (0, x3), (0, (w32 (x4 + 1))), (0, x5)]) rfl rfl rfl) ?_
    refine Eq.trans (s_goto (y := 206) (pc := 62) (nx := 65) (a := 0) (b := 5) (tg := 5) rfl rfl) ?_
    rfl
theorem r_207 (D : Mem) : qR 207 [(3, 106)] (mk D) = ((qR 205 [(3, 106)] (mk D)).bind fun w => qE 207 4 [(3, 106), (9, 0), (9, 0), (9, 0), (9, 0), (9, 0)] (psh w.1 []) w.2) := by
  show qE 207 0 [(3, 106), (9, 0), (9, 0), (9, 0), (9, 0), (9, 0)] [] (mk D) = _
  refine Eq.trans (s_load (y := 207) (pc := 0) (nx := 1) (a := 3) (b := 0) (x := 106) rfl rfl) ?_
  exact s_call (y := 207) (pc := 1) (nx := 4) (a := 205) (b := 0) (as := [(3, 106)]) (r := []) rfl (Nat.le_of_ble_eq_true rfl) rfl rfl (Nat.le_of_ble_eq_true rfl) (Nat.le_of_ble_eq_true rfl) (Or.inr ⟨rfl, mk_k106 _⟩)
theorem e_207_4 (D : Mem) (s0 : Int) : qE 207 4 [(3, 106), (9, 0), (9, 0), (9, 0), (9, 0), (9, 0)] [(0, s0)] (mk D) = qE 207 7 [(3, 106), (0, s0), (0, 0), (9, 0), (9, 0), (9, 0)] [] (mk D) := by
  refine Eq.trans (s_store (y := 207) (pc := 4) (nx := 5) (a := 0) (b := 1) (ls' := [(3, 106), (0, s0), (9, 0), (9, 0), (9, 0), (9, 0)]) rfl (Nat.le_of_ble_eq_true rfl) rfl) ?_
  refine Eq.trans (s_push (y := 207) (pc := 5) (nx := 6) (a := 0) (b := 0) rfl) ?_
  refine Eq.trans (s_store (y := 207) (pc := 6) (nx := 7) (a := 0) (b := 2) (ls' := [(3, 106), (0, s0), (0, 0), (9, 0), (9, 0), (9, 0)]) rfl (Nat.le_of_ble_eq_true rfl) rfl) ?_
  rfl
theorem e_207_7 (D : Mem) (x1 : Int) (x2 : Int) (v3 : PV) : qE 207 7 [(3, 106), (0, x1), (0, x2), v3, (9, 0), (9, 0)] [] (mk D) = (if x2 ≤ 9 then qE 207 15 [(3, 106), (0, x1), (0, x2), (0, 0), (9, 0), (9, 0)] [] (mk D) else qE 207 62 [(3, 106), (0, x1), (0, 1), v3, (9, 0), (9, 0)] [] (mk D)) := by
  refine Eq.trans (s_load (y := 207) (pc := 7) (nx := 8) (a := 0) (b := 2) (x := x2) rfl rfl) ?_
  refine Eq.trans (s_push (y := 207) (pc := 8) (nx := 10) (a := 0) (b := 9) rfl) ?_
  refine Eq.trans (s_icgt (y := 207) (pc := 10) (nx := 13) (b := 60) (tg := 60) rfl rfl) (ite_c ?_ ?_)
  · refine Eq.trans (s_push (y := 207) (pc := 13) (nx := 14) (a := 0) (b := 0) rfl) ?_
    refine Eq.trans (s_store (y := 207) (pc := 14) (nx := 15) (a := 0) (b := 3) (ls' := [(3, 106), (0, x1), (0, x2), (0, 0), (9, 0), (9, 0)]) rfl (Nat.le_of_ble_eq_true rfl) rfl) ?_
    rfl
  · refine Eq.trans (s_push (y := 207) (pc := 60) (nx := 61) (a := 0) (b := 1) rfl) ?_
    refine Eq.trans (s_store (y := 207) (pc := 61) (nx := 62) (a := 0) (b := 2) (ls' := [(3, 106), (0, x1), (0, 1), v3, (9, 0), (9, 0)]) rfl (Nat.le_of_ble_eq_true rfl) rfl) ?_
    rfl
theorem e_207_15 (D : Mem) (x1 : Int) (x2 : Int) (x3 : Int) : qE 207 15 [(3, 106), (0, x1), (0, x2), (0, x3), (9, 0), (9, 0)] [] (mk D) = (if x3 ≤ 26 then (if x2 = 0 then (if x3 = 26 then (if 0 ≤ (w32 ((w32 (27 * x2)) + x3)) ∧ (w32 ((w32 (27 * x2)) + x3)) < 270 then qE 207 15 [(3, 106), (0, x1), (0, x2), (0, (w32 (x3 + 1))), (9, 0), (9, 0)] [] (mk (mU D 130 (w32 ((w32 (27 * x2)) + x3)) 0)) else none) else (if 0 ≤ (w32 ((w32 (27 * x2)) + x3)) ∧ (w32 ((w32 (27 * x2)) + x3)) < 270 then qE 207 15 [(3, 106), (0, x1), (0, x2), (0, (w32 (x3 + 1))), (9, 0), (9, 0)] [] (mk (mU D 130 (w32 ((w32 (27 * x2)) + x3)) 100000000)) else none)) else (if 0 ≤ (w32 ((w32 (27 * x2)) + x3)) ∧ (w32 ((w32 (27 * x2)) + x3)) < 270 then qE 207 15 [(3, 106), (0, x1), (0, x2), (0, (w32 (x3 + 1))), (9, 0), (9, 0)] [] (mk (mU D 130 (w32 ((w32 (27 * x2)) + x3)) 100000000)) else none)) else qE 207 7 [(3, 106), (0, x1), (0, (w32 (x2 + 1))), (0, x3), (9, 0), (9, 0)] [] (mk D)) := by
  refine Eq.trans (s_load (y := 207) (pc := 15) (nx := 16) (a := 0) (b := 3) (x := x3) rfl rfl) ?_
  refine Eq.trans (s_push (y := 207) (pc := 16) (nx := 18) (a := 0) (b := 26) rfl) ?_
  refine Eq.trans (s_icgt (y := 207) (pc := 18) (nx := 21) (b := 54) (tg := 54) rfl rfl) (ite_c ?_ ?_)
  · refine Eq.trans (s_load (y := 207) (pc := 21) (nx := 22) (a := 3) (b := 0) (x := 106) rfl rfl) ?_
    refine Eq.trans (s_get (y := 207) (pc := 22) (nx := 25) (a := 10) (b := 34) (t := 3) (v := 130) rfl (mk_k106 _) rfl (mk_106_34 _)) ?_
    refine Eq.trans (s_push (y := 207) (pc := 25) (nx := 27) (a := 0) (b := 27) rfl) ?_
    refine Eq.trans (s_load (y := 207) (pc := 27) (nx := 28) (a := 0) (b := 2) (x := x2) rfl rfl) ?_
    refine Eq.trans (s_mul (y := 207) (pc := 28) (nx := 29) (b := 0) rfl) ?_
    refine Eq.trans (s_load (y := 207) (pc := 29) (nx := 30) (a := 0) (b := 3) (x := x3) rfl rfl) ?_
    refine Eq.trans (s_add (y := 207) (pc := 30) (nx := 31) (b := 0) rfl) ?_
    refine Eq.trans (s_load (y := 207) (pc := 31) (nx := 32) (a := 0) (b := 2) (x := x2) rfl rfl) ?_
    refine Eq.trans (s_ifne (y := 207) (pc := 32) (nx := 35) (b := 45) (tg := 45) rfl rfl) (ite_c ?_ ?_)
    · refine Eq.trans (s_load (y := 207) (pc := 35) (nx := 36) (a := 0) (b := 3) (x := x3) rfl rfl) ?_
      refine Eq.trans (s_push (y := 207) (pc := 36) (nx := 38) (a := 0) (b := 26) rfl) ?_
      refine Eq.trans (s_icne (y := 207) (pc := 38) (nx := 41) (b := 45) (tg := 45) rfl rfl) (ite_c ?_ ?_)
      · refine Eq.trans (s_push (y := 207) (pc := 41) (nx := 42) (a := 0) (b := 0) rfl) ?_
        refine Eq.trans (s_goto (y := 207) (pc := 42) (nx := 45) (a := 0) (b := 47) (tg := 47) rfl rfl) ?_
        refine Eq.trans (s_ast (y := 207) (pc := 47) (nx := 48) (a := 1) (b := 0) (k := 1) (n := 270) (t := 0) (v := 0) (μ' := mk (mU D 130 (w32 ((w32 (27 * x2)) + x3)) 0)) rfl (by decide) (mk_k130 _) rfl (mk_l130 _) (mu_130 _ _ _)) (ite_c ?_ rfl)
        refine Eq.trans (s_iinc (y := 207) (pc := 48) (nx := 51) (a := 3) (b := 1) (x := x3) (ls' := [(3, 106), (0, x1), (0, x2), (0, (w32 (x3 + 1))), (9, 0), (9, 0)]) rfl rfl rfl) ?_
        refine Eq.trans (s_goto (y := 207) (pc := 51) (nx := 54) (a := 0) (b := 15) (tg := 15) rfl rfl) ?_
        rfl
      · refine Eq.trans (s_push (y := 207) (pc := 45) (nx := 47) (a := 0) (b := 100000000) rfl) ?_
        refine Eq.trans (s_ast (y := 207) (pc := 47) (nx := 48) (a := 1) (b := 0) (k := 1) (n := 270) (t := 0) (v := 100000000) (μ' := mk (mU D 130 (w32 ((w32 (27 * x2)) + x3)) 100000000)) rfl (by decide) (mk_k130 _) rfl (mk_l130 _) (mu_130 _ _ _)) (ite_c ?_ rfl)
        refine Eq.trans (s_iinc (y := 207) (pc := 48) (nx := 51) (a := 3) (b := 1) (x := x3) (ls' := [(3, 106), (0, x1), (0, x2), (0, (w32 (x3 + 1))), (9, 0), (9, 0)]) rfl rfl rfl) ?_
        refine Eq.trans (s_goto (y := 207) (pc := 51) (nx := 54) (a := 0) (b := 15) (tg := 15) rfl rfl) ?_
        rfl
    · refine Eq.trans (s_push (y := 207) (pc := 45) (nx := 47) (a := 0) (b := 100000000) rfl) ?_
      refine Eq.trans (s_ast (y := 207) (pc := 47) (nx := 48) (a := 1) (b := 0) (k := 1) (n := 270) (t := 0) (v := 100000000) (μ' := mk (mU D 130 (w32 ((w32 (27 * x2)) + x3)) 100000000)) rfl (by decide) (mk_k130 _) rfl (mk_l130 _) (mu_130 _ _ _)) (ite_c ?_ rfl)
      refine Eq.trans (s_iinc (y := 207) (pc := 48) (nx := 51) (a := 3) (b := 1) (x := x3) (ls' := [(3, 106), (0, x1), (0, x2), (0, (w32 (x3 + 1))), (9, 0), (9, 0)]) rfl rfl rfl) ?_
      refine Eq.trans (s_goto (y := 207) (pc := 51) (nx := 54) (a := 0) (b := 15) (tg := 15) rfl rfl) ?_
      rfl
  · refine Eq.trans (s_iinc (y := 207) (pc := 54) (nx := 57) (a := 2) (b := 1) (x := x2) (ls' := [(3, 106), (0, x1), (0, (w32 (x2 + 1))), (0, x3), (9, 0), (9, 0)]) rfl rfl rfl) ?_
    refine Eq.trans (s_goto (y := 207) (pc := 57) (nx := 60) (a := 0) (b := 7) (tg := 7) rfl rfl) ?_
    rfl
theorem e_207_62 (D : Mem) (x1 : Int) (x2 : Int) (v3 : PV) (v4 : PV) (v5 : PV) : qE 207 62 [(3, 106), (0, x1), (0, x2), v3, v4, v5] [] (mk D) = (if x2 ≤ 9 then qE 207 70 [(3, 106), (0, x1), (0, x2), (0, 0), v4, v5] [] (mk D) else qE 207 178 [(3, 106), (0, x1), (0, 0), (0, 9), v4, v5] [] (mk D)) := by
  refine Eq.trans (s_load (y := 207) (pc := 62) (nx := 63) (a := 0) (b := 2) (x := x2) rfl rfl) ?_
  refine Eq.trans (s_push (y := 207) (pc := 63) (nx := 65) (a := 0) (b := 9) rfl) ?_
  refine Eq.trans (s_icgt (y := 207) (pc := 65) (nx := 68) (b := 173) (tg := 173) rfl rfl) (ite_c ?_ ?_)
  · refine Eq.trans (s_push (y := 207) (pc := 68) (nx := 69) (a := 0) (b := 0) rfl) ?_
    refine Eq.trans (s_store (y := 207) (pc := 69) (nx := 70) (a := 0) (b := 3) (ls' := [(3, 106), (0, x1), (0, x2), (0, 0), v4, v5]) rfl (Nat.le_of_ble_eq_true rfl) rfl) ?_
    rfl
  · refine Eq.trans (s_push (y := 207) (pc := 173) (nx := 174) (a := 0) (b := 0) rfl) ?_
    refine Eq.trans (s_store (y := 207) (pc := 174) (nx := 175) (a := 0) (b := 2) (ls' := [(3, 106), (0, x1), (0, 0), v3, v4, v5]) rfl (Nat.le_of_ble_eq_true rfl) rfl) ?_
    refine Eq.trans (s_push (y := 207) (pc := 175) (nx := 177) (a := 0) (b := 9) rfl) ?_
    refine Eq.trans (s_store (y := 207) (pc := 177) (nx := 178) (a := 0) (b := 3) (ls' := [(3, 106), (0, x1), (0, 0), (0, 9), v4, v5]) rfl (Nat.le_of_ble_eq_true rfl) rfl) ?_
    rfl
theorem e_207_70 (D : Mem) (x1 : Int) (x2 : Int) (x3 : Int) (v4 : PV) (v5 : PV) : qE 207 70 [(3, 106), (0, x1), (0, x2), (0, x3), v4, v5] [] (mk D) = (if x3 < 26 then qE 207 79 [(3, 106), (0, x1), (0, x2), (0, x3), (0, x3), v5] [] (mk D) else qE 207 62 [(3, 106), (0, x1), (0, (w32 (x2 + 1))), (0, x3), v4, v5] [] (mk D)) := by
  refine Eq.trans (s_load (y := 207) (pc := 70) (nx := 71) (a := 0) (b := 3) (x := x3) rfl rfl) ?_
  refine Eq.trans (s_push (y := 207) (pc := 71) (nx := 73) (a := 0) (b := 26) rfl) ?_
  refine Eq.trans (s_icge (y := 207) (pc := 73) (nx := 76) (b := 167) (tg := 167) rfl rfl) (ite_c ?_ ?_)
  · refine Eq.trans (s_load (y := 207) (pc := 76) (nx := 77) (a := 0) (b := 3) (x := x3) rfl rfl) ?_
    refine Eq.trans (s_store (y := 207) (pc := 77) (nx := 79) (a := 0) (b := 4) (ls' := [(3, 106), (0, x1), (0, x2), (0, x3), (0, x3), v5]) rfl (Nat.le_of_ble_eq_true rfl) rfl) ?_
    rfl
  · refine Eq.trans (s_iinc (y := 207) (pc := 167) (nx := 170) (a := 2) (b := 1) (x := x2) (ls' := [(3, 106), (0, x1), (0, (w32 (x2 + 1))), (0, x3), v4, v5]) rfl rfl rfl) ?_
    refine Eq.trans (s_goto (y := 207) (pc := 170) (nx := 173) (a := 0) (b := 62) (tg := 62) rfl rfl) ?_
    rfl
theorem e_207_79 (D : Mem) (x1 : Int) (x2 : Int) (x3 : Int) (x4 : Int) (v5 : PV) : qE 207 79 [(3, 106), (0, x1), (0, x2), (0, x3), (0, x4), v5] [] (mk D) = (if x4 < 26 then ((qR 206 [(3, 106), (0, x3), (0, x4)] (mk D)).bind fun w => qE 207 93 [(3, 106), (0, x1), (0, x2), (0, x3), (0, x4), v5] (psh w.1 []) w.2) else qE 207 70 [(3, 106), (0, x1), (0, x2), (0, (w32 (x3 + 1))), (0, x4), v5] [] (mk D)) := by
  refine Eq.trans (s_load (y := 207) (pc := 79) (nx := 81) (a := 0) (b := 4) (x := x4) rfl rfl) ?_
  refine Eq.trans (s_push (y := 207) (pc := 81) (nx := 83) (a := 0) (b := 26) rfl) ?_
  refine Eq.trans (s_icge (y := 207) (pc := 83) (nx := 86) (b := 161) (tg := 161) rfl rfl) (ite_c ?_ ?_)
  · refine Eq.trans (s_load (y := 207) (pc := 86) (nx := 87) (a := 3) (b := 0) (x := 106) rfl rfl) ?_
    refine Eq.trans (s_load (y := 207) (pc := 87) (nx := 88) (a := 0) (b := 3) (x := x3) rfl rfl) ?_
    refine Eq.trans (s_load (y := 207) (pc := 88) (nx := 90) (a := 0) (b := 4) (x := x4) rfl rfl) ?_
    exact s_call (y := 207) (pc := 90) (nx := 93) (a := 206) (b := 0) (as := [(3, 106), (0, x3), (0, x4)]) (r := []) rfl (Nat.le_of_ble_eq_true rfl) rfl rfl (Nat.le_of_ble_eq_true rfl) (Nat.le_of_ble_eq_true rfl) (Or.inr ⟨rfl, mk_k106 _⟩)
  · refine Eq.trans (s_iinc (y := 207) (pc := 161) (nx := 164) (a := 3) (b := 1) (x := x3) (ls' := [(3, 106), (0, x1), (0, x2), (0, (w32 (x3 + 1))), (0, x4), v5]) rfl rfl rfl) ?_
    refine Eq.trans (s_goto (y := 207) (pc := 164) (nx := 167) (a := 0) (b := 70) (tg := 70) rfl rfl) ?_
    rfl
theorem e_207_93 (D : Mem) (x1 : Int) (x2 : Int) (x3 : Int) (x4 : Int) (v5 : PV) (s0 : Int) : qE 207 93 [(3, 106), (0, x1), (0, x2), (0, x3), (0, x4), v5] [(0, s0)] (mk D) = (if 0 ≤ (w32 ((w32 ((w32 (27 * (w32 (x2 - 1)))) + x4)) + 1)) ∧ (w32 ((w32 ((w32 (27 * (w32 (x2 - 1)))) + x4)) + 1)) < 270 then (if 0 ≤ (w32 ((w32 (27 * x2)) + x3)) ∧ (w32 ((w32 (27 * x2)) + x3)) < 270 then (if (w32 (s0 + (D 130 (w32 ((w32 ((w32 (27 * (w32 (x2 - 1)))) + x4)) + 1))))) < (D 130 (w32 ((w32 (27 * x2)) + x3))) then (if 0 ≤ (w32 ((w32 (27 * x2)) + x3)) ∧ (w32 ((w32 (27 * x2)) + x3)) < 270 then qE 207 79 [(3, 106), (0, x1), (0, x2), (0, x3), (0, (w32 (x4 + 1))), (0, (w32 (s0 + (D 130 (w32 ((w32 ((w32 (27 * (w32 (x2 - 1)))) + x4)) + 1))))))] [] (mk (mU D 130 (w32 ((w32 (27 * x2)) + x3)) (w32 (s0 + (D 130 (w32 ((w32 ((w32 (27 * (w32 (x2 - 1)))) + x4)) + 1))))))) else none) else (if 0 ≤ (w32 ((w32 (27 * x2)) + x3)) ∧ (w32 ((w32 (27 * x2)) + x3)) < 270 then (if 0 ≤ (w32 ((w32 (27 * x2)) + x3)) ∧ (w32 ((w32 (27 * x2)) + x3)) < 270 then qE 207 79 [(3, 106), (0, x1), (0, x2), (0, x3), (0, (w32 (x4 + 1))), (0, (w32 (s0 + (D 130 (w32 ((w32 ((w32 (27 * (w32 (x2 - 1)))) + x4)) + 1))))))] [] (mk (mU D 130 (w32 ((w32 (27 * x2)) + x3)) (D 130 (w32 ((w32 (27 * x2)) + x3))))) else none) else none)) else none) else none) := by
  refine Eq.trans (s_load (y := 207) (pc := 93) (nx := 94) (a := 3) (b := 0) (x := 106) rfl rfl) ?_
  refine Eq.trans (s_get (y := 207) (pc := 94) (nx := 97) (a := 10) (b := 34) (t := 3) (v := 130) rfl (mk_k106 _) rfl (mk_106_34 _)) ?_
  refine Eq.trans (s_push (y := 207) (pc := 97) (nx := 99) (a := 0) (b := 27) rfl) ?_
  refine Eq.trans (s_load (y := 207) (pc := 99) (nx := 100) (a := 0) (b := 2) (x := x2) rfl rfl) ?_
  refine Eq.trans (s_push (y := 207) (pc := 100) (nx := 101) (a := 0) (b := 1) rfl) ?_
  refine Eq.trans (s_sub (y := 207) (pc := 101) (nx := 102) (b := 0) rfl) ?_
  refine Eq.trans (s_mul (y := 207) (pc := 102) (nx := 103) (b := 0) rfl) ?_
  refine Eq.trans (s_load (y := 207) (pc := 103) (nx := 105) (a := 0) (b := 4) (x := x4) rfl rfl) ?_
  refine Eq.trans (s_add (y := 207) (pc := 105) (nx := 106) (b := 0) rfl) ?_
  refine Eq.trans (s_push (y := 207) (pc := 106) (nx := 107) (a := 0) (b := 1) rfl) ?_
  refine Eq.trans (s_add (y := 207) (pc := 107) (nx := 108) (b := 0) rfl) ?_
  refine Eq.trans (s_ald (y := 207) (pc := 108) (nx := 109) (a := 1) (b := 0) (k := 1) (n := 270) (t := 0) (v := (D 130 (w32 ((w32 ((w32 (27 * (w32 (x2 - 1)))) + x4)) + 1)))) rfl (mk_k130 _) rfl rfl (mk_l130 _) (mk_c130 _ _)) (ite_c ?_ rfl)
  refine Eq.trans (s_add (y := 207) (pc := 109) (nx := 110) (b := 0) rfl) ?_
  refine Eq.trans (s_store (y := 207) (pc := 110) (nx := 112) (a := 0) (b := 5) (ls' := [(3, 106), (0, x1), (0, x2), (0, x3), (0, x4), (0, (w32 (s0 + (D 130 (w32 ((w32 ((w32 (27 * (w32 (x2 - 1)))) + x4)) + 1))))))]) rfl (Nat.le_of_ble_eq_true rfl) rfl) ?_
  refine Eq.trans (s_load (y := 207) (pc := 112) (nx := 113) (a := 3) (b := 0) (x := 106) rfl rfl) ?_
  refine Eq.trans (s_get (y := 207) (pc := 113) (nx := 116) (a := 10) (b := 34) (t := 3) (v := 130) rfl (mk_k106 _) rfl (mk_106_34 _)) ?_
  refine Eq.trans (s_push (y := 207) (pc := 116) (nx := 118) (a := 0) (b := 27) rfl) ?_
  refine Eq.trans (s_load (y := 207) (pc := 118) (nx := 119) (a := 0) (b := 2) (x := x2) rfl rfl) ?_
  refine Eq.trans (s_mul (y := 207) (pc := 119) (nx := 120) (b := 0) rfl) ?_
  refine Eq.trans (s_load (y := 207) (pc := 120) (nx := 121) (a := 0) (b := 3) (x := x3) rfl rfl) ?_
  refine Eq.trans (s_add (y := 207) (pc := 121) (nx := 122) (b := 0) rfl) ?_
  refine Eq.trans (s_load (y := 207) (pc := 122) (nx := 124) (a := 0) (b := 5) (x := (w32 (s0 + (D 130 (w32 ((w32 ((w32 (27 * (w32 (x2 - 1)))) + x4)) + 1)))))) rfl rfl) ?_
  refine Eq.trans (s_load (y := 207) (pc := 124) (nx := 125) (a := 3) (b := 0) (x := 106) rfl rfl) ?_
  refine Eq.trans (s_get (y := 207) (pc := 125) (nx := 128) (a := 10) (b := 34) (t := 3) (v := 130) rfl (mk_k106 _) rfl (mk_106_34 _)) ?_
  refine Eq.trans (s_push (y := 207) (pc := 128) (nx := 130) (a := 0) (b := 27) rfl) ?_
  refine Eq.trans (s_load (y := 207) (pc := 130) (nx := 131) (a := 0) (b := 2) (x := x2) rfl rfl) ?_
  refine Eq.trans (s_mul (y := 207) (pc := 131) (nx := 132) (b := 0) rfl) ?_
  refine Eq.trans (s_load (y := 207) (pc := 132) (nx := 133) (a := 0) (b := 3) (x := x3) rfl rfl) ?_
  refine Eq.trans (s_add (y := 207) (pc := 133) (nx := 134) (b := 0) rfl) ?_
  refine Eq.trans (s_ald (y := 207) (pc := 134) (nx := 135) (a := 1) (b := 0) (k := 1) (n := 270) (t := 0) (v := (D 130 (w32 ((w32 (27 * x2)) + x3)))) rfl (mk_k130 _) rfl rfl (mk_l130 _) (mk_c130 _ _)) (ite_c ?_ rfl)
  refine Eq.trans (s_icge (y := 207) (pc := 135) (nx := 138) (b := 143) (tg := 143) rfl rfl) (ite_c ?_ ?_)
  · refine Eq.trans (s_load (y := 207) (pc := 138) (nx := 140) (a := 0) (b := 5) (x := (w32 (s0 + (D 130 (w32 ((w32 ((w32 (27 * (w32 (x2 - 1)))) + x4)) + 1)))))) rfl rfl) ?_
    refine Eq.trans (s_goto (y := 207) (pc := 140) (nx := 143) (a := 0) (b := 154) (tg := 154) rfl rfl) ?_
    refine Eq.trans (s_ast (y := 207) (pc := 154) (nx := 155) (a := 1) (b := 0) (k := 1) (n := 270) (t := 0) (v := (w32 (s0 + (D 130 (w32 ((w32 ((w32 (27 * (w32 (x2 - 1)))) + x4)) + 1)))))) (μ' := mk (mU D 130 (w32 ((w32 (27 * x2)) + x3)) (w32 (s0 + (D 130 (w32 ((w32 ((w32 (27 * (w32 (x2 - 1)))) + x4)) + 1))))))) rfl (by decide) (mk_k130 _) rfl (mk_l130 _) (mu_130 _ _ _)) (ite_c ?_ rfl)
    refine Eq.trans (s_iinc (y := 207) (pc := 155) (nx := 158) (a := 4) (b := 1) (x := x4) (ls' := [(3, 106), (0, x1), (0, x2), (0, x3), (0, (w32 (x4 + 1))), (0, (w32 (s0 + (D 130 (w32 ((w32 ((w32 (27 * (w32 (x2 - 1)))) + x4)) + 1))))))]) rfl rfl rfl) ?_
    refine Eq.trans (s_goto (y := 207) (pc := 158) (nx := 161) (a := 0) (b := 79) (tg := 79) rfl rfl) ?_
    rfl
  · refine Eq.trans (s_load (y := 207) (pc := 143) (nx := 144) (a := 3) (b := 0) (x := 106) rfl rfl) ?_
    refine Eq.trans (s_get (y := 207) (pc := 144) (nx := 147) (a := 10) (b := 34) (t := 3) (v := 130) rfl (mk_k106 _) rfl (mk_106_34 _)) ?_
    refine Eq.trans (s_push (y := 207) (pc := 147) (nx := 149) (a := 0) (b := 27) rfl) ?_
    refine Eq.trans (s_load (y := 207) (pc := 149) (nx := 150) (a := 0) (b := 2) (x := x2) rfl rfl) ?_
    refine Eq.trans (s_mul (y := 207) (pc := 150) (nx := 151) (b := 0) rfl) ?_
    refine Eq.trans (s_load (y := 207) (pc := 151) (nx := 152) (a := 0) (b := 3) (x := x3) rfl rfl) ?_
    refine Eq.trans (s_add (y := 207) (pc := 152) (nx := 153) (b := 0) rfl) ?_
    refine Eq.trans (s_ald (y := 207) (pc := 153) (nx := 154) (a := 1) (b := 0) (k := 1) (n := 270) (t := 0) (v := (D 130 (w32 ((w32 (27 * x2)) + x3)))) rfl (mk_k130 _) rfl rfl (mk_l130 _) (mk_c130 _ _)) (ite_c ?_ rfl)
    refine Eq.trans (s_ast (y := 207) (pc := 154) (nx := 155) (a := 1) (b := 0) (k := 1) (n := 270) (t := 0) (v := (D 130 (w32 ((w32 (27 * x2)) + x3)))) (μ' := mk (mU D 130 (w32 ((w32 (27 * x2)) + x3)) (D 130 (w32 ((w32 (27 * x2)) + x3))))) rfl (by decide) (mk_k130 _) rfl (mk_l130 _) (mu_130 _ _ _)) (ite_c ?_ rfl)
    refine Eq.trans (s_iinc (y := 207) (pc := 155) (nx := 158) (a := 4) (b := 1) (x := x4) (ls' := [(3, 106), (0, x1), (0, x2), (0, x3), (0, (w32 (x4 + 1))), (0, (w32 (s0 + (D 130 (w32 ((w32 ((w32 (27 * (w32 (x2 - 1)))) + x4)) + 1))))))]) rfl rfl rfl) ?_
    refine Eq.trans (s_goto (y := 207) (pc := 158) (nx := 161) (a := 0) (b := 79) (tg := 79) rfl rfl) ?_
    rfl
theorem e_207_178 (D : Mem) (x1 : Int) (x2 : Int) (x3 : Int) (v4 : PV) (v5 : PV) : qE 207 178 [(3, 106), (0, x1), (0, x2), (0, x3), v4, v5] [] (mk D) = (if x3 ≤ 0 then (if 0 ≤ (243 : Int) ∧ (243 : Int) < 270 then some ((0, (w32 ((D 130 (243 : Int)) + x1))), (mk D)) else none) else qE 207 185 [(3, 106), (0, x1), (0, x2), (0, x3), (0, x2), v5] [] (mk D)) := by
  refine Eq.trans (s_load (y := 207) (pc := 178) (nx := 179) (a := 0) (b := 3) (x := x3) rfl rfl) ?_
  refine Eq.trans (s_ifle (y := 207) (pc := 179) (nx := 182) (b := 267) (tg := 267) rfl rfl) (ite_c ?_ ?_)
  · refine Eq.trans (s_load (y := 207) (pc := 267) (nx := 268) (a := 3) (b := 0) (x := 106) rfl rfl) ?_
    refine Eq.trans (s_get (y := 207) (pc := 268) (nx := 271) (a := 10) (b := 34) (t := 3) (v := 130) rfl (mk_k106 _) rfl (mk_106_34 _)) ?_
    refine Eq.trans (s_push (y := 207) (pc := 271) (nx := 274) (a := 0) (b := 243) rfl) ?_
    refine Eq.trans (s_ald (y := 207) (pc := 274) (nx := 275) (a := 1) (b := 0) (k := 1) (n := 270) (t := 0) (v := (D 130 (243 : Int))) rfl (mk_k130 _) rfl rfl (mk_l130 _) (mk_c130 _ _)) (ite_c ?_ rfl)
    refine Eq.trans (s_load (y := 207) (pc := 275) (nx := 276) (a := 0) (b := 1) (x := x1) rfl rfl) ?_
    refine Eq.trans (s_add (y := 207) (pc := 276) (nx := 277) (b := 0) rfl) ?_
    exact s_ret (y := 207) (pc := 277) (nx := 278) (a := 0) rfl (by decide)
  · refine Eq.trans (s_load (y := 207) (pc := 182) (nx := 183) (a := 0) (b := 2) (x := x2) rfl rfl) ?_
    refine Eq.trans (s_store (y := 207) (pc := 183) (nx := 185) (a := 0) (b := 4) (ls' := [(3, 106), (0, x1), (0, x2), (0, x3), (0, x2), v5]) rfl (Nat.le_of_ble_eq_true rfl) rfl) ?_
    rfl
theorem e_207_185 (D : Mem) (x1 : Int) (x2 : Int) (x3 : Int) (x4 : Int) (v5 : PV) : qE 207 185 [(3, 106), (0, x1), (0, x2), (0, x3), (0, x4), v5] [] (mk D) = ((qR 206 [(3, 106), (0, x2), (0, x4)] (mk D)).bind fun w => qE 207 192 [(3, 106), (0, x1), (0, x2), (0, x3), (0, x4), v5] (psh w.1 []) w.2) := by
  refine Eq.trans (s_load (y := 207) (pc := 185) (nx := 186) (a := 3) (b := 0) (x := 106) rfl rfl) ?_
  refine Eq.trans (s_load (y := 207) (pc := 186) (nx := 187) (a := 0) (b := 2) (x := x2) rfl rfl) ?_
  refine Eq.trans (s_load (y := 207) (pc := 187) (nx := 189) (a := 0) (b := 4) (x := x4) rfl rfl) ?_
  exact s_call (y := 207) (pc := 189) (nx := 192) (a := 206) (b := 0) (as := [(3, 106), (0, x2), (0, x4)]) (r := []) rfl (Nat.le_of_ble_eq_true rfl) rfl rfl (Nat.le_of_ble_eq_true rfl) (Nat.le_of_ble_eq_true rfl) (Or.inr ⟨rfl, mk_k106 _⟩)
theorem e_207_192 (D : Mem) (x1 : Int) (x2 : Int) (x3 : Int) (x4 : Int) (v5 : PV) (s0 : Int) : qE 207 192 [(3, 106), (0, x1), (0, x2), (0, x3), (0, x4), v5] [(0, s0)] (mk D) = (if 0 ≤ (w32 ((w32 ((w32 (27 * (w32 (x3 - 1)))) + x4)) + 1)) ∧ (w32 ((w32 ((w32 (27 * (w32 (x3 - 1)))) + x4)) + 1)) < 270 then (if 0 ≤ (w32 ((w32 (27 * x3)) + x2)) ∧ (w32 ((w32 (27 * x3)) + x2)) < 270 then (if (w32 (s0 + (D 130 (w32 ((w32 ((w32 (27 * (w32 (x3 - 1)))) + x4)) + 1))))) = (D 130 (w32 ((w32 (27 * x3)) + x2))) then qE 207 232 [(3, 106), (0, x1), (0, x2), (0, x3), (0, x4), (0, x2)] [] (mk D) else qE 207 185 [(3, 106), (0, x1), (0, x2), (0, x3), (0, (w32 (x4 + 1))), v5] [] (mk D)) else none) else none) := by
  refine Eq.trans (s_load (y := 207) (pc := 192) (nx := 193) (a := 3) (b := 0) (x := 106) rfl rfl) ?_
  refine Eq.trans (s_get (y := 207) (pc := 193) (nx := 196) (a := 10) (b := 34) (t := 3) (v := 130) rfl (mk_k106 _) rfl (mk_106_34 _)) ?_
  refine Eq.trans (s_push (y := 207) (pc := 196) (nx := 198) (a := 0) (b := 27) rfl) ?_
  refine Eq.trans (s_load (y := 207) (pc := 198) (nx := 199) (a := 0) (b := 3) (x := x3) rfl rfl) ?_
  refine Eq.trans (s_push (y := 207) (pc := 199) (nx := 200) (a := 0) (b := 1) rfl) ?_
  refine Eq.trans (s_sub (y := 207) (pc := 200) (nx := 201) (b := 0) rfl) ?_
  refine Eq.trans (s_mul (y := 207) (pc := 201) (nx := 202) (b := 0) rfl) ?_
  refine Eq.trans (s_load (y := 207) (pc := 202) (nx := 204) (a := 0) (b := 4) (x := x4) rfl rfl) ?_
  refine Eq.trans (s_add (y := 207) (pc := 204) (nx := 205) (b := 0) rfl) ?_
  refine Eq.trans (s_push (y := 207) (pc := 205) (nx := 206) (a := 0) (b := 1) rfl) ?_
  refine Eq.trans (s_add (y := 207) (pc := 206) (nx := 207) (b := 0) rfl) ?_
  refine Eq.trans (s_ald (y := 207) (pc := 207) (nx := 208) (a := 1) (b := 0) (k := 1) (n := 270) (t := 0) (v := (D 130 (w32 ((w32 ((w32 (27 * (w32 (x3 - 1)))) + x4)) + 1)))) rfl (mk_k130 _) rfl rfl (mk_l130 _) (mk_c130 _ _)) (ite_c ?_ rfl)
  refine Eq.trans (s_add (y := 207) (pc := 208) (nx := 209) (b := 0) rfl) ?_
  refine Eq.trans (s_load (y := 207) (pc := 209) (nx := 210) (a := 3) (b := 0) (x := 106) rfl rfl) ?_
  refine Eq.trans (s_get (y := 207) (pc := 210) (nx := 213) (a := 10) (b := 34) (t := 3) (v := 130) rfl (mk_k106 _) rfl (mk_106_34 _)) ?_
  refine Eq.trans (s_push (y := 207) (pc := 213) (nx := 215) (a := 0) (b := 27) rfl) ?_
  refine Eq.trans (s_load (y := 207) (pc := 215) (nx := 216) (a := 0) (b := 3) (x := x3) rfl rfl) ?_
  refine Eq.trans (s_mul (y := 207) (pc := 216) (nx := 217) (b := 0) rfl) ?_
  refine Eq.trans (s_load (y := 207) (pc := 217) (nx := 218) (a := 0) (b := 2) (x := x2) rfl rfl) ?_
  refine Eq.trans (s_add (y := 207) (pc := 218) (nx := 219) (b := 0) rfl) ?_
  refine Eq.trans (s_ald (y := 207) (pc := 219) (nx := 220) (a := 1) (b := 0) (k := 1) (n := 270) (t := 0) (v := (D 130 (w32 ((w32 (27 * x3)) + x2)))) rfl (mk_k130 _) rfl rfl (mk_l130 _) (mk_c130 _ _)) (ite_c ?_ rfl)
  refine Eq.trans (s_iceq (y := 207) (pc := 220) (nx := 223) (b := 229) (tg := 229) rfl rfl) (ite_c ?_ ?_)
  · refine Eq.trans (s_load (y := 207) (pc := 229) (nx := 230) (a := 0) (b := 2) (x := x2) rfl rfl) ?_
    refine Eq.trans (s_store (y := 207) (pc := 230) (nx := 232) (a := 0) (b := 5) (ls' := [(3, 106), (0, x1), (0, x2), (0, x3), (0, x4), (0, x2)]) rfl (Nat.le_of_ble_eq_true rfl) rfl) ?_
    rfl
  · refine Eq.trans (s_iinc (y := 207) (pc := 223) (nx := 226) (a := 4) (b := 1) (x := x4) (ls' := [(3, 106), (0, x1), (0, x2), (0, x3), (0, (w32 (x4 + 1))), v5]) rfl rfl rfl) ?_
    refine Eq.trans (s_goto (y := 207) (pc := 226) (nx := 229) (a := 0) (b := 185) (tg := 185) rfl rfl) ?_
    rfl
theorem e_207_232 (D : Mem) (x1 : Int) (x2 : Int) (x3 : Int) (x4 : Int) (x5 : Int) : qE 207 232 [(3, 106), (0, x1), (0, x2), (0, x3), (0, x4), (0, x5)] [] (mk D) = (if x5 ≤ x4 then (if 0 ≤ x5 ∧ x5 < 26 then qE 207 232 [(3, 106), (0, x1), (0, x2), (0, x3), (0, x4), (0, (w32 (x5 + 1)))] [] (mk (mU D 107 x5 (w32 (10 - x3)))) else none) else qE 207 178 [(3, 106), (0, x1), (0, (w32 (x4 + 1))), (0, (w32 (x3 + (-1)))), (0, x4), (0, x5)] [] (mk D)) := by
  refine Eq.trans (s_load (y := 207) (pc := 232) (nx := 234) (a := 0) (b := 5) (x := x5) rfl rfl) ?_
  refine Eq.trans (s_load (y := 207) (pc := 234) (nx := 236) (a := 0) (b := 4) (x := x4) rfl rfl) ?_
  refine Eq.trans (s_icgt (y := 207) (pc := 236) (nx := 239) (b := 256) (tg := 256) rfl rfl) (ite_c ?_ ?_)
  · refine Eq.trans (s_load (y := 207) (pc := 239) (nx := 240) (a := 3) (b := 0) (x := 106) rfl rfl) ?_
    refine Eq.trans (s_get (y := 207) (pc := 240) (nx := 243) (a := 10) (b := 0) (t := 3) (v := 107) rfl (mk_k106 _) rfl (mk_106_0 _)) ?_
    refine Eq.trans (s_load (y := 207) (pc := 243) (nx := 245) (a := 0) (b := 5) (x := x5) rfl rfl) ?_
    refine Eq.trans (s_push (y := 207) (pc := 245) (nx := 247) (a := 0) (b := 10) rfl) ?_
    refine Eq.trans (s_load (y := 207) (pc := 247) (nx := 248) (a := 0) (b := 3) (x := x3) rfl rfl) ?_
    refine Eq.trans (s_sub (y := 207) (pc := 248) (nx := 249) (b := 0) rfl) ?_
    refine Eq.trans (s_ast (y := 207) (pc := 249) (nx := 250) (a := 1) (b := 0) (k := 1) (n := 26) (t := 0) (v := (w32 (10 - x3))) (μ' := mk (mU D 107 x5 (w32 (10 - x3)))) rfl (by decide) (mk_k107 _) rfl (mk_l107 _) (mu_107 _ _ _)) (ite_c ?_ rfl)
    refine Eq.trans (s_iinc (y := 207) (pc := 250) (nx := 253) (a := 5) (b := 1) (x := x5) (ls' := [(3, 106), (0, x1), (0, x2), (0, x3), (0, x4), (0, (w32 (x5 + 1)))]) rfl rfl rfl) ?_
    refine Eq.trans (s_goto (y := 207) (pc := 253) (nx := 256) (a := 0) (b := 232) (tg := 232) rfl rfl) ?_
    rfl
  · refine Eq.trans (s_load (y := 207) (pc := 256) (nx := 258) (a := 0) (b := 4) (x := x4) rfl rfl) ?_
    refine Eq.trans (s_push (y := 207) (pc := 258) (nx := 259) (a := 0) (b := 1) rfl) ?_
    refine Eq.trans (s_add (y := 207) (pc := 259) (nx := 260) (b := 0) rfl) ?_
    refine Eq.trans (s_store (y := 207) (pc := 260) (nx := 261) (a := 0) (b := 2) (ls' := [(3, 106), (0, x1), (0, (w32 (x4 + 1))), (0, x3), (0, x4), (0, x5)]) rfl (Nat.le_of_ble_eq_true rfl) rfl) ?_
    refine Eq.trans (s_iinc (y := 207) (pc := 261) (nx := 264) (a := 3) (b := (-1)) (x := x3) (ls' := [(3, 106), (0, x1), (0, (w32 (x4 + 1))), (0, (w32 (x3 + (-1)))), (0, x4), (0, x5)]) rfl rfl rfl) ?_
    refine Eq.trans (s_goto (y := 207) (pc := 264) (nx := 267) (a := 0) (b := 178) (tg := 178) rfl rfl) ?_
    rfl
theorem r_208 (D : Mem) (x1 : Int) (x2 : Int) : qR 208 [(3, 106), (0, x1), (0, x2)] (mk D) = (if 0 ≤ x1 ∧ x1 < 26 then (if 0 ≤ x2 ∧ x2 < 26 then (if 0 ≤ x1 ∧ x1 < 26 then (if 0 ≤ x2 ∧ x2 < 26 then some ((9, 0), (mk (mU (mU D 107 x1 (D 107 x2)) 107 x2 (D 107 x1)))) else none) else none) else none) else none) := by
  show qE 208 0 [(3, 106), (0, x1), (0, x2), (9, 0)] [] (mk D) = _
  refine Eq.trans (s_load (y := 208) (pc := 0) (nx := 1) (a := 3) (b := 0) (x := 106) rfl rfl) ?_
  refine Eq.trans (s_get (y := 208) (pc := 1) (nx := 4) (a := 10) (b := 0) (t := 3) (v := 107) rfl (mk_k106 _) rfl (mk_106_0 _)) ?_
  refine Eq.trans (s_load (y := 208) (pc := 4) (nx := 5) (a := 0) (b := 1) (x := x1) rfl rfl) ?_
  refine Eq.trans (s_ald (y := 208) (pc := 5) (nx := 6) (a := 1) (b := 0) (k := 1) (n := 26) (t := 0) (v := (D 107 x1)) rfl (mk_k107 _) rfl rfl (mk_l107 _) (mk_c107 _ _)) (ite_c ?_ rfl)
  refine Eq.trans (s_store (y := 208) (pc := 6) (nx := 7) (a := 0) (b := 3) (ls' := [(3, 106), (0, x1), (0, x2), (0, (D 107 x1))]) rfl (Nat.le_of_ble_eq_true rfl) rfl) ?_
  refine Eq.trans (s_load (y := 208) (pc := 7) (nx := 8) (a := 3) (b := 0) (x := 106) rfl rfl) ?_
  refine Eq.trans (s_get (y := 208) (pc := 8) (nx := 11) (a := 10) (b := 0) (t := 3) (v := 107) rfl (mk_k106 _) rfl (mk_106_0 _)) ?_
  refine Eq.trans (s_load (y := 208) (pc := 11) (nx := 12) (a := 0) (b := 1) (x := x1) rfl rfl) ?_
  refine Eq.trans (s_load (y := 208) (pc := 12) (nx := 13) (a := 3) (b := 0) (x := 106) rfl rfl) ?_
  refine Eq.trans (s_get (y := 208) (pc := 13) (nx := 16) (a := 10) (b := 0) (t := 3) (v := 107) rfl (mk_k106 _) rfl (mk_106_0 _)) ?_
  refine Eq.trans (s_load (y := 208) (pc := 16) (nx := 17) (a := 0) (b := 2) (x := x2) rfl rfl) ?_
  refine Eq.trans (s_ald (y := 208) (pc := 17) (nx := 18) (a := 1) (b := 0) (k := 1) (n := 26) (t := 0) (v := (D 107 x2)) rfl (mk_k107 _) rfl rfl (mk_l107 _) (mk_c107 _ _)) (ite_c ?_ rfl)
  refine Eq.trans (s_ast (y := 208) (pc := 18) (nx := 19) (a := 1) (b := 0) (k := 1) (n := 26) (t := 0) (v := (D 107 x2)) (μ' := mk (mU D 107 x1 (D 107 x2))) rfl (by decide) (mk_k107 _) rfl (mk_l107 _) (mu_107 _ _ _)) (ite_c ?_ rfl)
  refine Eq.trans (s_load (y := 208) (pc := 19) (nx := 20) (a := 3) (b := 0) (x := 106) rfl rfl) ?_
  refine Eq.trans (s_get (y := 208) (pc := 20) (nx := 23) (a := 10) (b := 0) (t := 3) (v := 107) rfl (mk_k106 _) rfl (mk_106_0 _)) ?_
  refine Eq.trans (s_load (y := 208) (pc := 23) (nx := 24) (a := 0) (b := 2) (x := x2) rfl rfl) ?_
  refine Eq.trans (s_load (y := 208) (pc := 24) (nx := 25) (a := 0) (b := 3) (x := (D 107 x1)) rfl rfl) ?_
  refine Eq.trans (s_ast (y := 208) (pc := 25) (nx := 26) (a := 1) (b := 0) (k := 1) (n := 26) (t := 0) (v := (D 107 x1)) (μ' := mk (mU (mU D 107 x1 (D 107 x2)) 107 x2 (D 107 x1))) rfl (by decide) (mk_k107 _) rfl (mk_l107 _) (mu_107 _ _ _)) (ite_c ?_ rfl)
  exact s_retv (y := 208) (pc := 26) (nx := 27) (b := 0) rfl
theorem r_209 (D : Mem) : qR 209 [(3, 106)] (mk D) = ((qR 203 [(3, 106)] (mk D)).bind fun w => qE 209 4 [(3, 106), (9, 0), (9, 0), (9, 0), (9, 0), (9, 0), (9, 0), (9, 0)] (psh w.1 []) w.2) := by
  show qE 209 0 [(3, 106), (9, 0), (9, 0), (9, 0), (9, 0), (9, 0), (9, 0), (9, 0)] [] (mk D) = _
  refine Eq.trans (s_load (y := 209) (pc := 0) (nx := 1) (a := 3) (b := 0) (x := 106) rfl rfl) ?_
  exact s_call (y := 209) (pc := 1) (nx := 4) (a := 203) (b := 0) (as := [(3, 106)]) (r := []) rfl (Nat.le_of_ble_eq_true rfl) rfl rfl (Nat.le_of_ble_eq_true rfl) (Nat.le_of_ble_eq_true rfl) (Or.inr ⟨rfl, mk_k106 _⟩)
theorem e_209_4 (D : Mem) (s0 : Int) : qE 209 4 [(3, 106), (9, 0), (9, 0), (9, 0), (9, 0), (9, 0), (9, 0), (9, 0)] [(0, s0)] (mk D) = qE 209 15 [(3, 106), (0, s0), (0, s0), (0, (-1)), (0, (-1)), (0, 0), (9, 0), (9, 0)] [] (mk D) := by
  refine Eq.trans (s_store (y := 209) (pc := 4) (nx := 5) (a := 0) (b := 1) (ls' := [(3, 106), (0, s0), (9, 0), (9, 0), (9, 0), (9, 0), (9, 0), (9, 0)]) rfl (Nat.le_of_ble_eq_true rfl) rfl) ?_
  refine Eq.trans (s_load (y := 209) (pc := 5) (nx := 6) (a := 0) (b := 1) (x := s0) rfl rfl) ?_
  refine Eq.trans (s_store (y := 209) (pc := 6) (nx := 7) (a := 0) (b := 2) (ls' := [(3, 106), (0, s0), (0, s0), (9, 0), (9, 0), (9, 0), (9, 0), (9, 0)]) rfl (Nat.le_of_ble_eq_true rfl) rfl) ?_
  refine Eq.trans (s_push (y := 209) (pc := 7) (nx := 8) (a := 0) (b := (-1)) rfl) ?_
  refine Eq.trans (s_store (y := 209) (pc := 8) (nx := 9) (a := 0) (b := 3) (ls' := [(3, 106), (0, s0), (0, s0), (0, (-1)), (9, 0), (9, 0), (9, 0), (9, 0)]) rfl (Nat.le_of_ble_eq_true rfl) rfl) ?_
  refine Eq.trans (s_push (y := 209) (pc := 9) (nx := 10) (a := 0) (b := (-1)) rfl) ?_
  refine Eq.trans (s_store (y := 209) (pc := 10) (nx := 12) (a := 0) (b := 4) (ls' := [(3, 106), (0, s0), (0, s0), (0, (-1)), (0, (-1)), (9, 0), (9, 0), (9, 0)]) rfl (Nat.le_of_ble_eq_true rfl) rfl) ?_
  refine Eq.trans (s_push (y := 209) (pc := 12) (nx := 13) (a := 0) (b := 0) rfl) ?_
  refine Eq.trans (s_store (y := 209) (pc := 13) (nx := 15) (a := 0) (b := 5) (ls' := [(3, 106), (0, s0), (0, s0), (0, (-1)), (0, (-1)), (0, 0), (9, 0), (9, 0)]) rfl (Nat.le_of_ble_eq_true rfl) rfl) ?_
  rfl
theorem e_209_15 (D : Mem) (x1 : Int) (x2 : Int) (x3 : Int) (x4 : Int) (x5 : Int) (v6 : PV) (v7 : PV) : qE 209 15 [(3, 106), (0, x1), (0, x2), (0, x3), (0, x4), (0, x5), v6, v7] [] (mk D) = (if x5 < 26 then qE 209 28 [(3, 106), (0, x1), (0, x2), (0, x3), (0, x4), (0, x5), (0, (w32 (x5 + 1))), v7] [] (mk D) else (if x3 < 0 then qE 209 113 [(3, 106), (0, x1), (0, x2), (0, x3), (0, x4), (0, x5), v6, v7] [] (mk D) else ((qR 208 [(3, 106), (0, x3), (0, x4)] (mk D)).bind fun w => qE 209 113 [(3, 106), (0, x1), (0, x2), (0, x3), (0, x4), (0, x5), v6, v7] (psh w.1 []) w.2))) := by
  refine Eq.trans (s_load (y := 209) (pc := 15) (nx := 17) (a := 0) (b := 5) (x := x5) rfl rfl) ?_
  refine Eq.trans (s_push (y := 209) (pc := 17) (nx := 19) (a := 0) (b := 26) rfl) ?_
  refine Eq.trans (s_icge (y := 209) (pc := 19) (nx := 22) (b := 102) (tg := 102) rfl rfl) (ite_c ?_ ?_)
  · refine Eq.trans (s_load (y := 209) (pc := 22) (nx := 24) (a := 0) (b := 5) (x := x5) rfl rfl) ?_
    refine Eq.trans (s_push (y := 209) (pc := 24) (nx := 25) (a := 0) (b := 1) rfl) ?_
    refine Eq.trans (s_add (y := 209) (pc := 25) (nx := 26) (b := 0) rfl) ?_
    refine Eq.trans (s_store (y := 209) (pc := 26) (nx := 28) (a := 0) (b := 6) (ls' := [(3, 106), (0, x1), (0, x2), (0, x3), (0, x4), (0, x5), (0, (w32 (x5 + 1))), v7]) rfl (Nat.le_of_ble_eq_true rfl) rfl) ?_
    rfl
  · refine Eq.trans (s_load (y := 209) (pc := 102) (nx := 103) (a := 0) (b := 3) (x := x3) rfl rfl) ?_
    refine Eq.trans (s_iflt (y := 209) (pc := 103) (nx := 106) (b := 113) (tg := 113) rfl rfl) (ite_c ?_ ?_)
    · rfl
    · refine Eq.trans (s_load (y := 209) (pc := 106) (nx := 107) (a := 3) (b := 0) (x := 106) rfl rfl) ?_
      refine Eq.trans (s_load (y := 209) (pc := 107) (nx := 108) (a := 0) (b := 3) (x := x3) rfl rfl) ?_
      refine Eq.trans (s_load (y := 209) (pc := 108) (nx := 110) (a := 0) (b := 4) (x := x4) rfl rfl) ?_
      exact s_call (y := 209) (pc := 110) (nx := 113) (a := 208) (b := 0) (as := [(3, 106), (0, x3), (0, x4)]) (r := []) rfl (Nat.le_of_ble_eq_true rfl) rfl rfl (Nat.le_of_ble_eq_true rfl) (Nat.le_of_ble_eq_true rfl) (Or.inr ⟨rfl, mk_k106 _⟩)
theorem e_209_28 (D : Mem) (x1 : Int) (x2 : Int) (x3 : Int) (x4 : Int) (x5 : Int) (x6 : Int) (v7 : PV) : qE 209 28 [(3, 106), (0, x1), (0, x2), (0, x3), (0, x4), (0, x5), (0, x6), v7] [] (mk D) = (if x6 < 26 then (if 0 ≤ x5 ∧ x5 < 26 then (if 0 ≤ x6 ∧ x6 < 26 then (if (D 107 x5) = (D 107 x6) then qE 209 28 [(3, 106), (0, x1), (0, x2), (0, x3), (0, x4), (0, x5), (0, (w32 (x6 + 1))), v7] [] (mk D) else ((qR 208 [(3, 106), (0, x5), (0, x6)] (mk D)).bind fun w => qE 209 60 [(3, 106), (0, x1), (0, x2), (0, x3), (0, x4), (0, x5), (0, x6), v7] (psh w.1 []) w.2)) else none) else none) else qE 209 15 [(3, 106), (0, x1), (0, x2), (0, x3), (0, x4), (0, (w32 (x5 + 1))), (0, x6), v7] [] (mk D)) := by
  refine Eq.trans (s_load (y := 209) (pc := 28) (nx := 30) (a := 0) (b := 6) (x := x6) rfl rfl) ?_
  refine Eq.trans (s_push (y := 209) (pc := 30) (nx := 32) (a := 0) (b := 26) rfl) ?_
  refine Eq.trans (s_icge (y := 209) (pc := 32) (nx := 35) (b := 96) (tg := 96) rfl rfl) (ite_c ?_ ?_)
  · refine Eq.trans (s_load (y := 209) (pc := 35) (nx := 36) (a := 3) (b := 0) (x := 106) rfl rfl) ?_
    refine Eq.trans (s_get (y := 209) (pc := 36) (nx := 39) (a := 10) (b := 0) (t := 3) (v := 107) rfl (mk_k106 _) rfl (mk_106_0 _)) ?_
    refine Eq.trans (s_load (y := 209) (pc := 39) (nx := 41) (a := 0) (b := 5) (x := x5) rfl rfl) ?_
    refine Eq.trans (s_ald (y := 209) (pc := 41) (nx := 42) (a := 1) (b := 0) (k := 1) (n := 26) (t := 0) (v := (D 107 x5)) rfl (mk_k107 _) rfl rfl (mk_l107 _) (mk_c107 _ _)) (ite_c ?_ rfl)
    refine Eq.trans (s_load (y := 209) (pc := 42) (nx := 43) (a := 3) (b := 0) (x := 106) rfl rfl) ?_
    refine Eq.trans (s_get (y := 209) (pc := 43) (nx := 46) (a := 10) (b := 0) (t := 3) (v := 107) rfl (mk_k106 _) rfl (mk_106_0 _)) ?_
    refine Eq.trans (s_load (y := 209) (pc := 46) (nx := 48) (a := 0) (b := 6) (x := x6) rfl rfl) ?_
    refine Eq.trans (s_ald (y := 209) (pc := 48) (nx := 49) (a := 1) (b := 0) (k := 1) (n := 26) (t := 0) (v := (D 107 x6)) rfl (mk_k107 _) rfl rfl (mk_l107 _) (mk_c107 _ _)) (ite_c ?_ rfl)
    refine Eq.trans (s_iceq (y := 209) (pc := 49) (nx := 52) (b := 90) (tg := 90) rfl rfl) (ite_c ?_ ?_)
    · refine Eq.trans (s_iinc (y := 209) (pc := 90) (nx := 93) (a := 6) (b := 1) (x := x6) (ls' := [(3, 106), (0, x1), (0, x2), (0, x3), (0, x4), (0, x5), (0, (w32 (x6 + 1))), v7]) rfl rfl rfl) ?_
      refine Eq.trans (s_goto (y := 209) (pc := 93) (nx := 96) (a := 0) (b := 28) (tg := 28) rfl rfl) ?_
      rfl
    · refine Eq.trans (s_load (y := 209) (pc := 52) (nx := 53) (a := 3) (b := 0) (x := 106) rfl rfl) ?_
      refine Eq.trans (s_load (y := 209) (pc := 53) (nx := 55) (a := 0) (b := 5) (x := x5) rfl rfl) ?_
      refine Eq.trans (s_load (y := 209) (pc := 55) (nx := 57) (a := 0) (b := 6) (x := x6) rfl rfl) ?_
      exact s_call (y := 209) (pc := 57) (nx := 60) (a := 208) (b := 0) (as := [(3, 106), (0, x5), (0, x6)]) (r := []) rfl (Nat.le_of_ble_eq_true rfl) rfl rfl (Nat.le_of_ble_eq_true rfl) (Nat.le_of_ble_eq_true rfl) (Or.inr ⟨rfl, mk_k106 _⟩)
  · refine Eq.trans (s_iinc (y := 209) (pc := 96) (nx := 99) (a := 5) (b := 1) (x := x5) (ls' := [(3, 106), (0, x1), (0, x2), (0, x3), (0, x4), (0, (w32 (x5 + 1))), (0, x6), v7]) rfl rfl rfl) ?_
    refine Eq.trans (s_goto (y := 209) (pc := 99) (nx := 102) (a := 0) (b := 15) (tg := 15) rfl rfl) ?_
    rfl
theorem e_209_60 (D : Mem) (x1 : Int) (x2 : Int) (x3 : Int) (x4 : Int) (x5 : Int) (x6 : Int) (v7 : PV) : qE 209 60 [(3, 106), (0, x1), (0, x2), (0, x3), (0, x4), (0, x5), (0, x6), v7] [] (mk D) = ((qR 203 [(3, 106)] (mk D)).bind fun w => qE 209 64 [(3, 106), (0, x1), (0, x2), (0, x3), (0, x4), (0, x5), (0, x6), v7] (psh w.1 []) w.2) := by
  refine Eq.trans (s_load (y := 209) (pc := 60) (nx := 61) (a := 3) (b := 0) (x := 106) rfl rfl) ?_
  exact s_call (y := 209) (pc := 61) (nx := 64) (a := 203) (b := 0) (as := [(3, 106)]) (r := []) rfl (Nat.le_of_ble_eq_true rfl) rfl rfl (Nat.le_of_ble_eq_true rfl) (Nat.le_of_ble_eq_true rfl) (Or.inr ⟨rfl, mk_k106 _⟩)
theorem e_209_64 (D : Mem) (x1 : Int) (x2 : Int) (x3 : Int) (x4 : Int) (x5 : Int) (x6 : Int) (v7 : PV) (s0 : Int) : qE 209 64 [(3, 106), (0, x1), (0, x2), (0, x3), (0, x4), (0, x5), (0, x6), v7] [(0, s0)] (mk D) = ((qR 208 [(3, 106), (0, x5), (0, x6)] (mk D)).bind fun w => qE 209 74 [(3, 106), (0, x1), (0, x2), (0, x3), (0, x4), (0, x5), (0, x6), (0, s0)] (psh w.1 []) w.2) := by
  refine Eq.trans (s_store (y := 209) (pc := 64) (nx := 66) (a := 0) (b := 7) (ls' := [(3, 106), (0, x1), (0, x2), (0, x3), (0, x4), (0, x5), (0, x6), (0, s0)]) rfl (Nat.le_of_ble_eq_true rfl) rfl) ?_
  refine Eq.trans (s_load (y := 209) (pc := 66) (nx := 67) (a := 3) (b := 0) (x := 106) rfl rfl) ?_
  refine Eq.trans (s_load (y := 209) (pc := 67) (nx := 69) (a := 0) (b := 5) (x := x5) rfl rfl) ?_
  refine Eq.trans (s_load (y := 209) (pc := 69) (nx := 71) (a := 0) (b := 6) (x := x6) rfl rfl) ?_
  exact s_call (y := 209) (pc := 71) (nx := 74) (a := 208) (b := 0) (as := [(3, 106), (0, x5), (0, x6)]) (r := []) rfl (Nat.le_of_ble_eq_true rfl) rfl rfl (Nat.le_of_ble_eq_true rfl) (Nat.le_of_ble_eq_true rfl) (Or.inr ⟨rfl, mk_k106 _⟩)
theorem e_209_74 (D : Mem) (x1 : Int) (x2 : Int) (x3 : Int) (x4 : Int) (x5 : Int) (x6 : Int) (x7 : Int) : qE 209 74 [(3, 106), (0, x1), (0, x2), (0, x3), (0, x4), (0, x5), (0, x6), (0, x7)] [] (mk D) = (if x7 < x2 then qE 209 28 [(3, 106), (0, x1), (0, x7), (0, x5), (0, x6), (0, x5), (0, (w32 (x6 + 1))), (0, x7)] [] (mk D) else qE 209 28 [(3, 106), (0, x1), (0, x2), (0, x3), (0, x4), (0, x5), (0, (w32 (x6 + 1))), (0, x7)] [] (mk D)) := by
  refine Eq.trans (s_load (y := 209) (pc := 74) (nx := 76) (a := 0) (b := 7) (x := x7) rfl rfl) ?_
  refine Eq.trans (s_load (y := 209) (pc := 76) (nx := 77) (a := 0) (b := 2) (x := x2) rfl rfl) ?_
  refine Eq.trans (s_icge (y := 209) (pc := 77) (nx := 80) (b := 90) (tg := 90) rfl rfl) (ite_c ?_ ?_)
  · refine Eq.trans (s_load (y := 209) (pc := 80) (nx := 82) (a := 0) (b := 7) (x := x7) rfl rfl) ?_
    refine Eq.trans (s_store (y := 209) (pc := 82) (nx := 83) (a := 0) (b := 2) (ls' := [(3, 106), (0, x1), (0, x7), (0, x3), (0, x4), (0, x5), (0, x6), (0, x7)]) rfl (Nat.le_of_ble_eq_true rfl) rfl) ?_
    refine Eq.trans (s_load (y := 209) (pc := 83) (nx := 85) (a := 0) (b := 5) (x := x5) rfl rfl) ?_
    refine Eq.trans (s_store (y := 209) (pc := 85) (nx := 86) (a := 0) (b := 3) (ls' := [(3, 106), (0, x1), (0, x7), (0, x5), (0, x4), (0, x5), (0, x6), (0, x7)]) rfl (Nat.le_of_ble_eq_true rfl) rfl) ?_
    refine Eq.trans (s_load (y := 209) (pc := 86) (nx := 88) (a := 0) (b := 6) (x := x6) rfl rfl) ?_
    refine Eq.trans (s_store (y := 209) (pc := 88) (nx := 90) (a := 0) (b := 4) (ls' := [(3, 106), (0, x1), (0, x7), (0, x5), (0, x6), (0, x5), (0, x6), (0, x7)]) rfl (Nat.le_of_ble_eq_true rfl) rfl) ?_
    refine Eq.trans (s_iinc (y := 209) (pc := 90) (nx := 93) (a := 6) (b := 1) (x := x6) (ls' := [(3, 106), (0, x1), (0, x7), (0, x5), (0, x6), (0, x5), (0, (w32 (x6 + 1))), (0, x7)]) rfl rfl rfl) ?_
    refine Eq.trans (s_goto (y := 209) (pc := 93) (nx := 96) (a := 0) (b := 28) (tg := 28) rfl rfl) ?_
    rfl
  · refine Eq.trans (s_iinc (y := 209) (pc := 90) (nx := 93) (a := 6) (b := 1) (x := x6) (ls' := [(3, 106), (0, x1), (0, x2), (0, x3), (0, x4), (0, x5), (0, (w32 (x6 + 1))), (0, x7)]) rfl rfl rfl) ?_
    refine Eq.trans (s_goto (y := 209) (pc := 93) (nx := 96) (a := 0) (b := 28) (tg := 28) rfl rfl) ?_
    rfl
theorem e_209_113 (D : Mem) (x1 : Int) (x2 : Int) (x3 : Int) (x4 : Int) (x5 : Int) (v6 : PV) (v7 : PV) : qE 209 113 [(3, 106), (0, x1), (0, x2), (0, x3), (0, x4), (0, x5), v6, v7] [] (mk D) = some ((0, (w32 (x1 - x2))), (mk D)) := by
  refine Eq.trans (s_load (y := 209) (pc := 113) (nx := 114) (a := 0) (b := 1) (x := x1) rfl rfl) ?_
  refine Eq.trans (s_load (y := 209) (pc := 114) (nx := 115) (a := 0) (b := 2) (x := x2) rfl rfl) ?_
  refine Eq.trans (s_sub (y := 209) (pc := 115) (nx := 116) (b := 0) rfl) ?_
  exact s_ret (y := 209) (pc := 116) (nx := 117) (a := 0) rfl (by decide)
theorem r_210 (D : Mem) (x1 : Int) (x2 : Int) : qR 210 [(3, 106), (0, x1), (0, x2)] (mk D) = ((qR 171 [(3, 106), (0, x1), (0, 1)] (mk D)).bind fun w => qE 210 6 [(3, 106), (0, x1), (0, x2)] (psh w.1 []) w.2) := by
  show qE 210 0 [(3, 106), (0, x1), (0, x2)] [] (mk D) = _
  refine Eq.trans (s_load (y := 210) (pc := 0) (nx := 1) (a := 3) (b := 0) (x := 106) rfl rfl) ?_
  refine Eq.trans (s_load (y := 210) (pc := 1) (nx := 2) (a := 0) (b := 1) (x := x1) rfl rfl) ?_
  refine Eq.trans (s_push (y := 210) (pc := 2) (nx := 3) (a := 0) (b := 1) rfl) ?_
  exact s_call (y := 210) (pc := 3) (nx := 6) (a := 171) (b := 0) (as := [(3, 106), (0, x1), (0, 1)]) (r := []) rfl (Nat.le_of_ble_eq_true rfl) rfl rfl (Nat.le_of_ble_eq_true rfl) (Nat.le_of_ble_eq_true rfl) (Or.inr ⟨rfl, mk_k106 _⟩)
theorem e_210_6 (D : Mem) (x1 : Int) (x2 : Int) : qE 210 6 [(3, 106), (0, x1), (0, x2)] [] (mk D) = (if 0 ≤ x1 ∧ x1 < 80 then (if (D 112 x1) = 0 then some ((0, 0), (mk D)) else (if 0 ≤ x2 ∧ x2 < 80 then (if (D 112 x2) = 0 then some ((0, 0), (mk D)) else ((qR 173 [(3, 106), (0, x2), (0, 1)] (mk D)).bind fun w => qE 210 30 [(3, 106), (0, x1), (0, x2)] (psh w.1 []) w.2)) else none)) else none) := by
  refine Eq.trans (s_load (y := 210) (pc := 6) (nx := 7) (a := 3) (b := 0) (x := 106) rfl rfl) ?_
  refine Eq.trans (s_get (y := 210) (pc := 7) (nx := 10) (a := 10) (b := 5) (t := 3) (v := 112) rfl (mk_k106 _) rfl (mk_106_5 _)) ?_
  refine Eq.trans (s_load (y := 210) (pc := 10) (nx := 11) (a := 0) (b := 1) (x := x1) rfl rfl) ?_
  refine Eq.trans (s_ald (y := 210) (pc := 11) (nx := 12) (a := 6) (b := 0) (k := 6) (n := 80) (t := 0) (v := (D 112 x1)) rfl (mk_k112 _) rfl rfl (mk_l112 _) (mk_c112 _ _)) (ite_c ?_ rfl)
  refine Eq.trans (s_ifeq (y := 210) (pc := 12) (nx := 15) (b := 37) (tg := 37) rfl rfl) (ite_c ?_ ?_)
  · refine Eq.trans (s_push (y := 210) (pc := 37) (nx := 38) (a := 0) (b := 0) rfl) ?_
    exact s_retz (y := 210) (pc := 38) (nx := 39) rfl (by decide)
  · refine Eq.trans (s_load (y := 210) (pc := 15) (nx := 16) (a := 3) (b := 0) (x := 106) rfl rfl) ?_
    refine Eq.trans (s_get (y := 210) (pc := 16) (nx := 19) (a := 10) (b := 5) (t := 3) (v := 112) rfl (mk_k106 _) rfl (mk_106_5 _)) ?_
    refine Eq.trans (s_load (y := 210) (pc := 19) (nx := 20) (a := 0) (b := 2) (x := x2) rfl rfl) ?_
    refine Eq.trans (s_ald (y := 210) (pc := 20) (nx := 21) (a := 6) (b := 0) (k := 6) (n := 80) (t := 0) (v := (D 112 x2)) rfl (mk_k112 _) rfl rfl (mk_l112 _) (mk_c112 _ _)) (ite_c ?_ rfl)
    refine Eq.trans (s_ifeq (y := 210) (pc := 21) (nx := 24) (b := 37) (tg := 37) rfl rfl) (ite_c ?_ ?_)
    · refine Eq.trans (s_push (y := 210) (pc := 37) (nx := 38) (a := 0) (b := 0) rfl) ?_
      exact s_retz (y := 210) (pc := 38) (nx := 39) rfl (by decide)
    · refine Eq.trans (s_load (y := 210) (pc := 24) (nx := 25) (a := 3) (b := 0) (x := 106) rfl rfl) ?_
      refine Eq.trans (s_load (y := 210) (pc := 25) (nx := 26) (a := 0) (b := 2) (x := x2) rfl rfl) ?_
      refine Eq.trans (s_push (y := 210) (pc := 26) (nx := 27) (a := 0) (b := 1) rfl) ?_
      exact s_call (y := 210) (pc := 27) (nx := 30) (a := 173) (b := 0) (as := [(3, 106), (0, x2), (0, 1)]) (r := []) rfl (Nat.le_of_ble_eq_true rfl) rfl rfl (Nat.le_of_ble_eq_true rfl) (Nat.le_of_ble_eq_true rfl) (Or.inr ⟨rfl, mk_k106 _⟩)
theorem e_210_30 (D : Mem) (x1 : Int) (x2 : Int) (s0 : Int) : qE 210 30 [(3, 106), (0, x1), (0, x2)] [(0, s0)] (mk D) = (if s0 = 0 then some ((0, 0), (mk D)) else some ((0, 1), (mk D))) := by
  refine Eq.trans (s_ifeq (y := 210) (pc := 30) (nx := 33) (b := 37) (tg := 37) rfl rfl) (ite_c ?_ ?_)
  · refine Eq.trans (s_push (y := 210) (pc := 37) (nx := 38) (a := 0) (b := 0) rfl) ?_
    exact s_retz (y := 210) (pc := 38) (nx := 39) rfl (by decide)
  · refine Eq.trans (s_push (y := 210) (pc := 33) (nx := 34) (a := 0) (b := 1) rfl) ?_
    refine Eq.trans (s_goto (y := 210) (pc := 34) (nx := 37) (a := 0) (b := 38) (tg := 38) rfl rfl) ?_
    exact s_retz (y := 210) (pc := 38) (nx := 39) rfl (by decide)
theorem r_211 (D : Mem) (x1 : Int) : qR 211 [(3, 106), (0, x1)] (mk D) = qE 211 4 [(3, 106), (0, x1), (0, 0), (0, 0)] [] (mk D) := by
  show qE 211 0 [(3, 106), (0, x1), (9, 0), (9, 0)] [] (mk D) = _
  refine Eq.trans (s_push (y := 211) (pc := 0) (nx := 1) (a := 0) (b := 0) rfl) ?_
  refine Eq.trans (s_store (y := 211) (pc := 1) (nx := 2) (a := 0) (b := 2) (ls' := [(3, 106), (0, x1), (0, 0), (9, 0)]) rfl (Nat.le_of_ble_eq_true rfl) rfl) ?_
  refine Eq.trans (s_push (y := 211) (pc := 2) (nx := 3) (a := 0) (b := 0) rfl) ?_
  refine Eq.trans (s_store (y := 211) (pc := 3) (nx := 4) (a := 0) (b := 3) (ls' := [(3, 106), (0, x1), (0, 0), (0, 0)]) rfl (Nat.le_of_ble_eq_true rfl) rfl) ?_
  rfl
theorem e_211_4 (D : Mem) (x1 : Int) (x2 : Int) (x3 : Int) : qE 211 4 [(3, 106), (0, x1), (0, x2), (0, x3)] [] (mk D) = (if x3 < (D 106 6) then ((qR 210 [(3, 106), (0, x1), (0, x3)] (mk D)).bind fun w => qE 211 19 [(3, 106), (0, x1), (0, x2), (0, x3)] (psh w.1 [(0, x2)]) w.2) else some ((0, x2), (mk D))) := by
  refine Eq.trans (s_load (y := 211) (pc := 4) (nx := 5) (a := 0) (b := 3) (x := x3) rfl rfl) ?_
  refine Eq.trans (s_load (y := 211) (pc := 5) (nx := 6) (a := 3) (b := 0) (x := 106) rfl rfl) ?_
  refine Eq.trans (s_get (y := 211) (pc := 6) (nx := 9) (a := 10) (b := 6) (t := 0) (v := (D 106 6)) rfl (mk_k106 _) rfl (mk_106_6 _)) ?_
  refine Eq.trans (s_icge (y := 211) (pc := 9) (nx := 12) (b := 35) (tg := 35) rfl rfl) (ite_c ?_ ?_)
  · refine Eq.trans (s_load (y := 211) (pc := 12) (nx := 13) (a := 0) (b := 2) (x := x2) rfl rfl) ?_
    refine Eq.trans (s_load (y := 211) (pc := 13) (nx := 14) (a := 3) (b := 0) (x := 106) rfl rfl) ?_
    refine Eq.trans (s_load (y := 211) (pc := 14) (nx := 15) (a := 0) (b := 1) (x := x1) rfl rfl) ?_
    refine Eq.trans (s_load (y := 211) (pc := 15) (nx := 16) (a := 0) (b := 3) (x := x3) rfl rfl) ?_
    exact s_call (y := 211) (pc := 16) (nx := 19) (a := 210) (b := 0) (as := [(3, 106), (0, x1), (0, x3)]) (r := [(0, x2)]) rfl (Nat.le_of_ble_eq_true rfl) rfl rfl (Nat.le_of_ble_eq_true rfl) (Nat.le_of_ble_eq_true rfl) (Or.inr ⟨rfl, mk_k106 _⟩)
  · refine Eq.trans (s_load (y := 211) (pc := 35) (nx := 36) (a := 0) (b := 2) (x := x2) rfl rfl) ?_
    exact s_ret (y := 211) (pc := 36) (nx := 37) (a := 0) rfl (by decide)
theorem e_211_19 (D : Mem) (x1 : Int) (x2 : Int) (x3 : Int) (s0 : Int) (s1 : Int) : qE 211 19 [(3, 106), (0, x1), (0, x2), (0, x3)] [(0, s1), (0, s0)] (mk D) = (if s1 = 0 then qE 211 4 [(3, 106), (0, x1), (0, (w32 (s0 + 0))), (0, (w32 (x3 + 1)))] [] (mk D) else qE 211 4 [(3, 106), (0, x1), (0, (w32 (s0 + 1))), (0, (w32 (x3 + 1)))] [] (mk D)) := by
  refine Eq.trans (s_ifeq (y := 211) (pc := 19) (nx := 22) (b := 26) (tg := 26) rfl rfl) (ite_c ?_ ?_)
  · refine Eq.trans (s_push (y := 211) (pc := 26) (nx := 27) (a := 0) (b := 0) rfl) ?_
    refine Eq.trans (s_add (y := 211) (pc := 27) (nx := 28) (b := 0) rfl) ?_
    refine Eq.trans (s_store (y := 211) (pc := 28) (nx := 29) (a := 0) (b := 2) (ls' := [(3, 106), (0, x1), (0, (w32 (s0 + 0))), (0, x3)]) rfl (Nat.le_of_ble_eq_true rfl) rfl) ?_
    refine Eq.trans (s_iinc (y := 211) (pc := 29) (nx := 32) (a := 3) (b := 1) (x := x3) (ls' := [(3, 106), (0, x1), (0, (w32 (s0 + 0))), (0, (w32 (x3 + 1)))]) rfl rfl rfl) ?_
    refine Eq.trans (s_goto (y := 211) (pc := 32) (nx := 35) (a := 0) (b := 4) (tg := 4) rfl rfl) ?_
    rfl
  · refine Eq.trans (s_push (y := 211) (pc := 22) (nx := 23) (a := 0) (b := 1) rfl) ?_
    refine Eq.trans (s_goto (y := 211) (pc := 23) (nx := 26) (a := 0) (b := 27) (tg := 27) rfl rfl) ?_
    refine Eq.trans (s_add (y := 211) (pc := 27) (nx := 28) (b := 0) rfl) ?_
    refine Eq.trans (s_store (y := 211) (pc := 28) (nx := 29) (a := 0) (b := 2) (ls' := [(3, 106), (0, x1), (0, (w32 (s0 + 1))), (0, x3)]) rfl (Nat.le_of_ble_eq_true rfl) rfl) ?_
    refine Eq.trans (s_iinc (y := 211) (pc := 29) (nx := 32) (a := 3) (b := 1) (x := x3) (ls' := [(3, 106), (0, x1), (0, (w32 (s0 + 1))), (0, (w32 (x3 + 1)))]) rfl rfl rfl) ?_
    refine Eq.trans (s_goto (y := 211) (pc := 32) (nx := 35) (a := 0) (b := 4) (tg := 4) rfl rfl) ?_
    rfl
theorem r_212 (D : Mem) : qR 212 [(3, 106)] (mk D) = qE 212 6 [(3, 106), (0, (-1)), (0, 0), (0, 0), (9, 0)] [] (mk D) := by
  show qE 212 0 [(3, 106), (9, 0), (9, 0), (9, 0), (9, 0)] [] (mk D) = _
  refine Eq.trans (s_push (y := 212) (pc := 0) (nx := 1) (a := 0) (b := (-1)) rfl) ?_
  refine Eq.trans (s_store (y := 212) (pc := 1) (nx := 2) (a := 0) (b := 1) (ls' := [(3, 106), (0, (-1)), (9, 0), (9, 0), (9, 0)]) rfl (Nat.le_of_ble_eq_true rfl) rfl) ?_
  refine Eq.trans (s_push (y := 212) (pc := 2) (nx := 3) (a := 0) (b := 0) rfl) ?_
  refine Eq.trans (s_store (y := 212) (pc := 3) (nx := 4) (a := 0) (b := 2) (ls' := [(3, 106), (0, (-1)), (0, 0), (9, 0), (9, 0)]) rfl (Nat.le_of_ble_eq_true rfl) rfl) ?_
  refine Eq.trans (s_push (y := 212) (pc := 4) (nx := 5) (a := 0) (b := 0) rfl) ?_
  refine Eq.trans (s_store (y := 212) (pc := 5) (nx := 6) (a := 0) (b := 3) (ls' := [(3, 106), (0, (-1)), (0, 0), (0, 0), (9, 0)]) rfl (Nat.le_of_ble_eq_true rfl) rfl) ?_
  rfl
theorem e_212_6 (D : Mem) (x1 : Int) (x2 : Int) (x3 : Int) (v4 : PV) : qE 212 6 [(3, 106), (0, x1), (0, x2), (0, x3), v4] [] (mk D) = (if x3 < (D 106 6) then ((qR 211 [(3, 106), (0, x3)] (mk D)).bind fun w => qE 212 19 [(3, 106), (0, x1), (0, x2), (0, x3), v4] (psh w.1 []) w.2) else some ((0, x1), (mk D))) := by
  refine Eq.trans (s_load (y := 212) (pc := 6) (nx := 7) (a := 0) (b := 3) (x := x3) rfl rfl) ?_
  refine Eq.trans (s_load (y := 212) (pc := 7) (nx := 8) (a := 3) (b := 0) (x := 106) rfl rfl) ?_
  refine Eq.trans (s_get (y := 212) (pc := 8) (nx := 11) (a := 10) (b := 6) (t := 0) (v := (D 106 6)) rfl (mk_k106 _) rfl (mk_106_6 _)) ?_
  refine Eq.trans (s_icge (y := 212) (pc := 11) (nx := 14) (b := 38) (tg := 38) rfl rfl) (ite_c ?_ ?_)
  · refine Eq.trans (s_load (y := 212) (pc := 14) (nx := 15) (a := 3) (b := 0) (x := 106) rfl rfl) ?_
    refine Eq.trans (s_load (y := 212) (pc := 15) (nx := 16) (a := 0) (b := 3) (x := x3) rfl rfl) ?_
    exact s_call (y := 212) (pc := 16) (nx := 19) (a := 211) (b := 0) (as := [(3, 106), (0, x3)]) (r := []) rfl (Nat.le_of_ble_eq_true rfl) rfl rfl (Nat.le_of_ble_eq_true rfl) (Nat.le_of_ble_eq_true rfl) (Or.inr ⟨rfl, mk_k106 _⟩)
  · refine Eq.trans (s_load (y := 212) (pc := 38) (nx := 39) (a := 0) (b := 1) (x := x1) rfl rfl) ?_
    exact s_ret (y := 212) (pc := 39) (nx := 40) (a := 0) rfl (by decide)
theorem e_212_19 (D : Mem) (x1 : Int) (x2 : Int) (x3 : Int) (v4 : PV) (s0 : Int) : qE 212 19 [(3, 106), (0, x1), (0, x2), (0, x3), v4] [(0, s0)] (mk D) = (if s0 ≤ x2 then qE 212 6 [(3, 106), (0, x1), (0, x2), (0, (w32 (x3 + 1))), (0, s0)] [] (mk D) else qE 212 6 [(3, 106), (0, x3), (0, s0), (0, (w32 (x3 + 1))), (0, s0)] [] (mk D)) := by
  refine Eq.trans (s_store (y := 212) (pc := 19) (nx := 21) (a := 0) (b := 4) (ls' := [(3, 106), (0, x1), (0, x2), (0, x3), (0, s0)]) rfl (Nat.le_of_ble_eq_true rfl) rfl) ?_
  refine Eq.trans (s_load (y := 212) (pc := 21) (nx := 23) (a := 0) (b := 4) (x := s0) rfl rfl) ?_
  refine Eq.trans (s_load (y := 212) (pc := 23) (nx := 24) (a := 0) (b := 2) (x := x2) rfl rfl) ?_
  refine Eq.trans (s_icle (y := 212) (pc := 24) (nx := 27) (b := 32) (tg := 32) rfl rfl) (ite_c ?_ ?_)
  · refine Eq.trans (s_iinc (y := 212) (pc := 32) (nx := 35) (a := 3) (b := 1) (x := x3) (ls' := [(3, 106), (0, x1), (0, x2), (0, (w32 (x3 + 1))), (0, s0)]) rfl rfl rfl) ?_
    refine Eq.trans (s_goto (y := 212) (pc := 35) (nx := 38) (a := 0) (b := 6) (tg := 6) rfl rfl) ?_
    rfl
  · refine Eq.trans (s_load (y := 212) (pc := 27) (nx := 29) (a := 0) (b := 4) (x := s0) rfl rfl) ?_
    refine Eq.trans (s_store (y := 212) (pc := 29) (nx := 30) (a := 0) (b := 2) (ls' := [(3, 106), (0, x1), (0, s0), (0, x3), (0, s0)]) rfl (Nat.le_of_ble_eq_true rfl) rfl) ?_
    refine Eq.trans (s_load (y := 212) (pc := 30) (nx := 31) (a := 0) (b := 3) (x := x3) rfl rfl) ?_
    refine Eq.trans (s_store (y := 212) (pc := 31) (nx := 32) (a := 0) (b := 1) (ls' := [(3, 106), (0, x3), (0, s0), (0, x3), (0, s0)]) rfl (Nat.le_of_ble_eq_true rfl) rfl) ?_
    refine Eq.trans (s_iinc (y := 212) (pc := 32) (nx := 35) (a := 3) (b := 1) (x := x3) (ls' := [(3, 106), (0, x3), (0, s0), (0, (w32 (x3 + 1))), (0, s0)]) rfl rfl rfl) ?_
    refine Eq.trans (s_goto (y := 212) (pc := 35) (nx := 38) (a := 0) (b := 6) (tg := 6) rfl rfl) ?_
    rfl
theorem r_213 (D : Mem) : qR 213 [(3, 106)] (mk D) = ((qR 212 [(3, 106)] (mk D)).bind fun w => qE 213 4 [(3, 106), (9, 0)] (psh w.1 []) w.2) := by
  show qE 213 0 [(3, 106), (9, 0)] [] (mk D) = _
  refine Eq.trans (s_load (y := 213) (pc := 0) (nx := 1) (a := 3) (b := 0) (x := 106) rfl rfl) ?_
  exact s_call (y := 213) (pc := 1) (nx := 4) (a := 212) (b := 0) (as := [(3, 106)]) (r := []) rfl (Nat.le_of_ble_eq_true rfl) rfl rfl (Nat.le_of_ble_eq_true rfl) (Nat.le_of_ble_eq_true rfl) (Or.inr ⟨rfl, mk_k106 _⟩)
theorem e_213_4 (D : Mem) (s0 : Int) : qE 213 4 [(3, 106), (9, 0)] [(0, s0)] (mk D) = (if s0 < 0 then qE 213 18 [(3, 106), (0, s0)] [(0, 0)] (mk D) else ((qR 211 [(3, 106), (0, s0)] (mk D)).bind fun w => qE 213 18 [(3, 106), (0, s0)] (psh w.1 []) w.2)) := by
  refine Eq.trans (s_store (y := 213) (pc := 4) (nx := 5) (a := 0) (b := 1) (ls' := [(3, 106), (0, s0)]) rfl (Nat.le_of_ble_eq_true rfl) rfl) ?_
  refine Eq.trans (s_load (y := 213) (pc := 5) (nx := 6) (a := 0) (b := 1) (x := s0) rfl rfl) ?_
  refine Eq.trans (s_ifge (y := 213) (pc := 6) (nx := 9) (b := 13) (tg := 13) rfl rfl) (ite_c ?_ ?_)
  · refine Eq.trans (s_push (y := 213) (pc := 9) (nx := 10) (a := 0) (b := 0) rfl) ?_
    refine Eq.trans (s_goto (y := 213) (pc := 10) (nx := 13) (a := 0) (b := 18) (tg := 18) rfl rfl) ?_
    rfl
  · refine Eq.trans (s_load (y := 213) (pc := 13) (nx := 14) (a := 3) (b := 0) (x := 106) rfl rfl) ?_
    refine Eq.trans (s_load (y := 213) (pc := 14) (nx := 15) (a := 0) (b := 1) (x := s0) rfl rfl) ?_
    exact s_call (y := 213) (pc := 15) (nx := 18) (a := 211) (b := 0) (as := [(3, 106), (0, s0)]) (r := []) rfl (Nat.le_of_ble_eq_true rfl) rfl rfl (Nat.le_of_ble_eq_true rfl) (Nat.le_of_ble_eq_true rfl) (Or.inr ⟨rfl, mk_k106 _⟩)
theorem e_213_18 (D : Mem) (x1 : Int) (s0 : Int) : qE 213 18 [(3, 106), (0, x1)] [(0, s0)] (mk D) = some ((0, s0), (mk D)) := by
  exact s_ret (y := 213) (pc := 18) (nx := 19) (a := 0) rfl (by decide)
theorem r_214 (D : Mem) (x1 : Int) : qR 214 [(3, 106), (0, x1)] (mk D) = ((qR 212 [(3, 106)] (mk D)).bind fun w => qE 214 4 [(3, 106), (0, x1), (9, 0), (9, 0), (9, 0)] (psh w.1 []) w.2) := by
  show qE 214 0 [(3, 106), (0, x1), (9, 0), (9, 0), (9, 0)] [] (mk D) = _
  refine Eq.trans (s_load (y := 214) (pc := 0) (nx := 1) (a := 3) (b := 0) (x := 106) rfl rfl) ?_
  exact s_call (y := 214) (pc := 1) (nx := 4) (a := 212) (b := 0) (as := [(3, 106)]) (r := []) rfl (Nat.le_of_ble_eq_true rfl) rfl rfl (Nat.le_of_ble_eq_true rfl) (Nat.le_of_ble_eq_true rfl) (Or.inr ⟨rfl, mk_k106 _⟩)
theorem e_214_4 (D : Mem) (x1 : Int) (s0 : Int) : qE 214 4 [(3, 106), (0, x1), (9, 0), (9, 0), (9, 0)] [(0, s0)] (mk D) = qE 214 10 [(3, 106), (0, x1), (0, s0), (0, x1), (0, 0)] [] (mk D) := by
  refine Eq.trans (s_store (y := 214) (pc := 4) (nx := 5) (a := 0) (b := 2) (ls' := [(3, 106), (0, x1), (0, s0), (9, 0), (9, 0)]) rfl (Nat.le_of_ble_eq_true rfl) rfl) ?_
  refine Eq.trans (s_load (y := 214) (pc := 5) (nx := 6) (a := 0) (b := 1) (x := x1) rfl rfl) ?_
  refine Eq.trans (s_store (y := 214) (pc := 6) (nx := 7) (a := 0) (b := 3) (ls' := [(3, 106), (0, x1), (0, s0), (0, x1), (9, 0)]) rfl (Nat.le_of_ble_eq_true rfl) rfl) ?_
  refine Eq.trans (s_push (y := 214) (pc := 7) (nx := 8) (a := 0) (b := 0) rfl) ?_
  refine Eq.trans (s_store (y := 214) (pc := 8) (nx := 10) (a := 0) (b := 4) (ls' := [(3, 106), (0, x1), (0, s0), (0, x1), (0, 0)]) rfl (Nat.le_of_ble_eq_true rfl) rfl) ?_
  rfl
theorem e_214_10 (D : Mem) (x1 : Int) (x2 : Int) (x3 : Int) (x4 : Int) : qE 214 10 [(3, 106), (0, x1), (0, x2), (0, x3), (0, x4)] [] (mk D) = (if x4 < (D 106 6) then (if x2 < 0 then some ((0, (-1)), (mk D)) else ((qR 210 [(3, 106), (0, x2), (0, x4)] (mk D)).bind fun w => qE 214 30 [(3, 106), (0, x1), (0, x2), (0, x3), (0, x4)] (psh w.1 []) w.2)) else some ((0, (-1)), (mk D))) := by
  refine Eq.trans (s_load (y := 214) (pc := 10) (nx := 12) (a := 0) (b := 4) (x := x4) rfl rfl) ?_
  refine Eq.trans (s_load (y := 214) (pc := 12) (nx := 13) (a := 3) (b := 0) (x := 106) rfl rfl) ?_
  refine Eq.trans (s_get (y := 214) (pc := 13) (nx := 16) (a := 10) (b := 6) (t := 0) (v := (D 106 6)) rfl (mk_k106 _) rfl (mk_106_6 _)) ?_
  refine Eq.trans (s_icge (y := 214) (pc := 16) (nx := 19) (b := 49) (tg := 49) rfl rfl) (ite_c ?_ ?_)
  · refine Eq.trans (s_load (y := 214) (pc := 19) (nx := 20) (a := 0) (b := 2) (x := x2) rfl rfl) ?_
    refine Eq.trans (s_iflt (y := 214) (pc := 20) (nx := 23) (b := 49) (tg := 49) rfl rfl) (ite_c ?_ ?_)
    · refine Eq.trans (s_push (y := 214) (pc := 49) (nx := 50) (a := 0) (b := (-1)) rfl) ?_
      exact s_ret (y := 214) (pc := 50) (nx := 51) (a := 0) rfl (by decide)
    · refine Eq.trans (s_load (y := 214) (pc := 23) (nx := 24) (a := 3) (b := 0) (x := 106) rfl rfl) ?_
      refine Eq.trans (s_load (y := 214) (pc := 24) (nx := 25) (a := 0) (b := 2) (x := x2) rfl rfl) ?_
      refine Eq.trans (s_load (y := 214) (pc := 25) (nx := 27) (a := 0) (b := 4) (x := x4) rfl rfl) ?_
      exact s_call (y := 214) (pc := 27) (nx := 30) (a := 210) (b := 0) (as := [(3, 106), (0, x2), (0, x4)]) (r := []) rfl (Nat.le_of_ble_eq_true rfl) rfl rfl (Nat.le_of_ble_eq_true rfl) (Nat.le_of_ble_eq_true rfl) (Or.inr ⟨rfl, mk_k106 _⟩)
  · refine Eq.trans (s_push (y := 214) (pc := 49) (nx := 50) (a := 0) (b := (-1)) rfl) ?_
    exact s_ret (y := 214) (pc := 50) (nx := 51) (a := 0) rfl (by decide)
theorem e_214_30 (D : Mem) (x1 : Int) (x2 : Int) (x3 : Int) (x4 : Int) (s0 : Int) : qE 214 30 [(3, 106), (0, x1), (0, x2), (0, x3), (0, x4)] [(0, s0)] (mk D) = (if s0 = 0 then qE 214 10 [(3, 106), (0, x1), (0, x2), (0, x3), (0, (w32 (x4 + 1)))] [] (mk D) else (if x3 = 0 then some ((0, x4), (mk D)) else qE 214 10 [(3, 106), (0, x1), (0, x2), (0, (w32 (x3 + (-1)))), (0, (w32 (x4 + 1)))] [] (mk D))) := by
  refine Eq.trans (s_ifeq (y := 214) (pc := 30) (nx := 33) (b := 43) (tg := 43) rfl rfl) (ite_c ?_ ?_)
  · refine Eq.trans (s_iinc (y := 214) (pc := 43) (nx := 46) (a := 4) (b := 1) (x := x4) (ls' := [(3, 106), (0, x1), (0, x2), (0, x3), (0, (w32 (x4 + 1)))]) rfl rfl rfl) ?_
    refine Eq.trans (s_goto (y := 214) (pc := 46) (nx := 49) (a := 0) (b := 10) (tg := 10) rfl rfl) ?_
    rfl
  · refine Eq.trans (s_load (y := 214) (pc := 33) (nx := 34) (a := 0) (b := 3) (x := x3) rfl rfl) ?_
    refine Eq.trans (s_ifne (y := 214) (pc := 34) (nx := 37) (b := 40) (tg := 40) rfl rfl) (ite_c ?_ ?_)
    · refine Eq.trans (s_load (y := 214) (pc := 37) (nx := 39) (a := 0) (b := 4) (x := x4) rfl rfl) ?_
      exact s_ret (y := 214) (pc := 39) (nx := 40) (a := 0) rfl (by decide)
    · refine Eq.trans (s_iinc (y := 214) (pc := 40) (nx := 43) (a := 3) (b := (-1)) (x := x3) (ls' := [(3, 106), (0, x1), (0, x2), (0, (w32 (x3 + (-1)))), (0, x4)]) rfl rfl rfl) ?_
      refine Eq.trans (s_iinc (y := 214) (pc := 43) (nx := 46) (a := 4) (b := 1) (x := x4) (ls' := [(3, 106), (0, x1), (0, x2), (0, (w32 (x3 + (-1)))), (0, (w32 (x4 + 1)))]) rfl rfl rfl) ?_
      refine Eq.trans (s_goto (y := 214) (pc := 46) (nx := 49) (a := 0) (b := 10) (tg := 10) rfl rfl) ?_
      rfl
theorem r_215 (D : Mem) : qR 215 [(3, 106)] (mk D) = qE 215 4 [(3, 106), (0, 0), (0, 0), (9, 0)] [] (mk D) := by
  show qE 215 0 [(3, 106), (9, 0), (9, 0), (9, 0)] [] (mk D) = _
  refine Eq.trans (s_push (y := 215) (pc := 0) (nx := 1) (a := 0) (b := 0) rfl) ?_
  refine Eq.trans (s_store (y := 215) (pc := 1) (nx := 2) (a := 0) (b := 1) (ls' := [(3, 106), (0, 0), (9, 0), (9, 0)]) rfl (Nat.le_of_ble_eq_true rfl) rfl) ?_
  refine Eq.trans (s_push (y := 215) (pc := 2) (nx := 3) (a := 0) (b := 0) rfl) ?_
  refine Eq.trans (s_store (y := 215) (pc := 3) (nx := 4) (a := 0) (b := 2) (ls' := [(3, 106), (0, 0), (0, 0), (9, 0)]) rfl (Nat.le_of_ble_eq_true rfl) rfl) ?_
  rfl
theorem e_215_4 (D : Mem) (x1 : Int) (x2 : Int) (v3 : PV) : qE 215 4 [(3, 106), (0, x1), (0, x2), v3] [] (mk D) = (if x2 < (D 106 6) then qE 215 14 [(3, 106), (0, x1), (0, x2), (0, 0)] [] (mk D) else some ((0, x1), (mk D))) := by
  refine Eq.trans (s_load (y := 215) (pc := 4) (nx := 5) (a := 0) (b := 2) (x := x2) rfl rfl) ?_
  refine Eq.trans (s_load (y := 215) (pc := 5) (nx := 6) (a := 3) (b := 0) (x := 106) rfl rfl) ?_
  refine Eq.trans (s_get (y := 215) (pc := 6) (nx := 9) (a := 10) (b := 6) (t := 0) (v := (D 106 6)) rfl (mk_k106 _) rfl (mk_106_6 _)) ?_
  refine Eq.trans (s_icge (y := 215) (pc := 9) (nx := 12) (b := 48) (tg := 48) rfl rfl) (ite_c ?_ ?_)
  · refine Eq.trans (s_push (y := 215) (pc := 12) (nx := 13) (a := 0) (b := 0) rfl) ?_
    refine Eq.trans (s_store (y := 215) (pc := 13) (nx := 14) (a := 0) (b := 3) (ls' := [(3, 106), (0, x1), (0, x2), (0, 0)]) rfl (Nat.le_of_ble_eq_true rfl) rfl) ?_
    rfl
  · refine Eq.trans (s_load (y := 215) (pc := 48) (nx := 49) (a := 0) (b := 1) (x := x1) rfl rfl) ?_
    exact s_ret (y := 215) (pc := 49) (nx := 50) (a := 0) rfl (by decide)
theorem e_215_14 (D : Mem) (x1 : Int) (x2 : Int) (x3 : Int) : qE 215 14 [(3, 106), (0, x1), (0, x2), (0, x3)] [] (mk D) = (if x3 < x2 then ((qR 210 [(3, 106), (0, x2), (0, x3)] (mk D)).bind fun w => qE 215 26 [(3, 106), (0, x1), (0, x2), (0, x3)] (psh w.1 [(0, x1)]) w.2) else qE 215 4 [(3, 106), (0, x1), (0, (w32 (x2 + 1))), (0, x3)] [] (mk D)) := by
  refine Eq.trans (s_load (y := 215) (pc := 14) (nx := 15) (a := 0) (b := 3) (x := x3) rfl rfl) ?_
  refine Eq.trans (s_load (y := 215) (pc := 15) (nx := 16) (a := 0) (b := 2) (x := x2) rfl rfl) ?_
  refine Eq.trans (s_icge (y := 215) (pc := 16) (nx := 19) (b := 42) (tg := 42) rfl rfl) (ite_c ?_ ?_)
  · refine Eq.trans (s_load (y := 215) (pc := 19) (nx := 20) (a := 0) (b := 1) (x := x1) rfl rfl) ?_
    refine Eq.trans (s_load (y := 215) (pc := 20) (nx := 21) (a := 3) (b := 0) (x := 106) rfl rfl) ?_
    refine Eq.trans (s_load (y := 215) (pc := 21) (nx := 22) (a := 0) (b := 2) (x := x2) rfl rfl) ?_
    refine Eq.trans (s_load (y := 215) (pc := 22) (nx := 23) (a := 0) (b := 3) (x := x3) rfl rfl) ?_
    exact s_call (y := 215) (pc := 23) (nx := 26) (a := 210) (b := 0) (as := [(3, 106), (0, x2), (0, x3)]) (r := [(0, x1)]) rfl (Nat.le_of_ble_eq_true rfl) rfl rfl (Nat.le_of_ble_eq_true rfl) (Nat.le_of_ble_eq_true rfl) (Or.inr ⟨rfl, mk_k106 _⟩)
  · refine Eq.trans (s_iinc (y := 215) (pc := 42) (nx := 45) (a := 2) (b := 1) (x := x2) (ls' := [(3, 106), (0, x1), (0, (w32 (x2 + 1))), (0, x3)]) rfl rfl rfl) ?_
    refine Eq.trans (s_goto (y := 215) (pc := 45) (nx := 48) (a := 0) (b := 4) (tg := 4) rfl rfl) ?_
    rfl
theorem e_215_26 (D : Mem) (x1 : Int) (x2 : Int) (x3 : Int) (s0 : Int) (s1 : Int) : qE 215 26 [(3, 106), (0, x1), (0, x2), (0, x3)] [(0, s1), (0, s0)] (mk D) = (if s1 = 0 then qE 215 14 [(3, 106), (0, (w32 (s0 + 0))), (0, x2), (0, (w32 (x3 + 1)))] [] (mk D) else qE 215 14 [(3, 106), (0, (w32 (s0 + 1))), (0, x2), (0, (w32 (x3 + 1)))] [] (mk D)) := by
  refine Eq.trans (s_ifeq (y := 215) (pc := 26) (nx := 29) (b := 33) (tg := 33) rfl rfl) (ite_c ?_ ?_)
  · refine Eq.trans (s_push (y := 215) (pc := 33) (nx := 34) (a := 0) (b := 0) rfl) ?_
    refine Eq.trans (s_add (y := 215) (pc := 34) (nx := 35) (b := 0) rfl) ?_
    refine Eq.trans (s_store (y := 215) (pc := 35) (nx := 36) (a := 0) (b := 1) (ls' := [(3, 106), (0, (w32 (s0 + 0))), (0, x2), (0, x3)]) rfl (Nat.le_of_ble_eq_true rfl) rfl) ?_
    refine Eq.trans (s_iinc (y := 215) (pc := 36) (nx := 39) (a := 3) (b := 1) (x := x3) (ls' := [(3, 106), (0, (w32 (s0 + 0))), (0, x2), (0, (w32 (x3 + 1)))]) rfl rfl rfl) ?_
    refine Eq.trans (s_goto (y := 215) (pc := 39) (nx := 42) (a := 0) (b := 14) (tg := 14) rfl rfl) ?_
    rfl
  · refine Eq.trans (s_push (y := 215) (pc := 29) (nx := 30) (a := 0) (b := 1) rfl) ?_
    refine Eq.trans (s_goto (y := 215) (pc := 30) (nx := 33) (a := 0) (b := 34) (tg := 34) rfl rfl) ?_
    refine Eq.trans (s_add (y := 215) (pc := 34) (nx := 35) (b := 0) rfl) ?_
    refine Eq.trans (s_store (y := 215) (pc := 35) (nx := 36) (a := 0) (b := 1) (ls' := [(3, 106), (0, (w32 (s0 + 1))), (0, x2), (0, x3)]) rfl (Nat.le_of_ble_eq_true rfl) rfl) ?_
    refine Eq.trans (s_iinc (y := 215) (pc := 36) (nx := 39) (a := 3) (b := 1) (x := x3) (ls' := [(3, 106), (0, (w32 (s0 + 1))), (0, x2), (0, (w32 (x3 + 1)))]) rfl rfl rfl) ?_
    refine Eq.trans (s_goto (y := 215) (pc := 39) (nx := 42) (a := 0) (b := 14) (tg := 14) rfl rfl) ?_
    rfl
