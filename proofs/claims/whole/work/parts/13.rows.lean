theorem r_131 (μ : Mem) (x0 : Int) : qR 131 [(0, x0)] μ = (if x0 < 1 then some ((0, 0), μ) else (if x0 ≤ 9 then some ((0, 1), μ) else some ((0, 0), μ))) := by
  show qE 131 0 [(0, x0)] [] μ = _
  refine Eq.trans (s_load (y := 131) (pc := 0) (nx := 1) (a := 0) (b := 0) (x := x0) rfl rfl) ?_
  refine Eq.trans (s_push (y := 131) (pc := 1) (nx := 2) (a := 0) (b := 1) rfl) ?_
  refine Eq.trans (s_iclt (y := 131) (pc := 2) (nx := 5) (b := 15) (tg := 15) rfl rfl) (ite_c ?_ ?_)
  · refine Eq.trans (s_push (y := 131) (pc := 15) (nx := 16) (a := 0) (b := 0) rfl) ?_
    exact s_retz (y := 131) (pc := 16) (nx := 17) rfl (by decide)
  · refine Eq.trans (s_load (y := 131) (pc := 5) (nx := 6) (a := 0) (b := 0) (x := x0) rfl rfl) ?_
    refine Eq.trans (s_push (y := 131) (pc := 6) (nx := 8) (a := 0) (b := 9) rfl) ?_
    refine Eq.trans (s_icgt (y := 131) (pc := 8) (nx := 11) (b := 15) (tg := 15) rfl rfl) (ite_c ?_ ?_)
    · refine Eq.trans (s_push (y := 131) (pc := 11) (nx := 12) (a := 0) (b := 1) rfl) ?_
      refine Eq.trans (s_goto (y := 131) (pc := 12) (nx := 15) (a := 0) (b := 16) (tg := 16) rfl rfl) ?_
      exact s_retz (y := 131) (pc := 16) (nx := 17) rfl (by decide)
    · refine Eq.trans (s_push (y := 131) (pc := 15) (nx := 16) (a := 0) (b := 0) rfl) ?_
      exact s_retz (y := 131) (pc := 16) (nx := 17) rfl (by decide)
theorem r_132 (μ : Mem) (x0 : Int) : qR 132 [(0, x0)] μ = (if x0 < 0 then some ((0, 0), μ) else (if x0 < 4 then some ((0, 1), μ) else some ((0, 0), μ))) := by
  show qE 132 0 [(0, x0)] [] μ = _
  refine Eq.trans (s_load (y := 132) (pc := 0) (nx := 1) (a := 0) (b := 0) (x := x0) rfl rfl) ?_
  refine Eq.trans (s_iflt (y := 132) (pc := 1) (nx := 4) (b := 13) (tg := 13) rfl rfl) (ite_c ?_ ?_)
  · refine Eq.trans (s_push (y := 132) (pc := 13) (nx := 14) (a := 0) (b := 0) rfl) ?_
    exact s_retz (y := 132) (pc := 14) (nx := 15) rfl (by decide)
  · refine Eq.trans (s_load (y := 132) (pc := 4) (nx := 5) (a := 0) (b := 0) (x := x0) rfl rfl) ?_
    refine Eq.trans (s_push (y := 132) (pc := 5) (nx := 6) (a := 0) (b := 4) rfl) ?_
    refine Eq.trans (s_icge (y := 132) (pc := 6) (nx := 9) (b := 13) (tg := 13) rfl rfl) (ite_c ?_ ?_)
    · refine Eq.trans (s_push (y := 132) (pc := 9) (nx := 10) (a := 0) (b := 1) rfl) ?_
      refine Eq.trans (s_goto (y := 132) (pc := 10) (nx := 13) (a := 0) (b := 14) (tg := 14) rfl rfl) ?_
      exact s_retz (y := 132) (pc := 14) (nx := 15) rfl (by decide)
    · refine Eq.trans (s_push (y := 132) (pc := 13) (nx := 14) (a := 0) (b := 0) rfl) ?_
      exact s_retz (y := 132) (pc := 14) (nx := 15) rfl (by decide)
theorem r_133 (μ : Mem) (x0 : Int) : qR 133 [(0, x0)] μ = (if x0 < 1 then some ((0, 0), μ) else (if x0 ≤ 1000000 then some ((0, 1), μ) else some ((0, 0), μ))) := by
  show qE 133 0 [(0, x0)] [] μ = _
  refine Eq.trans (s_load (y := 133) (pc := 0) (nx := 1) (a := 0) (b := 0) (x := x0) rfl rfl) ?_
  refine Eq.trans (s_push (y := 133) (pc := 1) (nx := 2) (a := 0) (b := 1) rfl) ?_
  refine Eq.trans (s_iclt (y := 133) (pc := 2) (nx := 5) (b := 15) (tg := 15) rfl rfl) (ite_c ?_ ?_)
  · refine Eq.trans (s_push (y := 133) (pc := 15) (nx := 16) (a := 0) (b := 0) rfl) ?_
    exact s_retz (y := 133) (pc := 16) (nx := 17) rfl (by decide)
  · refine Eq.trans (s_load (y := 133) (pc := 5) (nx := 6) (a := 0) (b := 0) (x := x0) rfl rfl) ?_
    refine Eq.trans (s_push (y := 133) (pc := 6) (nx := 8) (a := 0) (b := 1000000) rfl) ?_
    refine Eq.trans (s_icgt (y := 133) (pc := 8) (nx := 11) (b := 15) (tg := 15) rfl rfl) (ite_c ?_ ?_)
    · refine Eq.trans (s_push (y := 133) (pc := 11) (nx := 12) (a := 0) (b := 1) rfl) ?_
      refine Eq.trans (s_goto (y := 133) (pc := 12) (nx := 15) (a := 0) (b := 16) (tg := 16) rfl rfl) ?_
      exact s_retz (y := 133) (pc := 16) (nx := 17) rfl (by decide)
    · refine Eq.trans (s_push (y := 133) (pc := 15) (nx := 16) (a := 0) (b := 0) rfl) ?_
      exact s_retz (y := 133) (pc := 16) (nx := 17) rfl (by decide)
theorem r_134 (μ : Mem) (x0 : Int) (x1 : Int) : qR 134 [(0, x0), (0, x1)] μ = (if x0 < x1 then (if x0 < x1 then qE 134 21 [(0, x0), (0, x1), (0, x0), (9, 0), (9, 0)] [(0, x1)] μ else qE 134 21 [(0, x0), (0, x1), (0, x0), (9, 0), (9, 0)] [(0, x0)] μ) else (if x0 < x1 then qE 134 21 [(0, x0), (0, x1), (0, x1), (9, 0), (9, 0)] [(0, x1)] μ else qE 134 21 [(0, x0), (0, x1), (0, x1), (9, 0), (9, 0)] [(0, x0)] μ)) := by
  show qE 134 0 [(0, x0), (0, x1), (9, 0), (9, 0), (9, 0)] [] μ = _
  refine Eq.trans (s_load (y := 134) (pc := 0) (nx := 1) (a := 0) (b := 0) (x := x0) rfl rfl) ?_
  refine Eq.trans (s_load (y := 134) (pc := 1) (nx := 2) (a := 0) (b := 1) (x := x1) rfl rfl) ?_
  refine Eq.trans (s_icge (y := 134) (pc := 2) (nx := 5) (b := 9) (tg := 9) rfl rfl) (ite_c ?_ ?_)
  · refine Eq.trans (s_load (y := 134) (pc := 5) (nx := 6) (a := 0) (b := 0) (x := x0) rfl rfl) ?_
    refine Eq.trans (s_goto (y := 134) (pc := 6) (nx := 9) (a := 0) (b := 10) (tg := 10) rfl rfl) ?_
    refine Eq.trans (s_store (y := 134) (pc := 10) (nx := 11) (a := 0) (b := 2) (ls' := [(0, x0), (0, x1), (0, x0), (9, 0), (9, 0)]) rfl (Nat.le_of_ble_eq_true rfl) rfl) ?_
    refine Eq.trans (s_load (y := 134) (pc := 11) (nx := 12) (a := 0) (b := 0) (x := x0) rfl rfl) ?_
    refine Eq.trans (s_load (y := 134) (pc := 12) (nx := 13) (a := 0) (b := 1) (x := x1) rfl rfl) ?_
    refine Eq.trans (s_icge (y := 134) (pc := 13) (nx := 16) (b := 20) (tg := 20) rfl rfl) (ite_c ?_ ?_)
    · refine Eq.trans (s_load (y := 134) (pc := 16) (nx := 17) (a := 0) (b := 1) (x := x1) rfl rfl) ?_
      refine Eq.trans (s_goto (y := 134) (pc := 17) (nx := 20) (a := 0) (b := 21) (tg := 21) rfl rfl) ?_
      rfl
    · refine Eq.trans (s_load (y := 134) (pc := 20) (nx := 21) (a := 0) (b := 0) (x := x0) rfl rfl) ?_
      rfl
  · refine Eq.trans (s_load (y := 134) (pc := 9) (nx := 10) (a := 0) (b := 1) (x := x1) rfl rfl) ?_
    refine Eq.trans (s_store (y := 134) (pc := 10) (nx := 11) (a := 0) (b := 2) (ls' := [(0, x0), (0, x1), (0, x1), (9, 0), (9, 0)]) rfl (Nat.le_of_ble_eq_true rfl) rfl) ?_
    refine Eq.trans (s_load (y := 134) (pc := 11) (nx := 12) (a := 0) (b := 0) (x := x0) rfl rfl) ?_
    refine Eq.trans (s_load (y := 134) (pc := 12) (nx := 13) (a := 0) (b := 1) (x := x1) rfl rfl) ?_
    refine Eq.trans (s_icge (y := 134) (pc := 13) (nx := 16) (b := 20) (tg := 20) rfl rfl) (ite_c ?_ ?_)
    · refine Eq.trans (s_load (y := 134) (pc := 16) (nx := 17) (a := 0) (b := 1) (x := x1) rfl rfl) ?_
      refine Eq.trans (s_goto (y := 134) (pc := 17) (nx := 20) (a := 0) (b := 21) (tg := 21) rfl rfl) ?_
      rfl
    · refine Eq.trans (s_load (y := 134) (pc := 20) (nx := 21) (a := 0) (b := 0) (x := x0) rfl rfl) ?_
      rfl
theorem e_134_21 (μ : Mem) (x0 : Int) (x1 : Int) (x2 : Int) (s0 : Int) : qE 134 21 [(0, x0), (0, x1), (0, x2), (9, 0), (9, 0)] [(0, s0)] μ = (if x2 < 1 then some ((0, 0), μ) else (if s0 ≤ 9 then (if (w32 (Int.tdiv (w32 (x2 - 1)) 3)) = (w32 (Int.tdiv (w32 (s0 - 1)) 3)) then qE 134 53 [(0, x0), (0, x1), (0, x2), (0, s0), (9, 0)] [(0, 1)] μ else qE 134 53 [(0, x0), (0, x1), (0, x2), (0, s0), (9, 0)] [(0, 0)] μ) else some ((0, 0), μ))) := by
  refine Eq.trans (s_store (y := 134) (pc := 21) (nx := 22) (a := 0) (b := 3) (ls' := [(0, x0), (0, x1), (0, x2), (0, s0), (9, 0)]) rfl (Nat.le_of_ble_eq_true rfl) rfl) ?_
  refine Eq.trans (s_load (y := 134) (pc := 22) (nx := 23) (a := 0) (b := 2) (x := x2) rfl rfl) ?_
  refine Eq.trans (s_push (y := 134) (pc := 23) (nx := 24) (a := 0) (b := 1) rfl) ?_
  refine Eq.trans (s_iclt (y := 134) (pc := 24) (nx := 27) (b := 33) (tg := 33) rfl rfl) (ite_c ?_ ?_)
  · refine Eq.trans (s_push (y := 134) (pc := 33) (nx := 34) (a := 0) (b := 0) rfl) ?_
    exact s_retz (y := 134) (pc := 34) (nx := 35) rfl (by decide)
  · refine Eq.trans (s_load (y := 134) (pc := 27) (nx := 28) (a := 0) (b := 3) (x := s0) rfl rfl) ?_
    refine Eq.trans (s_push (y := 134) (pc := 28) (nx := 30) (a := 0) (b := 9) rfl) ?_
    refine Eq.trans (s_icle (y := 134) (pc := 30) (nx := 33) (b := 35) (tg := 35) rfl rfl) (ite_c ?_ ?_)
    · refine Eq.trans (s_load (y := 134) (pc := 35) (nx := 36) (a := 0) (b := 2) (x := x2) rfl rfl) ?_
      refine Eq.trans (s_push (y := 134) (pc := 36) (nx := 37) (a := 0) (b := 1) rfl) ?_
      refine Eq.trans (s_sub (y := 134) (pc := 37) (nx := 38) (b := 0) rfl) ?_
      refine Eq.trans (s_push (y := 134) (pc := 38) (nx := 39) (a := 0) (b := 3) rfl) ?_
      refine Eq.trans (s_div (y := 134) (pc := 39) (nx := 40) (b := 0) rfl (by decide)) ?_
      refine Eq.trans (s_load (y := 134) (pc := 40) (nx := 41) (a := 0) (b := 3) (x := s0) rfl rfl) ?_
      refine Eq.trans (s_push (y := 134) (pc := 41) (nx := 42) (a := 0) (b := 1) rfl) ?_
      refine Eq.trans (s_sub (y := 134) (pc := 42) (nx := 43) (b := 0) rfl) ?_
      refine Eq.trans (s_push (y := 134) (pc := 43) (nx := 44) (a := 0) (b := 3) rfl) ?_
      refine Eq.trans (s_div (y := 134) (pc := 44) (nx := 45) (b := 0) rfl (by decide)) ?_
      refine Eq.trans (s_icne (y := 134) (pc := 45) (nx := 48) (b := 52) (tg := 52) rfl rfl) (ite_c ?_ ?_)
      · refine Eq.trans (s_push (y := 134) (pc := 48) (nx := 49) (a := 0) (b := 1) rfl) ?_
        refine Eq.trans (s_goto (y := 134) (pc := 49) (nx := 52) (a := 0) (b := 53) (tg := 53) rfl rfl) ?_
        rfl
      · refine Eq.trans (s_push (y := 134) (pc := 52) (nx := 53) (a := 0) (b := 0) rfl) ?_
        rfl
    · refine Eq.trans (s_push (y := 134) (pc := 33) (nx := 34) (a := 0) (b := 0) rfl) ?_
      exact s_retz (y := 134) (pc := 34) (nx := 35) rfl (by decide)
theorem e_134_53 (μ : Mem) (x0 : Int) (x1 : Int) (x2 : Int) (x3 : Int) (s0 : Int) : qE 134 53 [(0, x0), (0, x1), (0, x2), (0, x3), (9, 0)] [(0, s0)] μ = (if (w32 (x3 - x2)) = 3 then some ((0, 1), μ) else (if s0 = 0 then some ((0, 0), μ) else (if (w32 (x3 - x2)) = 1 then some ((0, 1), μ) else some ((0, 0), μ)))) := by
  refine Eq.trans (s_store (y := 134) (pc := 53) (nx := 55) (a := 0) (b := 4) (ls' := [(0, x0), (0, x1), (0, x2), (0, x3), (0, s0)]) rfl (Nat.le_of_ble_eq_true rfl) rfl) ?_
  refine Eq.trans (s_load (y := 134) (pc := 55) (nx := 56) (a := 0) (b := 3) (x := x3) rfl rfl) ?_
  refine Eq.trans (s_load (y := 134) (pc := 56) (nx := 57) (a := 0) (b := 2) (x := x2) rfl rfl) ?_
  refine Eq.trans (s_sub (y := 134) (pc := 57) (nx := 58) (b := 0) rfl) ?_
  refine Eq.trans (s_push (y := 134) (pc := 58) (nx := 59) (a := 0) (b := 3) rfl) ?_
  refine Eq.trans (s_iceq (y := 134) (pc := 59) (nx := 62) (b := 74) (tg := 74) rfl rfl) (ite_c ?_ ?_)
  · refine Eq.trans (s_push (y := 134) (pc := 74) (nx := 75) (a := 0) (b := 1) rfl) ?_
    refine Eq.trans (s_goto (y := 134) (pc := 75) (nx := 78) (a := 0) (b := 79) (tg := 79) rfl rfl) ?_
    exact s_retz (y := 134) (pc := 79) (nx := 80) rfl (by decide)
  · refine Eq.trans (s_load (y := 134) (pc := 62) (nx := 64) (a := 0) (b := 4) (x := s0) rfl rfl) ?_
    refine Eq.trans (s_ifeq (y := 134) (pc := 64) (nx := 67) (b := 78) (tg := 78) rfl rfl) (ite_c ?_ ?_)
    · refine Eq.trans (s_push (y := 134) (pc := 78) (nx := 79) (a := 0) (b := 0) rfl) ?_
      exact s_retz (y := 134) (pc := 79) (nx := 80) rfl (by decide)
    · refine Eq.trans (s_load (y := 134) (pc := 67) (nx := 68) (a := 0) (b := 3) (x := x3) rfl rfl) ?_
      refine Eq.trans (s_load (y := 134) (pc := 68) (nx := 69) (a := 0) (b := 2) (x := x2) rfl rfl) ?_
      refine Eq.trans (s_sub (y := 134) (pc := 69) (nx := 70) (b := 0) rfl) ?_
      refine Eq.trans (s_push (y := 134) (pc := 70) (nx := 71) (a := 0) (b := 1) rfl) ?_
      refine Eq.trans (s_icne (y := 134) (pc := 71) (nx := 74) (b := 78) (tg := 78) rfl rfl) (ite_c ?_ ?_)
      · refine Eq.trans (s_push (y := 134) (pc := 74) (nx := 75) (a := 0) (b := 1) rfl) ?_
        refine Eq.trans (s_goto (y := 134) (pc := 75) (nx := 78) (a := 0) (b := 79) (tg := 79) rfl rfl) ?_
        exact s_retz (y := 134) (pc := 79) (nx := 80) rfl (by decide)
      · refine Eq.trans (s_push (y := 134) (pc := 78) (nx := 79) (a := 0) (b := 0) rfl) ?_
        exact s_retz (y := 134) (pc := 79) (nx := 80) rfl (by decide)
theorem r_135 (μ : Mem) (x0 : Int) : qR 135 [(0, x0)] μ = ((qR 132 [(0, x0)] μ).bind fun w => qE 135 4 [(0, x0)] (psh w.1 []) w.2) := by
  show qE 135 0 [(0, x0)] [] μ = _
  refine Eq.trans (s_load (y := 135) (pc := 0) (nx := 1) (a := 0) (b := 0) (x := x0) rfl rfl) ?_
  exact s_call (y := 135) (pc := 1) (nx := 4) (a := 132) (b := 0) (as := [(0, x0)]) (r := []) rfl (Nat.le_of_ble_eq_true rfl) rfl rfl (Nat.le_of_ble_eq_true rfl) (Nat.le_of_ble_eq_true rfl) (Or.inl rfl)
theorem e_135_4 (μ : Mem) (x0 : Int) (s0 : Int) : qE 135 4 [(0, x0)] [(0, s0)] μ = (if s0 = 0 then some ((0, (-1)), μ) else (if x0 = 0 then some ((0, (-5)), μ) else some ((0, 0), μ))) := by
  refine Eq.trans (s_ifne (y := 135) (pc := 4) (nx := 7) (b := 9) (tg := 9) rfl rfl) (ite_c ?_ ?_)
  · refine Eq.trans (s_push (y := 135) (pc := 7) (nx := 8) (a := 0) (b := (-1)) rfl) ?_
    exact s_ret (y := 135) (pc := 8) (nx := 9) (a := 0) rfl (by decide)
  · refine Eq.trans (s_load (y := 135) (pc := 9) (nx := 10) (a := 0) (b := 0) (x := x0) rfl rfl) ?_
    refine Eq.trans (s_ifne (y := 135) (pc := 10) (nx := 13) (b := 18) (tg := 18) rfl rfl) (ite_c ?_ ?_)
    · refine Eq.trans (s_push (y := 135) (pc := 13) (nx := 15) (a := 0) (b := (-5)) rfl) ?_
      refine Eq.trans (s_goto (y := 135) (pc := 15) (nx := 18) (a := 0) (b := 19) (tg := 19) rfl rfl) ?_
      exact s_ret (y := 135) (pc := 19) (nx := 20) (a := 0) rfl (by decide)
    · refine Eq.trans (s_push (y := 135) (pc := 18) (nx := 19) (a := 0) (b := 0) rfl) ?_
      exact s_ret (y := 135) (pc := 19) (nx := 20) (a := 0) rfl (by decide)
theorem r_136 (D : Mem) : qR 136 [(3, 2)] (mk D) = ((qR 55 [(3, 102)] (mk D)).bind fun w => qE 136 11 [(3, 2), (9, 0)] (psh w.1 [(3, 102)]) w.2) := by
  show qE 136 0 [(3, 2), (9, 0)] [] (mk D) = _
  refine Eq.trans (s_load (y := 136) (pc := 0) (nx := 1) (a := 3) (b := 0) (x := 2) rfl rfl) ?_
  refine Eq.trans (s_get (y := 136) (pc := 1) (nx := 4) (a := 9) (b := 8) (t := 3) (v := 102) rfl (mk_k2 _) rfl (mk_2_8 _)) ?_
  refine Eq.trans (s_load (y := 136) (pc := 4) (nx := 5) (a := 3) (b := 0) (x := 2) rfl rfl) ?_
  refine Eq.trans (s_get (y := 136) (pc := 5) (nx := 8) (a := 9) (b := 8) (t := 3) (v := 102) rfl (mk_k2 _) rfl (mk_2_8 _)) ?_
  exact s_call (y := 136) (pc := 8) (nx := 11) (a := 55) (b := 0) (as := [(3, 102)]) (r := [(3, 102)]) rfl (Nat.le_of_ble_eq_true rfl) rfl rfl (Nat.le_of_ble_eq_true rfl) (Nat.le_of_ble_eq_true rfl) (Or.inr ⟨rfl, mk_k102 _⟩)
theorem e_136_11 (D : Mem) (s1 : Int) : qE 136 11 [(3, 2), (9, 0)] [(0, s1), (3, 102)] (mk D) = ((qR 58 [(3, 102), (0, (w32 (s1 - 1)))] (mk D)).bind fun w => qE 136 16 [(3, 2), (9, 0)] (psh w.1 []) w.2) := by
  refine Eq.trans (s_push (y := 136) (pc := 11) (nx := 12) (a := 0) (b := 1) rfl) ?_
  refine Eq.trans (s_sub (y := 136) (pc := 12) (nx := 13) (b := 0) rfl) ?_
  exact s_call (y := 136) (pc := 13) (nx := 16) (a := 58) (b := 0) (as := [(3, 102), (0, (w32 (s1 - 1)))]) (r := []) rfl (Nat.le_of_ble_eq_true rfl) rfl rfl (Nat.le_of_ble_eq_true rfl) (Nat.le_of_ble_eq_true rfl) (Or.inr ⟨rfl, mk_k102 _⟩)
theorem e_136_16 (D : Mem) (s0 : Int) : qE 136 16 [(3, 2), (9, 0)] [(0, s0)] (mk D) = ((qR 8 [(3, 5), (0, s0)] (mk D)).bind fun w => qE 136 25 [(3, 2), (0, s0)] (psh w.1 []) w.2) := by
  refine Eq.trans (s_store (y := 136) (pc := 16) (nx := 17) (a := 0) (b := 1) (ls' := [(3, 2), (0, s0)]) rfl (Nat.le_of_ble_eq_true rfl) rfl) ?_
  refine Eq.trans (s_load (y := 136) (pc := 17) (nx := 18) (a := 3) (b := 0) (x := 2) rfl rfl) ?_
  refine Eq.trans (s_get (y := 136) (pc := 18) (nx := 21) (a := 9) (b := 1) (t := 3) (v := 5) rfl (mk_k2 _) rfl (mk_2_1 _)) ?_
  refine Eq.trans (s_load (y := 136) (pc := 21) (nx := 22) (a := 0) (b := 1) (x := s0) rfl rfl) ?_
  exact s_call (y := 136) (pc := 22) (nx := 25) (a := 8) (b := 0) (as := [(3, 5), (0, s0)]) (r := []) rfl (Nat.le_of_ble_eq_true rfl) rfl rfl (Nat.le_of_ble_eq_true rfl) (Nat.le_of_ble_eq_true rfl) (Or.inr ⟨rfl, mk_k5 _⟩)
theorem e_136_25 (D : Mem) (x1 : Int) (s0 : Int) : qE 136 25 [(3, 2), (0, x1)] [(0, s0)] (mk D) = (if s0 = 0 then some ((0, (-1)), (mk D)) else some ((0, x1), (mk D))) := by
  refine Eq.trans (s_ifeq (y := 136) (pc := 25) (nx := 28) (b := 32) (tg := 32) rfl rfl) (ite_c ?_ ?_)
  · refine Eq.trans (s_push (y := 136) (pc := 32) (nx := 33) (a := 0) (b := (-1)) rfl) ?_
    exact s_ret (y := 136) (pc := 33) (nx := 34) (a := 0) rfl (by decide)
  · refine Eq.trans (s_load (y := 136) (pc := 28) (nx := 29) (a := 0) (b := 1) (x := x1) rfl rfl) ?_
    refine Eq.trans (s_goto (y := 136) (pc := 29) (nx := 32) (a := 0) (b := 33) (tg := 33) rfl rfl) ?_
    exact s_ret (y := 136) (pc := 33) (nx := 34) (a := 0) rfl (by decide)
theorem r_137 (D : Mem) (x1 : Int) : qR 137 [(3, 2), (0, x1)] (mk D) = ((qR 136 [(3, 2)] (mk D)).bind fun w => qE 137 8 [(3, 2), (0, x1)] (psh w.1 [(3, 31)]) w.2) := by
  show qE 137 0 [(3, 2), (0, x1)] [] (mk D) = _
  refine Eq.trans (s_load (y := 137) (pc := 0) (nx := 1) (a := 3) (b := 0) (x := 2) rfl rfl) ?_
  refine Eq.trans (s_get (y := 137) (pc := 1) (nx := 4) (a := 9) (b := 3) (t := 3) (v := 31) rfl (mk_k2 _) rfl (mk_2_3 _)) ?_
  refine Eq.trans (s_load (y := 137) (pc := 4) (nx := 5) (a := 3) (b := 0) (x := 2) rfl rfl) ?_
  exact s_call (y := 137) (pc := 5) (nx := 8) (a := 136) (b := 0) (as := [(3, 2)]) (r := [(3, 31)]) rfl (Nat.le_of_ble_eq_true rfl) rfl rfl (Nat.le_of_ble_eq_true rfl) (Nat.le_of_ble_eq_true rfl) (Or.inr ⟨rfl, mk_k2 _⟩)
theorem e_137_8 (D : Mem) (x1 : Int) (s1 : Int) : qE 137 8 [(3, 2), (0, x1)] [(0, s1), (3, 31)] (mk D) = ((qR 70 [(3, 31), (0, s1)] (mk D)).bind fun w => qE 137 11 [(3, 2), (0, x1)] (psh w.1 []) w.2) := by
  exact s_call (y := 137) (pc := 8) (nx := 11) (a := 70) (b := 0) (as := [(3, 31), (0, s1)]) (r := []) rfl (Nat.le_of_ble_eq_true rfl) rfl rfl (Nat.le_of_ble_eq_true rfl) (Nat.le_of_ble_eq_true rfl) (Or.inr ⟨rfl, mk_k31 _⟩)
theorem e_137_11 (D : Mem) (x1 : Int) : qE 137 11 [(3, 2), (0, x1)] [] (mk D) = ((qR 71 [(3, 31), (0, x1)] (mk D)).bind fun w => qE 137 19 [(3, 2), (0, x1)] (psh w.1 []) w.2) := by
  refine Eq.trans (s_load (y := 137) (pc := 11) (nx := 12) (a := 3) (b := 0) (x := 2) rfl rfl) ?_
  refine Eq.trans (s_get (y := 137) (pc := 12) (nx := 15) (a := 9) (b := 3) (t := 3) (v := 31) rfl (mk_k2 _) rfl (mk_2_3 _)) ?_
  refine Eq.trans (s_load (y := 137) (pc := 15) (nx := 16) (a := 0) (b := 1) (x := x1) rfl rfl) ?_
  exact s_call (y := 137) (pc := 16) (nx := 19) (a := 71) (b := 0) (as := [(3, 31), (0, x1)]) (r := []) rfl (Nat.le_of_ble_eq_true rfl) rfl rfl (Nat.le_of_ble_eq_true rfl) (Nat.le_of_ble_eq_true rfl) (Or.inr ⟨rfl, mk_k31 _⟩)
theorem e_137_19 (D : Mem) (x1 : Int) (s0 : Int) : qE 137 19 [(3, 2), (0, x1)] [(0, s0)] (mk D) = some ((0, s0), (mk D)) := by
  exact s_ret (y := 137) (pc := 19) (nx := 20) (a := 0) rfl (by decide)
theorem r_138 (D : Mem) (x1 : Int) (x2 : Int) : qR 138 [(3, 2), (0, x1), (0, x2)] (mk D) = ((qR 69 [(3, 31)] (mk D)).bind fun w => qE 138 7 [(3, 2), (0, x1), (0, x2)] (psh w.1 []) w.2) := by
  show qE 138 0 [(3, 2), (0, x1), (0, x2)] [] (mk D) = _
  refine Eq.trans (s_load (y := 138) (pc := 0) (nx := 1) (a := 3) (b := 0) (x := 2) rfl rfl) ?_
  refine Eq.trans (s_get (y := 138) (pc := 1) (nx := 4) (a := 9) (b := 3) (t := 3) (v := 31) rfl (mk_k2 _) rfl (mk_2_3 _)) ?_
  exact s_call (y := 138) (pc := 4) (nx := 7) (a := 69) (b := 0) (as := [(3, 31)]) (r := []) rfl (Nat.le_of_ble_eq_true rfl) rfl rfl (Nat.le_of_ble_eq_true rfl) (Nat.le_of_ble_eq_true rfl) (Or.inr ⟨rfl, mk_k31 _⟩)
theorem e_138_7 (D : Mem) (x1 : Int) (x2 : Int) : qE 138 7 [(3, 2), (0, x1), (0, x2)] [] (mk D) = ((qR 136 [(3, 2)] (mk D)).bind fun w => qE 138 15 [(3, 2), (0, x1), (0, x2)] (psh w.1 [(3, 31)]) w.2) := by
  refine Eq.trans (s_load (y := 138) (pc := 7) (nx := 8) (a := 3) (b := 0) (x := 2) rfl rfl) ?_
  refine Eq.trans (s_get (y := 138) (pc := 8) (nx := 11) (a := 9) (b := 3) (t := 3) (v := 31) rfl (mk_k2 _) rfl (mk_2_3 _)) ?_
  refine Eq.trans (s_load (y := 138) (pc := 11) (nx := 12) (a := 3) (b := 0) (x := 2) rfl rfl) ?_
  exact s_call (y := 138) (pc := 12) (nx := 15) (a := 136) (b := 0) (as := [(3, 2)]) (r := [(3, 31)]) rfl (Nat.le_of_ble_eq_true rfl) rfl rfl (Nat.le_of_ble_eq_true rfl) (Nat.le_of_ble_eq_true rfl) (Or.inr ⟨rfl, mk_k2 _⟩)
theorem e_138_15 (D : Mem) (x1 : Int) (x2 : Int) (s1 : Int) : qE 138 15 [(3, 2), (0, x1), (0, x2)] [(0, s1), (3, 31)] (mk D) = ((qR 70 [(3, 31), (0, s1)] (mk D)).bind fun w => qE 138 18 [(3, 2), (0, x1), (0, x2)] (psh w.1 []) w.2) := by
  exact s_call (y := 138) (pc := 15) (nx := 18) (a := 70) (b := 0) (as := [(3, 31), (0, s1)]) (r := []) rfl (Nat.le_of_ble_eq_true rfl) rfl rfl (Nat.le_of_ble_eq_true rfl) (Nat.le_of_ble_eq_true rfl) (Or.inr ⟨rfl, mk_k31 _⟩)
theorem e_138_18 (D : Mem) (x1 : Int) (x2 : Int) : qE 138 18 [(3, 2), (0, x1), (0, x2)] [] (mk D) = ((qR 15 [(3, 100)] (mk D)).bind fun w => qE 138 29 [(3, 2), (0, x1), (0, x2)] (psh w.1 [(3, 31)]) w.2) := by
  refine Eq.trans (s_load (y := 138) (pc := 18) (nx := 19) (a := 3) (b := 0) (x := 2) rfl rfl) ?_
  refine Eq.trans (s_get (y := 138) (pc := 19) (nx := 22) (a := 9) (b := 3) (t := 3) (v := 31) rfl (mk_k2 _) rfl (mk_2_3 _)) ?_
  refine Eq.trans (s_load (y := 138) (pc := 22) (nx := 23) (a := 3) (b := 0) (x := 2) rfl rfl) ?_
  refine Eq.trans (s_get (y := 138) (pc := 23) (nx := 26) (a := 9) (b := 7) (t := 3) (v := 100) rfl (mk_k2 _) rfl (mk_2_7 _)) ?_
  exact s_call (y := 138) (pc := 26) (nx := 29) (a := 15) (b := 0) (as := [(3, 100)]) (r := [(3, 31)]) rfl (Nat.le_of_ble_eq_true rfl) rfl rfl (Nat.le_of_ble_eq_true rfl) (Nat.le_of_ble_eq_true rfl) (Or.inl rfl)
theorem e_138_29 (D : Mem) (x1 : Int) (x2 : Int) (s1 : Int) : qE 138 29 [(3, 2), (0, x1), (0, x2)] [(1, s1), (3, 31)] (mk D) = ((qR 74 [(3, 31), (1, s1), (0, x1), (0, x2)] (mk D)).bind fun w => qE 138 34 [(3, 2), (0, x1), (0, x2)] (psh w.1 []) w.2) := by
  refine Eq.trans (s_load (y := 138) (pc := 29) (nx := 30) (a := 0) (b := 1) (x := x1) rfl rfl) ?_
  refine Eq.trans (s_load (y := 138) (pc := 30) (nx := 31) (a := 0) (b := 2) (x := x2) rfl rfl) ?_
  exact s_call (y := 138) (pc := 31) (nx := 34) (a := 74) (b := 0) (as := [(3, 31), (1, s1), (0, x1), (0, x2)]) (r := []) rfl (Nat.le_of_ble_eq_true rfl) rfl rfl (Nat.le_of_ble_eq_true rfl) (Nat.le_of_ble_eq_true rfl) (Or.inr ⟨rfl, mk_k31 _⟩)
theorem e_138_34 (D : Mem) (x1 : Int) (x2 : Int) : qE 138 34 [(3, 2), (0, x1), (0, x2)] [] (mk D) = some ((9, 0), (mk D)) := by
  exact s_retv (y := 138) (pc := 34) (nx := 35) (b := 0) rfl
theorem r_139 (D : Mem) (x1 : Int) : qR 139 [(3, 2), (0, x1)] (mk D) = ((qR 136 [(3, 2)] (mk D)).bind fun w => qE 139 9 [(3, 2), (0, x1)] (psh w.1 [(0, x1), (3, 5)]) w.2) := by
  show qE 139 0 [(3, 2), (0, x1)] [] (mk D) = _
  refine Eq.trans (s_load (y := 139) (pc := 0) (nx := 1) (a := 3) (b := 0) (x := 2) rfl rfl) ?_
  refine Eq.trans (s_get (y := 139) (pc := 1) (nx := 4) (a := 9) (b := 1) (t := 3) (v := 5) rfl (mk_k2 _) rfl (mk_2_1 _)) ?_
  refine Eq.trans (s_load (y := 139) (pc := 4) (nx := 5) (a := 0) (b := 1) (x := x1) rfl rfl) ?_
  refine Eq.trans (s_load (y := 139) (pc := 5) (nx := 6) (a := 3) (b := 0) (x := 2) rfl rfl) ?_
  exact s_call (y := 139) (pc := 6) (nx := 9) (a := 136) (b := 0) (as := [(3, 2)]) (r := [(0, x1), (3, 5)]) rfl (Nat.le_of_ble_eq_true rfl) rfl rfl (Nat.le_of_ble_eq_true rfl) (Nat.le_of_ble_eq_true rfl) (Or.inr ⟨rfl, mk_k2 _⟩)
theorem e_139_9 (D : Mem) (x1 : Int) (s1 : Int) (s2 : Int) : qE 139 9 [(3, 2), (0, x1)] [(0, s2), (0, s1), (3, 5)] (mk D) = ((qR 13 [(3, 5), (0, s1), (0, s2)] (mk D)).bind fun w => qE 139 12 [(3, 2), (0, x1)] (psh w.1 []) w.2) := by
  exact s_call (y := 139) (pc := 9) (nx := 12) (a := 13) (b := 0) (as := [(3, 5), (0, s1), (0, s2)]) (r := []) rfl (Nat.le_of_ble_eq_true rfl) rfl rfl (Nat.le_of_ble_eq_true rfl) (Nat.le_of_ble_eq_true rfl) (Or.inr ⟨rfl, mk_k5 _⟩)
theorem e_139_12 (D : Mem) (x1 : Int) : qE 139 12 [(3, 2), (0, x1)] [] (mk D) = ((qR 59 [(3, 102), (0, x1)] (mk D)).bind fun w => qE 139 20 [(3, 2), (0, x1)] (psh w.1 []) w.2) := by
  refine Eq.trans (s_load (y := 139) (pc := 12) (nx := 13) (a := 3) (b := 0) (x := 2) rfl rfl) ?_
  refine Eq.trans (s_get (y := 139) (pc := 13) (nx := 16) (a := 9) (b := 8) (t := 3) (v := 102) rfl (mk_k2 _) rfl (mk_2_8 _)) ?_
  refine Eq.trans (s_load (y := 139) (pc := 16) (nx := 17) (a := 0) (b := 1) (x := x1) rfl rfl) ?_
  exact s_call (y := 139) (pc := 17) (nx := 20) (a := 59) (b := 0) (as := [(3, 102), (0, x1)]) (r := []) rfl (Nat.le_of_ble_eq_true rfl) rfl rfl (Nat.le_of_ble_eq_true rfl) (Nat.le_of_ble_eq_true rfl) (Or.inr ⟨rfl, mk_k102 _⟩)
theorem e_139_20 (D : Mem) (x1 : Int) : qE 139 20 [(3, 2), (0, x1)] [] (mk D) = some ((9, 0), (mk D)) := by
  exact s_retv (y := 139) (pc := 20) (nx := 21) (b := 0) rfl
theorem r_140 (D : Mem) : qR 140 [(3, 2)] (mk D) = qE 140 2 [(3, 2), (0, 0)] [] (mk D) := by
  show qE 140 0 [(3, 2), (9, 0)] [] (mk D) = _
  refine Eq.trans (s_push (y := 140) (pc := 0) (nx := 1) (a := 0) (b := 0) rfl) ?_
  refine Eq.trans (s_store (y := 140) (pc := 1) (nx := 2) (a := 0) (b := 1) (ls' := [(3, 2), (0, 0)]) rfl (Nat.le_of_ble_eq_true rfl) rfl) ?_
  rfl
theorem e_140_2 (D : Mem) (x1 : Int) : qE 140 2 [(3, 2), (0, x1)] [] (mk D) = ((qR 55 [(3, 102)] (mk D)).bind fun w => qE 140 10 [(3, 2), (0, x1)] (psh w.1 [(0, x1)]) w.2) := by
  refine Eq.trans (s_load (y := 140) (pc := 2) (nx := 3) (a := 0) (b := 1) (x := x1) rfl rfl) ?_
  refine Eq.trans (s_load (y := 140) (pc := 3) (nx := 4) (a := 3) (b := 0) (x := 2) rfl rfl) ?_
  refine Eq.trans (s_get (y := 140) (pc := 4) (nx := 7) (a := 9) (b := 8) (t := 3) (v := 102) rfl (mk_k2 _) rfl (mk_2_8 _)) ?_
  exact s_call (y := 140) (pc := 7) (nx := 10) (a := 55) (b := 0) (as := [(3, 102)]) (r := [(0, x1)]) rfl (Nat.le_of_ble_eq_true rfl) rfl rfl (Nat.le_of_ble_eq_true rfl) (Nat.le_of_ble_eq_true rfl) (Or.inr ⟨rfl, mk_k102 _⟩)
theorem e_140_10 (D : Mem) (x1 : Int) (s0 : Int) (s1 : Int) : qE 140 10 [(3, 2), (0, x1)] [(0, s1), (0, s0)] (mk D) = (if s0 < s1 then ((qR 58 [(3, 102), (0, x1)] (mk D)).bind fun w => qE 140 25 [(3, 2), (0, x1)] (psh w.1 [(3, 5)]) w.2) else ((qR 56 [(3, 102)] (mk D)).bind fun w => qE 140 46 [(3, 2), (0, x1)] (psh w.1 []) w.2)) := by
  refine Eq.trans (s_icge (y := 140) (pc := 10) (nx := 13) (b := 39) (tg := 39) rfl rfl) (ite_c ?_ ?_)
  · refine Eq.trans (s_load (y := 140) (pc := 13) (nx := 14) (a := 3) (b := 0) (x := 2) rfl rfl) ?_
    refine Eq.trans (s_get (y := 140) (pc := 14) (nx := 17) (a := 9) (b := 1) (t := 3) (v := 5) rfl (mk_k2 _) rfl (mk_2_1 _)) ?_
    refine Eq.trans (s_load (y := 140) (pc := 17) (nx := 18) (a := 3) (b := 0) (x := 2) rfl rfl) ?_
    refine Eq.trans (s_get (y := 140) (pc := 18) (nx := 21) (a := 9) (b := 8) (t := 3) (v := 102) rfl (mk_k2 _) rfl (mk_2_8 _)) ?_
    refine Eq.trans (s_load (y := 140) (pc := 21) (nx := 22) (a := 0) (b := 1) (x := x1) rfl rfl) ?_
    exact s_call (y := 140) (pc := 22) (nx := 25) (a := 58) (b := 0) (as := [(3, 102), (0, x1)]) (r := [(3, 5)]) rfl (Nat.le_of_ble_eq_true rfl) rfl rfl (Nat.le_of_ble_eq_true rfl) (Nat.le_of_ble_eq_true rfl) (Or.inr ⟨rfl, mk_k102 _⟩)
  · refine Eq.trans (s_load (y := 140) (pc := 39) (nx := 40) (a := 3) (b := 0) (x := 2) rfl rfl) ?_
    refine Eq.trans (s_get (y := 140) (pc := 40) (nx := 43) (a := 9) (b := 8) (t := 3) (v := 102) rfl (mk_k2 _) rfl (mk_2_8 _)) ?_
    exact s_call (y := 140) (pc := 43) (nx := 46) (a := 56) (b := 0) (as := [(3, 102)]) (r := []) rfl (Nat.le_of_ble_eq_true rfl) rfl rfl (Nat.le_of_ble_eq_true rfl) (Nat.le_of_ble_eq_true rfl) (Or.inr ⟨rfl, mk_k102 _⟩)
theorem e_140_25 (D : Mem) (x1 : Int) (s1 : Int) : qE 140 25 [(3, 2), (0, x1)] [(0, s1), (3, 5)] (mk D) = ((qR 8 [(3, 5), (0, s1)] (mk D)).bind fun w => qE 140 28 [(3, 2), (0, x1)] (psh w.1 []) w.2) := by
  exact s_call (y := 140) (pc := 25) (nx := 28) (a := 8) (b := 0) (as := [(3, 5), (0, s1)]) (r := []) rfl (Nat.le_of_ble_eq_true rfl) rfl rfl (Nat.le_of_ble_eq_true rfl) (Nat.le_of_ble_eq_true rfl) (Or.inr ⟨rfl, mk_k5 _⟩)
theorem e_140_28 (D : Mem) (x1 : Int) (s0 : Int) : qE 140 28 [(3, 2), (0, x1)] [(0, s0)] (mk D) = (if s0 = 0 then some ((0, 0), (mk D)) else qE 140 2 [(3, 2), (0, (w32 (x1 + 1)))] [] (mk D)) := by
  refine Eq.trans (s_ifne (y := 140) (pc := 28) (nx := 31) (b := 33) (tg := 33) rfl rfl) (ite_c ?_ ?_)
  · refine Eq.trans (s_push (y := 140) (pc := 31) (nx := 32) (a := 0) (b := 0) rfl) ?_
    exact s_retz (y := 140) (pc := 32) (nx := 33) rfl (by decide)
  · refine Eq.trans (s_iinc (y := 140) (pc := 33) (nx := 36) (a := 1) (b := 1) (x := x1) (ls' := [(3, 2), (0, (w32 (x1 + 1)))]) rfl rfl rfl) ?_
    refine Eq.trans (s_goto (y := 140) (pc := 36) (nx := 39) (a := 0) (b := 2) (tg := 2) rfl rfl) ?_
    rfl
theorem e_140_46 (D : Mem) (x1 : Int) (s0 : Int) : qE 140 46 [(3, 2), (0, x1)] [(0, s0)] (mk D) = (if s0 = 0 then some ((0, 1), (mk D)) else some ((0, 0), (mk D))) := by
  refine Eq.trans (s_ifne (y := 140) (pc := 46) (nx := 49) (b := 53) (tg := 53) rfl rfl) (ite_c ?_ ?_)
  · refine Eq.trans (s_push (y := 140) (pc := 49) (nx := 50) (a := 0) (b := 1) rfl) ?_
    refine Eq.trans (s_goto (y := 140) (pc := 50) (nx := 53) (a := 0) (b := 54) (tg := 54) rfl rfl) ?_
    exact s_retz (y := 140) (pc := 54) (nx := 55) rfl (by decide)
  · refine Eq.trans (s_push (y := 140) (pc := 53) (nx := 54) (a := 0) (b := 0) rfl) ?_
    exact s_retz (y := 140) (pc := 54) (nx := 55) rfl (by decide)
theorem r_142 (μ : Mem) (x0 : Int) (x1 : Int) (x2 : Int) : qR 142 [(0, x0), (0, x1), (0, x2)] μ = (if x0 < x1 then some ((0, 0), μ) else (if x0 ≤ x2 then some ((0, 1), μ) else some ((0, 0), μ))) := by
  show qE 142 0 [(0, x0), (0, x1), (0, x2)] [] μ = _
  refine Eq.trans (s_load (y := 142) (pc := 0) (nx := 1) (a := 0) (b := 0) (x := x0) rfl rfl) ?_
  refine Eq.trans (s_load (y := 142) (pc := 1) (nx := 2) (a := 0) (b := 1) (x := x1) rfl rfl) ?_
  refine Eq.trans (s_iclt (y := 142) (pc := 2) (nx := 5) (b := 14) (tg := 14) rfl rfl) (ite_c ?_ ?_)
  · refine Eq.trans (s_push (y := 142) (pc := 14) (nx := 15) (a := 0) (b := 0) rfl) ?_
    exact s_retz (y := 142) (pc := 15) (nx := 16) rfl (by decide)
  · refine Eq.trans (s_load (y := 142) (pc := 5) (nx := 6) (a := 0) (b := 0) (x := x0) rfl rfl) ?_
    refine Eq.trans (s_load (y := 142) (pc := 6) (nx := 7) (a := 0) (b := 2) (x := x2) rfl rfl) ?_
    refine Eq.trans (s_icgt (y := 142) (pc := 7) (nx := 10) (b := 14) (tg := 14) rfl rfl) (ite_c ?_ ?_)
    · refine Eq.trans (s_push (y := 142) (pc := 10) (nx := 11) (a := 0) (b := 1) rfl) ?_
      refine Eq.trans (s_goto (y := 142) (pc := 11) (nx := 14) (a := 0) (b := 15) (tg := 15) rfl rfl) ?_
      exact s_retz (y := 142) (pc := 15) (nx := 16) rfl (by decide)
    · refine Eq.trans (s_push (y := 142) (pc := 14) (nx := 15) (a := 0) (b := 0) rfl) ?_
      exact s_retz (y := 142) (pc := 15) (nx := 16) rfl (by decide)
theorem r_143 (D : Mem) (x1 : Int) : qR 143 [(3, 106), (0, x1)] (mk D) = ((qR 142 [(0, x1), (0, 0), (0, (w32 ((D 106 6) - 1)))] (mk D)).bind fun w => qE 143 11 [(3, 106), (0, x1)] (psh w.1 []) w.2) := by
  show qE 143 0 [(3, 106), (0, x1)] [] (mk D) = _
  refine Eq.trans (s_load (y := 143) (pc := 0) (nx := 1) (a := 0) (b := 1) (x := x1) rfl rfl) ?_
  refine Eq.trans (s_push (y := 143) (pc := 1) (nx := 2) (a := 0) (b := 0) rfl) ?_
  refine Eq.trans (s_load (y := 143) (pc := 2) (nx := 3) (a := 3) (b := 0) (x := 106) rfl rfl) ?_
  refine Eq.trans (s_get (y := 143) (pc := 3) (nx := 6) (a := 10) (b := 6) (t := 0) (v := (D 106 6)) rfl (mk_k106 _) rfl (mk_106_6 _)) ?_
  refine Eq.trans (s_push (y := 143) (pc := 6) (nx := 7) (a := 0) (b := 1) rfl) ?_
  refine Eq.trans (s_sub (y := 143) (pc := 7) (nx := 8) (b := 0) rfl) ?_
  exact s_call (y := 143) (pc := 8) (nx := 11) (a := 142) (b := 0) (as := [(0, x1), (0, 0), (0, (w32 ((D 106 6) - 1)))]) (r := []) rfl (Nat.le_of_ble_eq_true rfl) rfl rfl (Nat.le_of_ble_eq_true rfl) (Nat.le_of_ble_eq_true rfl) (Or.inl rfl)
theorem e_143_11 (D : Mem) (x1 : Int) (s0 : Int) : qE 143 11 [(3, 106), (0, x1)] [(0, s0)] (mk D) = (if s0 = 0 ∨ s0 = 1 then some ((0, s0), (mk D)) else none) := by
  exact s_retzq (y := 143) (pc := 11) (nx := 12) rfl
theorem r_144 (D : Mem) (x1 : Int) (x2 : Int) : qR 144 [(3, 106), (0, x1), (0, x2)] (mk D) = ((qR 142 [(0, x1), (0, 0), (0, 25)] (mk D)).bind fun w => qE 144 7 [(3, 106), (0, x1), (0, x2), (9, 0)] (psh w.1 []) w.2) := by
  show qE 144 0 [(3, 106), (0, x1), (0, x2), (9, 0)] [] (mk D) = _
  refine Eq.trans (s_load (y := 144) (pc := 0) (nx := 1) (a := 0) (b := 1) (x := x1) rfl rfl) ?_
  refine Eq.trans (s_push (y := 144) (pc := 1) (nx := 2) (a := 0) (b := 0) rfl) ?_
  refine Eq.trans (s_push (y := 144) (pc := 2) (nx := 4) (a := 0) (b := 25) rfl) ?_
  exact s_call (y := 144) (pc := 4) (nx := 7) (a := 142) (b := 0) (as := [(0, x1), (0, 0), (0, 25)]) (r := []) rfl (Nat.le_of_ble_eq_true rfl) rfl rfl (Nat.le_of_ble_eq_true rfl) (Nat.le_of_ble_eq_true rfl) (Or.inl rfl)
theorem e_144_7 (D : Mem) (x1 : Int) (x2 : Int) (s0 : Int) : qE 144 7 [(3, 106), (0, x1), (0, x2), (9, 0)] [(0, s0)] (mk D) = (if s0 = 0 then some ((0, (-1)), (mk D)) else ((qR 142 [(0, x2), (0, 1), (0, 9)] (mk D)).bind fun w => qE 144 17 [(3, 106), (0, x1), (0, x2), (9, 0)] (psh w.1 []) w.2)) := by
  refine Eq.trans (s_ifeq (y := 144) (pc := 7) (nx := 10) (b := 20) (tg := 20) rfl rfl) (ite_c ?_ ?_)
  · refine Eq.trans (s_push (y := 144) (pc := 20) (nx := 21) (a := 0) (b := (-1)) rfl) ?_
    exact s_ret (y := 144) (pc := 21) (nx := 22) (a := 0) rfl (by decide)
  · refine Eq.trans (s_load (y := 144) (pc := 10) (nx := 11) (a := 0) (b := 2) (x := x2) rfl rfl) ?_
    refine Eq.trans (s_push (y := 144) (pc := 11) (nx := 12) (a := 0) (b := 1) rfl) ?_
    refine Eq.trans (s_push (y := 144) (pc := 12) (nx := 14) (a := 0) (b := 9) rfl) ?_
    exact s_call (y := 144) (pc := 14) (nx := 17) (a := 142) (b := 0) (as := [(0, x2), (0, 1), (0, 9)]) (r := []) rfl (Nat.le_of_ble_eq_true rfl) rfl rfl (Nat.le_of_ble_eq_true rfl) (Nat.le_of_ble_eq_true rfl) (Or.inl rfl)
theorem e_144_17 (D : Mem) (x1 : Int) (x2 : Int) (s0 : Int) : qE 144 17 [(3, 106), (0, x1), (0, x2), (9, 0)] [(0, s0)] (mk D) = (if s0 = 0 then some ((0, (-1)), (mk D)) else (if 0 ≤ x1 ∧ x1 < 26 then (if 0 ≤ x1 ∧ x1 < 26 then (if (D 107 x1) = x2 then some ((0, 0), (mk (mU D 107 x1 x2))) else some ((0, 1), (mk (mU D 107 x1 x2)))) else none) else none)) := by
  refine Eq.trans (s_ifne (y := 144) (pc := 17) (nx := 20) (b := 22) (tg := 22) rfl rfl) (ite_c ?_ ?_)
  · refine Eq.trans (s_push (y := 144) (pc := 20) (nx := 21) (a := 0) (b := (-1)) rfl) ?_
    exact s_ret (y := 144) (pc := 21) (nx := 22) (a := 0) rfl (by decide)
  · refine Eq.trans (s_load (y := 144) (pc := 22) (nx := 23) (a := 3) (b := 0) (x := 106) rfl rfl) ?_
    refine Eq.trans (s_get (y := 144) (pc := 23) (nx := 26) (a := 10) (b := 0) (t := 3) (v := 107) rfl (mk_k106 _) rfl (mk_106_0 _)) ?_
    refine Eq.trans (s_load (y := 144) (pc := 26) (nx := 27) (a := 0) (b := 1) (x := x1) rfl rfl) ?_
    refine Eq.trans (s_ald (y := 144) (pc := 27) (nx := 28) (a := 1) (b := 0) (k := 1) (n := 26) (t := 0) (v := (D 107 x1)) rfl (mk_k107 _) rfl rfl (mk_l107 _) (mk_c107 _ _)) (ite_c ?_ rfl)
    refine Eq.trans (s_store (y := 144) (pc := 28) (nx := 29) (a := 0) (b := 3) (ls' := [(3, 106), (0, x1), (0, x2), (0, (D 107 x1))]) rfl (Nat.le_of_ble_eq_true rfl) rfl) ?_
    refine Eq.trans (s_load (y := 144) (pc := 29) (nx := 30) (a := 3) (b := 0) (x := 106) rfl rfl) ?_
    refine Eq.trans (s_get (y := 144) (pc := 30) (nx := 33) (a := 10) (b := 0) (t := 3) (v := 107) rfl (mk_k106 _) rfl (mk_106_0 _)) ?_
    refine Eq.trans (s_load (y := 144) (pc := 33) (nx := 34) (a := 0) (b := 1) (x := x1) rfl rfl) ?_
    refine Eq.trans (s_load (y := 144) (pc := 34) (nx := 35) (a := 0) (b := 2) (x := x2) rfl rfl) ?_
    refine Eq.trans (s_ast (y := 144) (pc := 35) (nx := 36) (a := 1) (b := 0) (k := 1) (n := 26) (t := 0) (v := x2) (μ' := mk (mU D 107 x1 x2)) rfl (by decide) (mk_k107 _) rfl (mk_l107 _) (mu_107 _ _ _)) (ite_c ?_ rfl)
    refine Eq.trans (s_load (y := 144) (pc := 36) (nx := 37) (a := 0) (b := 3) (x := (D 107 x1)) rfl rfl) ?_
    refine Eq.trans (s_load (y := 144) (pc := 37) (nx := 38) (a := 0) (b := 2) (x := x2) rfl rfl) ?_
    refine Eq.trans (s_icne (y := 144) (pc := 38) (nx := 41) (b := 45) (tg := 45) rfl rfl) (ite_c ?_ ?_)
    · refine Eq.trans (s_push (y := 144) (pc := 41) (nx := 42) (a := 0) (b := 0) rfl) ?_
      refine Eq.trans (s_goto (y := 144) (pc := 42) (nx := 45) (a := 0) (b := 46) (tg := 46) rfl rfl) ?_
      exact s_ret (y := 144) (pc := 46) (nx := 47) (a := 0) rfl (by decide)
    · refine Eq.trans (s_push (y := 144) (pc := 45) (nx := 46) (a := 0) (b := 1) rfl) ?_
      exact s_ret (y := 144) (pc := 46) (nx := 47) (a := 0) rfl (by decide)
theorem r_145 (D : Mem) (x1 : Int) : qR 145 [(3, 106), (0, x1)] (mk D) = qE 145 4 [(3, 106), (0, x1), (0, 0), (0, 0)] [] (mk D) := by
  show qE 145 0 [(3, 106), (0, x1), (9, 0), (9, 0)] [] (mk D) = _
  refine Eq.trans (s_push (y := 145) (pc := 0) (nx := 1) (a := 0) (b := 0) rfl) ?_
  refine Eq.trans (s_store (y := 145) (pc := 1) (nx := 2) (a := 0) (b := 2) (ls' := [(3, 106), (0, x1), (0, 0), (9, 0)]) rfl (Nat.le_of_ble_eq_true rfl) rfl) ?_
  refine Eq.trans (s_push (y := 145) (pc := 2) (nx := 3) (a := 0) (b := 0) rfl) ?_
  refine Eq.trans (s_store (y := 145) (pc := 3) (nx := 4) (a := 0) (b := 3) (ls' := [(3, 106), (0, x1), (0, 0), (0, 0)]) rfl (Nat.le_of_ble_eq_true rfl) rfl) ?_
  rfl
theorem e_145_4 (D : Mem) (x1 : Int) (x2 : Int) (x3 : Int) : qE 145 4 [(3, 106), (0, x1), (0, x2), (0, x3)] [] (mk D) = (if x3 ≤ x1 then (if 0 ≤ x3 ∧ x3 < 26 then (if 0 ≤ x1 ∧ x1 < 26 then (if (D 107 x3) = (D 107 x1) then qE 145 4 [(3, 106), (0, x1), (0, (w32 (x2 + 1))), (0, (w32 (x3 + 1)))] [] (mk D) else qE 145 4 [(3, 106), (0, x1), (0, (w32 (x2 + 0))), (0, (w32 (x3 + 1)))] [] (mk D)) else none) else none) else some ((0, x2), (mk D))) := by
  refine Eq.trans (s_load (y := 145) (pc := 4) (nx := 5) (a := 0) (b := 3) (x := x3) rfl rfl) ?_
  refine Eq.trans (s_load (y := 145) (pc := 5) (nx := 6) (a := 0) (b := 1) (x := x1) rfl rfl) ?_
  refine Eq.trans (s_icgt (y := 145) (pc := 6) (nx := 9) (b := 38) (tg := 38) rfl rfl) (ite_c ?_ ?_)
  · refine Eq.trans (s_load (y := 145) (pc := 9) (nx := 10) (a := 0) (b := 2) (x := x2) rfl rfl) ?_
    refine Eq.trans (s_load (y := 145) (pc := 10) (nx := 11) (a := 3) (b := 0) (x := 106) rfl rfl) ?_
    refine Eq.trans (s_get (y := 145) (pc := 11) (nx := 14) (a := 10) (b := 0) (t := 3) (v := 107) rfl (mk_k106 _) rfl (mk_106_0 _)) ?_
    refine Eq.trans (s_load (y := 145) (pc := 14) (nx := 15) (a := 0) (b := 3) (x := x3) rfl rfl) ?_
    refine Eq.trans (s_ald (y := 145) (pc := 15) (nx := 16) (a := 1) (b := 0) (k := 1) (n := 26) (t := 0) (v := (D 107 x3)) rfl (mk_k107 _) rfl rfl (mk_l107 _) (mk_c107 _ _)) (ite_c ?_ rfl)
    refine Eq.trans (s_load (y := 145) (pc := 16) (nx := 17) (a := 3) (b := 0) (x := 106) rfl rfl) ?_
    refine Eq.trans (s_get (y := 145) (pc := 17) (nx := 20) (a := 10) (b := 0) (t := 3) (v := 107) rfl (mk_k106 _) rfl (mk_106_0 _)) ?_
    refine Eq.trans (s_load (y := 145) (pc := 20) (nx := 21) (a := 0) (b := 1) (x := x1) rfl rfl) ?_
    refine Eq.trans (s_ald (y := 145) (pc := 21) (nx := 22) (a := 1) (b := 0) (k := 1) (n := 26) (t := 0) (v := (D 107 x1)) rfl (mk_k107 _) rfl rfl (mk_l107 _) (mk_c107 _ _)) (ite_c ?_ rfl)
    refine Eq.trans (s_icne (y := 145) (pc := 22) (nx := 25) (b := 29) (tg := 29) rfl rfl) (ite_c ?_ ?_)
    · refine Eq.trans (s_push (y := 145) (pc := 25) (nx := 26) (a := 0) (b := 1) rfl) ?_
      refine Eq.trans (s_goto (y := 145) (pc := 26) (nx := 29) (a := 0) (b := 30) (tg := 30) rfl rfl) ?_
      refine Eq.trans (s_add (y := 145) (pc := 30) (nx := 31) (b := 0) rfl) ?_
      refine Eq.trans (s_store (y := 145) (pc := 31) (nx := 32) (a := 0) (b := 2) (ls' := [(3, 106), (0, x1), (0, (w32 (x2 + 1))), (0, x3)]) rfl (Nat.le_of_ble_eq_true rfl) rfl) ?_
      refine Eq.trans (s_iinc (y := 145) (pc := 32) (nx := 35) (a := 3) (b := 1) (x := x3) (ls' := [(3, 106), (0, x1), (0, (w32 (x2 + 1))), (0, (w32 (x3 + 1)))]) rfl rfl rfl) ?_
      refine Eq.trans (s_goto (y := 145) (pc := 35) (nx := 38) (a := 0) (b := 4) (tg := 4) rfl rfl) ?_
      rfl
    · refine Eq.trans (s_push (y := 145) (pc := 29) (nx := 30) (a := 0) (b := 0) rfl) ?_
      refine Eq.trans (s_add (y := 145) (pc := 30) (nx := 31) (b := 0) rfl) ?_
      refine Eq.trans (s_store (y := 145) (pc := 31) (nx := 32) (a := 0) (b := 2) (ls' := [(3, 106), (0, x1), (0, (w32 (x2 + 0))), (0, x3)]) rfl (Nat.le_of_ble_eq_true rfl) rfl) ?_
      refine Eq.trans (s_iinc (y := 145) (pc := 32) (nx := 35) (a := 3) (b := 1) (x := x3) (ls' := [(3, 106), (0, x1), (0, (w32 (x2 + 0))), (0, (w32 (x3 + 1)))]) rfl rfl rfl) ?_
      refine Eq.trans (s_goto (y := 145) (pc := 35) (nx := 38) (a := 0) (b := 4) (tg := 4) rfl rfl) ?_
      rfl
  · refine Eq.trans (s_load (y := 145) (pc := 38) (nx := 39) (a := 0) (b := 2) (x := x2) rfl rfl) ?_
    exact s_ret (y := 145) (pc := 39) (nx := 40) (a := 0) rfl (by decide)
theorem r_146 (D : Mem) (x1 : Int) (x2 : Int) : qR 146 [(3, 106), (0, x1), (0, x2)] (mk D) = ((qR 142 [(0, x1), (0, 0), (0, 25)] (mk D)).bind fun w => qE 146 7 [(3, 106), (0, x1), (0, x2)] (psh w.1 []) w.2) := by
  show qE 146 0 [(3, 106), (0, x1), (0, x2)] [] (mk D) = _
  refine Eq.trans (s_load (y := 146) (pc := 0) (nx := 1) (a := 0) (b := 1) (x := x1) rfl rfl) ?_
  refine Eq.trans (s_push (y := 146) (pc := 1) (nx := 2) (a := 0) (b := 0) rfl) ?_
  refine Eq.trans (s_push (y := 146) (pc := 2) (nx := 4) (a := 0) (b := 25) rfl) ?_
  exact s_call (y := 146) (pc := 4) (nx := 7) (a := 142) (b := 0) (as := [(0, x1), (0, 0), (0, 25)]) (r := []) rfl (Nat.le_of_ble_eq_true rfl) rfl rfl (Nat.le_of_ble_eq_true rfl) (Nat.le_of_ble_eq_true rfl) (Or.inl rfl)
theorem e_146_7 (D : Mem) (x1 : Int) (x2 : Int) (s0 : Int) : qE 146 7 [(3, 106), (0, x1), (0, x2)] [(0, s0)] (mk D) = (if s0 = 0 then some ((0, (-1)), (mk D)) else ((qR 142 [(0, x2), (0, 0), (0, 1)] (mk D)).bind fun w => qE 146 16 [(3, 106), (0, x1), (0, x2)] (psh w.1 []) w.2)) := by
  refine Eq.trans (s_ifeq (y := 146) (pc := 7) (nx := 10) (b := 19) (tg := 19) rfl rfl) (ite_c ?_ ?_)
  · refine Eq.trans (s_push (y := 146) (pc := 19) (nx := 20) (a := 0) (b := (-1)) rfl) ?_
    exact s_ret (y := 146) (pc := 20) (nx := 21) (a := 0) rfl (by decide)
  · refine Eq.trans (s_load (y := 146) (pc := 10) (nx := 11) (a := 0) (b := 2) (x := x2) rfl rfl) ?_
    refine Eq.trans (s_push (y := 146) (pc := 11) (nx := 12) (a := 0) (b := 0) rfl) ?_
    refine Eq.trans (s_push (y := 146) (pc := 12) (nx := 13) (a := 0) (b := 1) rfl) ?_
    exact s_call (y := 146) (pc := 13) (nx := 16) (a := 142) (b := 0) (as := [(0, x2), (0, 0), (0, 1)]) (r := []) rfl (Nat.le_of_ble_eq_true rfl) rfl rfl (Nat.le_of_ble_eq_true rfl) (Nat.le_of_ble_eq_true rfl) (Or.inl rfl)
theorem e_146_16 (D : Mem) (x1 : Int) (x2 : Int) (s0 : Int) : qE 146 16 [(3, 106), (0, x1), (0, x2)] [(0, s0)] (mk D) = (if s0 = 0 then some ((0, (-1)), (mk D)) else (if x2 = 0 then (if 0 ≤ x1 ∧ x1 < 26 then qE 146 39 [(3, 106), (0, x1), (0, x2)] [(0, (D 107 x1))] (mk D) else none) else ((qR 145 [(3, 106), (0, x1)] (mk D)).bind fun w => qE 146 39 [(3, 106), (0, x1), (0, x2)] (psh w.1 []) w.2))) := by
  refine Eq.trans (s_ifne (y := 146) (pc := 16) (nx := 19) (b := 21) (tg := 21) rfl rfl) (ite_c ?_ ?_)
  · refine Eq.trans (s_push (y := 146) (pc := 19) (nx := 20) (a := 0) (b := (-1)) rfl) ?_
    exact s_ret (y := 146) (pc := 20) (nx := 21) (a := 0) rfl (by decide)
  · refine Eq.trans (s_load (y := 146) (pc := 21) (nx := 22) (a := 0) (b := 2) (x := x2) rfl rfl) ?_
    refine Eq.trans (s_ifne (y := 146) (pc := 22) (nx := 25) (b := 34) (tg := 34) rfl rfl) (ite_c ?_ ?_)
    · refine Eq.trans (s_load (y := 146) (pc := 25) (nx := 26) (a := 3) (b := 0) (x := 106) rfl rfl) ?_
      refine Eq.trans (s_get (y := 146) (pc := 26) (nx := 29) (a := 10) (b := 0) (t := 3) (v := 107) rfl (mk_k106 _) rfl (mk_106_0 _)) ?_
      refine Eq.trans (s_load (y := 146) (pc := 29) (nx := 30) (a := 0) (b := 1) (x := x1) rfl rfl) ?_
      refine Eq.trans (s_ald (y := 146) (pc := 30) (nx := 31) (a := 1) (b := 0) (k := 1) (n := 26) (t := 0) (v := (D 107 x1)) rfl (mk_k107 _) rfl rfl (mk_l107 _) (mk_c107 _ _)) (ite_c ?_ rfl)
      refine Eq.trans (s_goto (y := 146) (pc := 31) (nx := 34) (a := 0) (b := 39) (tg := 39) rfl rfl) ?_
      rfl
    · refine Eq.trans (s_load (y := 146) (pc := 34) (nx := 35) (a := 3) (b := 0) (x := 106) rfl rfl) ?_
      refine Eq.trans (s_load (y := 146) (pc := 35) (nx := 36) (a := 0) (b := 1) (x := x1) rfl rfl) ?_
      exact s_call (y := 146) (pc := 36) (nx := 39) (a := 145) (b := 0) (as := [(3, 106), (0, x1)]) (r := []) rfl (Nat.le_of_ble_eq_true rfl) rfl rfl (Nat.le_of_ble_eq_true rfl) (Nat.le_of_ble_eq_true rfl) (Or.inr ⟨rfl, mk_k106 _⟩)
theorem e_146_39 (D : Mem) (x1 : Int) (x2 : Int) (s0 : Int) : qE 146 39 [(3, 106), (0, x1), (0, x2)] [(0, s0)] (mk D) = some ((0, s0), (mk D)) := by
  exact s_ret (y := 146) (pc := 39) (nx := 40) (a := 0) rfl (by decide)
theorem r_147 (D : Mem) (x1 : Int) (x2 : Int) : qR 147 [(3, 106), (0, x1), (0, x2)] (mk D) = ((qR 142 [(0, x1), (0, 1), (0, 9)] (mk D)).bind fun w => qE 147 7 [(3, 106), (0, x1), (0, x2), (9, 0), (9, 0)] (psh w.1 []) w.2) := by
  show qE 147 0 [(3, 106), (0, x1), (0, x2), (9, 0), (9, 0)] [] (mk D) = _
  refine Eq.trans (s_load (y := 147) (pc := 0) (nx := 1) (a := 0) (b := 1) (x := x1) rfl rfl) ?_
  refine Eq.trans (s_push (y := 147) (pc := 1) (nx := 2) (a := 0) (b := 1) rfl) ?_
  refine Eq.trans (s_push (y := 147) (pc := 2) (nx := 4) (a := 0) (b := 9) rfl) ?_
  exact s_call (y := 147) (pc := 4) (nx := 7) (a := 142) (b := 0) (as := [(0, x1), (0, 1), (0, 9)]) (r := []) rfl (Nat.le_of_ble_eq_true rfl) rfl rfl (Nat.le_of_ble_eq_true rfl) (Nat.le_of_ble_eq_true rfl) (Or.inl rfl)
theorem e_147_7 (D : Mem) (x1 : Int) (x2 : Int) (s0 : Int) : qE 147 7 [(3, 106), (0, x1), (0, x2), (9, 0), (9, 0)] [(0, s0)] (mk D) = (if s0 = 0 then some ((0, 0), (mk D)) else ((qR 142 [(0, x2), (0, 1), (0, 9)] (mk D)).bind fun w => qE 147 17 [(3, 106), (0, x1), (0, x2), (9, 0), (9, 0)] (psh w.1 []) w.2)) := by
  refine Eq.trans (s_ifeq (y := 147) (pc := 7) (nx := 10) (b := 20) (tg := 20) rfl rfl) (ite_c ?_ ?_)
  · refine Eq.trans (s_push (y := 147) (pc := 20) (nx := 21) (a := 0) (b := 0) rfl) ?_
    exact s_retz (y := 147) (pc := 21) (nx := 22) rfl (by decide)
  · refine Eq.trans (s_load (y := 147) (pc := 10) (nx := 11) (a := 0) (b := 2) (x := x2) rfl rfl) ?_
    refine Eq.trans (s_push (y := 147) (pc := 11) (nx := 12) (a := 0) (b := 1) rfl) ?_
    refine Eq.trans (s_push (y := 147) (pc := 12) (nx := 14) (a := 0) (b := 9) rfl) ?_
    exact s_call (y := 147) (pc := 14) (nx := 17) (a := 142) (b := 0) (as := [(0, x2), (0, 1), (0, 9)]) (r := []) rfl (Nat.le_of_ble_eq_true rfl) rfl rfl (Nat.le_of_ble_eq_true rfl) (Nat.le_of_ble_eq_true rfl) (Or.inl rfl)
theorem e_147_17 (D : Mem) (x1 : Int) (x2 : Int) (s0 : Int) : qE 147 17 [(3, 106), (0, x1), (0, x2), (9, 0), (9, 0)] [(0, s0)] (mk D) = (if s0 = 0 then some ((0, 0), (mk D)) else (if (w32 ((w32 ((w32 ((w32 (Int.tdiv (w32 (x1 - 1)) 3)) - (w32 (Int.tdiv (w32 (x2 - 1)) 3)))) * (w32 ((w32 (Int.tdiv (w32 (x1 - 1)) 3)) - (w32 (Int.tdiv (w32 (x2 - 1)) 3)))))) + (w32 ((w32 ((w32 ((w32 (x1 - 1)) - Int.tdiv (w32 (x1 - 1)) 3 * 3)) - (w32 ((w32 (x2 - 1)) - Int.tdiv (w32 (x2 - 1)) 3 * 3)))) * (w32 ((w32 ((w32 (x1 - 1)) - Int.tdiv (w32 (x1 - 1)) 3 * 3)) - (w32 ((w32 (x2 - 1)) - Int.tdiv (w32 (x2 - 1)) 3 * 3)))))))) = 1 then some ((0, 1), (mk D)) else some ((0, 0), (mk D)))) := by
  refine Eq.trans (s_ifne (y := 147) (pc := 17) (nx := 20) (b := 22) (tg := 22) rfl rfl) (ite_c ?_ ?_)
  · refine Eq.trans (s_push (y := 147) (pc := 20) (nx := 21) (a := 0) (b := 0) rfl) ?_
    exact s_retz (y := 147) (pc := 21) (nx := 22) rfl (by decide)
  · refine Eq.trans (s_load (y := 147) (pc := 22) (nx := 23) (a := 0) (b := 1) (x := x1) rfl rfl) ?_
    refine Eq.trans (s_push (y := 147) (pc := 23) (nx := 24) (a := 0) (b := 1) rfl) ?_
    refine Eq.trans (s_sub (y := 147) (pc := 24) (nx := 25) (b := 0) rfl) ?_
    refine Eq.trans (s_push (y := 147) (pc := 25) (nx := 26) (a := 0) (b := 3) rfl) ?_
    refine Eq.trans (s_div (y := 147) (pc := 26) (nx := 27) (b := 0) rfl (by decide)) ?_
    refine Eq.trans (s_load (y := 147) (pc := 27) (nx := 28) (a := 0) (b := 2) (x := x2) rfl rfl) ?_
    refine Eq.trans (s_push (y := 147) (pc := 28) (nx := 29) (a := 0) (b := 1) rfl) ?_
    refine Eq.trans (s_sub (y := 147) (pc := 29) (nx := 30) (b := 0) rfl) ?_
    refine Eq.trans (s_push (y := 147) (pc := 30) (nx := 31) (a := 0) (b := 3) rfl) ?_
    refine Eq.trans (s_div (y := 147) (pc := 31) (nx := 32) (b := 0) rfl (by decide)) ?_
    refine Eq.trans (s_sub (y := 147) (pc := 32) (nx := 33) (b := 0) rfl) ?_
    refine Eq.trans (s_store (y := 147) (pc := 33) (nx := 34) (a := 0) (b := 3) (ls' := [(3, 106), (0, x1), (0, x2), (0, (w32 ((w32 (Int.tdiv (w32 (x1 - 1)) 3)) - (w32 (Int.tdiv (w32 (x2 - 1)) 3))))), (9, 0)]) rfl (Nat.le_of_ble_eq_true rfl) rfl) ?_
    refine Eq.trans (s_load (y := 147) (pc := 34) (nx := 35) (a := 0) (b := 1) (x := x1) rfl rfl) ?_
    refine Eq.trans (s_push (y := 147) (pc := 35) (nx := 36) (a := 0) (b := 1) rfl) ?_
    refine Eq.trans (s_sub (y := 147) (pc := 36) (nx := 37) (b := 0) rfl) ?_
    refine Eq.trans (s_push (y := 147) (pc := 37) (nx := 38) (a := 0) (b := 3) rfl) ?_
    refine Eq.trans (s_rem (y := 147) (pc := 38) (nx := 39) (b := 0) rfl (by decide)) ?_
    refine Eq.trans (s_load (y := 147) (pc := 39) (nx := 40) (a := 0) (b := 2) (x := x2) rfl rfl) ?_
    refine Eq.trans (s_push (y := 147) (pc := 40) (nx := 41) (a := 0) (b := 1) rfl) ?_
    refine Eq.trans (s_sub (y := 147) (pc := 41) (nx := 42) (b := 0) rfl) ?_
    refine Eq.trans (s_push (y := 147) (pc := 42) (nx := 43) (a := 0) (b := 3) rfl) ?_
    refine Eq.trans (s_rem (y := 147) (pc := 43) (nx := 44) (b := 0) rfl (by decide)) ?_
    refine Eq.trans (s_sub (y := 147) (pc := 44) (nx := 45) (b := 0) rfl) ?_
    refine Eq.trans (s_store (y := 147) (pc := 45) (nx := 47) (a := 0) (b := 4) (ls' := [(3, 106), (0, x1), (0, x2), (0, (w32 ((w32 (Int.tdiv (w32 (x1 - 1)) 3)) - (w32 (Int.tdiv (w32 (x2 - 1)) 3))))), (0, (w32 ((w32 ((w32 (x1 - 1)) - Int.tdiv (w32 (x1 - 1)) 3 * 3)) - (w32 ((w32 (x2 - 1)) - Int.tdiv (w32 (x2 - 1)) 3 * 3)))))]) rfl (Nat.le_of_ble_eq_true rfl) rfl) ?_
    refine Eq.trans (s_load (y := 147) (pc := 47) (nx := 48) (a := 0) (b := 3) (x := (w32 ((w32 (Int.tdiv (w32 (x1 - 1)) 3)) - (w32 (Int.tdiv (w32 (x2 - 1)) 3))))) rfl rfl) ?_
    refine Eq.trans (s_load (y := 147) (pc := 48) (nx := 49) (a := 0) (b := 3) (x := (w32 ((w32 (Int.tdiv (w32 (x1 - 1)) 3)) - (w32 (Int.tdiv (w32 (x2 - 1)) 3))))) rfl rfl) ?_
    refine Eq.trans (s_mul (y := 147) (pc := 49) (nx := 50) (b := 0) rfl) ?_
    refine Eq.trans (s_load (y := 147) (pc := 50) (nx := 52) (a := 0) (b := 4) (x := (w32 ((w32 ((w32 (x1 - 1)) - Int.tdiv (w32 (x1 - 1)) 3 * 3)) - (w32 ((w32 (x2 - 1)) - Int.tdiv (w32 (x2 - 1)) 3 * 3))))) rfl rfl) ?_
    refine Eq.trans (s_load (y := 147) (pc := 52) (nx := 54) (a := 0) (b := 4) (x := (w32 ((w32 ((w32 (x1 - 1)) - Int.tdiv (w32 (x1 - 1)) 3 * 3)) - (w32 ((w32 (x2 - 1)) - Int.tdiv (w32 (x2 - 1)) 3 * 3))))) rfl rfl) ?_
    refine Eq.trans (s_mul (y := 147) (pc := 54) (nx := 55) (b := 0) rfl) ?_
    refine Eq.trans (s_add (y := 147) (pc := 55) (nx := 56) (b := 0) rfl) ?_
    refine Eq.trans (s_push (y := 147) (pc := 56) (nx := 57) (a := 0) (b := 1) rfl) ?_
    refine Eq.trans (s_icne (y := 147) (pc := 57) (nx := 60) (b := 64) (tg := 64) rfl rfl) (ite_c ?_ ?_)
    · refine Eq.trans (s_push (y := 147) (pc := 60) (nx := 61) (a := 0) (b := 1) rfl) ?_
      refine Eq.trans (s_goto (y := 147) (pc := 61) (nx := 64) (a := 0) (b := 65) (tg := 65) rfl rfl) ?_
      exact s_retz (y := 147) (pc := 65) (nx := 66) rfl (by decide)
    · refine Eq.trans (s_push (y := 147) (pc := 64) (nx := 65) (a := 0) (b := 0) rfl) ?_
      exact s_retz (y := 147) (pc := 65) (nx := 66) rfl (by decide)
theorem r_148 (D : Mem) (x1 : Int) (x2 : Int) (x3 : Int) (x4 : Int) (x5 : Int) : qR 148 [(3, 106), (0, x1), (0, x2), (0, x3), (0, x4), (0, x5)] (mk D) = (if 0 ≤ (0 : Int) ∧ (0 : Int) < 5 then (if 0 ≤ (1 : Int) ∧ (1 : Int) < 5 then (if 0 ≤ (2 : Int) ∧ (2 : Int) < 5 then (if 0 ≤ (3 : Int) ∧ (3 : Int) < 5 then (if 0 ≤ (4 : Int) ∧ (4 : Int) < 5 then qE 148 40 [(3, 106), (0, x1), (0, x2), (0, x3), (0, x4), (0, x5), (0, 0), (9, 0)] [] (mk (mU (mU (mU (mU (mU D 122 (0 : Int) x1) 122 (1 : Int) x2) 122 (2 : Int) x3) 122 (3 : Int) x4) 122 (4 : Int) x5)) else none) else none) else none) else none) else none) := by
  show qE 148 0 [(3, 106), (0, x1), (0, x2), (0, x3), (0, x4), (0, x5), (9, 0), (9, 0)] [] (mk D) = _
  refine Eq.trans (s_load (y := 148) (pc := 0) (nx := 1) (a := 3) (b := 0) (x := 106) rfl rfl) ?_
  refine Eq.trans (s_get (y := 148) (pc := 1) (nx := 4) (a := 10) (b := 23) (t := 3) (v := 122) rfl (mk_k106 _) rfl (mk_106_23 _)) ?_
  refine Eq.trans (s_push (y := 148) (pc := 4) (nx := 5) (a := 0) (b := 0) rfl) ?_
  refine Eq.trans (s_load (y := 148) (pc := 5) (nx := 6) (a := 0) (b := 1) (x := x1) rfl rfl) ?_
  refine Eq.trans (s_ast (y := 148) (pc := 6) (nx := 7) (a := 1) (b := 0) (k := 1) (n := 5) (t := 0) (v := x1) (μ' := mk (mU D 122 (0 : Int) x1)) rfl (by decide) (mk_k122 _) rfl (mk_l122 _) (mu_122 _ _ _)) (ite_c ?_ rfl)
  refine Eq.trans (s_load (y := 148) (pc := 7) (nx := 8) (a := 3) (b := 0) (x := 106) rfl rfl) ?_
  refine Eq.trans (s_get (y := 148) (pc := 8) (nx := 11) (a := 10) (b := 23) (t := 3) (v := 122) rfl (mk_k106 _) rfl (mk_106_23 _)) ?_
  refine Eq.trans (s_push (y := 148) (pc := 11) (nx := 12) (a := 0) (b := 1) rfl) ?_
  refine Eq.trans (s_load (y := 148) (pc := 12) (nx := 13) (a := 0) (b := 2) (x := x2) rfl rfl) ?_
  refine Eq.trans (s_ast (y := 148) (pc := 13) (nx := 14) (a := 1) (b := 0) (k := 1) (n := 5) (t := 0) (v := x2) (μ' := mk (mU (mU D 122 (0 : Int) x1) 122 (1 : Int) x2)) rfl (by decide) (mk_k122 _) rfl (mk_l122 _) (mu_122 _ _ _)) (ite_c ?_ rfl)
  refine Eq.trans (s_load (y := 148) (pc := 14) (nx := 15) (a := 3) (b := 0) (x := 106) rfl rfl) ?_
  refine Eq.trans (s_get (y := 148) (pc := 15) (nx := 18) (a := 10) (b := 23) (t := 3) (v := 122) rfl (mk_k106 _) rfl (mk_106_23 _)) ?_
  refine Eq.trans (s_push (y := 148) (pc := 18) (nx := 19) (a := 0) (b := 2) rfl) ?_
  refine Eq.trans (s_load (y := 148) (pc := 19) (nx := 20) (a := 0) (b := 3) (x := x3) rfl rfl) ?_
  refine Eq.trans (s_ast (y := 148) (pc := 20) (nx := 21) (a := 1) (b := 0) (k := 1) (n := 5) (t := 0) (v := x3) (μ' := mk (mU (mU (mU D 122 (0 : Int) x1) 122 (1 : Int) x2) 122 (2 : Int) x3)) rfl (by decide) (mk_k122 _) rfl (mk_l122 _) (mu_122 _ _ _)) (ite_c ?_ rfl)
  refine Eq.trans (s_load (y := 148) (pc := 21) (nx := 22) (a := 3) (b := 0) (x := 106) rfl rfl) ?_
  refine Eq.trans (s_get (y := 148) (pc := 22) (nx := 25) (a := 10) (b := 23) (t := 3) (v := 122) rfl (mk_k106 _) rfl (mk_106_23 _)) ?_
  refine Eq.trans (s_push (y := 148) (pc := 25) (nx := 26) (a := 0) (b := 3) rfl) ?_
  refine Eq.trans (s_load (y := 148) (pc := 26) (nx := 28) (a := 0) (b := 4) (x := x4) rfl rfl) ?_
  refine Eq.trans (s_ast (y := 148) (pc := 28) (nx := 29) (a := 1) (b := 0) (k := 1) (n := 5) (t := 0) (v := x4) (μ' := mk (mU (mU (mU (mU D 122 (0 : Int) x1) 122 (1 : Int) x2) 122 (2 : Int) x3) 122 (3 : Int) x4)) rfl (by decide) (mk_k122 _) rfl (mk_l122 _) (mu_122 _ _ _)) (ite_c ?_ rfl)
  refine Eq.trans (s_load (y := 148) (pc := 29) (nx := 30) (a := 3) (b := 0) (x := 106) rfl rfl) ?_
  refine Eq.trans (s_get (y := 148) (pc := 30) (nx := 33) (a := 10) (b := 23) (t := 3) (v := 122) rfl (mk_k106 _) rfl (mk_106_23 _)) ?_
  refine Eq.trans (s_push (y := 148) (pc := 33) (nx := 34) (a := 0) (b := 4) rfl) ?_
  refine Eq.trans (s_load (y := 148) (pc := 34) (nx := 36) (a := 0) (b := 5) (x := x5) rfl rfl) ?_
  refine Eq.trans (s_ast (y := 148) (pc := 36) (nx := 37) (a := 1) (b := 0) (k := 1) (n := 5) (t := 0) (v := x5) (μ' := mk (mU (mU (mU (mU (mU D 122 (0 : Int) x1) 122 (1 : Int) x2) 122 (2 : Int) x3) 122 (3 : Int) x4) 122 (4 : Int) x5)) rfl (by decide) (mk_k122 _) rfl (mk_l122 _) (mu_122 _ _ _)) (ite_c ?_ rfl)
  refine Eq.trans (s_push (y := 148) (pc := 37) (nx := 38) (a := 0) (b := 0) rfl) ?_
  refine Eq.trans (s_store (y := 148) (pc := 38) (nx := 40) (a := 0) (b := 6) (ls' := [(3, 106), (0, x1), (0, x2), (0, x3), (0, x4), (0, x5), (0, 0), (9, 0)]) rfl (Nat.le_of_ble_eq_true rfl) rfl) ?_
  rfl
theorem e_148_40 (D : Mem) (x1 : Int) (x2 : Int) (x3 : Int) (x4 : Int) (x5 : Int) (x6 : Int) : qE 148 40 [(3, 106), (0, x1), (0, x2), (0, x3), (0, x4), (0, x5), (0, x6), (9, 0)] [] (mk D) = (if x6 < 5 then (if 0 ≤ x6 ∧ x6 < 5 then (if (D 122 x6) = (-1) then qE 148 81 [(3, 106), (0, x1), (0, x2), (0, x3), (0, x4), (0, x5), (0, x6), (9, 0)] [] (mk D) else (if 0 ≤ x6 ∧ x6 < 5 then ((qR 142 [(0, (D 122 x6)), (0, 0), (0, 25)] (mk D)).bind fun w => qE 148 70 [(3, 106), (0, x1), (0, x2), (0, x3), (0, x4), (0, x5), (0, x6), (9, 0)] (psh w.1 []) w.2) else none)) else none) else qE 148 81 [(3, 106), (0, x1), (0, x2), (0, x3), (0, x4), (0, x5), (0, x6), (9, 0)] [] (mk D)) := by
  refine Eq.trans (s_load (y := 148) (pc := 40) (nx := 42) (a := 0) (b := 6) (x := x6) rfl rfl) ?_
  refine Eq.trans (s_push (y := 148) (pc := 42) (nx := 43) (a := 0) (b := 5) rfl) ?_
  refine Eq.trans (s_icge (y := 148) (pc := 43) (nx := 46) (b := 81) (tg := 81) rfl rfl) (ite_c ?_ ?_)
  · refine Eq.trans (s_load (y := 148) (pc := 46) (nx := 47) (a := 3) (b := 0) (x := 106) rfl rfl) ?_
    refine Eq.trans (s_get (y := 148) (pc := 47) (nx := 50) (a := 10) (b := 23) (t := 3) (v := 122) rfl (mk_k106 _) rfl (mk_106_23 _)) ?_
    refine Eq.trans (s_load (y := 148) (pc := 50) (nx := 52) (a := 0) (b := 6) (x := x6) rfl rfl) ?_
    refine Eq.trans (s_ald (y := 148) (pc := 52) (nx := 53) (a := 1) (b := 0) (k := 1) (n := 5) (t := 0) (v := (D 122 x6)) rfl (mk_k122 _) rfl rfl (mk_l122 _) (mk_c122 _ _)) (ite_c ?_ rfl)
    refine Eq.trans (s_push (y := 148) (pc := 53) (nx := 54) (a := 0) (b := (-1)) rfl) ?_
    refine Eq.trans (s_iceq (y := 148) (pc := 54) (nx := 57) (b := 81) (tg := 81) rfl rfl) (ite_c ?_ ?_)
    · rfl
    · refine Eq.trans (s_load (y := 148) (pc := 57) (nx := 58) (a := 3) (b := 0) (x := 106) rfl rfl) ?_
      refine Eq.trans (s_get (y := 148) (pc := 58) (nx := 61) (a := 10) (b := 23) (t := 3) (v := 122) rfl (mk_k106 _) rfl (mk_106_23 _)) ?_
      refine Eq.trans (s_load (y := 148) (pc := 61) (nx := 63) (a := 0) (b := 6) (x := x6) rfl rfl) ?_
      refine Eq.trans (s_ald (y := 148) (pc := 63) (nx := 64) (a := 1) (b := 0) (k := 1) (n := 5) (t := 0) (v := (D 122 x6)) rfl (mk_k122 _) rfl rfl (mk_l122 _) (mk_c122 _ _)) (ite_c ?_ rfl)
      refine Eq.trans (s_push (y := 148) (pc := 64) (nx := 65) (a := 0) (b := 0) rfl) ?_
      refine Eq.trans (s_push (y := 148) (pc := 65) (nx := 67) (a := 0) (b := 25) rfl) ?_
      exact s_call (y := 148) (pc := 67) (nx := 70) (a := 142) (b := 0) (as := [(0, (D 122 x6)), (0, 0), (0, 25)]) (r := []) rfl (Nat.le_of_ble_eq_true rfl) rfl rfl (Nat.le_of_ble_eq_true rfl) (Nat.le_of_ble_eq_true rfl) (Or.inl rfl)
  · rfl
theorem e_148_70 (D : Mem) (x1 : Int) (x2 : Int) (x3 : Int) (x4 : Int) (x5 : Int) (x6 : Int) (s0 : Int) : qE 148 70 [(3, 106), (0, x1), (0, x2), (0, x3), (0, x4), (0, x5), (0, x6), (9, 0)] [(0, s0)] (mk D) = (if s0 = 0 then some ((0, (-1)), (mk D)) else qE 148 40 [(3, 106), (0, x1), (0, x2), (0, x3), (0, x4), (0, x5), (0, (w32 (x6 + 1))), (9, 0)] [] (mk D)) := by
  refine Eq.trans (s_ifne (y := 148) (pc := 70) (nx := 73) (b := 75) (tg := 75) rfl rfl) (ite_c ?_ ?_)
  · refine Eq.trans (s_push (y := 148) (pc := 73) (nx := 74) (a := 0) (b := (-1)) rfl) ?_
    exact s_ret (y := 148) (pc := 74) (nx := 75) (a := 0) rfl (by decide)
  · refine Eq.trans (s_iinc (y := 148) (pc := 75) (nx := 78) (a := 6) (b := 1) (x := x6) (ls' := [(3, 106), (0, x1), (0, x2), (0, x3), (0, x4), (0, x5), (0, (w32 (x6 + 1))), (9, 0)]) rfl rfl rfl) ?_
    refine Eq.trans (s_goto (y := 148) (pc := 78) (nx := 81) (a := 0) (b := 40) (tg := 40) rfl rfl) ?_
    rfl
theorem e_148_81 (D : Mem) (x1 : Int) (x2 : Int) (x3 : Int) (x4 : Int) (x5 : Int) (x6 : Int) : qE 148 81 [(3, 106), (0, x1), (0, x2), (0, x3), (0, x4), (0, x5), (0, x6), (9, 0)] [] (mk D) = (if (w32 ((D 106 12) + x6)) ≤ 10 then qE 148 99 [(3, 106), (0, x1), (0, x2), (0, x3), (0, x4), (0, x5), (0, x6), (0, 0)] [] (mk D) else some ((0, (-2)), (mk D))) := by
  refine Eq.trans (s_load (y := 148) (pc := 81) (nx := 82) (a := 3) (b := 0) (x := 106) rfl rfl) ?_
  refine Eq.trans (s_get (y := 148) (pc := 82) (nx := 85) (a := 10) (b := 12) (t := 0) (v := (D 106 12)) rfl (mk_k106 _) rfl (mk_106_12 _)) ?_
  refine Eq.trans (s_load (y := 148) (pc := 85) (nx := 87) (a := 0) (b := 6) (x := x6) rfl rfl) ?_
  refine Eq.trans (s_add (y := 148) (pc := 87) (nx := 88) (b := 0) rfl) ?_
  refine Eq.trans (s_push (y := 148) (pc := 88) (nx := 90) (a := 0) (b := 10) rfl) ?_
  refine Eq.trans (s_icle (y := 148) (pc := 90) (nx := 93) (b := 96) (tg := 96) rfl rfl) (ite_c ?_ ?_)
  · refine Eq.trans (s_push (y := 148) (pc := 96) (nx := 97) (a := 0) (b := 0) rfl) ?_
    refine Eq.trans (s_store (y := 148) (pc := 97) (nx := 99) (a := 0) (b := 7) (ls' := [(3, 106), (0, x1), (0, x2), (0, x3), (0, x4), (0, x5), (0, x6), (0, 0)]) rfl (Nat.le_of_ble_eq_true rfl) rfl) ?_
    rfl
  · refine Eq.trans (s_push (y := 148) (pc := 93) (nx := 95) (a := 0) (b := (-2)) rfl) ?_
    exact s_ret (y := 148) (pc := 95) (nx := 96) (a := 0) rfl (by decide)
theorem e_148_99 (D : Mem) (x1 : Int) (x2 : Int) (x3 : Int) (x4 : Int) (x5 : Int) (x6 : Int) (x7 : Int) : qE 148 99 [(3, 106), (0, x1), (0, x2), (0, x3), (0, x4), (0, x5), (0, x6), (0, x7)] [] (mk D) = (if x7 < x6 then (if 0 ≤ x7 ∧ x7 < 5 then (if 0 ≤ (D 106 12) ∧ (D 106 12) < 10 then qE 148 99 [(3, 106), (0, x1), (0, x2), (0, x3), (0, x4), (0, x5), (0, x6), (0, (w32 (x7 + 1)))] [] (mk (mU (mU D 115 (D 106 12) (D 122 x7)) 106 12 (w32 (((mU D 115 (D 106 12) (D 122 x7)) 106 12) + 1)))) else none) else none) else some ((0, (D 106 12)), (mk D))) := by
  refine Eq.trans (s_load (y := 148) (pc := 99) (nx := 101) (a := 0) (b := 7) (x := x7) rfl rfl) ?_
  refine Eq.trans (s_load (y := 148) (pc := 101) (nx := 103) (a := 0) (b := 6) (x := x6) rfl rfl) ?_
  refine Eq.trans (s_icge (y := 148) (pc := 103) (nx := 106) (b := 138) (tg := 138) rfl rfl) (ite_c ?_ ?_)
  · refine Eq.trans (s_load (y := 148) (pc := 106) (nx := 107) (a := 3) (b := 0) (x := 106) rfl rfl) ?_
    refine Eq.trans (s_get (y := 148) (pc := 107) (nx := 110) (a := 10) (b := 11) (t := 3) (v := 115) rfl (mk_k106 _) rfl (mk_106_11 _)) ?_
    refine Eq.trans (s_load (y := 148) (pc := 110) (nx := 111) (a := 3) (b := 0) (x := 106) rfl rfl) ?_
    refine Eq.trans (s_get (y := 148) (pc := 111) (nx := 114) (a := 10) (b := 12) (t := 0) (v := (D 106 12)) rfl (mk_k106 _) rfl (mk_106_12 _)) ?_
    refine Eq.trans (s_load (y := 148) (pc := 114) (nx := 115) (a := 3) (b := 0) (x := 106) rfl rfl) ?_
    refine Eq.trans (s_get (y := 148) (pc := 115) (nx := 118) (a := 10) (b := 23) (t := 3) (v := 122) rfl (mk_k106 _) rfl (mk_106_23 _)) ?_
    refine Eq.trans (s_load (y := 148) (pc := 118) (nx := 120) (a := 0) (b := 7) (x := x7) rfl rfl) ?_
    refine Eq.trans (s_ald (y := 148) (pc := 120) (nx := 121) (a := 1) (b := 0) (k := 1) (n := 5) (t := 0) (v := (D 122 x7)) rfl (mk_k122 _) rfl rfl (mk_l122 _) (mk_c122 _ _)) (ite_c ?_ rfl)
    refine Eq.trans (s_ast (y := 148) (pc := 121) (nx := 122) (a := 1) (b := 0) (k := 1) (n := 10) (t := 0) (v := (D 122 x7)) (μ' := mk (mU D 115 (D 106 12) (D 122 x7))) rfl (by decide) (mk_k115 _) rfl (mk_l115 _) (mu_115 _ _ _)) (ite_c ?_ rfl)
    refine Eq.trans (s_load (y := 148) (pc := 122) (nx := 123) (a := 3) (b := 0) (x := 106) rfl rfl) ?_
    refine Eq.trans (s_dup (y := 148) (pc := 123) (nx := 124) (a := 0) (b := 0) rfl (by decide)) ?_
    refine Eq.trans (s_get (y := 148) (pc := 124) (nx := 127) (a := 10) (b := 12) (t := 0) (v := ((mU D 115 (D 106 12) (D 122 x7)) 106 12)) rfl (mk_k106 _) rfl (mk_106_12 _)) ?_
    refine Eq.trans (s_push (y := 148) (pc := 127) (nx := 128) (a := 0) (b := 1) rfl) ?_
    refine Eq.trans (s_add (y := 148) (pc := 128) (nx := 129) (b := 0) rfl) ?_
    refine Eq.trans (s_put (y := 148) (pc := 129) (nx := 132) (a := 10) (b := 12) (t := 0) (v := (w32 (((mU D 115 (D 106 12) (D 122 x7)) 106 12) + 1))) (μ' := mk (mU (mU D 115 (D 106 12) (D 122 x7)) 106 12 (w32 (((mU D 115 (D 106 12) (D 122 x7)) 106 12) + 1)))) rfl (mk_k106 _) rfl (mu_106_12 _ _)) ?_
    refine Eq.trans (s_iinc (y := 148) (pc := 132) (nx := 135) (a := 7) (b := 1) (x := x7) (ls' := [(3, 106), (0, x1), (0, x2), (0, x3), (0, x4), (0, x5), (0, x6), (0, (w32 (x7 + 1)))]) rfl rfl rfl) ?_
    refine Eq.trans (s_goto (y := 148) (pc := 135) (nx := 138) (a := 0) (b := 99) (tg := 99) rfl rfl) ?_
    rfl
  · refine Eq.trans (s_load (y := 148) (pc := 138) (nx := 139) (a := 3) (b := 0) (x := 106) rfl rfl) ?_
    refine Eq.trans (s_get (y := 148) (pc := 139) (nx := 142) (a := 10) (b := 12) (t := 0) (v := (D 106 12)) rfl (mk_k106 _) rfl (mk_106_12 _)) ?_
    exact s_ret (y := 148) (pc := 142) (nx := 143) (a := 0) rfl (by decide)
theorem r_149 (D : Mem) : qR 149 [(3, 106)] (mk D) = some ((0, (D 106 12)), (mk (mU D 106 12 0))) := by
  show qE 149 0 [(3, 106), (9, 0)] [] (mk D) = _
  refine Eq.trans (s_load (y := 149) (pc := 0) (nx := 1) (a := 3) (b := 0) (x := 106) rfl rfl) ?_
  refine Eq.trans (s_get (y := 149) (pc := 1) (nx := 4) (a := 10) (b := 12) (t := 0) (v := (D 106 12)) rfl (mk_k106 _) rfl (mk_106_12 _)) ?_
  refine Eq.trans (s_store (y := 149) (pc := 4) (nx := 5) (a := 0) (b := 1) (ls' := [(3, 106), (0, (D 106 12))]) rfl (Nat.le_of_ble_eq_true rfl) rfl) ?_
  refine Eq.trans (s_load (y := 149) (pc := 5) (nx := 6) (a := 3) (b := 0) (x := 106) rfl rfl) ?_
  refine Eq.trans (s_push (y := 149) (pc := 6) (nx := 7) (a := 0) (b := 0) rfl) ?_
  refine Eq.trans (s_put (y := 149) (pc := 7) (nx := 10) (a := 10) (b := 12) (t := 0) (v := 0) (μ' := mk (mU D 106 12 0)) rfl (mk_k106 _) rfl (mu_106_12 _ _)) ?_
  refine Eq.trans (s_load (y := 149) (pc := 10) (nx := 11) (a := 0) (b := 1) (x := (D 106 12)) rfl rfl) ?_
  exact s_ret (y := 149) (pc := 11) (nx := 12) (a := 0) rfl (by decide)
theorem r_150 (D : Mem) : qR 150 [(3, 106)] (mk D) = qE 150 4 [(3, 106), (0, (-1)), (0, 0), (9, 0), (9, 0)] [] (mk D) := by
  show qE 150 0 [(3, 106), (9, 0), (9, 0), (9, 0), (9, 0)] [] (mk D) = _
  refine Eq.trans (s_push (y := 150) (pc := 0) (nx := 1) (a := 0) (b := (-1)) rfl) ?_
  refine Eq.trans (s_store (y := 150) (pc := 1) (nx := 2) (a := 0) (b := 1) (ls' := [(3, 106), (0, (-1)), (9, 0), (9, 0), (9, 0)]) rfl (Nat.le_of_ble_eq_true rfl) rfl) ?_
  refine Eq.trans (s_push (y := 150) (pc := 2) (nx := 3) (a := 0) (b := 0) rfl) ?_
  refine Eq.trans (s_store (y := 150) (pc := 3) (nx := 4) (a := 0) (b := 2) (ls' := [(3, 106), (0, (-1)), (0, 0), (9, 0), (9, 0)]) rfl (Nat.le_of_ble_eq_true rfl) rfl) ?_
  rfl
theorem e_150_4 (D : Mem) (x1 : Int) (x2 : Int) (v3 : PV) (v4 : PV) : qE 150 4 [(3, 106), (0, x1), (0, x2), v3, v4] [] (mk D) = (if x2 < (D 106 6) then (if 0 ≤ x2 ∧ x2 < 80 then (if (D 112 x2) = 0 then qE 150 43 [(3, 106), (0, x1), (0, x2), (0, 0), (0, 0)] [] (mk D) else (if 0 ≤ x2 ∧ x2 < 80 then (if (D 109 x2) = (D 106 12) then qE 150 43 [(3, 106), (0, x1), (0, x2), (0, 1), (0, 0)] [] (mk D) else qE 150 43 [(3, 106), (0, x1), (0, x2), (0, 0), (0, 0)] [] (mk D)) else none)) else none) else some ((0, x1), (mk D))) := by
  refine Eq.trans (s_load (y := 150) (pc := 4) (nx := 5) (a := 0) (b := 2) (x := x2) rfl rfl) ?_
  refine Eq.trans (s_load (y := 150) (pc := 5) (nx := 6) (a := 3) (b := 0) (x := 106) rfl rfl) ?_
  refine Eq.trans (s_get (y := 150) (pc := 6) (nx := 9) (a := 10) (b := 6) (t := 0) (v := (D 106 6)) rfl (mk_k106 _) rfl (mk_106_6 _)) ?_
  refine Eq.trans (s_icge (y := 150) (pc := 9) (nx := 12) (b := 106) (tg := 106) rfl rfl) (ite_c ?_ ?_)
  · refine Eq.trans (s_load (y := 150) (pc := 12) (nx := 13) (a := 3) (b := 0) (x := 106) rfl rfl) ?_
    refine Eq.trans (s_get (y := 150) (pc := 13) (nx := 16) (a := 10) (b := 5) (t := 3) (v := 112) rfl (mk_k106 _) rfl (mk_106_5 _)) ?_
    refine Eq.trans (s_load (y := 150) (pc := 16) (nx := 17) (a := 0) (b := 2) (x := x2) rfl rfl) ?_
    refine Eq.trans (s_ald (y := 150) (pc := 17) (nx := 18) (a := 6) (b := 0) (k := 6) (n := 80) (t := 0) (v := (D 112 x2)) rfl (mk_k112 _) rfl rfl (mk_l112 _) (mk_c112 _ _)) (ite_c ?_ rfl)
    refine Eq.trans (s_ifeq (y := 150) (pc := 18) (nx := 21) (b := 38) (tg := 38) rfl rfl) (ite_c ?_ ?_)
    · refine Eq.trans (s_push (y := 150) (pc := 38) (nx := 39) (a := 0) (b := 0) rfl) ?_
      refine Eq.trans (s_store (y := 150) (pc := 39) (nx := 40) (a := 0) (b := 3) (ls' := [(3, 106), (0, x1), (0, x2), (0, 0), v4]) rfl (Nat.le_of_ble_eq_true rfl) rfl) ?_
      refine Eq.trans (s_push (y := 150) (pc := 40) (nx := 41) (a := 0) (b := 0) rfl) ?_
      refine Eq.trans (s_store (y := 150) (pc := 41) (nx := 43) (a := 0) (b := 4) (ls' := [(3, 106), (0, x1), (0, x2), (0, 0), (0, 0)]) rfl (Nat.le_of_ble_eq_true rfl) rfl) ?_
      rfl
    · refine Eq.trans (s_load (y := 150) (pc := 21) (nx := 22) (a := 3) (b := 0) (x := 106) rfl rfl) ?_
      refine Eq.trans (s_get (y := 150) (pc := 22) (nx := 25) (a := 10) (b := 2) (t := 3) (v := 109) rfl (mk_k106 _) rfl (mk_106_2 _)) ?_
      refine Eq.trans (s_load (y := 150) (pc := 25) (nx := 26) (a := 0) (b := 2) (x := x2) rfl rfl) ?_
      refine Eq.trans (s_ald (y := 150) (pc := 26) (nx := 27) (a := 1) (b := 0) (k := 1) (n := 80) (t := 0) (v := (D 109 x2)) rfl (mk_k109 _) rfl rfl (mk_l109 _) (mk_c109 _ _)) (ite_c ?_ rfl)
      refine Eq.trans (s_load (y := 150) (pc := 27) (nx := 28) (a := 3) (b := 0) (x := 106) rfl rfl) ?_
      refine Eq.trans (s_get (y := 150) (pc := 28) (nx := 31) (a := 10) (b := 12) (t := 0) (v := (D 106 12)) rfl (mk_k106 _) rfl (mk_106_12 _)) ?_
      refine Eq.trans (s_icne (y := 150) (pc := 31) (nx := 34) (b := 38) (tg := 38) rfl rfl) (ite_c ?_ ?_)
      · refine Eq.trans (s_push (y := 150) (pc := 34) (nx := 35) (a := 0) (b := 1) rfl) ?_
        refine Eq.trans (s_goto (y := 150) (pc := 35) (nx := 38) (a := 0) (b := 39) (tg := 39) rfl rfl) ?_
        refine Eq.trans (s_store (y := 150) (pc := 39) (nx := 40) (a := 0) (b := 3) (ls' := [(3, 106), (0, x1), (0, x2), (0, 1), v4]) rfl (Nat.le_of_ble_eq_true rfl) rfl) ?_
        refine Eq.trans (s_push (y := 150) (pc := 40) (nx := 41) (a := 0) (b := 0) rfl) ?_
        refine Eq.trans (s_store (y := 150) (pc := 41) (nx := 43) (a := 0) (b := 4) (ls' := [(3, 106), (0, x1), (0, x2), (0, 1), (0, 0)]) rfl (Nat.le_of_ble_eq_true rfl) rfl) ?_
        rfl
      · refine Eq.trans (s_push (y := 150) (pc := 38) (nx := 39) (a := 0) (b := 0) rfl) ?_
        refine Eq.trans (s_store (y := 150) (pc := 39) (nx := 40) (a := 0) (b := 3) (ls' := [(3, 106), (0, x1), (0, x2), (0, 0), v4]) rfl (Nat.le_of_ble_eq_true rfl) rfl) ?_
        refine Eq.trans (s_push (y := 150) (pc := 40) (nx := 41) (a := 0) (b := 0) rfl) ?_
        refine Eq.trans (s_store (y := 150) (pc := 41) (nx := 43) (a := 0) (b := 4) (ls' := [(3, 106), (0, x1), (0, x2), (0, 0), (0, 0)]) rfl (Nat.le_of_ble_eq_true rfl) rfl) ?_
        rfl
  · refine Eq.trans (s_load (y := 150) (pc := 106) (nx := 107) (a := 0) (b := 1) (x := x1) rfl rfl) ?_
    exact s_ret (y := 150) (pc := 107) (nx := 108) (a := 0) rfl (by decide)
theorem e_150_43 (D : Mem) (x1 : Int) (x2 : Int) (x3 : Int) (x4 : Int) : qE 150 43 [(3, 106), (0, x1), (0, x2), (0, x3), (0, x4)] [] (mk D) = (if x4 < (D 106 12) then (if x3 = 0 then qE 150 90 [(3, 106), (0, x1), (0, x2), (0, x3), (0, x4)] [] (mk D) else (if 0 ≤ (w32 ((w32 (10 * x2)) + x4)) ∧ (w32 ((w32 (10 * x2)) + x4)) < 800 then (if 0 ≤ x4 ∧ x4 < 10 then (if (D 108 (w32 ((w32 (10 * x2)) + x4))) = (D 115 x4) then qE 150 43 [(3, 106), (0, x1), (0, x2), (0, 1), (0, (w32 (x4 + 1)))] [] (mk D) else qE 150 43 [(3, 106), (0, x1), (0, x2), (0, 0), (0, (w32 (x4 + 1)))] [] (mk D)) else none) else none)) else qE 150 90 [(3, 106), (0, x1), (0, x2), (0, x3), (0, x4)] [] (mk D)) := by
  refine Eq.trans (s_load (y := 150) (pc := 43) (nx := 45) (a := 0) (b := 4) (x := x4) rfl rfl) ?_
  refine Eq.trans (s_load (y := 150) (pc := 45) (nx := 46) (a := 3) (b := 0) (x := 106) rfl rfl) ?_
  refine Eq.trans (s_get (y := 150) (pc := 46) (nx := 49) (a := 10) (b := 12) (t := 0) (v := (D 106 12)) rfl (mk_k106 _) rfl (mk_106_12 _)) ?_
  refine Eq.trans (s_icge (y := 150) (pc := 49) (nx := 52) (b := 90) (tg := 90) rfl rfl) (ite_c ?_ ?_)
  · refine Eq.trans (s_load (y := 150) (pc := 52) (nx := 53) (a := 0) (b := 3) (x := x3) rfl rfl) ?_
    refine Eq.trans (s_ifeq (y := 150) (pc := 53) (nx := 56) (b := 90) (tg := 90) rfl rfl) (ite_c ?_ ?_)
    · rfl
    · refine Eq.trans (s_load (y := 150) (pc := 56) (nx := 57) (a := 3) (b := 0) (x := 106) rfl rfl) ?_
      refine Eq.trans (s_get (y := 150) (pc := 57) (nx := 60) (a := 10) (b := 1) (t := 3) (v := 108) rfl (mk_k106 _) rfl (mk_106_1 _)) ?_
      refine Eq.trans (s_push (y := 150) (pc := 60) (nx := 62) (a := 0) (b := 10) rfl) ?_
      refine Eq.trans (s_load (y := 150) (pc := 62) (nx := 63) (a := 0) (b := 2) (x := x2) rfl rfl) ?_
      refine Eq.trans (s_mul (y := 150) (pc := 63) (nx := 64) (b := 0) rfl) ?_
      refine Eq.trans (s_load (y := 150) (pc := 64) (nx := 66) (a := 0) (b := 4) (x := x4) rfl rfl) ?_
      refine Eq.trans (s_add (y := 150) (pc := 66) (nx := 67) (b := 0) rfl) ?_
      refine Eq.trans (s_ald (y := 150) (pc := 67) (nx := 68) (a := 1) (b := 0) (k := 1) (n := 800) (t := 0) (v := (D 108 (w32 ((w32 (10 * x2)) + x4)))) rfl (mk_k108 _) rfl rfl (mk_l108 _) (mk_c108 _ _)) (ite_c ?_ rfl)
      refine Eq.trans (s_load (y := 150) (pc := 68) (nx := 69) (a := 3) (b := 0) (x := 106) rfl rfl) ?_
      refine Eq.trans (s_get (y := 150) (pc := 69) (nx := 72) (a := 10) (b := 11) (t := 3) (v := 115) rfl (mk_k106 _) rfl (mk_106_11 _)) ?_
      refine Eq.trans (s_load (y := 150) (pc := 72) (nx := 74) (a := 0) (b := 4) (x := x4) rfl rfl) ?_
      refine Eq.trans (s_ald (y := 150) (pc := 74) (nx := 75) (a := 1) (b := 0) (k := 1) (n := 10) (t := 0) (v := (D 115 x4)) rfl (mk_k115 _) rfl rfl (mk_l115 _) (mk_c115 _ _)) (ite_c ?_ rfl)
      refine Eq.trans (s_icne (y := 150) (pc := 75) (nx := 78) (b := 82) (tg := 82) rfl rfl) (ite_c ?_ ?_)
      · refine Eq.trans (s_push (y := 150) (pc := 78) (nx := 79) (a := 0) (b := 1) rfl) ?_
        refine Eq.trans (s_goto (y := 150) (pc := 79) (nx := 82) (a := 0) (b := 83) (tg := 83) rfl rfl) ?_
        refine Eq.trans (s_store (y := 150) (pc := 83) (nx := 84) (a := 0) (b := 3) (ls' := [(3, 106), (0, x1), (0, x2), (0, 1), (0, x4)]) rfl (Nat.le_of_ble_eq_true rfl) rfl) ?_
        refine Eq.trans (s_iinc (y := 150) (pc := 84) (nx := 87) (a := 4) (b := 1) (x := x4) (ls' := [(3, 106), (0, x1), (0, x2), (0, 1), (0, (w32 (x4 + 1)))]) rfl rfl rfl) ?_
        refine Eq.trans (s_goto (y := 150) (pc := 87) (nx := 90) (a := 0) (b := 43) (tg := 43) rfl rfl) ?_
        rfl
      · refine Eq.trans (s_push (y := 150) (pc := 82) (nx := 83) (a := 0) (b := 0) rfl) ?_
        refine Eq.trans (s_store (y := 150) (pc := 83) (nx := 84) (a := 0) (b := 3) (ls' := [(3, 106), (0, x1), (0, x2), (0, 0), (0, x4)]) rfl (Nat.le_of_ble_eq_true rfl) rfl) ?_
        refine Eq.trans (s_iinc (y := 150) (pc := 84) (nx := 87) (a := 4) (b := 1) (x := x4) (ls' := [(3, 106), (0, x1), (0, x2), (0, 0), (0, (w32 (x4 + 1)))]) rfl rfl rfl) ?_
        refine Eq.trans (s_goto (y := 150) (pc := 87) (nx := 90) (a := 0) (b := 43) (tg := 43) rfl rfl) ?_
        rfl
  · rfl
theorem e_150_90 (D : Mem) (x1 : Int) (x2 : Int) (x3 : Int) (x4 : Int) : qE 150 90 [(3, 106), (0, x1), (0, x2), (0, x3), (0, x4)] [] (mk D) = (if x3 = 0 then qE 150 4 [(3, 106), (0, x1), (0, (w32 (x2 + 1))), (0, x3), (0, x4)] [] (mk D) else qE 150 4 [(3, 106), (0, x2), (0, (w32 (x2 + 1))), (0, x3), (0, x4)] [] (mk D)) := by
  refine Eq.trans (s_load (y := 150) (pc := 90) (nx := 91) (a := 0) (b := 3) (x := x3) rfl rfl) ?_
  refine Eq.trans (s_ifeq (y := 150) (pc := 91) (nx := 94) (b := 98) (tg := 98) rfl rfl) (ite_c ?_ ?_)
  · refine Eq.trans (s_load (y := 150) (pc := 98) (nx := 99) (a := 0) (b := 1) (x := x1) rfl rfl) ?_
    refine Eq.trans (s_store (y := 150) (pc := 99) (nx := 100) (a := 0) (b := 1) (ls' := [(3, 106), (0, x1), (0, x2), (0, x3), (0, x4)]) rfl (Nat.le_of_ble_eq_true rfl) rfl) ?_
    refine Eq.trans (s_iinc (y := 150) (pc := 100) (nx := 103) (a := 2) (b := 1) (x := x2) (ls' := [(3, 106), (0, x1), (0, (w32 (x2 + 1))), (0, x3), (0, x4)]) rfl rfl rfl) ?_
    refine Eq.trans (s_goto (y := 150) (pc := 103) (nx := 106) (a := 0) (b := 4) (tg := 4) rfl rfl) ?_
    rfl
  · refine Eq.trans (s_load (y := 150) (pc := 94) (nx := 95) (a := 0) (b := 2) (x := x2) rfl rfl) ?_
    refine Eq.trans (s_goto (y := 150) (pc := 95) (nx := 98) (a := 0) (b := 99) (tg := 99) rfl rfl) ?_
    refine Eq.trans (s_store (y := 150) (pc := 99) (nx := 100) (a := 0) (b := 1) (ls' := [(3, 106), (0, x2), (0, x2), (0, x3), (0, x4)]) rfl (Nat.le_of_ble_eq_true rfl) rfl) ?_
    refine Eq.trans (s_iinc (y := 150) (pc := 100) (nx := 103) (a := 2) (b := 1) (x := x2) (ls' := [(3, 106), (0, x2), (0, (w32 (x2 + 1))), (0, x3), (0, x4)]) rfl rfl rfl) ?_
    refine Eq.trans (s_goto (y := 150) (pc := 103) (nx := 106) (a := 0) (b := 4) (tg := 4) rfl rfl) ?_
    rfl
theorem r_151 (D : Mem) (x1 : Int) : qR 151 [(3, 106), (0, x1)] (mk D) = (if 0 ≤ x1 ∧ x1 < 80 then qE 151 9 [(3, 106), (0, x1), (0, 0)] [] (mk (mU D 112 x1 0)) else none) := by
  show qE 151 0 [(3, 106), (0, x1), (9, 0)] [] (mk D) = _
  refine Eq.trans (s_load (y := 151) (pc := 0) (nx := 1) (a := 3) (b := 0) (x := 106) rfl rfl) ?_
  refine Eq.trans (s_get (y := 151) (pc := 1) (nx := 4) (a := 10) (b := 5) (t := 3) (v := 112) rfl (mk_k106 _) rfl (mk_106_5 _)) ?_
  refine Eq.trans (s_load (y := 151) (pc := 4) (nx := 5) (a := 0) (b := 1) (x := x1) rfl rfl) ?_
  refine Eq.trans (s_push (y := 151) (pc := 5) (nx := 6) (a := 0) (b := 0) rfl) ?_
  refine Eq.trans (s_ast (y := 151) (pc := 6) (nx := 7) (a := 6) (b := 0) (k := 6) (n := 80) (t := 0) (v := 0) (μ' := mk (mU D 112 x1 0)) rfl (by decide) (mk_k112 _) rfl (mk_l112 _) (mu_112 _ _ _)) (ite_c ?_ rfl)
  refine Eq.trans (s_push (y := 151) (pc := 7) (nx := 8) (a := 0) (b := 0) rfl) ?_
  refine Eq.trans (s_store (y := 151) (pc := 8) (nx := 9) (a := 0) (b := 2) (ls' := [(3, 106), (0, x1), (0, 0)]) rfl (Nat.le_of_ble_eq_true rfl) rfl) ?_
  rfl
theorem e_151_9 (D : Mem) (x1 : Int) (x2 : Int) : qE 151 9 [(3, 106), (0, x1), (0, x2)] [] (mk D) = (if x2 < 80 then (if 0 ≤ (w32 ((w32 (80 * x1)) + x2)) ∧ (w32 ((w32 (80 * x1)) + x2)) < 6400 then (if 0 ≤ (w32 ((w32 (80 * x2)) + x1)) ∧ (w32 ((w32 (80 * x2)) + x1)) < 6400 then qE 151 9 [(3, 106), (0, x1), (0, (w32 (x2 + 1)))] [] (mk (mU (mU D 113 (w32 ((w32 (80 * x1)) + x2)) 0) 113 (w32 ((w32 (80 * x2)) + x1)) 0)) else none) else none) else some ((9, 0), (mk D))) := by
  refine Eq.trans (s_load (y := 151) (pc := 9) (nx := 10) (a := 0) (b := 2) (x := x2) rfl rfl) ?_
  refine Eq.trans (s_push (y := 151) (pc := 10) (nx := 12) (a := 0) (b := 80) rfl) ?_
  refine Eq.trans (s_icge (y := 151) (pc := 12) (nx := 15) (b := 45) (tg := 45) rfl rfl) (ite_c ?_ ?_)
  · refine Eq.trans (s_load (y := 151) (pc := 15) (nx := 16) (a := 3) (b := 0) (x := 106) rfl rfl) ?_
    refine Eq.trans (s_get (y := 151) (pc := 16) (nx := 19) (a := 10) (b := 7) (t := 3) (v := 113) rfl (mk_k106 _) rfl (mk_106_7 _)) ?_
    refine Eq.trans (s_push (y := 151) (pc := 19) (nx := 21) (a := 0) (b := 80) rfl) ?_
    refine Eq.trans (s_load (y := 151) (pc := 21) (nx := 22) (a := 0) (b := 1) (x := x1) rfl rfl) ?_
    refine Eq.trans (s_mul (y := 151) (pc := 22) (nx := 23) (b := 0) rfl) ?_
    refine Eq.trans (s_load (y := 151) (pc := 23) (nx := 24) (a := 0) (b := 2) (x := x2) rfl rfl) ?_
    refine Eq.trans (s_add (y := 151) (pc := 24) (nx := 25) (b := 0) rfl) ?_
    refine Eq.trans (s_push (y := 151) (pc := 25) (nx := 26) (a := 0) (b := 0) rfl) ?_
    refine Eq.trans (s_ast (y := 151) (pc := 26) (nx := 27) (a := 1) (b := 0) (k := 1) (n := 6400) (t := 0) (v := 0) (μ' := mk (mU D 113 (w32 ((w32 (80 * x1)) + x2)) 0)) rfl (by decide) (mk_k113 _) rfl (mk_l113 _) (mu_113 _ _ _)) (ite_c ?_ rfl)
    refine Eq.trans (s_load (y := 151) (pc := 27) (nx := 28) (a := 3) (b := 0) (x := 106) rfl rfl) ?_
    refine Eq.trans (s_get (y := 151) (pc := 28) (nx := 31) (a := 10) (b := 7) (t := 3) (v := 113) rfl (mk_k106 _) rfl (mk_106_7 _)) ?_
    refine Eq.trans (s_push (y := 151) (pc := 31) (nx := 33) (a := 0) (b := 80) rfl) ?_
    refine Eq.trans (s_load (y := 151) (pc := 33) (nx := 34) (a := 0) (b := 2) (x := x2) rfl rfl) ?_
    refine Eq.trans (s_mul (y := 151) (pc := 34) (nx := 35) (b := 0) rfl) ?_
    refine Eq.trans (s_load (y := 151) (pc := 35) (nx := 36) (a := 0) (b := 1) (x := x1) rfl rfl) ?_
    refine Eq.trans (s_add (y := 151) (pc := 36) (nx := 37) (b := 0) rfl) ?_
    refine Eq.trans (s_push (y := 151) (pc := 37) (nx := 38) (a := 0) (b := 0) rfl) ?_
    refine Eq.trans (s_ast (y := 151) (pc := 38) (nx := 39) (a := 1) (b := 0) (k := 1) (n := 6400) (t := 0) (v := 0) (μ' := mk (mU (mU D 113 (w32 ((w32 (80 * x1)) + x2)) 0) 113 (w32 ((w32 (80 * x2)) + x1)) 0)) rfl (by decide) (mk_k113 _) rfl (mk_l113 _) (mu_113 _ _ _)) (ite_c ?_ rfl)
    refine Eq.trans (s_iinc (y := 151) (pc := 39) (nx := 42) (a := 2) (b := 1) (x := x2) (ls' := [(3, 106), (0, x1), (0, (w32 (x2 + 1)))]) rfl rfl rfl) ?_
    refine Eq.trans (s_goto (y := 151) (pc := 42) (nx := 45) (a := 0) (b := 9) (tg := 9) rfl rfl) ?_
    rfl
  · exact s_retv (y := 151) (pc := 45) (nx := 46) (b := 0) rfl
theorem r_152 (D : Mem) : qR 152 [(3, 106)] (mk D) = qE 152 4 [(3, 106), (0, 0), (0, 0)] [] (mk D) := by
  show qE 152 0 [(3, 106), (9, 0), (9, 0)] [] (mk D) = _
  refine Eq.trans (s_push (y := 152) (pc := 0) (nx := 1) (a := 0) (b := 0) rfl) ?_
  refine Eq.trans (s_store (y := 152) (pc := 1) (nx := 2) (a := 0) (b := 1) (ls' := [(3, 106), (0, 0), (9, 0)]) rfl (Nat.le_of_ble_eq_true rfl) rfl) ?_
  refine Eq.trans (s_push (y := 152) (pc := 2) (nx := 3) (a := 0) (b := 0) rfl) ?_
  refine Eq.trans (s_store (y := 152) (pc := 3) (nx := 4) (a := 0) (b := 2) (ls' := [(3, 106), (0, 0), (0, 0)]) rfl (Nat.le_of_ble_eq_true rfl) rfl) ?_
  rfl
theorem e_152_4 (D : Mem) (x1 : Int) (x2 : Int) : qE 152 4 [(3, 106), (0, x1), (0, x2)] [] (mk D) = (if x2 < (D 106 6) then (if 0 ≤ x2 ∧ x2 < 80 then (if (D 112 x2) = 0 then qE 152 4 [(3, 106), (0, (w32 (x1 + 0))), (0, (w32 (x2 + 1)))] [] (mk D) else qE 152 4 [(3, 106), (0, (w32 (x1 + 1))), (0, (w32 (x2 + 1)))] [] (mk D)) else none) else some ((0, x1), (mk D))) := by
  refine Eq.trans (s_load (y := 152) (pc := 4) (nx := 5) (a := 0) (b := 2) (x := x2) rfl rfl) ?_
  refine Eq.trans (s_load (y := 152) (pc := 5) (nx := 6) (a := 3) (b := 0) (x := 106) rfl rfl) ?_
  refine Eq.trans (s_get (y := 152) (pc := 6) (nx := 9) (a := 10) (b := 6) (t := 0) (v := (D 106 6)) rfl (mk_k106 _) rfl (mk_106_6 _)) ?_
  refine Eq.trans (s_icge (y := 152) (pc := 9) (nx := 12) (b := 35) (tg := 35) rfl rfl) (ite_c ?_ ?_)
  · refine Eq.trans (s_load (y := 152) (pc := 12) (nx := 13) (a := 0) (b := 1) (x := x1) rfl rfl) ?_
    refine Eq.trans (s_load (y := 152) (pc := 13) (nx := 14) (a := 3) (b := 0) (x := 106) rfl rfl) ?_
    refine Eq.trans (s_get (y := 152) (pc := 14) (nx := 17) (a := 10) (b := 5) (t := 3) (v := 112) rfl (mk_k106 _) rfl (mk_106_5 _)) ?_
    refine Eq.trans (s_load (y := 152) (pc := 17) (nx := 18) (a := 0) (b := 2) (x := x2) rfl rfl) ?_
    refine Eq.trans (s_ald (y := 152) (pc := 18) (nx := 19) (a := 6) (b := 0) (k := 6) (n := 80) (t := 0) (v := (D 112 x2)) rfl (mk_k112 _) rfl rfl (mk_l112 _) (mk_c112 _ _)) (ite_c ?_ rfl)
    refine Eq.trans (s_ifeq (y := 152) (pc := 19) (nx := 22) (b := 26) (tg := 26) rfl rfl) (ite_c ?_ ?_)
    · refine Eq.trans (s_push (y := 152) (pc := 26) (nx := 27) (a := 0) (b := 0) rfl) ?_
      refine Eq.trans (s_add (y := 152) (pc := 27) (nx := 28) (b := 0) rfl) ?_
      refine Eq.trans (s_store (y := 152) (pc := 28) (nx := 29) (a := 0) (b := 1) (ls' := [(3, 106), (0, (w32 (x1 + 0))), (0, x2)]) rfl (Nat.le_of_ble_eq_true rfl) rfl) ?_
      refine Eq.trans (s_iinc (y := 152) (pc := 29) (nx := 32) (a := 2) (b := 1) (x := x2) (ls' := [(3, 106), (0, (w32 (x1 + 0))), (0, (w32 (x2 + 1)))]) rfl rfl rfl) ?_
      refine Eq.trans (s_goto (y := 152) (pc := 32) (nx := 35) (a := 0) (b := 4) (tg := 4) rfl rfl) ?_
      rfl
    · refine Eq.trans (s_push (y := 152) (pc := 22) (nx := 23) (a := 0) (b := 1) rfl) ?_
      refine Eq.trans (s_goto (y := 152) (pc := 23) (nx := 26) (a := 0) (b := 27) (tg := 27) rfl rfl) ?_
      refine Eq.trans (s_add (y := 152) (pc := 27) (nx := 28) (b := 0) rfl) ?_
      refine Eq.trans (s_store (y := 152) (pc := 28) (nx := 29) (a := 0) (b := 1) (ls' := [(3, 106), (0, (w32 (x1 + 1))), (0, x2)]) rfl (Nat.le_of_ble_eq_true rfl) rfl) ?_
      refine Eq.trans (s_iinc (y := 152) (pc := 29) (nx := 32) (a := 2) (b := 1) (x := x2) (ls' := [(3, 106), (0, (w32 (x1 + 1))), (0, (w32 (x2 + 1)))]) rfl rfl rfl) ?_
      refine Eq.trans (s_goto (y := 152) (pc := 32) (nx := 35) (a := 0) (b := 4) (tg := 4) rfl rfl) ?_
      rfl
  · refine Eq.trans (s_load (y := 152) (pc := 35) (nx := 36) (a := 0) (b := 1) (x := x1) rfl rfl) ?_
    exact s_ret (y := 152) (pc := 36) (nx := 37) (a := 0) rfl (by decide)
theorem r_153 (D : Mem) (x1 : Int) : qR 153 [(3, 106), (0, x1)] (mk D) = ((qR 152 [(3, 106)] (mk D)).bind fun w => qE 153 4 [(3, 106), (0, x1), (9, 0), (9, 0)] (psh w.1 []) w.2) := by
  show qE 153 0 [(3, 106), (0, x1), (9, 0), (9, 0)] [] (mk D) = _
  refine Eq.trans (s_load (y := 153) (pc := 0) (nx := 1) (a := 3) (b := 0) (x := 106) rfl rfl) ?_
  exact s_call (y := 153) (pc := 1) (nx := 4) (a := 152) (b := 0) (as := [(3, 106)]) (r := []) rfl (Nat.le_of_ble_eq_true rfl) rfl rfl (Nat.le_of_ble_eq_true rfl) (Nat.le_of_ble_eq_true rfl) (Or.inr ⟨rfl, mk_k106 _⟩)
theorem e_153_4 (D : Mem) (x1 : Int) (s0 : Int) : qE 153 4 [(3, 106), (0, x1), (9, 0), (9, 0)] [(0, s0)] (mk D) = (if s0 = 40 then qE 153 13 [(3, 106), (0, x1), (0, (-1)), (0, 0)] [] (mk D) else qE 153 66 [(3, 106), (0, x1), (9, 0), (9, 0)] [] (mk D)) := by
  refine Eq.trans (s_push (y := 153) (pc := 4) (nx := 6) (a := 0) (b := 40) rfl) ?_
  refine Eq.trans (s_icne (y := 153) (pc := 6) (nx := 9) (b := 66) (tg := 66) rfl rfl) (ite_c ?_ ?_)
  · refine Eq.trans (s_push (y := 153) (pc := 9) (nx := 10) (a := 0) (b := (-1)) rfl) ?_
    refine Eq.trans (s_store (y := 153) (pc := 10) (nx := 11) (a := 0) (b := 2) (ls' := [(3, 106), (0, x1), (0, (-1)), (9, 0)]) rfl (Nat.le_of_ble_eq_true rfl) rfl) ?_
    refine Eq.trans (s_push (y := 153) (pc := 11) (nx := 12) (a := 0) (b := 0) rfl) ?_
    refine Eq.trans (s_store (y := 153) (pc := 12) (nx := 13) (a := 0) (b := 3) (ls' := [(3, 106), (0, x1), (0, (-1)), (0, 0)]) rfl (Nat.le_of_ble_eq_true rfl) rfl) ?_
    rfl
  · rfl
theorem e_153_13 (D : Mem) (x1 : Int) (x2 : Int) (x3 : Int) : qE 153 13 [(3, 106), (0, x1), (0, x2), (0, x3)] [] (mk D) = (if x3 < (D 106 6) then (if 0 ≤ x3 ∧ x3 < 80 then (if (D 112 x3) = 0 then qE 153 13 [(3, 106), (0, x1), (0, x2), (0, (w32 (x3 + 1)))] [] (mk D) else (if x2 < 0 then qE 153 13 [(3, 106), (0, x1), (0, x3), (0, (w32 (x3 + 1)))] [] (mk D) else (if 0 ≤ x3 ∧ x3 < 80 then (if 0 ≤ x2 ∧ x2 < 80 then (if (D 111 x3) < (D 111 x2) then qE 153 13 [(3, 106), (0, x1), (0, x3), (0, (w32 (x3 + 1)))] [] (mk D) else qE 153 13 [(3, 106), (0, x1), (0, x2), (0, (w32 (x3 + 1)))] [] (mk D)) else none) else none))) else none) else ((qR 151 [(3, 106), (0, x2)] (mk D)).bind fun w => qE 153 66 [(3, 106), (0, x1), (0, x2), (0, x3)] (psh w.1 []) w.2)) := by
  refine Eq.trans (s_load (y := 153) (pc := 13) (nx := 14) (a := 0) (b := 3) (x := x3) rfl rfl) ?_
  refine Eq.trans (s_load (y := 153) (pc := 14) (nx := 15) (a := 3) (b := 0) (x := 106) rfl rfl) ?_
  refine Eq.trans (s_get (y := 153) (pc := 15) (nx := 18) (a := 10) (b := 6) (t := 0) (v := (D 106 6)) rfl (mk_k106 _) rfl (mk_106_6 _)) ?_
  refine Eq.trans (s_icge (y := 153) (pc := 18) (nx := 21) (b := 61) (tg := 61) rfl rfl) (ite_c ?_ ?_)
  · refine Eq.trans (s_load (y := 153) (pc := 21) (nx := 22) (a := 3) (b := 0) (x := 106) rfl rfl) ?_
    refine Eq.trans (s_get (y := 153) (pc := 22) (nx := 25) (a := 10) (b := 5) (t := 3) (v := 112) rfl (mk_k106 _) rfl (mk_106_5 _)) ?_
    refine Eq.trans (s_load (y := 153) (pc := 25) (nx := 26) (a := 0) (b := 3) (x := x3) rfl rfl) ?_
    refine Eq.trans (s_ald (y := 153) (pc := 26) (nx := 27) (a := 6) (b := 0) (k := 6) (n := 80) (t := 0) (v := (D 112 x3)) rfl (mk_k112 _) rfl rfl (mk_l112 _) (mk_c112 _ _)) (ite_c ?_ rfl)
    refine Eq.trans (s_ifeq (y := 153) (pc := 27) (nx := 30) (b := 53) (tg := 53) rfl rfl) (ite_c ?_ ?_)
    · refine Eq.trans (s_load (y := 153) (pc := 53) (nx := 54) (a := 0) (b := 2) (x := x2) rfl rfl) ?_
      refine Eq.trans (s_store (y := 153) (pc := 54) (nx := 55) (a := 0) (b := 2) (ls' := [(3, 106), (0, x1), (0, x2), (0, x3)]) rfl (Nat.le_of_ble_eq_true rfl) rfl) ?_
      refine Eq.trans (s_iinc (y := 153) (pc := 55) (nx := 58) (a := 3) (b := 1) (x := x3) (ls' := [(3, 106), (0, x1), (0, x2), (0, (w32 (x3 + 1)))]) rfl rfl rfl) ?_
      refine Eq.trans (s_goto (y := 153) (pc := 58) (nx := 61) (a := 0) (b := 13) (tg := 13) rfl rfl) ?_
      rfl
    · refine Eq.trans (s_load (y := 153) (pc := 30) (nx := 31) (a := 0) (b := 2) (x := x2) rfl rfl) ?_
      refine Eq.trans (s_iflt (y := 153) (pc := 31) (nx := 34) (b := 49) (tg := 49) rfl rfl) (ite_c ?_ ?_)
      · refine Eq.trans (s_load (y := 153) (pc := 49) (nx := 50) (a := 0) (b := 3) (x := x3) rfl rfl) ?_
        refine Eq.trans (s_goto (y := 153) (pc := 50) (nx := 53) (a := 0) (b := 54) (tg := 54) rfl rfl) ?_
        refine Eq.trans (s_store (y := 153) (pc := 54) (nx := 55) (a := 0) (b := 2) (ls' := [(3, 106), (0, x1), (0, x3), (0, x3)]) rfl (Nat.le_of_ble_eq_true rfl) rfl) ?_
        refine Eq.trans (s_iinc (y := 153) (pc := 55) (nx := 58) (a := 3) (b := 1) (x := x3) (ls' := [(3, 106), (0, x1), (0, x3), (0, (w32 (x3 + 1)))]) rfl rfl rfl) ?_
        refine Eq.trans (s_goto (y := 153) (pc := 58) (nx := 61) (a := 0) (b := 13) (tg := 13) rfl rfl) ?_
        rfl
      · refine Eq.trans (s_load (y := 153) (pc := 34) (nx := 35) (a := 3) (b := 0) (x := 106) rfl rfl) ?_
        refine Eq.trans (s_get (y := 153) (pc := 35) (nx := 38) (a := 10) (b := 4) (t := 3) (v := 111) rfl (mk_k106 _) rfl (mk_106_4 _)) ?_
        refine Eq.trans (s_load (y := 153) (pc := 38) (nx := 39) (a := 0) (b := 3) (x := x3) rfl rfl) ?_
        refine Eq.trans (s_ald (y := 153) (pc := 39) (nx := 40) (a := 1) (b := 0) (k := 1) (n := 80) (t := 0) (v := (D 111 x3)) rfl (mk_k111 _) rfl rfl (mk_l111 _) (mk_c111 _ _)) (ite_c ?_ rfl)
        refine Eq.trans (s_load (y := 153) (pc := 40) (nx := 41) (a := 3) (b := 0) (x := 106) rfl rfl) ?_
        refine Eq.trans (s_get (y := 153) (pc := 41) (nx := 44) (a := 10) (b := 4) (t := 3) (v := 111) rfl (mk_k106 _) rfl (mk_106_4 _)) ?_
        refine Eq.trans (s_load (y := 153) (pc := 44) (nx := 45) (a := 0) (b := 2) (x := x2) rfl rfl) ?_
        refine Eq.trans (s_ald (y := 153) (pc := 45) (nx := 46) (a := 1) (b := 0) (k := 1) (n := 80) (t := 0) (v := (D 111 x2)) rfl (mk_k111 _) rfl rfl (mk_l111 _) (mk_c111 _ _)) (ite_c ?_ rfl)
        refine Eq.trans (s_icge (y := 153) (pc := 46) (nx := 49) (b := 53) (tg := 53) rfl rfl) (ite_c ?_ ?_)
        · refine Eq.trans (s_load (y := 153) (pc := 49) (nx := 50) (a := 0) (b := 3) (x := x3) rfl rfl) ?_
          refine Eq.trans (s_goto (y := 153) (pc := 50) (nx := 53) (a := 0) (b := 54) (tg := 54) rfl rfl) ?_
          refine Eq.trans (s_store (y := 153) (pc := 54) (nx := 55) (a := 0) (b := 2) (ls' := [(3, 106), (0, x1), (0, x3), (0, x3)]) rfl (Nat.le_of_ble_eq_true rfl) rfl) ?_
          refine Eq.trans (s_iinc (y := 153) (pc := 55) (nx := 58) (a := 3) (b := 1) (x := x3) (ls' := [(3, 106), (0, x1), (0, x3), (0, (w32 (x3 + 1)))]) rfl rfl rfl) ?_
          refine Eq.trans (s_goto (y := 153) (pc := 58) (nx := 61) (a := 0) (b := 13) (tg := 13) rfl rfl) ?_
          rfl
        · refine Eq.trans (s_load (y := 153) (pc := 53) (nx := 54) (a := 0) (b := 2) (x := x2) rfl rfl) ?_
          refine Eq.trans (s_store (y := 153) (pc := 54) (nx := 55) (a := 0) (b := 2) (ls' := [(3, 106), (0, x1), (0, x2), (0, x3)]) rfl (Nat.le_of_ble_eq_true rfl) rfl) ?_
          refine Eq.trans (s_iinc (y := 153) (pc := 55) (nx := 58) (a := 3) (b := 1) (x := x3) (ls' := [(3, 106), (0, x1), (0, x2), (0, (w32 (x3 + 1)))]) rfl rfl rfl) ?_
          refine Eq.trans (s_goto (y := 153) (pc := 58) (nx := 61) (a := 0) (b := 13) (tg := 13) rfl rfl) ?_
          rfl
  · refine Eq.trans (s_load (y := 153) (pc := 61) (nx := 62) (a := 3) (b := 0) (x := 106) rfl rfl) ?_
    refine Eq.trans (s_load (y := 153) (pc := 62) (nx := 63) (a := 0) (b := 2) (x := x2) rfl rfl) ?_
    exact s_call (y := 153) (pc := 63) (nx := 66) (a := 151) (b := 0) (as := [(3, 106), (0, x2)]) (r := []) rfl (Nat.le_of_ble_eq_true rfl) rfl rfl (Nat.le_of_ble_eq_true rfl) (Nat.le_of_ble_eq_true rfl) (Or.inr ⟨rfl, mk_k106 _⟩)
theorem e_153_66 (D : Mem) (x1 : Int) (v2 : PV) (v3 : PV) : qE 153 66 [(3, 106), (0, x1), v2, v3] [] (mk D) = qE 153 68 [(3, 106), (0, x1), (0, 0), v3] [] (mk D) := by
  refine Eq.trans (s_push (y := 153) (pc := 66) (nx := 67) (a := 0) (b := 0) rfl) ?_
  refine Eq.trans (s_store (y := 153) (pc := 67) (nx := 68) (a := 0) (b := 2) (ls' := [(3, 106), (0, x1), (0, 0), v3]) rfl (Nat.le_of_ble_eq_true rfl) rfl) ?_
  rfl
theorem e_153_68 (D : Mem) (x1 : Int) (x2 : Int) (v3 : PV) : qE 153 68 [(3, 106), (0, x1), (0, x2), v3] [] (mk D) = (if x2 < (D 106 12) then (if 0 ≤ x2 ∧ x2 < 10 then (if 0 ≤ (w32 ((w32 (10 * (D 106 6))) + x2)) ∧ (w32 ((w32 (10 * (D 106 6))) + x2)) < 800 then qE 153 68 [(3, 106), (0, x1), (0, (w32 (x2 + 1))), v3] [] (mk (mU D 108 (w32 ((w32 (10 * (D 106 6))) + x2)) (D 115 x2))) else none) else none) else (if 0 ≤ (D 106 6) ∧ (D 106 6) < 80 then (if 0 ≤ ((mU D 109 (D 106 6) (D 106 12)) 106 6) ∧ ((mU D 109 (D 106 6) (D 106 12)) 106 6) < 80 then (if 0 ≤ ((mU (mU (mU D 109 (D 106 6) (D 106 12)) 110 ((mU D 109 (D 106 6) (D 106 12)) 106 6) x1) 106 8 (w32 (((mU (mU D 109 (D 106 6) (D 106 12)) 110 ((mU D 109 (D 106 6) (D 106 12)) 106 6) x1) 106 8) + 1))) 106 6) ∧ ((mU (mU (mU D 109 (D 106 6) (D 106 12)) 110 ((mU D 109 (D 106 6) (D 106 12)) 106 6) x1) 106 8 (w32 (((mU (mU D 109 (D 106 6) (D 106 12)) 110 ((mU D 109 (D 106 6) (D 106 12)) 106 6) x1) 106 8) + 1))) 106 6) < 80 then (if 0 ≤ ((mU (mU (mU (mU D 109 (D 106 6) (D 106 12)) 110 ((mU D 109 (D 106 6) (D 106 12)) 106 6) x1) 106 8 (w32 (((mU (mU D 109 (D 106 6) (D 106 12)) 110 ((mU D 109 (D 106 6) (D 106 12)) 106 6) x1) 106 8) + 1))) 111 ((mU (mU (mU D 109 (D 106 6) (D 106 12)) 110 ((mU D 109 (D 106 6) (D 106 12)) 106 6) x1) 106 8 (w32 (((mU (mU D 109 (D 106 6) (D 106 12)) 110 ((mU D 109 (D 106 6) (D 106 12)) 106 6) x1) 106 8) + 1))) 106 6) ((mU (mU (mU D 109 (D 106 6) (D 106 12)) 110 ((mU D 109 (D 106 6) (D 106 12)) 106 6) x1) 106 8 (w32 (((mU (mU D 109 (D 106 6) (D 106 12)) 110 ((mU D 109 (D 106 6) (D 106 12)) 106 6) x1) 106 8) + 1))) 106 8)) 106 6) ∧ ((mU (mU (mU (mU D 109 (D 106 6) (D 106 12)) 110 ((mU D 109 (D 106 6) (D 106 12)) 106 6) x1) 106 8 (w32 (((mU (mU D 109 (D 106 6) (D 106 12)) 110 ((mU D 109 (D 106 6) (D 106 12)) 106 6) x1) 106 8) + 1))) 111 ((mU (mU (mU D 109 (D 106 6) (D 106 12)) 110 ((mU D 109 (D 106 6) (D 106 12)) 106 6) x1) 106 8 (w32 (((mU (mU D 109 (D 106 6) (D 106 12)) 110 ((mU D 109 (D 106 6) (D 106 12)) 106 6) x1) 106 8) + 1))) 106 6) ((mU (mU (mU D 109 (D 106 6) (D 106 12)) 110 ((mU D 109 (D 106 6) (D 106 12)) 106 6) x1) 106 8 (w32 (((mU (mU D 109 (D 106 6) (D 106 12)) 110 ((mU D 109 (D 106 6) (D 106 12)) 106 6) x1) 106 8) + 1))) 106 8)) 106 6) < 80 then some ((0, (w32 (((mU (mU (mU (mU (mU (mU D 109 (D 106 6) (D 106 12)) 110 ((mU D 109 (D 106 6) (D 106 12)) 106 6) x1) 106 8 (w32 (((mU (mU D 109 (D 106 6) (D 106 12)) 110 ((mU D 109 (D 106 6) (D 106 12)) 106 6) x1) 106 8) + 1))) 111 ((mU (mU (mU D 109 (D 106 6) (D 106 12)) 110 ((mU D 109 (D 106 6) (D 106 12)) 106 6) x1) 106 8 (w32 (((mU (mU D 109 (D 106 6) (D 106 12)) 110 ((mU D 109 (D 106 6) (D 106 12)) 106 6) x1) 106 8) + 1))) 106 6) ((mU (mU (mU D 109 (D 106 6) (D 106 12)) 110 ((mU D 109 (D 106 6) (D 106 12)) 106 6) x1) 106 8 (w32 (((mU (mU D 109 (D 106 6) (D 106 12)) 110 ((mU D 109 (D 106 6) (D 106 12)) 106 6) x1) 106 8) + 1))) 106 8)) 112 ((mU (mU (mU (mU D 109 (D 106 6) (D 106 12)) 110 ((mU D 109 (D 106 6) (D 106 12)) 106 6) x1) 106 8 (w32 (((mU (mU D 109 (D 106 6) (D 106 12)) 110 ((mU D 109 (D 106 6) (D 106 12)) 106 6) x1) 106 8) + 1))) 111 ((mU (mU (mU D 109 (D 106 6) (D 106 12)) 110 ((mU D 109 (D 106 6) (D 106 12)) 106 6) x1) 106 8 (w32 (((mU (mU D 109 (D 106 6) (D 106 12)) 110 ((mU D 109 (D 106 6) (D 106 12)) 106 6) x1) 106 8) + 1))) 106 6) ((mU (mU (mU D 109 (D 106 6) (D 106 12)) 110 ((mU D 109 (D 106 6) (D 106 12)) 106 6) x1) 106 8 (w32 (((mU (mU D 109 (D 106 6) (D 106 12)) 110 ((mU D 109 (D 106 6) (D 106 12)) 106 6) x1) 106 8) + 1))) 106 8)) 106 6) 1) 106 6 (w32 (((mU (mU (mU (mU (mU D 109 (D 106 6) (D 106 12)) 110 ((mU D 109 (D 106 6) (D 106 12)) 106 6) x1) 106 8 (w32 (((mU (mU D 109 (D 106 6) (D 106 12)) 110 ((mU D 109 (D 106 6) (D 106 12)) 106 6) x1) 106 8) + 1))) 111 ((mU (mU (mU D 109 (D 106 6) (D 106 12)) 110 ((mU D 109 (D 106 6) (D 106 12)) 106 6) x1) 106 8 (w32 (((mU (mU D 109 (D 106 6) (D 106 12)) 110 ((mU D 109 (D 106 6) (D 106 12)) 106 6) x1) 106 8) + 1))) 106 6) ((mU (mU (mU D 109 (D 106 6) (D 106 12)) 110 ((mU D 109 (D 106 6) (D 106 12)) 106 6) x1) 106 8 (w32 (((mU (mU D 109 (D 106 6) (D 106 12)) 110 ((mU D 109 (D 106 6) (D 106 12)) 106 6) x1) 106 8) + 1))) 106 8)) 112 ((mU (mU (mU (mU D 109 (D 106 6) (D 106 12)) 110 ((mU D 109 (D 106 6) (D 106 12)) 106 6) x1) 106 8 (w32 (((mU (mU D 109 (D 106 6) (D 106 12)) 110 ((mU D 109 (D 106 6) (D 106 12)) 106 6) x1) 106 8) + 1))) 111 ((mU (mU (mU D 109 (D 106 6) (D 106 12)) 110 ((mU D 109 (D 106 6) (D 106 12)) 106 6) x1) 106 8 (w32 (((mU (mU D 109 (D 106 6) (D 106 12)) 110 ((mU D 109 (D 106 6) (D 106 12)) 106 6) x1) 106 8) + 1))) 106 6) ((mU (mU (mU D 109 (D 106 6) (D 106 12)) 110 ((mU D 109 (D 106 6) (D 106 12)) 106 6) x1) 106 8 (w32 (((mU (mU D 109 (D 106 6) (D 106 12)) 110 ((mU D 109 (D 106 6) (D 106 12)) 106 6) x1) 106 8) + 1))) 106 8)) 106 6) 1) 106 6) + 1))) 106 6) - 1))), (mk (mU (mU (mU (mU (mU (mU D 109 (D 106 6) (D 106 12)) 110 ((mU D 109 (D 106 6) (D 106 12)) 106 6) x1) 106 8 (w32 (((mU (mU D 109 (D 106 6) (D 106 12)) 110 ((mU D 109 (D 106 6) (D 106 12)) 106 6) x1) 106 8) + 1))) 111 ((mU (mU (mU D 109 (D 106 6) (D 106 12)) 110 ((mU D 109 (D 106 6) (D 106 12)) 106 6) x1) 106 8 (w32 (((mU (mU D 109 (D 106 6) (D 106 12)) 110 ((mU D 109 (D 106 6) (D 106 12)) 106 6) x1) 106 8) + 1))) 106 6) ((mU (mU (mU D 109 (D 106 6) (D 106 12)) 110 ((mU D 109 (D 106 6) (D 106 12)) 106 6) x1) 106 8 (w32 (((mU (mU D 109 (D 106 6) (D 106 12)) 110 ((mU D 109 (D 106 6) (D 106 12)) 106 6) x1) 106 8) + 1))) 106 8)) 112 ((mU (mU (mU (mU D 109 (D 106 6) (D 106 12)) 110 ((mU D 109 (D 106 6) (D 106 12)) 106 6) x1) 106 8 (w32 (((mU (mU D 109 (D 106 6) (D 106 12)) 110 ((mU D 109 (D 106 6) (D 106 12)) 106 6) x1) 106 8) + 1))) 111 ((mU (mU (mU D 109 (D 106 6) (D 106 12)) 110 ((mU D 109 (D 106 6) (D 106 12)) 106 6) x1) 106 8 (w32 (((mU (mU D 109 (D 106 6) (D 106 12)) 110 ((mU D 109 (D 106 6) (D 106 12)) 106 6) x1) 106 8) + 1))) 106 6) ((mU (mU (mU D 109 (D 106 6) (D 106 12)) 110 ((mU D 109 (D 106 6) (D 106 12)) 106 6) x1) 106 8 (w32 (((mU (mU D 109 (D 106 6) (D 106 12)) 110 ((mU D 109 (D 106 6) (D 106 12)) 106 6) x1) 106 8) + 1))) 106 8)) 106 6) 1) 106 6 (w32 (((mU (mU (mU (mU (mU D 109 (D 106 6) (D 106 12)) 110 ((mU D 109 (D 106 6) (D 106 12)) 106 6) x1) 106 8 (w32 (((mU (mU D 109 (D 106 6) (D 106 12)) 110 ((mU D 109 (D 106 6) (D 106 12)) 106 6) x1) 106 8) + 1))) 111 ((mU (mU (mU D 109 (D 106 6) (D 106 12)) 110 ((mU D 109 (D 106 6) (D 106 12)) 106 6) x1) 106 8 (w32 (((mU (mU D 109 (D 106 6) (D 106 12)) 110 ((mU D 109 (D 106 6) (D 106 12)) 106 6) x1) 106 8) + 1))) 106 6) ((mU (mU (mU D 109 (D 106 6) (D 106 12)) 110 ((mU D 109 (D 106 6) (D 106 12)) 106 6) x1) 106 8 (w32 (((mU (mU D 109 (D 106 6) (D 106 12)) 110 ((mU D 109 (D 106 6) (D 106 12)) 106 6) x1) 106 8) + 1))) 106 8)) 112 ((mU (mU (mU (mU D 109 (D 106 6) (D 106 12)) 110 ((mU D 109 (D 106 6) (D 106 12)) 106 6) x1) 106 8 (w32 (((mU (mU D 109 (D 106 6) (D 106 12)) 110 ((mU D 109 (D 106 6) (D 106 12)) 106 6) x1) 106 8) + 1))) 111 ((mU (mU (mU D 109 (D 106 6) (D 106 12)) 110 ((mU D 109 (D 106 6) (D 106 12)) 106 6) x1) 106 8 (w32 (((mU (mU D 109 (D 106 6) (D 106 12)) 110 ((mU D 109 (D 106 6) (D 106 12)) 106 6) x1) 106 8) + 1))) 106 6) ((mU (mU (mU D 109 (D 106 6) (D 106 12)) 110 ((mU D 109 (D 106 6) (D 106 12)) 106 6) x1) 106 8 (w32 (((mU (mU D 109 (D 106 6) (D 106 12)) 110 ((mU D 109 (D 106 6) (D 106 12)) 106 6) x1) 106 8) + 1))) 106 8)) 106 6) 1) 106 6) + 1))))) else none) else none) else none) else none)) := by
  refine Eq.trans (s_load (y := 153) (pc := 68) (nx := 69) (a := 0) (b := 2) (x := x2) rfl rfl) ?_
  refine Eq.trans (s_load (y := 153) (pc := 69) (nx := 70) (a := 3) (b := 0) (x := 106) rfl rfl) ?_
  refine Eq.trans (s_get (y := 153) (pc := 70) (nx := 73) (a := 10) (b := 12) (t := 0) (v := (D 106 12)) rfl (mk_k106 _) rfl (mk_106_12 _)) ?_
  refine Eq.trans (s_icge (y := 153) (pc := 73) (nx := 76) (b := 102) (tg := 102) rfl rfl) (ite_c ?_ ?_)
  · refine Eq.trans (s_load (y := 153) (pc := 76) (nx := 77) (a := 3) (b := 0) (x := 106) rfl rfl) ?_
    refine Eq.trans (s_get (y := 153) (pc := 77) (nx := 80) (a := 10) (b := 1) (t := 3) (v := 108) rfl (mk_k106 _) rfl (mk_106_1 _)) ?_
    refine Eq.trans (s_push (y := 153) (pc := 80) (nx := 82) (a := 0) (b := 10) rfl) ?_
    refine Eq.trans (s_load (y := 153) (pc := 82) (nx := 83) (a := 3) (b := 0) (x := 106) rfl rfl) ?_
    refine Eq.trans (s_get (y := 153) (pc := 83) (nx := 86) (a := 10) (b := 6) (t := 0) (v := (D 106 6)) rfl (mk_k106 _) rfl (mk_106_6 _)) ?_
    refine Eq.trans (s_mul (y := 153) (pc := 86) (nx := 87) (b := 0) rfl) ?_
    refine Eq.trans (s_load (y := 153) (pc := 87) (nx := 88) (a := 0) (b := 2) (x := x2) rfl rfl) ?_
    refine Eq.trans (s_add (y := 153) (pc := 88) (nx := 89) (b := 0) rfl) ?_
    refine Eq.trans (s_load (y := 153) (pc := 89) (nx := 90) (a := 3) (b := 0) (x := 106) rfl rfl) ?_
    refine Eq.trans (s_get (y := 153) (pc := 90) (nx := 93) (a := 10) (b := 11) (t := 3) (v := 115) rfl (mk_k106 _) rfl (mk_106_11 _)) ?_
    refine Eq.trans (s_load (y := 153) (pc := 93) (nx := 94) (a := 0) (b := 2) (x := x2) rfl rfl) ?_
    refine Eq.trans (s_ald (y := 153) (pc := 94) (nx := 95) (a := 1) (b := 0) (k := 1) (n := 10) (t := 0) (v := (D 115 x2)) rfl (mk_k115 _) rfl rfl (mk_l115 _) (mk_c115 _ _)) (ite_c ?_ rfl)
    refine Eq.trans (s_ast (y := 153) (pc := 95) (nx := 96) (a := 1) (b := 0) (k := 1) (n := 800) (t := 0) (v := (D 115 x2)) (μ' := mk (mU D 108 (w32 ((w32 (10 * (D 106 6))) + x2)) (D 115 x2))) rfl (by decide) (mk_k108 _) rfl (mk_l108 _) (mu_108 _ _ _)) (ite_c ?_ rfl)
    refine Eq.trans (s_iinc (y := 153) (pc := 96) (nx := 99) (a := 2) (b := 1) (x := x2) (ls' := [(3, 106), (0, x1), (0, (w32 (x2 + 1))), v3]) rfl rfl rfl) ?_
    refine Eq.trans (s_goto (y := 153) (pc := 99) (nx := 102) (a := 0) (b := 68) (tg := 68) rfl rfl) ?_
    rfl
  · refine Eq.trans (s_load (y := 153) (pc := 102) (nx := 103) (a := 3) (b := 0) (x := 106) rfl rfl) ?_
    refine Eq.trans (s_get (y := 153) (pc := 103) (nx := 106) (a := 10) (b := 2) (t := 3) (v := 109) rfl (mk_k106 _) rfl (mk_106_2 _)) ?_
    refine Eq.trans (s_load (y := 153) (pc := 106) (nx := 107) (a := 3) (b := 0) (x := 106) rfl rfl) ?_
    refine Eq.trans (s_get (y := 153) (pc := 107) (nx := 110) (a := 10) (b := 6) (t := 0) (v := (D 106 6)) rfl (mk_k106 _) rfl (mk_106_6 _)) ?_
    refine Eq.trans (s_load (y := 153) (pc := 110) (nx := 111) (a := 3) (b := 0) (x := 106) rfl rfl) ?_
    refine Eq.trans (s_get (y := 153) (pc := 111) (nx := 114) (a := 10) (b := 12) (t := 0) (v := (D 106 12)) rfl (mk_k106 _) rfl (mk_106_12 _)) ?_
    refine Eq.trans (s_ast (y := 153) (pc := 114) (nx := 115) (a := 1) (b := 0) (k := 1) (n := 80) (t := 0) (v := (D 106 12)) (μ' := mk (mU D 109 (D 106 6) (D 106 12))) rfl (by decide) (mk_k109 _) rfl (mk_l109 _) (mu_109 _ _ _)) (ite_c ?_ rfl)
    refine Eq.trans (s_load (y := 153) (pc := 115) (nx := 116) (a := 3) (b := 0) (x := 106) rfl rfl) ?_
    refine Eq.trans (s_get (y := 153) (pc := 116) (nx := 119) (a := 10) (b := 3) (t := 3) (v := 110) rfl (mk_k106 _) rfl (mk_106_3 _)) ?_
    refine Eq.trans (s_load (y := 153) (pc := 119) (nx := 120) (a := 3) (b := 0) (x := 106) rfl rfl) ?_
    refine Eq.trans (s_get (y := 153) (pc := 120) (nx := 123) (a := 10) (b := 6) (t := 0) (v := ((mU D 109 (D 106 6) (D 106 12)) 106 6)) rfl (mk_k106 _) rfl (mk_106_6 _)) ?_
    refine Eq.trans (s_load (y := 153) (pc := 123) (nx := 124) (a := 0) (b := 1) (x := x1) rfl rfl) ?_
    refine Eq.trans (s_ast (y := 153) (pc := 124) (nx := 125) (a := 1) (b := 0) (k := 1) (n := 80) (t := 0) (v := x1) (μ' := mk (mU (mU D 109 (D 106 6) (D 106 12)) 110 ((mU D 109 (D 106 6) (D 106 12)) 106 6) x1)) rfl (by decide) (mk_k110 _) rfl (mk_l110 _) (mu_110 _ _ _)) (ite_c ?_ rfl)
    refine Eq.trans (s_load (y := 153) (pc := 125) (nx := 126) (a := 3) (b := 0) (x := 106) rfl rfl) ?_
    refine Eq.trans (s_dup (y := 153) (pc := 126) (nx := 127) (a := 0) (b := 0) rfl (by decide)) ?_
    refine Eq.trans (s_get (y := 153) (pc := 127) (nx := 130) (a := 10) (b := 8) (t := 0) (v := ((mU (mU D 109 (D 106 6) (D 106 12)) 110 ((mU D 109 (D 106 6) (D 106 12)) 106 6) x1) 106 8)) rfl (mk_k106 _) rfl (mk_106_8 _)) ?_
    refine Eq.trans (s_push (y := 153) (pc := 130) (nx := 131) (a := 0) (b := 1) rfl) ?_
    refine Eq.trans (s_add (y := 153) (pc := 131) (nx := 132) (b := 0) rfl) ?_
    refine Eq.trans (s_put (y := 153) (pc := 132) (nx := 135) (a := 10) (b := 8) (t := 0) (v := (w32 (((mU (mU D 109 (D 106 6) (D 106 12)) 110 ((mU D 109 (D 106 6) (D 106 12)) 106 6) x1) 106 8) + 1))) (μ' := mk (mU (mU (mU D 109 (D 106 6) (D 106 12)) 110 ((mU D 109 (D 106 6) (D 106 12)) 106 6) x1) 106 8 (w32 (((mU (mU D 109 (D 106 6) (D 106 12)) 110 ((mU D 109 (D 106 6) (D 106 12)) 106 6) x1) 106 8) + 1)))) rfl (mk_k106 _) rfl (mu_106_8 _ _)) ?_
    refine Eq.trans (s_load (y := 153) (pc := 135) (nx := 136) (a := 3) (b := 0) (x := 106) rfl rfl) ?_
    refine Eq.trans (s_get (y := 153) (pc := 136) (nx := 139) (a := 10) (b := 4) (t := 3) (v := 111) rfl (mk_k106 _) rfl (mk_106_4 _)) ?_
    refine Eq.trans (s_load (y := 153) (pc := 139) (nx := 140) (a := 3) (b := 0) (x := 106) rfl rfl) ?_
    refine Eq.trans (s_get (y := 153) (pc := 140) (nx := 143) (a := 10) (b := 6) (t := 0) (v := ((mU (mU (mU D 109 (D 106 6) (D 106 12)) 110 ((mU D 109 (D 106 6) (D 106 12)) 106 6) x1) 106 8 (w32 (((mU (mU D 109 (D 106 6) (D 106 12)) 110 ((mU D 109 (D 106 6) (D 106 12)) 106 6) x1) 106 8) + 1))) 106 6)) rfl (mk_k106 _) rfl (mk_106_6 _)) ?_
    refine Eq.trans (s_load (y := 153) (pc := 143) (nx := 144) (a := 3) (b := 0) (x := 106) rfl rfl) ?_
    refine Eq.trans (s_get (y := 153) (pc := 144) (nx := 147) (a := 10) (b := 8) (t := 0) (v := ((mU (mU (mU D 109 (D 106 6) (D 106 12)) 110 ((mU D 109 (D 106 6) (D 106 12)) 106 6) x1) 106 8 (w32 (((mU (mU D 109 (D 106 6) (D 106 12)) 110 ((mU D 109 (D 106 6) (D 106 12)) 106 6) x1) 106 8) + 1))) 106 8)) rfl (mk_k106 _) rfl (mk_106_8 _)) ?_
    refine Eq.trans (s_ast (y := 153) (pc := 147) (nx := 148) (a := 1) (b := 0) (k := 1) (n := 80) (t := 0) (v := ((mU (mU (mU D 109 (D 106 6) (D 106 12)) 110 ((mU D 109 (D 106 6) (D 106 12)) 106 6) x1) 106 8 (w32 (((mU (mU D 109 (D 106 6) (D 106 12)) 110 ((mU D 109 (D 106 6) (D 106 12)) 106 6) x1) 106 8) + 1))) 106 8)) (μ' := mk (mU (mU (mU (mU D 109 (D 106 6) (D 106 12)) 110 ((mU D 109 (D 106 6) (D 106 12)) 106 6) x1) 106 8 (w32 (((mU (mU D 109 (D 106 6) (D 106 12)) 110 ((mU D 109 (D 106 6) (D 106 12)) 106 6) x1) 106 8) + 1))) 111 ((mU (mU (mU D 109 (D 106 6) (D 106 12)) 110 ((mU D 109 (D 106 6) (D 106 12)) 106 6) x1) 106 8 (w32 (((mU (mU D 109 (D 106 6) (D 106 12)) 110 ((mU D 109 (D 106 6) (D 106 12)) 106 6) x1) 106 8) + 1))) 106 6) ((mU (mU (mU D 109 (D 106 6) (D 106 12)) 110 ((mU D 109 (D 106 6) (D 106 12)) 106 6) x1) 106 8 (w32 (((mU (mU D 109 (D 106 6) (D 106 12)) 110 ((mU D 109 (D 106 6) (D 106 12)) 106 6) x1) 106 8) + 1))) 106 8))) rfl (by decide) (mk_k111 _) rfl (mk_l111 _) (mu_111 _ _ _)) (ite_c ?_ rfl)
    refine Eq.trans (s_load (y := 153) (pc := 148) (nx := 149) (a := 3) (b := 0) (x := 106) rfl rfl) ?_
    refine Eq.trans (s_get (y := 153) (pc := 149) (nx := 152) (a := 10) (b := 5) (t := 3) (v := 112) rfl (mk_k106 _) rfl (mk_106_5 _)) ?_
    refine Eq.trans (s_load (y := 153) (pc := 152) (nx := 153) (a := 3) (b := 0) (x := 106) rfl rfl) ?_
    refine Eq.trans (s_get (y := 153) (pc := 153) (nx := 156) (a := 10) (b := 6) (t := 0) (v := ((mU (mU (mU (mU D 109 (D 106 6) (D 106 12)) 110 ((mU D 109 (D 106 6) (D 106 12)) 106 6) x1) 106 8 (w32 (((mU (mU D 109 (D 106 6) (D 106 12)) 110 ((mU D 109 (D 106 6) (D 106 12)) 106 6) x1) 106 8) + 1))) 111 ((mU (mU (mU D 109 (D 106 6) (D 106 12)) 110 ((mU D 109 (D 106 6) (D 106 12)) 106 6) x1) 106 8 (w32 (((mU (mU D 109 (D 106 6) (D 106 12)) 110 ((mU D 109 (D 106 6) (D 106 12)) 106 6) x1) 106 8) + 1))) 106 6) ((mU (mU (mU D 109 (D 106 6) (D 106 12)) 110 ((mU D 109 (D 106 6) (D 106 12)) 106 6) x1) 106 8 (w32 (((mU (mU D 109 (D 106 6) (D 106 12)) 110 ((mU D 109 (D 106 6) (D 106 12)) 106 6) x1) 106 8) + 1))) 106 8)) 106 6)) rfl (mk_k106 _) rfl (mk_106_6 _)) ?_
    refine Eq.trans (s_push (y := 153) (pc := 156) (nx := 157) (a := 0) (b := 1) rfl) ?_
    refine Eq.trans (s_ast (y := 153) (pc := 157) (nx := 158) (a := 6) (b := 0) (k := 6) (n := 80) (t := 0) (v := 1) (μ' := mk (mU (mU (mU (mU (mU D 109 (D 106 6) (D 106 12)) 110 ((mU D 109 (D 106 6) (D 106 12)) 106 6) x1) 106 8 (w32 (((mU (mU D 109 (D 106 6) (D 106 12)) 110 ((mU D 109 (D 106 6) (D 106 12)) 106 6) x1) 106 8) + 1))) 111 ((mU (mU (mU D 109 (D 106 6) (D 106 12)) 110 ((mU D 109 (D 106 6) (D 106 12)) 106 6) x1) 106 8 (w32 (((mU (mU D 109 (D 106 6) (D 106 12)) 110 ((mU D 109 (D 106 6) (D 106 12)) 106 6) x1) 106 8) + 1))) 106 6) ((mU (mU (mU D 109 (D 106 6) (D 106 12)) 110 ((mU D 109 (D 106 6) (D 106 12)) 106 6) x1) 106 8 (w32 (((mU (mU D 109 (D 106 6) (D 106 12)) 110 ((mU D 109 (D 106 6) (D 106 12)) 106 6) x1) 106 8) + 1))) 106 8)) 112 ((mU (mU (mU (mU D 109 (D 106 6) (D 106 12)) 110 ((mU D 109 (D 106 6) (D 106 12)) 106 6) x1) 106 8 (w32 (((mU (mU D 109 (D 106 6) (D 106 12)) 110 ((mU D 109 (D 106 6) (D 106 12)) 106 6) x1) 106 8) + 1))) 111 ((mU (mU (mU D 109 (D 106 6) (D 106 12)) 110 ((mU D 109 (D 106 6) (D 106 12)) 106 6) x1) 106 8 (w32 (((mU (mU D 109 (D 106 6) (D 106 12)) 110 ((mU D 109 (D 106 6) (D 106 12)) 106 6) x1) 106 8) + 1))) 106 6) ((mU (mU (mU D 109 (D 106 6) (D 106 12)) 110 ((mU D 109 (D 106 6) (D 106 12)) 106 6) x1) 106 8 (w32 (((mU (mU D 109 (D 106 6) (D 106 12)) 110 ((mU D 109 (D 106 6) (D 106 12)) 106 6) x1) 106 8) + 1))) 106 8)) 106 6) 1)) rfl (by decide) (mk_k112 _) rfl (mk_l112 _) (mu_112 _ _ _)) (ite_c ?_ rfl)
    refine Eq.trans (s_load (y := 153) (pc := 158) (nx := 159) (a := 3) (b := 0) (x := 106) rfl rfl) ?_
    refine Eq.trans (s_dup (y := 153) (pc := 159) (nx := 160) (a := 0) (b := 0) rfl (by decide)) ?_
    refine Eq.trans (s_get (y := 153) (pc := 160) (nx := 163) (a := 10) (b := 6) (t := 0) (v := ((mU (mU (mU (mU (mU D 109 (D 106 6) (D 106 12)) 110 ((mU D 109 (D 106 6) (D 106 12)) 106 6) x1) 106 8 (w32 (((mU (mU D 109 (D 106 6) (D 106 12)) 110 ((mU D 109 (D 106 6) (D 106 12)) 106 6) x1) 106 8) + 1))) 111 ((mU (mU (mU D 109 (D 106 6) (D 106 12)) 110 ((mU D 109 (D 106 6) (D 106 12)) 106 6) x1) 106 8 (w32 (((mU (mU D 109 (D 106 6) (D 106 12)) 110 ((mU D 109 (D 106 6) (D 106 12)) 106 6) x1) 106 8) + 1))) 106 6) ((mU (mU (mU D 109 (D 106 6) (D 106 12)) 110 ((mU D 109 (D 106 6) (D 106 12)) 106 6) x1) 106 8 (w32 (((mU (mU D 109 (D 106 6) (D 106 12)) 110 ((mU D 109 (D 106 6) (D 106 12)) 106 6) x1) 106 8) + 1))) 106 8)) 112 ((mU (mU (mU (mU D 109 (D 106 6) (D 106 12)) 110 ((mU D 109 (D 106 6) (D 106 12)) 106 6) x1) 106 8 (w32 (((mU (mU D 109 (D 106 6) (D 106 12)) 110 ((mU D 109 (D 106 6) (D 106 12)) 106 6) x1) 106 8) + 1))) 111 ((mU (mU (mU D 109 (D 106 6) (D 106 12)) 110 ((mU D 109 (D 106 6) (D 106 12)) 106 6) x1) 106 8 (w32 (((mU (mU D 109 (D 106 6) (D 106 12)) 110 ((mU D 109 (D 106 6) (D 106 12)) 106 6) x1) 106 8) + 1))) 106 6) ((mU (mU (mU D 109 (D 106 6) (D 106 12)) 110 ((mU D 109 (D 106 6) (D 106 12)) 106 6) x1) 106 8 (w32 (((mU (mU D 109 (D 106 6) (D 106 12)) 110 ((mU D 109 (D 106 6) (D 106 12)) 106 6) x1) 106 8) + 1))) 106 8)) 106 6) 1) 106 6)) rfl (mk_k106 _) rfl (mk_106_6 _)) ?_
    refine Eq.trans (s_push (y := 153) (pc := 163) (nx := 164) (a := 0) (b := 1) rfl) ?_
    refine Eq.trans (s_add (y := 153) (pc := 164) (nx := 165) (b := 0) rfl) ?_
    refine Eq.trans (s_put (y := 153) (pc := 165) (nx := 168) (a := 10) (b := 6) (t := 0) (v := (w32 (((mU (mU (mU (mU (mU D 109 (D 106 6) (D 106 12)) 110 ((mU D 109 (D 106 6) (D 106 12)) 106 6) x1) 106 8 (w32 (((mU (mU D 109 (D 106 6) (D 106 12)) 110 ((mU D 109 (D 106 6) (D 106 12)) 106 6) x1) 106 8) + 1))) 111 ((mU (mU (mU D 109 (D 106 6) (D 106 12)) 110 ((mU D 109 (D 106 6) (D 106 12)) 106 6) x1) 106 8 (w32 (((mU (mU D 109 (D 106 6) (D 106 12)) 110 ((mU D 109 (D 106 6) (D 106 12)) 106 6) x1) 106 8) + 1))) 106 6) ((mU (mU (mU D 109 (D 106 6) (D 106 12)) 110 ((mU D 109 (D 106 6) (D 106 12)) 106 6) x1) 106 8 (w32 (((mU (mU D 109 (D 106 6) (D 106 12)) 110 ((mU D 109 (D 106 6) (D 106 12)) 106 6) x1) 106 8) + 1))) 106 8)) 112 ((mU (mU (mU (mU D 109 (D 106 6) (D 106 12)) 110 ((mU D 109 (D 106 6) (D 106 12)) 106 6) x1) 106 8 (w32 (((mU (mU D 109 (D 106 6) (D 106 12)) 110 ((mU D 109 (D 106 6) (D 106 12)) 106 6) x1) 106 8) + 1))) 111 ((mU (mU (mU D 109 (D 106 6) (D 106 12)) 110 ((mU D 109 (D 106 6) (D 106 12)) 106 6) x1) 106 8 (w32 (((mU (mU D 109 (D 106 6) (D 106 12)) 110 ((mU D 109 (D 106 6) (D 106 12)) 106 6) x1) 106 8) + 1))) 106 6) ((mU (mU (mU D 109 (D 106 6) (D 106 12)) 110 ((mU D 109 (D 106 6) (D 106 12)) 106 6) x1) 106 8 (w32 (((mU (mU D 109 (D 106 6) (D 106 12)) 110 ((mU D 109 (D 106 6) (D 106 12)) 106 6) x1) 106 8) + 1))) 106 8)) 106 6) 1) 106 6) + 1))) (μ' := mk (mU (mU (mU (mU (mU (mU D 109 (D 106 6) (D 106 12)) 110 ((mU D 109 (D 106 6) (D 106 12)) 106 6) x1) 106 8 (w32 (((mU (mU D 109 (D 106 6) (D 106 12)) 110 ((mU D 109 (D 106 6) (D 106 12)) 106 6) x1) 106 8) + 1))) 111 ((mU (mU (mU D 109 (D 106 6) (D 106 12)) 110 ((mU D 109 (D 106 6) (D 106 12)) 106 6) x1) 106 8 (w32 (((mU (mU D 109 (D 106 6) (D 106 12)) 110 ((mU D 109 (D 106 6) (D 106 12)) 106 6) x1) 106 8) + 1))) 106 6) ((mU (mU (mU D 109 (D 106 6) (D 106 12)) 110 ((mU D 109 (D 106 6) (D 106 12)) 106 6) x1) 106 8 (w32 (((mU (mU D 109 (D 106 6) (D 106 12)) 110 ((mU D 109 (D 106 6) (D 106 12)) 106 6) x1) 106 8) + 1))) 106 8)) 112 ((mU (mU (mU (mU D 109 (D 106 6) (D 106 12)) 110 ((mU D 109 (D 106 6) (D 106 12)) 106 6) x1) 106 8 (w32 (((mU (mU D 109 (D 106 6) (D 106 12)) 110 ((mU D 109 (D 106 6) (D 106 12)) 106 6) x1) 106 8) + 1))) 111 ((mU (mU (mU D 109 (D 106 6) (D 106 12)) 110 ((mU D 109 (D 106 6) (D 106 12)) 106 6) x1) 106 8 (w32 (((mU (mU D 109 (D 106 6) (D 106 12)) 110 ((mU D 109 (D 106 6) (D 106 12)) 106 6) x1) 106 8) + 1))) 106 6) ((mU (mU (mU D 109 (D 106 6) (D 106 12)) 110 ((mU D 109 (D 106 6) (D 106 12)) 106 6) x1) 106 8 (w32 (((mU (mU D 109 (D 106 6) (D 106 12)) 110 ((mU D 109 (D 106 6) (D 106 12)) 106 6) x1) 106 8) + 1))) 106 8)) 106 6) 1) 106 6 (w32 (((mU (mU (mU (mU (mU D 109 (D 106 6) (D 106 12)) 110 ((mU D 109 (D 106 6) (D 106 12)) 106 6) x1) 106 8 (w32 (((mU (mU D 109 (D 106 6) (D 106 12)) 110 ((mU D 109 (D 106 6) (D 106 12)) 106 6) x1) 106 8) + 1))) 111 ((mU (mU (mU D 109 (D 106 6) (D 106 12)) 110 ((mU D 109 (D 106 6) (D 106 12)) 106 6) x1) 106 8 (w32 (((mU (mU D 109 (D 106 6) (D 106 12)) 110 ((mU D 109 (D 106 6) (D 106 12)) 106 6) x1) 106 8) + 1))) 106 6) ((mU (mU (mU D 109 (D 106 6) (D 106 12)) 110 ((mU D 109 (D 106 6) (D 106 12)) 106 6) x1) 106 8 (w32 (((mU (mU D 109 (D 106 6) (D 106 12)) 110 ((mU D 109 (D 106 6) (D 106 12)) 106 6) x1) 106 8) + 1))) 106 8)) 112 ((mU (mU (mU (mU D 109 (D 106 6) (D 106 12)) 110 ((mU D 109 (D 106 6) (D 106 12)) 106 6) x1) 106 8 (w32 (((mU (mU D 109 (D 106 6) (D 106 12)) 110 ((mU D 109 (D 106 6) (D 106 12)) 106 6) x1) 106 8) + 1))) 111 ((mU (mU (mU D 109 (D 106 6) (D 106 12)) 110 ((mU D 109 (D 106 6) (D 106 12)) 106 6) x1) 106 8 (w32 (((mU (mU D 109 (D 106 6) (D 106 12)) 110 ((mU D 109 (D 106 6) (D 106 12)) 106 6) x1) 106 8) + 1))) 106 6) ((mU (mU (mU D 109 (D 106 6) (D 106 12)) 110 ((mU D 109 (D 106 6) (D 106 12)) 106 6) x1) 106 8 (w32 (((mU (mU D 109 (D 106 6) (D 106 12)) 110 ((mU D 109 (D 106 6) (D 106 12)) 106 6) x1) 106 8) + 1))) 106 8)) 106 6) 1) 106 6) + 1)))) rfl (mk_k106 _) rfl (mu_106_6 _ _)) ?_
    refine Eq.trans (s_load (y := 153) (pc := 168) (nx := 169) (a := 3) (b := 0) (x := 106) rfl rfl) ?_
    refine Eq.trans (s_get (y := 153) (pc := 169) (nx := 172) (a := 10) (b := 6) (t := 0) (v := ((mU (mU (mU (mU (mU (mU D 109 (D 106 6) (D 106 12)) 110 ((mU D 109 (D 106 6) (D 106 12)) 106 6) x1) 106 8 (w32 (((mU (mU D 109 (D 106 6) (D 106 12)) 110 ((mU D 109 (D 106 6) (D 106 12)) 106 6) x1) 106 8) + 1))) 111 ((mU (mU (mU D 109 (D 106 6) (D 106 12)) 110 ((mU D 109 (D 106 6) (D 106 12)) 106 6) x1) 106 8 (w32 (((mU (mU D 109 (D 106 6) (D 106 12)) 110 ((mU D 109 (D 106 6) (D 106 12)) 106 6) x1) 106 8) + 1))) 106 6) ((mU (mU (mU D 109 (D 106 6) (D 106 12)) 110 ((mU D 109 (D 106 6) (D 106 12)) 106 6) x1) 106 8 (w32 (((mU (mU D 109 (D 106 6) (D 106 12)) 110 ((mU D 109 (D 106 6) (D 106 12)) 106 6) x1) 106 8) + 1))) 106 8)) 112 ((mU (mU (mU (mU D 109 (D 106 6) (D 106 12)) 110 ((mU D 109 (D 106 6) (D 106 12)) 106 6) x1) 106 8 (w32 (((mU (mU D 109 (D 106 6) (D 106 12)) 110 ((mU D 109 (D 106 6) (D 106 12)) 106 6) x1) 106 8) + 1))) 111 ((mU (mU (mU D 109 (D 106 6) (D 106 12)) 110 ((mU D 109 (D 106 6) (D 106 12)) 106 6) x1) 106 8 (w32 (((mU (mU D 109 (D 106 6) (D 106 12)) 110 ((mU D 109 (D 106 6) (D 106 12)) 106 6) x1) 106 8) + 1))) 106 6) ((mU (mU (mU D 109 (D 106 6) (D 106 12)) 110 ((mU D 109 (D 106 6) (D 106 12)) 106 6) x1) 106 8 (w32 (((mU (mU D 109 (D 106 6) (D 106 12)) 110 ((mU D 109 (D 106 6) (D 106 12)) 106 6) x1) 106 8) + 1))) 106 8)) 106 6) 1) 106 6 (w32 (((mU (mU (mU (mU (mU D 109 (D 106 6) (D 106 12)) 110 ((mU D 109 (D 106 6) (D 106 12)) 106 6) x1) 106 8 (w32 (((mU (mU D 109 (D 106 6) (D 106 12)) 110 ((mU D 109 (D 106 6) (D 106 12)) 106 6) x1) 106 8) + 1))) 111 ((mU (mU (mU D 109 (D 106 6) (D 106 12)) 110 ((mU D 109 (D 106 6) (D 106 12)) 106 6) x1) 106 8 (w32 (((mU (mU D 109 (D 106 6) (D 106 12)) 110 ((mU D 109 (D 106 6) (D 106 12)) 106 6) x1) 106 8) + 1))) 106 6) ((mU (mU (mU D 109 (D 106 6) (D 106 12)) 110 ((mU D 109 (D 106 6) (D 106 12)) 106 6) x1) 106 8 (w32 (((mU (mU D 109 (D 106 6) (D 106 12)) 110 ((mU D 109 (D 106 6) (D 106 12)) 106 6) x1) 106 8) + 1))) 106 8)) 112 ((mU (mU (mU (mU D 109 (D 106 6) (D 106 12)) 110 ((mU D 109 (D 106 6) (D 106 12)) 106 6) x1) 106 8 (w32 (((mU (mU D 109 (D 106 6) (D 106 12)) 110 ((mU D 109 (D 106 6) (D 106 12)) 106 6) x1) 106 8) + 1))) 111 ((mU (mU (mU D 109 (D 106 6) (D 106 12)) 110 ((mU D 109 (D 106 6) (D 106 12)) 106 6) x1) 106 8 (w32 (((mU (mU D 109 (D 106 6) (D 106 12)) 110 ((mU D 109 (D 106 6) (D 106 12)) 106 6) x1) 106 8) + 1))) 106 6) ((mU (mU (mU D 109 (D 106 6) (D 106 12)) 110 ((mU D 109 (D 106 6) (D 106 12)) 106 6) x1) 106 8 (w32 (((mU (mU D 109 (D 106 6) (D 106 12)) 110 ((mU D 109 (D 106 6) (D 106 12)) 106 6) x1) 106 8) + 1))) 106 8)) 106 6) 1) 106 6) + 1))) 106 6)) rfl (mk_k106 _) rfl (mk_106_6 _)) ?_
    refine Eq.trans (s_push (y := 153) (pc := 172) (nx := 173) (a := 0) (b := 1) rfl) ?_
    refine Eq.trans (s_sub (y := 153) (pc := 173) (nx := 174) (b := 0) rfl) ?_
    exact s_ret (y := 153) (pc := 174) (nx := 175) (a := 0) rfl (by decide)
theorem r_154 (D : Mem) (x1 : Int) : qR 154 [(3, 106), (0, x1)] (mk D) = ((qR 142 [(0, x1), (0, 1), (0, 1000000)] (mk D)).bind fun w => qE 154 7 [(3, 106), (0, x1), (9, 0)] (psh w.1 []) w.2) := by
  show qE 154 0 [(3, 106), (0, x1), (9, 0)] [] (mk D) = _
  refine Eq.trans (s_load (y := 154) (pc := 0) (nx := 1) (a := 0) (b := 1) (x := x1) rfl rfl) ?_
  refine Eq.trans (s_push (y := 154) (pc := 1) (nx := 2) (a := 0) (b := 1) rfl) ?_
  refine Eq.trans (s_push (y := 154) (pc := 2) (nx := 4) (a := 0) (b := 1000000) rfl) ?_
  exact s_call (y := 154) (pc := 4) (nx := 7) (a := 142) (b := 0) (as := [(0, x1), (0, 1), (0, 1000000)]) (r := []) rfl (Nat.le_of_ble_eq_true rfl) rfl rfl (Nat.le_of_ble_eq_true rfl) (Nat.le_of_ble_eq_true rfl) (Or.inl rfl)
theorem e_154_7 (D : Mem) (x1 : Int) (s0 : Int) : qE 154 7 [(3, 106), (0, x1), (9, 0)] [(0, s0)] (mk D) = (if s0 = 0 then some ((0, (-1)), (mk D)) else (if (D 106 12) = 0 then some ((0, (-4)), (mk D)) else ((qR 150 [(3, 106)] (mk D)).bind fun w => qE 154 26 [(3, 106), (0, x1), (9, 0)] (psh w.1 []) w.2))) := by
  refine Eq.trans (s_ifne (y := 154) (pc := 7) (nx := 10) (b := 12) (tg := 12) rfl rfl) (ite_c ?_ ?_)
  · refine Eq.trans (s_push (y := 154) (pc := 10) (nx := 11) (a := 0) (b := (-1)) rfl) ?_
    exact s_ret (y := 154) (pc := 11) (nx := 12) (a := 0) rfl (by decide)
  · refine Eq.trans (s_load (y := 154) (pc := 12) (nx := 13) (a := 3) (b := 0) (x := 106) rfl rfl) ?_
    refine Eq.trans (s_get (y := 154) (pc := 13) (nx := 16) (a := 10) (b := 12) (t := 0) (v := (D 106 12)) rfl (mk_k106 _) rfl (mk_106_12 _)) ?_
    refine Eq.trans (s_ifne (y := 154) (pc := 16) (nx := 19) (b := 22) (tg := 22) rfl rfl) (ite_c ?_ ?_)
    · refine Eq.trans (s_push (y := 154) (pc := 19) (nx := 21) (a := 0) (b := (-4)) rfl) ?_
      exact s_ret (y := 154) (pc := 21) (nx := 22) (a := 0) rfl (by decide)
    · refine Eq.trans (s_load (y := 154) (pc := 22) (nx := 23) (a := 3) (b := 0) (x := 106) rfl rfl) ?_
      exact s_call (y := 154) (pc := 23) (nx := 26) (a := 150) (b := 0) (as := [(3, 106)]) (r := []) rfl (Nat.le_of_ble_eq_true rfl) rfl rfl (Nat.le_of_ble_eq_true rfl) (Nat.le_of_ble_eq_true rfl) (Or.inr ⟨rfl, mk_k106 _⟩)
theorem e_154_26 (D : Mem) (x1 : Int) (s0 : Int) : qE 154 26 [(3, 106), (0, x1), (9, 0)] [(0, s0)] (mk D) = (if s0 < 0 then (if (D 106 6) = 80 then some ((0, (-2)), (mk D)) else ((qR 153 [(3, 106), (0, x1)] (mk D)).bind fun w => qE 154 49 [(3, 106), (0, x1), (9, 0)] (psh w.1 []) w.2)) else some ((0, (-3)), (mk D))) := by
  refine Eq.trans (s_iflt (y := 154) (pc := 26) (nx := 29) (b := 32) (tg := 32) rfl rfl) (ite_c ?_ ?_)
  · refine Eq.trans (s_load (y := 154) (pc := 32) (nx := 33) (a := 3) (b := 0) (x := 106) rfl rfl) ?_
    refine Eq.trans (s_get (y := 154) (pc := 33) (nx := 36) (a := 10) (b := 6) (t := 0) (v := (D 106 6)) rfl (mk_k106 _) rfl (mk_106_6 _)) ?_
    refine Eq.trans (s_push (y := 154) (pc := 36) (nx := 38) (a := 0) (b := 80) rfl) ?_
    refine Eq.trans (s_icne (y := 154) (pc := 38) (nx := 41) (b := 44) (tg := 44) rfl rfl) (ite_c ?_ ?_)
    · refine Eq.trans (s_push (y := 154) (pc := 41) (nx := 43) (a := 0) (b := (-2)) rfl) ?_
      exact s_ret (y := 154) (pc := 43) (nx := 44) (a := 0) rfl (by decide)
    · refine Eq.trans (s_load (y := 154) (pc := 44) (nx := 45) (a := 3) (b := 0) (x := 106) rfl rfl) ?_
      refine Eq.trans (s_load (y := 154) (pc := 45) (nx := 46) (a := 0) (b := 1) (x := x1) rfl rfl) ?_
      exact s_call (y := 154) (pc := 46) (nx := 49) (a := 153) (b := 0) (as := [(3, 106), (0, x1)]) (r := []) rfl (Nat.le_of_ble_eq_true rfl) rfl rfl (Nat.le_of_ble_eq_true rfl) (Nat.le_of_ble_eq_true rfl) (Or.inr ⟨rfl, mk_k106 _⟩)
  · refine Eq.trans (s_push (y := 154) (pc := 29) (nx := 31) (a := 0) (b := (-3)) rfl) ?_
    exact s_ret (y := 154) (pc := 31) (nx := 32) (a := 0) rfl (by decide)
theorem e_154_49 (D : Mem) (x1 : Int) (s0 : Int) : qE 154 49 [(3, 106), (0, x1), (9, 0)] [(0, s0)] (mk D) = some ((0, s0), (mk (mU D 106 12 0))) := by
  refine Eq.trans (s_store (y := 154) (pc := 49) (nx := 50) (a := 0) (b := 2) (ls' := [(3, 106), (0, x1), (0, s0)]) rfl (Nat.le_of_ble_eq_true rfl) rfl) ?_
  refine Eq.trans (s_load (y := 154) (pc := 50) (nx := 51) (a := 3) (b := 0) (x := 106) rfl rfl) ?_
  refine Eq.trans (s_push (y := 154) (pc := 51) (nx := 52) (a := 0) (b := 0) rfl) ?_
  refine Eq.trans (s_put (y := 154) (pc := 52) (nx := 55) (a := 10) (b := 12) (t := 0) (v := 0) (μ' := mk (mU D 106 12 0)) rfl (mk_k106 _) rfl (mu_106_12 _ _)) ?_
  refine Eq.trans (s_load (y := 154) (pc := 55) (nx := 56) (a := 0) (b := 2) (x := s0) rfl rfl) ?_
  exact s_ret (y := 154) (pc := 56) (nx := 57) (a := 0) rfl (by decide)
theorem r_155 (D : Mem) (x1 : Int) : qR 155 [(3, 106), (0, x1)] (mk D) = ((qR 143 [(3, 106), (0, x1)] (mk D)).bind fun w => qE 155 5 [(3, 106), (0, x1)] (psh w.1 []) w.2) := by
  show qE 155 0 [(3, 106), (0, x1)] [] (mk D) = _
  refine Eq.trans (s_load (y := 155) (pc := 0) (nx := 1) (a := 3) (b := 0) (x := 106) rfl rfl) ?_
  refine Eq.trans (s_load (y := 155) (pc := 1) (nx := 2) (a := 0) (b := 1) (x := x1) rfl rfl) ?_
  exact s_call (y := 155) (pc := 2) (nx := 5) (a := 143) (b := 0) (as := [(3, 106), (0, x1)]) (r := []) rfl (Nat.le_of_ble_eq_true rfl) rfl rfl (Nat.le_of_ble_eq_true rfl) (Nat.le_of_ble_eq_true rfl) (Or.inr ⟨rfl, mk_k106 _⟩)
theorem e_155_5 (D : Mem) (x1 : Int) (s0 : Int) : qE 155 5 [(3, 106), (0, x1)] [(0, s0)] (mk D) = (if s0 = 0 then some ((0, (-1)), (mk D)) else (if 0 ≤ x1 ∧ x1 < 80 then (if (D 112 x1) = 0 then some ((0, (-4)), (mk D)) else ((qR 151 [(3, 106), (0, x1)] (mk D)).bind fun w => qE 155 27 [(3, 106), (0, x1)] (psh w.1 []) w.2)) else none)) := by
  refine Eq.trans (s_ifne (y := 155) (pc := 5) (nx := 8) (b := 10) (tg := 10) rfl rfl) (ite_c ?_ ?_)
  · refine Eq.trans (s_push (y := 155) (pc := 8) (nx := 9) (a := 0) (b := (-1)) rfl) ?_
    exact s_ret (y := 155) (pc := 9) (nx := 10) (a := 0) rfl (by decide)
  · refine Eq.trans (s_load (y := 155) (pc := 10) (nx := 11) (a := 3) (b := 0) (x := 106) rfl rfl) ?_
    refine Eq.trans (s_get (y := 155) (pc := 11) (nx := 14) (a := 10) (b := 5) (t := 3) (v := 112) rfl (mk_k106 _) rfl (mk_106_5 _)) ?_
    refine Eq.trans (s_load (y := 155) (pc := 14) (nx := 15) (a := 0) (b := 1) (x := x1) rfl rfl) ?_
    refine Eq.trans (s_ald (y := 155) (pc := 15) (nx := 16) (a := 6) (b := 0) (k := 6) (n := 80) (t := 0) (v := (D 112 x1)) rfl (mk_k112 _) rfl rfl (mk_l112 _) (mk_c112 _ _)) (ite_c ?_ rfl)
    refine Eq.trans (s_ifne (y := 155) (pc := 16) (nx := 19) (b := 22) (tg := 22) rfl rfl) (ite_c ?_ ?_)
    · refine Eq.trans (s_push (y := 155) (pc := 19) (nx := 21) (a := 0) (b := (-4)) rfl) ?_
      exact s_ret (y := 155) (pc := 21) (nx := 22) (a := 0) rfl (by decide)
    · refine Eq.trans (s_load (y := 155) (pc := 22) (nx := 23) (a := 3) (b := 0) (x := 106) rfl rfl) ?_
      refine Eq.trans (s_load (y := 155) (pc := 23) (nx := 24) (a := 0) (b := 1) (x := x1) rfl rfl) ?_
      exact s_call (y := 155) (pc := 24) (nx := 27) (a := 151) (b := 0) (as := [(3, 106), (0, x1)]) (r := []) rfl (Nat.le_of_ble_eq_true rfl) rfl rfl (Nat.le_of_ble_eq_true rfl) (Nat.le_of_ble_eq_true rfl) (Or.inr ⟨rfl, mk_k106 _⟩)
theorem e_155_27 (D : Mem) (x1 : Int) : qE 155 27 [(3, 106), (0, x1)] [] (mk D) = some ((0, 1), (mk D)) := by
  refine Eq.trans (s_push (y := 155) (pc := 27) (nx := 28) (a := 0) (b := 1) rfl) ?_
  exact s_ret (y := 155) (pc := 28) (nx := 29) (a := 0) rfl (by decide)
theorem r_156 (D : Mem) (x1 : Int) (x2 : Int) : qR 156 [(3, 106), (0, x1), (0, x2)] (mk D) = ((qR 143 [(3, 106), (0, x1)] (mk D)).bind fun w => qE 156 5 [(3, 106), (0, x1), (0, x2)] (psh w.1 []) w.2) := by
  show qE 156 0 [(3, 106), (0, x1), (0, x2)] [] (mk D) = _
  refine Eq.trans (s_load (y := 156) (pc := 0) (nx := 1) (a := 3) (b := 0) (x := 106) rfl rfl) ?_
  refine Eq.trans (s_load (y := 156) (pc := 1) (nx := 2) (a := 0) (b := 1) (x := x1) rfl rfl) ?_
  exact s_call (y := 156) (pc := 2) (nx := 5) (a := 143) (b := 0) (as := [(3, 106), (0, x1)]) (r := []) rfl (Nat.le_of_ble_eq_true rfl) rfl rfl (Nat.le_of_ble_eq_true rfl) (Nat.le_of_ble_eq_true rfl) (Or.inr ⟨rfl, mk_k106 _⟩)
theorem e_156_5 (D : Mem) (x1 : Int) (x2 : Int) (s0 : Int) : qE 156 5 [(3, 106), (0, x1), (0, x2)] [(0, s0)] (mk D) = (if s0 = 0 then some ((0, (-1)), (mk D)) else ((qR 142 [(0, x2), (0, 1), (0, 1000000)] (mk D)).bind fun w => qE 156 15 [(3, 106), (0, x1), (0, x2)] (psh w.1 []) w.2)) := by
  refine Eq.trans (s_ifeq (y := 156) (pc := 5) (nx := 8) (b := 18) (tg := 18) rfl rfl) (ite_c ?_ ?_)
  · refine Eq.trans (s_push (y := 156) (pc := 18) (nx := 19) (a := 0) (b := (-1)) rfl) ?_
    exact s_ret (y := 156) (pc := 19) (nx := 20) (a := 0) rfl (by decide)
  · refine Eq.trans (s_load (y := 156) (pc := 8) (nx := 9) (a := 0) (b := 2) (x := x2) rfl rfl) ?_
    refine Eq.trans (s_push (y := 156) (pc := 9) (nx := 10) (a := 0) (b := 1) rfl) ?_
    refine Eq.trans (s_push (y := 156) (pc := 10) (nx := 12) (a := 0) (b := 1000000) rfl) ?_
    exact s_call (y := 156) (pc := 12) (nx := 15) (a := 142) (b := 0) (as := [(0, x2), (0, 1), (0, 1000000)]) (r := []) rfl (Nat.le_of_ble_eq_true rfl) rfl rfl (Nat.le_of_ble_eq_true rfl) (Nat.le_of_ble_eq_true rfl) (Or.inl rfl)
theorem e_156_15 (D : Mem) (x1 : Int) (x2 : Int) (s0 : Int) : qE 156 15 [(3, 106), (0, x1), (0, x2)] [(0, s0)] (mk D) = (if s0 = 0 then some ((0, (-1)), (mk D)) else (if 0 ≤ x1 ∧ x1 < 80 then (if (D 112 x1) = 0 then some ((0, (-4)), (mk D)) else (if 0 ≤ x1 ∧ x1 < 80 then some ((0, 1), (mk (mU D 110 x1 x2))) else none)) else none)) := by
  refine Eq.trans (s_ifne (y := 156) (pc := 15) (nx := 18) (b := 20) (tg := 20) rfl rfl) (ite_c ?_ ?_)
  · refine Eq.trans (s_push (y := 156) (pc := 18) (nx := 19) (a := 0) (b := (-1)) rfl) ?_
    exact s_ret (y := 156) (pc := 19) (nx := 20) (a := 0) rfl (by decide)
  · refine Eq.trans (s_load (y := 156) (pc := 20) (nx := 21) (a := 3) (b := 0) (x := 106) rfl rfl) ?_
    refine Eq.trans (s_get (y := 156) (pc := 21) (nx := 24) (a := 10) (b := 5) (t := 3) (v := 112) rfl (mk_k106 _) rfl (mk_106_5 _)) ?_
    refine Eq.trans (s_load (y := 156) (pc := 24) (nx := 25) (a := 0) (b := 1) (x := x1) rfl rfl) ?_
    refine Eq.trans (s_ald (y := 156) (pc := 25) (nx := 26) (a := 6) (b := 0) (k := 6) (n := 80) (t := 0) (v := (D 112 x1)) rfl (mk_k112 _) rfl rfl (mk_l112 _) (mk_c112 _ _)) (ite_c ?_ rfl)
    refine Eq.trans (s_ifne (y := 156) (pc := 26) (nx := 29) (b := 32) (tg := 32) rfl rfl) (ite_c ?_ ?_)
    · refine Eq.trans (s_push (y := 156) (pc := 29) (nx := 31) (a := 0) (b := (-4)) rfl) ?_
      exact s_ret (y := 156) (pc := 31) (nx := 32) (a := 0) rfl (by decide)
    · refine Eq.trans (s_load (y := 156) (pc := 32) (nx := 33) (a := 3) (b := 0) (x := 106) rfl rfl) ?_
      refine Eq.trans (s_get (y := 156) (pc := 33) (nx := 36) (a := 10) (b := 3) (t := 3) (v := 110) rfl (mk_k106 _) rfl (mk_106_3 _)) ?_
      refine Eq.trans (s_load (y := 156) (pc := 36) (nx := 37) (a := 0) (b := 1) (x := x1) rfl rfl) ?_
      refine Eq.trans (s_load (y := 156) (pc := 37) (nx := 38) (a := 0) (b := 2) (x := x2) rfl rfl) ?_
      refine Eq.trans (s_ast (y := 156) (pc := 38) (nx := 39) (a := 1) (b := 0) (k := 1) (n := 80) (t := 0) (v := x2) (μ' := mk (mU D 110 x1 x2)) rfl (by decide) (mk_k110 _) rfl (mk_l110 _) (mu_110 _ _ _)) (ite_c ?_ rfl)
      refine Eq.trans (s_push (y := 156) (pc := 39) (nx := 40) (a := 0) (b := 1) rfl) ?_
      exact s_ret (y := 156) (pc := 40) (nx := 41) (a := 0) rfl (by decide)
theorem r_157 (D : Mem) : qR 157 [(3, 106)] (mk D) = qE 157 4 [(3, 106), (0, 0), (0, 0)] [] (mk D) := by
  show qE 157 0 [(3, 106), (9, 0), (9, 0)] [] (mk D) = _
  refine Eq.trans (s_push (y := 157) (pc := 0) (nx := 1) (a := 0) (b := 0) rfl) ?_
  refine Eq.trans (s_store (y := 157) (pc := 1) (nx := 2) (a := 0) (b := 1) (ls' := [(3, 106), (0, 0), (9, 0)]) rfl (Nat.le_of_ble_eq_true rfl) rfl) ?_
  refine Eq.trans (s_push (y := 157) (pc := 2) (nx := 3) (a := 0) (b := 0) rfl) ?_
  refine Eq.trans (s_store (y := 157) (pc := 3) (nx := 4) (a := 0) (b := 2) (ls' := [(3, 106), (0, 0), (0, 0)]) rfl (Nat.le_of_ble_eq_true rfl) rfl) ?_
  rfl
theorem e_157_4 (D : Mem) (x1 : Int) (x2 : Int) : qE 157 4 [(3, 106), (0, x1), (0, x2)] [] (mk D) = (if x2 < 6400 then (if 0 ≤ x2 ∧ x2 < 6400 then (if (D 113 x2) ≤ 0 then qE 157 4 [(3, 106), (0, (w32 (x1 + 0))), (0, (w32 (x2 + 1)))] [] (mk D) else qE 157 4 [(3, 106), (0, (w32 (x1 + 1))), (0, (w32 (x2 + 1)))] [] (mk D)) else none) else some ((0, x1), (mk D))) := by
  refine Eq.trans (s_load (y := 157) (pc := 4) (nx := 5) (a := 0) (b := 2) (x := x2) rfl rfl) ?_
  refine Eq.trans (s_push (y := 157) (pc := 5) (nx := 8) (a := 0) (b := 6400) rfl) ?_
  refine Eq.trans (s_icge (y := 157) (pc := 8) (nx := 11) (b := 34) (tg := 34) rfl rfl) (ite_c ?_ ?_)
  · refine Eq.trans (s_load (y := 157) (pc := 11) (nx := 12) (a := 0) (b := 1) (x := x1) rfl rfl) ?_
    refine Eq.trans (s_load (y := 157) (pc := 12) (nx := 13) (a := 3) (b := 0) (x := 106) rfl rfl) ?_
    refine Eq.trans (s_get (y := 157) (pc := 13) (nx := 16) (a := 10) (b := 7) (t := 3) (v := 113) rfl (mk_k106 _) rfl (mk_106_7 _)) ?_
    refine Eq.trans (s_load (y := 157) (pc := 16) (nx := 17) (a := 0) (b := 2) (x := x2) rfl rfl) ?_
    refine Eq.trans (s_ald (y := 157) (pc := 17) (nx := 18) (a := 1) (b := 0) (k := 1) (n := 6400) (t := 0) (v := (D 113 x2)) rfl (mk_k113 _) rfl rfl (mk_l113 _) (mk_c113 _ _)) (ite_c ?_ rfl)
    refine Eq.trans (s_ifle (y := 157) (pc := 18) (nx := 21) (b := 25) (tg := 25) rfl rfl) (ite_c ?_ ?_)
    · refine Eq.trans (s_push (y := 157) (pc := 25) (nx := 26) (a := 0) (b := 0) rfl) ?_
      refine Eq.trans (s_add (y := 157) (pc := 26) (nx := 27) (b := 0) rfl) ?_
      refine Eq.trans (s_store (y := 157) (pc := 27) (nx := 28) (a := 0) (b := 1) (ls' := [(3, 106), (0, (w32 (x1 + 0))), (0, x2)]) rfl (Nat.le_of_ble_eq_true rfl) rfl) ?_
      refine Eq.trans (s_iinc (y := 157) (pc := 28) (nx := 31) (a := 2) (b := 1) (x := x2) (ls' := [(3, 106), (0, (w32 (x1 + 0))), (0, (w32 (x2 + 1)))]) rfl rfl rfl) ?_
      refine Eq.trans (s_goto (y := 157) (pc := 31) (nx := 34) (a := 0) (b := 4) (tg := 4) rfl rfl) ?_
      rfl
    · refine Eq.trans (s_push (y := 157) (pc := 21) (nx := 22) (a := 0) (b := 1) rfl) ?_
      refine Eq.trans (s_goto (y := 157) (pc := 22) (nx := 25) (a := 0) (b := 26) (tg := 26) rfl rfl) ?_
      refine Eq.trans (s_add (y := 157) (pc := 26) (nx := 27) (b := 0) rfl) ?_
      refine Eq.trans (s_store (y := 157) (pc := 27) (nx := 28) (a := 0) (b := 1) (ls' := [(3, 106), (0, (w32 (x1 + 1))), (0, x2)]) rfl (Nat.le_of_ble_eq_true rfl) rfl) ?_
      refine Eq.trans (s_iinc (y := 157) (pc := 28) (nx := 31) (a := 2) (b := 1) (x := x2) (ls' := [(3, 106), (0, (w32 (x1 + 1))), (0, (w32 (x2 + 1)))]) rfl rfl rfl) ?_
      refine Eq.trans (s_goto (y := 157) (pc := 31) (nx := 34) (a := 0) (b := 4) (tg := 4) rfl rfl) ?_
      rfl
  · refine Eq.trans (s_load (y := 157) (pc := 34) (nx := 35) (a := 0) (b := 1) (x := x1) rfl rfl) ?_
    exact s_ret (y := 157) (pc := 35) (nx := 36) (a := 0) rfl (by decide)
theorem r_158 (D : Mem) (x1 : Int) (x2 : Int) (x3 : Int) : qR 158 [(3, 106), (0, x1), (0, x2), (0, x3)] (mk D) = ((qR 143 [(3, 106), (0, x1)] (mk D)).bind fun w => qE 158 5 [(3, 106), (0, x1), (0, x2), (0, x3)] (psh w.1 []) w.2) := by
  show qE 158 0 [(3, 106), (0, x1), (0, x2), (0, x3)] [] (mk D) = _
  refine Eq.trans (s_load (y := 158) (pc := 0) (nx := 1) (a := 3) (b := 0) (x := 106) rfl rfl) ?_
  refine Eq.trans (s_load (y := 158) (pc := 1) (nx := 2) (a := 0) (b := 1) (x := x1) rfl rfl) ?_
  exact s_call (y := 158) (pc := 2) (nx := 5) (a := 143) (b := 0) (as := [(3, 106), (0, x1)]) (r := []) rfl (Nat.le_of_ble_eq_true rfl) rfl rfl (Nat.le_of_ble_eq_true rfl) (Nat.le_of_ble_eq_true rfl) (Or.inr ⟨rfl, mk_k106 _⟩)
theorem e_158_5 (D : Mem) (x1 : Int) (x2 : Int) (x3 : Int) (s0 : Int) : qE 158 5 [(3, 106), (0, x1), (0, x2), (0, x3)] [(0, s0)] (mk D) = (if s0 = 0 then some ((0, (-1)), (mk D)) else ((qR 143 [(3, 106), (0, x2)] (mk D)).bind fun w => qE 158 13 [(3, 106), (0, x1), (0, x2), (0, x3)] (psh w.1 []) w.2)) := by
  refine Eq.trans (s_ifeq (y := 158) (pc := 5) (nx := 8) (b := 26) (tg := 26) rfl rfl) (ite_c ?_ ?_)
  · refine Eq.trans (s_push (y := 158) (pc := 26) (nx := 27) (a := 0) (b := (-1)) rfl) ?_
    exact s_ret (y := 158) (pc := 27) (nx := 28) (a := 0) rfl (by decide)
  · refine Eq.trans (s_load (y := 158) (pc := 8) (nx := 9) (a := 3) (b := 0) (x := 106) rfl rfl) ?_
    refine Eq.trans (s_load (y := 158) (pc := 9) (nx := 10) (a := 0) (b := 2) (x := x2) rfl rfl) ?_
    exact s_call (y := 158) (pc := 10) (nx := 13) (a := 143) (b := 0) (as := [(3, 106), (0, x2)]) (r := []) rfl (Nat.le_of_ble_eq_true rfl) rfl rfl (Nat.le_of_ble_eq_true rfl) (Nat.le_of_ble_eq_true rfl) (Or.inr ⟨rfl, mk_k106 _⟩)
theorem e_158_13 (D : Mem) (x1 : Int) (x2 : Int) (x3 : Int) (s0 : Int) : qE 158 13 [(3, 106), (0, x1), (0, x2), (0, x3)] [(0, s0)] (mk D) = (if s0 = 0 then some ((0, (-1)), (mk D)) else ((qR 142 [(0, x3), (0, 0), (0, 1000000)] (mk D)).bind fun w => qE 158 23 [(3, 106), (0, x1), (0, x2), (0, x3)] (psh w.1 []) w.2)) := by
  refine Eq.trans (s_ifeq (y := 158) (pc := 13) (nx := 16) (b := 26) (tg := 26) rfl rfl) (ite_c ?_ ?_)
  · refine Eq.trans (s_push (y := 158) (pc := 26) (nx := 27) (a := 0) (b := (-1)) rfl) ?_
    exact s_ret (y := 158) (pc := 27) (nx := 28) (a := 0) rfl (by decide)
  · refine Eq.trans (s_load (y := 158) (pc := 16) (nx := 17) (a := 0) (b := 3) (x := x3) rfl rfl) ?_
    refine Eq.trans (s_push (y := 158) (pc := 17) (nx := 18) (a := 0) (b := 0) rfl) ?_
    refine Eq.trans (s_push (y := 158) (pc := 18) (nx := 20) (a := 0) (b := 1000000) rfl) ?_
    exact s_call (y := 158) (pc := 20) (nx := 23) (a := 142) (b := 0) (as := [(0, x3), (0, 0), (0, 1000000)]) (r := []) rfl (Nat.le_of_ble_eq_true rfl) rfl rfl (Nat.le_of_ble_eq_true rfl) (Nat.le_of_ble_eq_true rfl) (Or.inl rfl)
theorem e_158_23 (D : Mem) (x1 : Int) (x2 : Int) (x3 : Int) (s0 : Int) : qE 158 23 [(3, 106), (0, x1), (0, x2), (0, x3)] [(0, s0)] (mk D) = (if s0 = 0 then some ((0, (-1)), (mk D)) else (if 0 ≤ x1 ∧ x1 < 80 then (if (D 112 x1) = 0 then some ((0, (-4)), (mk D)) else (if 0 ≤ x2 ∧ x2 < 80 then (if (D 112 x2) = 0 then some ((0, (-4)), (mk D)) else (if 0 ≤ (w32 ((w32 (80 * x1)) + x2)) ∧ (w32 ((w32 (80 * x1)) + x2)) < 6400 then (if (D 113 (w32 ((w32 (80 * x1)) + x2))) = 0 then ((qR 157 [(3, 106)] (mk D)).bind fun w => qE 158 67 [(3, 106), (0, x1), (0, x2), (0, x3)] (psh w.1 []) w.2) else qE 158 76 [(3, 106), (0, x1), (0, x2), (0, x3)] [] (mk D)) else none)) else none)) else none)) := by
  refine Eq.trans (s_ifne (y := 158) (pc := 23) (nx := 26) (b := 28) (tg := 28) rfl rfl) (ite_c ?_ ?_)
  · refine Eq.trans (s_push (y := 158) (pc := 26) (nx := 27) (a := 0) (b := (-1)) rfl) ?_
    exact s_ret (y := 158) (pc := 27) (nx := 28) (a := 0) rfl (by decide)
  · refine Eq.trans (s_load (y := 158) (pc := 28) (nx := 29) (a := 3) (b := 0) (x := 106) rfl rfl) ?_
    refine Eq.trans (s_get (y := 158) (pc := 29) (nx := 32) (a := 10) (b := 5) (t := 3) (v := 112) rfl (mk_k106 _) rfl (mk_106_5 _)) ?_
    refine Eq.trans (s_load (y := 158) (pc := 32) (nx := 33) (a := 0) (b := 1) (x := x1) rfl rfl) ?_
    refine Eq.trans (s_ald (y := 158) (pc := 33) (nx := 34) (a := 6) (b := 0) (k := 6) (n := 80) (t := 0) (v := (D 112 x1)) rfl (mk_k112 _) rfl rfl (mk_l112 _) (mk_c112 _ _)) (ite_c ?_ rfl)
    refine Eq.trans (s_ifeq (y := 158) (pc := 34) (nx := 37) (b := 46) (tg := 46) rfl rfl) (ite_c ?_ ?_)
    · refine Eq.trans (s_push (y := 158) (pc := 46) (nx := 48) (a := 0) (b := (-4)) rfl) ?_
      exact s_ret (y := 158) (pc := 48) (nx := 49) (a := 0) rfl (by decide)
    · refine Eq.trans (s_load (y := 158) (pc := 37) (nx := 38) (a := 3) (b := 0) (x := 106) rfl rfl) ?_
      refine Eq.trans (s_get (y := 158) (pc := 38) (nx := 41) (a := 10) (b := 5) (t := 3) (v := 112) rfl (mk_k106 _) rfl (mk_106_5 _)) ?_
      refine Eq.trans (s_load (y := 158) (pc := 41) (nx := 42) (a := 0) (b := 2) (x := x2) rfl rfl) ?_
      refine Eq.trans (s_ald (y := 158) (pc := 42) (nx := 43) (a := 6) (b := 0) (k := 6) (n := 80) (t := 0) (v := (D 112 x2)) rfl (mk_k112 _) rfl rfl (mk_l112 _) (mk_c112 _ _)) (ite_c ?_ rfl)
      refine Eq.trans (s_ifne (y := 158) (pc := 43) (nx := 46) (b := 49) (tg := 49) rfl rfl) (ite_c ?_ ?_)
      · refine Eq.trans (s_push (y := 158) (pc := 46) (nx := 48) (a := 0) (b := (-4)) rfl) ?_
        exact s_ret (y := 158) (pc := 48) (nx := 49) (a := 0) rfl (by decide)
      · refine Eq.trans (s_load (y := 158) (pc := 49) (nx := 50) (a := 3) (b := 0) (x := 106) rfl rfl) ?_
        refine Eq.trans (s_get (y := 158) (pc := 50) (nx := 53) (a := 10) (b := 7) (t := 3) (v := 113) rfl (mk_k106 _) rfl (mk_106_7 _)) ?_
        refine Eq.trans (s_push (y := 158) (pc := 53) (nx := 55) (a := 0) (b := 80) rfl) ?_
        refine Eq.trans (s_load (y := 158) (pc := 55) (nx := 56) (a := 0) (b := 1) (x := x1) rfl rfl) ?_
        refine Eq.trans (s_mul (y := 158) (pc := 56) (nx := 57) (b := 0) rfl) ?_
        refine Eq.trans (s_load (y := 158) (pc := 57) (nx := 58) (a := 0) (b := 2) (x := x2) rfl rfl) ?_
        refine Eq.trans (s_add (y := 158) (pc := 58) (nx := 59) (b := 0) rfl) ?_
        refine Eq.trans (s_ald (y := 158) (pc := 59) (nx := 60) (a := 1) (b := 0) (k := 1) (n := 6400) (t := 0) (v := (D 113 (w32 ((w32 (80 * x1)) + x2)))) rfl (mk_k113 _) rfl rfl (mk_l113 _) (mk_c113 _ _)) (ite_c ?_ rfl)
        refine Eq.trans (s_ifne (y := 158) (pc := 60) (nx := 63) (b := 76) (tg := 76) rfl rfl) (ite_c ?_ ?_)
        · refine Eq.trans (s_load (y := 158) (pc := 63) (nx := 64) (a := 3) (b := 0) (x := 106) rfl rfl) ?_
          exact s_call (y := 158) (pc := 64) (nx := 67) (a := 157) (b := 0) (as := [(3, 106)]) (r := []) rfl (Nat.le_of_ble_eq_true rfl) rfl rfl (Nat.le_of_ble_eq_true rfl) (Nat.le_of_ble_eq_true rfl) (Or.inr ⟨rfl, mk_k106 _⟩)
        · rfl
theorem e_158_67 (D : Mem) (x1 : Int) (x2 : Int) (x3 : Int) (s0 : Int) : qE 158 67 [(3, 106), (0, x1), (0, x2), (0, x3)] [(0, s0)] (mk D) = (if s0 = 150 then some ((0, (-2)), (mk D)) else qE 158 76 [(3, 106), (0, x1), (0, x2), (0, x3)] [] (mk D)) := by
  refine Eq.trans (s_push (y := 158) (pc := 67) (nx := 70) (a := 0) (b := 150) rfl) ?_
  refine Eq.trans (s_icne (y := 158) (pc := 70) (nx := 73) (b := 76) (tg := 76) rfl rfl) (ite_c ?_ ?_)
  · refine Eq.trans (s_push (y := 158) (pc := 73) (nx := 75) (a := 0) (b := (-2)) rfl) ?_
    exact s_ret (y := 158) (pc := 75) (nx := 76) (a := 0) rfl (by decide)
  · rfl
theorem e_158_76 (D : Mem) (x1 : Int) (x2 : Int) (x3 : Int) : qE 158 76 [(3, 106), (0, x1), (0, x2), (0, x3)] [] (mk D) = (if 0 ≤ (w32 ((w32 (80 * x1)) + x2)) ∧ (w32 ((w32 (80 * x1)) + x2)) < 6400 then some ((0, 1), (mk (mU D 113 (w32 ((w32 (80 * x1)) + x2)) x3))) else none) := by
  refine Eq.trans (s_load (y := 158) (pc := 76) (nx := 77) (a := 3) (b := 0) (x := 106) rfl rfl) ?_
  refine Eq.trans (s_get (y := 158) (pc := 77) (nx := 80) (a := 10) (b := 7) (t := 3) (v := 113) rfl (mk_k106 _) rfl (mk_106_7 _)) ?_
  refine Eq.trans (s_push (y := 158) (pc := 80) (nx := 82) (a := 0) (b := 80) rfl) ?_
  refine Eq.trans (s_load (y := 158) (pc := 82) (nx := 83) (a := 0) (b := 1) (x := x1) rfl rfl) ?_
  refine Eq.trans (s_mul (y := 158) (pc := 83) (nx := 84) (b := 0) rfl) ?_
  refine Eq.trans (s_load (y := 158) (pc := 84) (nx := 85) (a := 0) (b := 2) (x := x2) rfl rfl) ?_
  refine Eq.trans (s_add (y := 158) (pc := 85) (nx := 86) (b := 0) rfl) ?_
  refine Eq.trans (s_load (y := 158) (pc := 86) (nx := 87) (a := 0) (b := 3) (x := x3) rfl rfl) ?_
  refine Eq.trans (s_ast (y := 158) (pc := 87) (nx := 88) (a := 1) (b := 0) (k := 1) (n := 6400) (t := 0) (v := x3) (μ' := mk (mU D 113 (w32 ((w32 (80 * x1)) + x2)) x3)) rfl (by decide) (mk_k113 _) rfl (mk_l113 _) (mu_113 _ _ _)) (ite_c ?_ rfl)
  refine Eq.trans (s_push (y := 158) (pc := 88) (nx := 89) (a := 0) (b := 1) rfl) ?_
  exact s_ret (y := 158) (pc := 89) (nx := 90) (a := 0) rfl (by decide)
theorem r_159 (D : Mem) : qR 159 [(3, 106)] (mk D) = (if (D 106 16) ≤ 0 then some ((0, (-1)), (mk D)) else (if 0 ≤ (w32 ((D 106 16) - 1)) ∧ (w32 ((D 106 16) - 1)) < 60 then (if 0 ≤ (D 117 (w32 ((D 106 16) - 1))) ∧ (D 117 (w32 ((D 106 16) - 1))) < 80 then (if (D 112 (D 117 (w32 ((D 106 16) - 1)))) = 0 then some ((0, (-1)), (mk D)) else (if 0 ≤ (w32 ((D 106 16) - 1)) ∧ (w32 ((D 106 16) - 1)) < 60 then some ((0, (D 117 (w32 ((D 106 16) - 1)))), (mk D)) else none)) else none) else none)) := by
  show qE 159 0 [(3, 106)] [] (mk D) = _
  refine Eq.trans (s_load (y := 159) (pc := 0) (nx := 1) (a := 3) (b := 0) (x := 106) rfl rfl) ?_
  refine Eq.trans (s_get (y := 159) (pc := 1) (nx := 4) (a := 10) (b := 16) (t := 0) (v := (D 106 16)) rfl (mk_k106 _) rfl (mk_106_16 _)) ?_
  refine Eq.trans (s_ifle (y := 159) (pc := 4) (nx := 7) (b := 40) (tg := 40) rfl rfl) (ite_c ?_ ?_)
  · refine Eq.trans (s_push (y := 159) (pc := 40) (nx := 41) (a := 0) (b := (-1)) rfl) ?_
    exact s_ret (y := 159) (pc := 41) (nx := 42) (a := 0) rfl (by decide)
  · refine Eq.trans (s_load (y := 159) (pc := 7) (nx := 8) (a := 3) (b := 0) (x := 106) rfl rfl) ?_
    refine Eq.trans (s_get (y := 159) (pc := 8) (nx := 11) (a := 10) (b := 5) (t := 3) (v := 112) rfl (mk_k106 _) rfl (mk_106_5 _)) ?_
    refine Eq.trans (s_load (y := 159) (pc := 11) (nx := 12) (a := 3) (b := 0) (x := 106) rfl rfl) ?_
    refine Eq.trans (s_get (y := 159) (pc := 12) (nx := 15) (a := 10) (b := 15) (t := 3) (v := 117) rfl (mk_k106 _) rfl (mk_106_15 _)) ?_
    refine Eq.trans (s_load (y := 159) (pc := 15) (nx := 16) (a := 3) (b := 0) (x := 106) rfl rfl) ?_
    refine Eq.trans (s_get (y := 159) (pc := 16) (nx := 19) (a := 10) (b := 16) (t := 0) (v := (D 106 16)) rfl (mk_k106 _) rfl (mk_106_16 _)) ?_
    refine Eq.trans (s_push (y := 159) (pc := 19) (nx := 20) (a := 0) (b := 1) rfl) ?_
    refine Eq.trans (s_sub (y := 159) (pc := 20) (nx := 21) (b := 0) rfl) ?_
    refine Eq.trans (s_ald (y := 159) (pc := 21) (nx := 22) (a := 1) (b := 0) (k := 1) (n := 60) (t := 0) (v := (D 117 (w32 ((D 106 16) - 1)))) rfl (mk_k117 _) rfl rfl (mk_l117 _) (mk_c117 _ _)) (ite_c ?_ rfl)
    refine Eq.trans (s_ald (y := 159) (pc := 22) (nx := 23) (a := 6) (b := 0) (k := 6) (n := 80) (t := 0) (v := (D 112 (D 117 (w32 ((D 106 16) - 1))))) rfl (mk_k112 _) rfl rfl (mk_l112 _) (mk_c112 _ _)) (ite_c ?_ rfl)
    refine Eq.trans (s_ifeq (y := 159) (pc := 23) (nx := 26) (b := 40) (tg := 40) rfl rfl) (ite_c ?_ ?_)
    · refine Eq.trans (s_push (y := 159) (pc := 40) (nx := 41) (a := 0) (b := (-1)) rfl) ?_
      exact s_ret (y := 159) (pc := 41) (nx := 42) (a := 0) rfl (by decide)
    · refine Eq.trans (s_load (y := 159) (pc := 26) (nx := 27) (a := 3) (b := 0) (x := 106) rfl rfl) ?_
      refine Eq.trans (s_get (y := 159) (pc := 27) (nx := 30) (a := 10) (b := 15) (t := 3) (v := 117) rfl (mk_k106 _) rfl (mk_106_15 _)) ?_
      refine Eq.trans (s_load (y := 159) (pc := 30) (nx := 31) (a := 3) (b := 0) (x := 106) rfl rfl) ?_
      refine Eq.trans (s_get (y := 159) (pc := 31) (nx := 34) (a := 10) (b := 16) (t := 0) (v := (D 106 16)) rfl (mk_k106 _) rfl (mk_106_16 _)) ?_
      refine Eq.trans (s_push (y := 159) (pc := 34) (nx := 35) (a := 0) (b := 1) rfl) ?_
      refine Eq.trans (s_sub (y := 159) (pc := 35) (nx := 36) (b := 0) rfl) ?_
      refine Eq.trans (s_ald (y := 159) (pc := 36) (nx := 37) (a := 1) (b := 0) (k := 1) (n := 60) (t := 0) (v := (D 117 (w32 ((D 106 16) - 1)))) rfl (mk_k117 _) rfl rfl (mk_l117 _) (mk_c117 _ _)) (ite_c ?_ rfl)
      refine Eq.trans (s_goto (y := 159) (pc := 37) (nx := 40) (a := 0) (b := 41) (tg := 41) rfl rfl) ?_
      exact s_ret (y := 159) (pc := 41) (nx := 42) (a := 0) rfl (by decide)
theorem r_160 (D : Mem) (x1 : Int) (x2 : Int) : qR 160 [(3, 106), (0, x1), (0, x2)] (mk D) = (if x2 < 0 then qE 160 19 [(3, 106), (0, x1), (0, x2), (9, 0), (9, 0), (9, 0), (9, 0)] [(0, 0)] (mk D) else (if 0 ≤ (w32 ((w32 (80 * x2)) + x1)) ∧ (w32 ((w32 (80 * x2)) + x1)) < 6400 then qE 160 19 [(3, 106), (0, x1), (0, x2), (9, 0), (9, 0), (9, 0), (9, 0)] [(0, (D 113 (w32 ((w32 (80 * x2)) + x1))))] (mk D) else none)) := by
  show qE 160 0 [(3, 106), (0, x1), (0, x2), (9, 0), (9, 0), (9, 0), (9, 0)] [] (mk D) = _
  refine Eq.trans (s_load (y := 160) (pc := 0) (nx := 1) (a := 0) (b := 2) (x := x2) rfl rfl) ?_
  refine Eq.trans (s_ifge (y := 160) (pc := 1) (nx := 4) (b := 8) (tg := 8) rfl rfl) (ite_c ?_ ?_)
  · refine Eq.trans (s_push (y := 160) (pc := 4) (nx := 5) (a := 0) (b := 0) rfl) ?_
    refine Eq.trans (s_goto (y := 160) (pc := 5) (nx := 8) (a := 0) (b := 19) (tg := 19) rfl rfl) ?_
    rfl
  · refine Eq.trans (s_load (y := 160) (pc := 8) (nx := 9) (a := 3) (b := 0) (x := 106) rfl rfl) ?_
    refine Eq.trans (s_get (y := 160) (pc := 9) (nx := 12) (a := 10) (b := 7) (t := 3) (v := 113) rfl (mk_k106 _) rfl (mk_106_7 _)) ?_
    refine Eq.trans (s_push (y := 160) (pc := 12) (nx := 14) (a := 0) (b := 80) rfl) ?_
    refine Eq.trans (s_load (y := 160) (pc := 14) (nx := 15) (a := 0) (b := 2) (x := x2) rfl rfl) ?_
    refine Eq.trans (s_mul (y := 160) (pc := 15) (nx := 16) (b := 0) rfl) ?_
    refine Eq.trans (s_load (y := 160) (pc := 16) (nx := 17) (a := 0) (b := 1) (x := x1) rfl rfl) ?_
    refine Eq.trans (s_add (y := 160) (pc := 17) (nx := 18) (b := 0) rfl) ?_
    refine Eq.trans (s_ald (y := 160) (pc := 18) (nx := 19) (a := 1) (b := 0) (k := 1) (n := 6400) (t := 0) (v := (D 113 (w32 ((w32 (80 * x2)) + x1)))) rfl (mk_k113 _) rfl rfl (mk_l113 _) (mk_c113 _ _)) (ite_c ?_ rfl)
    rfl
theorem e_160_19 (D : Mem) (x1 : Int) (x2 : Int) (s0 : Int) : qE 160 19 [(3, 106), (0, x1), (0, x2), (9, 0), (9, 0), (9, 0), (9, 0)] [(0, s0)] (mk D) = (if 0 ≤ x1 ∧ x1 < 80 then ((bF 1 ((FP.i2f (Int32.ofInt (D 110 x1))).toNat : Int) ((FP.i2f (Int32.ofInt (w32 (100 - (D 106 9))))).toNat : Int)).bind fun z35 => ((bF 1 ((FP.i2f (Int32.ofInt s0)).toNat : Int) ((FP.i2f (Int32.ofInt (D 106 9))).toNat : Int)).bind fun z45 => ((bF 0 z35 z45).bind fun z52 => ((bF 2 z52 1120403456).bind fun z55 => ((bF 1 z55 1120403456).bind fun z62 => some ((0, (FP.f2i (u32 z62)).toInt), (mk D))))))) else none) := by
  refine Eq.trans (s_store (y := 160) (pc := 19) (nx := 20) (a := 0) (b := 3) (ls' := [(3, 106), (0, x1), (0, x2), (0, s0), (9, 0), (9, 0), (9, 0)]) rfl (Nat.le_of_ble_eq_true rfl) rfl) ?_
  refine Eq.trans (s_load (y := 160) (pc := 20) (nx := 21) (a := 3) (b := 0) (x := 106) rfl rfl) ?_
  refine Eq.trans (s_get (y := 160) (pc := 21) (nx := 24) (a := 10) (b := 3) (t := 3) (v := 110) rfl (mk_k106 _) rfl (mk_106_3 _)) ?_
  refine Eq.trans (s_load (y := 160) (pc := 24) (nx := 25) (a := 0) (b := 1) (x := x1) rfl rfl) ?_
  refine Eq.trans (s_ald (y := 160) (pc := 25) (nx := 26) (a := 1) (b := 0) (k := 1) (n := 80) (t := 0) (v := (D 110 x1)) rfl (mk_k110 _) rfl rfl (mk_l110 _) (mk_c110 _ _)) (ite_c ?_ rfl)
  refine Eq.trans (s_i2f (y := 160) (pc := 26) (nx := 27) (b := 0) rfl) ?_
  refine Eq.trans (s_push (y := 160) (pc := 27) (nx := 29) (a := 0) (b := 100) rfl) ?_
  refine Eq.trans (s_load (y := 160) (pc := 29) (nx := 30) (a := 3) (b := 0) (x := 106) rfl rfl) ?_
  refine Eq.trans (s_get (y := 160) (pc := 30) (nx := 33) (a := 10) (b := 9) (t := 0) (v := (D 106 9)) rfl (mk_k106 _) rfl (mk_106_9 _)) ?_
  refine Eq.trans (s_sub (y := 160) (pc := 33) (nx := 34) (b := 0) rfl) ?_
  refine Eq.trans (s_i2f (y := 160) (pc := 34) (nx := 35) (b := 0) rfl) ?_
  refine Eq.trans (s_bF (y := 160) (pc := 35) (nx := 36) (a := 1) (b := 0) rfl) (bind_c fun z35 => ?_)
  refine Eq.trans (s_store (y := 160) (pc := 36) (nx := 38) (a := 2) (b := 4) (ls' := [(3, 106), (0, x1), (0, x2), (0, s0), (2, z35), (9, 0), (9, 0)]) rfl (Nat.le_of_ble_eq_true rfl) rfl) ?_
  refine Eq.trans (s_load (y := 160) (pc := 38) (nx := 39) (a := 0) (b := 3) (x := s0) rfl rfl) ?_
  refine Eq.trans (s_i2f (y := 160) (pc := 39) (nx := 40) (b := 0) rfl) ?_
  refine Eq.trans (s_load (y := 160) (pc := 40) (nx := 41) (a := 3) (b := 0) (x := 106) rfl rfl) ?_
  refine Eq.trans (s_get (y := 160) (pc := 41) (nx := 44) (a := 10) (b := 9) (t := 0) (v := (D 106 9)) rfl (mk_k106 _) rfl (mk_106_9 _)) ?_
  refine Eq.trans (s_i2f (y := 160) (pc := 44) (nx := 45) (b := 0) rfl) ?_
  refine Eq.trans (s_bF (y := 160) (pc := 45) (nx := 46) (a := 1) (b := 0) rfl) (bind_c fun z45 => ?_)
  refine Eq.trans (s_store (y := 160) (pc := 46) (nx := 48) (a := 2) (b := 5) (ls' := [(3, 106), (0, x1), (0, x2), (0, s0), (2, z35), (2, z45), (9, 0)]) rfl (Nat.le_of_ble_eq_true rfl) rfl) ?_
  refine Eq.trans (s_load (y := 160) (pc := 48) (nx := 50) (a := 2) (b := 4) (x := z35) rfl rfl) ?_
  refine Eq.trans (s_load (y := 160) (pc := 50) (nx := 52) (a := 2) (b := 5) (x := z45) rfl rfl) ?_
  refine Eq.trans (s_bF (y := 160) (pc := 52) (nx := 53) (a := 0) (b := 0) rfl) (bind_c fun z52 => ?_)
  refine Eq.trans (s_push (y := 160) (pc := 53) (nx := 55) (a := 2) (b := 1120403456) rfl) ?_
  refine Eq.trans (s_bF (y := 160) (pc := 55) (nx := 56) (a := 2) (b := 0) rfl) (bind_c fun z55 => ?_)
  refine Eq.trans (s_store (y := 160) (pc := 56) (nx := 58) (a := 2) (b := 6) (ls' := [(3, 106), (0, x1), (0, x2), (0, s0), (2, z35), (2, z45), (2, z55)]) rfl (Nat.le_of_ble_eq_true rfl) rfl) ?_
  refine Eq.trans (s_load (y := 160) (pc := 58) (nx := 60) (a := 2) (b := 6) (x := z55) rfl rfl) ?_
  refine Eq.trans (s_push (y := 160) (pc := 60) (nx := 62) (a := 2) (b := 1120403456) rfl) ?_
  refine Eq.trans (s_bF (y := 160) (pc := 62) (nx := 63) (a := 1) (b := 0) rfl) (bind_c fun z62 => ?_)
  refine Eq.trans (s_f2i (y := 160) (pc := 63) (nx := 64) (b := 0) rfl) ?_
  exact s_ret (y := 160) (pc := 64) (nx := 65) (a := 0) rfl (by decide)
theorem r_161 (D : Mem) (x1 : Int) (x2 : Int) : qR 161 [(3, 106), (0, x1), (0, x2)] (mk D) = ((qR 143 [(3, 106), (0, x1)] (mk D)).bind fun w => qE 161 5 [(3, 106), (0, x1), (0, x2)] (psh w.1 []) w.2) := by
  show qE 161 0 [(3, 106), (0, x1), (0, x2)] [] (mk D) = _
  refine Eq.trans (s_load (y := 161) (pc := 0) (nx := 1) (a := 3) (b := 0) (x := 106) rfl rfl) ?_
  refine Eq.trans (s_load (y := 161) (pc := 1) (nx := 2) (a := 0) (b := 1) (x := x1) rfl rfl) ?_
  exact s_call (y := 161) (pc := 2) (nx := 5) (a := 143) (b := 0) (as := [(3, 106), (0, x1)]) (r := []) rfl (Nat.le_of_ble_eq_true rfl) rfl rfl (Nat.le_of_ble_eq_true rfl) (Nat.le_of_ble_eq_true rfl) (Or.inr ⟨rfl, mk_k106 _⟩)
theorem e_161_5 (D : Mem) (x1 : Int) (x2 : Int) (s0 : Int) : qE 161 5 [(3, 106), (0, x1), (0, x2)] [(0, s0)] (mk D) = (if s0 = 0 then some ((0, (-1)), (mk D)) else (if x2 < 10 then (qE 161 (swG (pSw.getD 3 []) x2 (Int.toNat 143)) [(3, 106), (0, x1), (0, x2)] [] (mk D)) else (if 0 ≤ x1 ∧ x1 < 80 then (if (w32 (x2 - 10)) < (D 109 x1) then (if 0 ≤ (w32 ((w32 ((w32 (10 * x1)) + x2)) - 10)) ∧ (w32 ((w32 ((w32 (10 * x1)) + x2)) - 10)) < 800 then some ((0, (D 108 (w32 ((w32 ((w32 (10 * x1)) + x2)) - 10)))), (mk D)) else none) else some ((0, (-1)), (mk D))) else none))) := by
  refine Eq.trans (s_ifne (y := 161) (pc := 5) (nx := 8) (b := 10) (tg := 10) rfl rfl) (ite_c ?_ ?_)
  · refine Eq.trans (s_push (y := 161) (pc := 8) (nx := 9) (a := 0) (b := (-1)) rfl) ?_
    exact s_ret (y := 161) (pc := 9) (nx := 10) (a := 0) rfl (by decide)
  · refine Eq.trans (s_load (y := 161) (pc := 10) (nx := 11) (a := 0) (b := 2) (x := x2) rfl rfl) ?_
    refine Eq.trans (s_push (y := 161) (pc := 11) (nx := 13) (a := 0) (b := 10) rfl) ?_
    refine Eq.trans (s_iclt (y := 161) (pc := 13) (nx := 16) (b := 48) (tg := 48) rfl rfl) (ite_c ?_ ?_)
    · refine Eq.trans (s_load (y := 161) (pc := 48) (nx := 49) (a := 0) (b := 2) (x := x2) rfl rfl) ?_
      refine Eq.trans (s_sw (y := 161) (pc := 49) (nx := 0) (a := 3) (b := 143) rfl) ?_
      rfl
    · refine Eq.trans (s_load (y := 161) (pc := 16) (nx := 17) (a := 0) (b := 2) (x := x2) rfl rfl) ?_
      refine Eq.trans (s_push (y := 161) (pc := 17) (nx := 19) (a := 0) (b := 10) rfl) ?_
      refine Eq.trans (s_sub (y := 161) (pc := 19) (nx := 20) (b := 0) rfl) ?_
      refine Eq.trans (s_load (y := 161) (pc := 20) (nx := 21) (a := 3) (b := 0) (x := 106) rfl rfl) ?_
      refine Eq.trans (s_get (y := 161) (pc := 21) (nx := 24) (a := 10) (b := 2) (t := 3) (v := 109) rfl (mk_k106 _) rfl (mk_106_2 _)) ?_
      refine Eq.trans (s_load (y := 161) (pc := 24) (nx := 25) (a := 0) (b := 1) (x := x1) rfl rfl) ?_
      refine Eq.trans (s_ald (y := 161) (pc := 25) (nx := 26) (a := 1) (b := 0) (k := 1) (n := 80) (t := 0) (v := (D 109 x1)) rfl (mk_k109 _) rfl rfl (mk_l109 _) (mk_c109 _ _)) (ite_c ?_ rfl)
      refine Eq.trans (s_icge (y := 161) (pc := 26) (nx := 29) (b := 46) (tg := 46) rfl rfl) (ite_c ?_ ?_)
      · refine Eq.trans (s_load (y := 161) (pc := 29) (nx := 30) (a := 3) (b := 0) (x := 106) rfl rfl) ?_
        refine Eq.trans (s_get (y := 161) (pc := 30) (nx := 33) (a := 10) (b := 1) (t := 3) (v := 108) rfl (mk_k106 _) rfl (mk_106_1 _)) ?_
        refine Eq.trans (s_push (y := 161) (pc := 33) (nx := 35) (a := 0) (b := 10) rfl) ?_
        refine Eq.trans (s_load (y := 161) (pc := 35) (nx := 36) (a := 0) (b := 1) (x := x1) rfl rfl) ?_
        refine Eq.trans (s_mul (y := 161) (pc := 36) (nx := 37) (b := 0) rfl) ?_
        refine Eq.trans (s_load (y := 161) (pc := 37) (nx := 38) (a := 0) (b := 2) (x := x2) rfl rfl) ?_
        refine Eq.trans (s_add (y := 161) (pc := 38) (nx := 39) (b := 0) rfl) ?_
        refine Eq.trans (s_push (y := 161) (pc := 39) (nx := 41) (a := 0) (b := 10) rfl) ?_
        refine Eq.trans (s_sub (y := 161) (pc := 41) (nx := 42) (b := 0) rfl) ?_
        refine Eq.trans (s_ald (y := 161) (pc := 42) (nx := 43) (a := 1) (b := 0) (k := 1) (n := 800) (t := 0) (v := (D 108 (w32 ((w32 ((w32 (10 * x1)) + x2)) - 10)))) rfl (mk_k108 _) rfl rfl (mk_l108 _) (mk_c108 _ _)) (ite_c ?_ rfl)
        refine Eq.trans (s_goto (y := 161) (pc := 43) (nx := 46) (a := 0) (b := 47) (tg := 47) rfl rfl) ?_
        exact s_ret (y := 161) (pc := 47) (nx := 48) (a := 0) rfl (by decide)
      · refine Eq.trans (s_push (y := 161) (pc := 46) (nx := 47) (a := 0) (b := (-1)) rfl) ?_
        exact s_ret (y := 161) (pc := 47) (nx := 48) (a := 0) rfl (by decide)
theorem e_161_84 (D : Mem) (x1 : Int) (x2 : Int) : qE 161 84 [(3, 106), (0, x1), (0, x2)] [] (mk D) = (if 0 ≤ x1 ∧ x1 < 80 then some ((0, (D 109 x1)), (mk D)) else none) := by
  refine Eq.trans (s_load (y := 161) (pc := 84) (nx := 85) (a := 3) (b := 0) (x := 106) rfl rfl) ?_
  refine Eq.trans (s_get (y := 161) (pc := 85) (nx := 88) (a := 10) (b := 2) (t := 3) (v := 109) rfl (mk_k106 _) rfl (mk_106_2 _)) ?_
  refine Eq.trans (s_load (y := 161) (pc := 88) (nx := 89) (a := 0) (b := 1) (x := x1) rfl rfl) ?_
  refine Eq.trans (s_ald (y := 161) (pc := 89) (nx := 90) (a := 1) (b := 0) (k := 1) (n := 80) (t := 0) (v := (D 109 x1)) rfl (mk_k109 _) rfl rfl (mk_l109 _) (mk_c109 _ _)) (ite_c ?_ rfl)
  exact s_ret (y := 161) (pc := 90) (nx := 91) (a := 0) rfl (by decide)
theorem e_161_91 (D : Mem) (x1 : Int) (x2 : Int) : qE 161 91 [(3, 106), (0, x1), (0, x2)] [] (mk D) = (if 0 ≤ x1 ∧ x1 < 80 then some ((0, (D 110 x1)), (mk D)) else none) := by
  refine Eq.trans (s_load (y := 161) (pc := 91) (nx := 92) (a := 3) (b := 0) (x := 106) rfl rfl) ?_
  refine Eq.trans (s_get (y := 161) (pc := 92) (nx := 95) (a := 10) (b := 3) (t := 3) (v := 110) rfl (mk_k106 _) rfl (mk_106_3 _)) ?_
  refine Eq.trans (s_load (y := 161) (pc := 95) (nx := 96) (a := 0) (b := 1) (x := x1) rfl rfl) ?_
  refine Eq.trans (s_ald (y := 161) (pc := 96) (nx := 97) (a := 1) (b := 0) (k := 1) (n := 80) (t := 0) (v := (D 110 x1)) rfl (mk_k110 _) rfl rfl (mk_l110 _) (mk_c110 _ _)) (ite_c ?_ rfl)
  exact s_ret (y := 161) (pc := 97) (nx := 98) (a := 0) rfl (by decide)
theorem e_161_98 (D : Mem) (x1 : Int) (x2 : Int) : qE 161 98 [(3, 106), (0, x1), (0, x2)] [] (mk D) = (if 0 ≤ x1 ∧ x1 < 80 then some ((0, (D 111 x1)), (mk D)) else none) := by
  refine Eq.trans (s_load (y := 161) (pc := 98) (nx := 99) (a := 3) (b := 0) (x := 106) rfl rfl) ?_
  refine Eq.trans (s_get (y := 161) (pc := 99) (nx := 102) (a := 10) (b := 4) (t := 3) (v := 111) rfl (mk_k106 _) rfl (mk_106_4 _)) ?_
  refine Eq.trans (s_load (y := 161) (pc := 102) (nx := 103) (a := 0) (b := 1) (x := x1) rfl rfl) ?_
  refine Eq.trans (s_ald (y := 161) (pc := 103) (nx := 104) (a := 1) (b := 0) (k := 1) (n := 80) (t := 0) (v := (D 111 x1)) rfl (mk_k111 _) rfl rfl (mk_l111 _) (mk_c111 _ _)) (ite_c ?_ rfl)
  exact s_ret (y := 161) (pc := 104) (nx := 105) (a := 0) rfl (by decide)
theorem e_161_105 (D : Mem) (x1 : Int) (x2 : Int) : qE 161 105 [(3, 106), (0, x1), (0, x2)] [] (mk D) = (if 0 ≤ x1 ∧ x1 < 80 then (if (D 112 x1) = 0 then some ((0, 0), (mk D)) else some ((0, 1), (mk D))) else none) := by
  refine Eq.trans (s_load (y := 161) (pc := 105) (nx := 106) (a := 3) (b := 0) (x := 106) rfl rfl) ?_
  refine Eq.trans (s_get (y := 161) (pc := 106) (nx := 109) (a := 10) (b := 5) (t := 3) (v := 112) rfl (mk_k106 _) rfl (mk_106_5 _)) ?_
  refine Eq.trans (s_load (y := 161) (pc := 109) (nx := 110) (a := 0) (b := 1) (x := x1) rfl rfl) ?_
  refine Eq.trans (s_ald (y := 161) (pc := 110) (nx := 111) (a := 6) (b := 0) (k := 6) (n := 80) (t := 0) (v := (D 112 x1)) rfl (mk_k112 _) rfl rfl (mk_l112 _) (mk_c112 _ _)) (ite_c ?_ rfl)
  refine Eq.trans (s_ifeq (y := 161) (pc := 111) (nx := 114) (b := 118) (tg := 118) rfl rfl) (ite_c ?_ ?_)
  · refine Eq.trans (s_push (y := 161) (pc := 118) (nx := 119) (a := 0) (b := 0) rfl) ?_
    exact s_ret (y := 161) (pc := 119) (nx := 120) (a := 0) rfl (by decide)
  · refine Eq.trans (s_push (y := 161) (pc := 114) (nx := 115) (a := 0) (b := 1) rfl) ?_
    refine Eq.trans (s_goto (y := 161) (pc := 115) (nx := 118) (a := 0) (b := 119) (tg := 119) rfl rfl) ?_
    exact s_ret (y := 161) (pc := 119) (nx := 120) (a := 0) rfl (by decide)
theorem e_161_120 (D : Mem) (x1 : Int) (x2 : Int) : qE 161 120 [(3, 106), (0, x1), (0, x2)] [] (mk D) = (if 0 ≤ x1 ∧ x1 < 80 then (if (D 112 x1) = 0 then some ((0, 0), (mk D)) else ((qR 159 [(3, 106)] (mk D)).bind fun w => qE 161 135 [(3, 106), (0, x1), (0, x2)] (psh w.1 [(0, x1), (3, 106)]) w.2)) else none) := by
  refine Eq.trans (s_load (y := 161) (pc := 120) (nx := 121) (a := 3) (b := 0) (x := 106) rfl rfl) ?_
  refine Eq.trans (s_get (y := 161) (pc := 121) (nx := 124) (a := 10) (b := 5) (t := 3) (v := 112) rfl (mk_k106 _) rfl (mk_106_5 _)) ?_
  refine Eq.trans (s_load (y := 161) (pc := 124) (nx := 125) (a := 0) (b := 1) (x := x1) rfl rfl) ?_
  refine Eq.trans (s_ald (y := 161) (pc := 125) (nx := 126) (a := 6) (b := 0) (k := 6) (n := 80) (t := 0) (v := (D 112 x1)) rfl (mk_k112 _) rfl rfl (mk_l112 _) (mk_c112 _ _)) (ite_c ?_ rfl)
  refine Eq.trans (s_ifeq (y := 161) (pc := 126) (nx := 129) (b := 141) (tg := 141) rfl rfl) (ite_c ?_ ?_)
  · refine Eq.trans (s_push (y := 161) (pc := 141) (nx := 142) (a := 0) (b := 0) rfl) ?_
    exact s_ret (y := 161) (pc := 142) (nx := 143) (a := 0) rfl (by decide)
  · refine Eq.trans (s_load (y := 161) (pc := 129) (nx := 130) (a := 3) (b := 0) (x := 106) rfl rfl) ?_
    refine Eq.trans (s_load (y := 161) (pc := 130) (nx := 131) (a := 0) (b := 1) (x := x1) rfl rfl) ?_
    refine Eq.trans (s_load (y := 161) (pc := 131) (nx := 132) (a := 3) (b := 0) (x := 106) rfl rfl) ?_
    exact s_call (y := 161) (pc := 132) (nx := 135) (a := 159) (b := 0) (as := [(3, 106)]) (r := [(0, x1), (3, 106)]) rfl (Nat.le_of_ble_eq_true rfl) rfl rfl (Nat.le_of_ble_eq_true rfl) (Nat.le_of_ble_eq_true rfl) (Or.inr ⟨rfl, mk_k106 _⟩)
theorem e_161_135 (D : Mem) (x1 : Int) (x2 : Int) (s1 : Int) (s2 : Int) : qE 161 135 [(3, 106), (0, x1), (0, x2)] [(0, s2), (0, s1), (3, 106)] (mk D) = ((qR 160 [(3, 106), (0, s1), (0, s2)] (mk D)).bind fun w => qE 161 138 [(3, 106), (0, x1), (0, x2)] (psh w.1 []) w.2) := by
  exact s_call (y := 161) (pc := 135) (nx := 138) (a := 160) (b := 0) (as := [(3, 106), (0, s1), (0, s2)]) (r := []) rfl (Nat.le_of_ble_eq_true rfl) rfl rfl (Nat.le_of_ble_eq_true rfl) (Nat.le_of_ble_eq_true rfl) (Or.inr ⟨rfl, mk_k106 _⟩)
theorem e_161_138 (D : Mem) (x1 : Int) (x2 : Int) (s0 : Int) : qE 161 138 [(3, 106), (0, x1), (0, x2)] [(0, s0)] (mk D) = some ((0, s0), (mk D)) := by
  refine Eq.trans (s_goto (y := 161) (pc := 138) (nx := 141) (a := 0) (b := 142) (tg := 142) rfl rfl) ?_
  exact s_ret (y := 161) (pc := 142) (nx := 143) (a := 0) rfl (by decide)
theorem e_161_143 (D : Mem) (x1 : Int) (x2 : Int) : qE 161 143 [(3, 106), (0, x1), (0, x2)] [] (mk D) = some ((0, (-1)), (mk D)) := by
  refine Eq.trans (s_push (y := 161) (pc := 143) (nx := 144) (a := 0) (b := (-1)) rfl) ?_
  exact s_ret (y := 161) (pc := 144) (nx := 145) (a := 0) rfl (by decide)
theorem r_162 (D : Mem) (x1 : Int) (x2 : Int) : qR 162 [(3, 106), (0, x1), (0, x2)] (mk D) = ((qR 143 [(3, 106), (0, x1)] (mk D)).bind fun w => qE 162 5 [(3, 106), (0, x1), (0, x2)] (psh w.1 []) w.2) := by
  show qE 162 0 [(3, 106), (0, x1), (0, x2)] [] (mk D) = _
  refine Eq.trans (s_load (y := 162) (pc := 0) (nx := 1) (a := 3) (b := 0) (x := 106) rfl rfl) ?_
  refine Eq.trans (s_load (y := 162) (pc := 1) (nx := 2) (a := 0) (b := 1) (x := x1) rfl rfl) ?_
  exact s_call (y := 162) (pc := 2) (nx := 5) (a := 143) (b := 0) (as := [(3, 106), (0, x1)]) (r := []) rfl (Nat.le_of_ble_eq_true rfl) rfl rfl (Nat.le_of_ble_eq_true rfl) (Nat.le_of_ble_eq_true rfl) (Or.inr ⟨rfl, mk_k106 _⟩)
theorem e_162_5 (D : Mem) (x1 : Int) (x2 : Int) (s0 : Int) : qE 162 5 [(3, 106), (0, x1), (0, x2)] [(0, s0)] (mk D) = (if s0 = 0 then some ((0, (-1)), (mk D)) else ((qR 143 [(3, 106), (0, x2)] (mk D)).bind fun w => qE 162 13 [(3, 106), (0, x1), (0, x2)] (psh w.1 []) w.2)) := by
  refine Eq.trans (s_ifeq (y := 162) (pc := 5) (nx := 8) (b := 30) (tg := 30) rfl rfl) (ite_c ?_ ?_)
  · refine Eq.trans (s_push (y := 162) (pc := 30) (nx := 31) (a := 0) (b := (-1)) rfl) ?_
    exact s_ret (y := 162) (pc := 31) (nx := 32) (a := 0) rfl (by decide)
  · refine Eq.trans (s_load (y := 162) (pc := 8) (nx := 9) (a := 3) (b := 0) (x := 106) rfl rfl) ?_
    refine Eq.trans (s_load (y := 162) (pc := 9) (nx := 10) (a := 0) (b := 2) (x := x2) rfl rfl) ?_
    exact s_call (y := 162) (pc := 10) (nx := 13) (a := 143) (b := 0) (as := [(3, 106), (0, x2)]) (r := []) rfl (Nat.le_of_ble_eq_true rfl) rfl rfl (Nat.le_of_ble_eq_true rfl) (Nat.le_of_ble_eq_true rfl) (Or.inr ⟨rfl, mk_k106 _⟩)
theorem e_162_13 (D : Mem) (x1 : Int) (x2 : Int) (s0 : Int) : qE 162 13 [(3, 106), (0, x1), (0, x2)] [(0, s0)] (mk D) = (if s0 = 0 then some ((0, (-1)), (mk D)) else (if 0 ≤ (w32 ((w32 (80 * x1)) + x2)) ∧ (w32 ((w32 (80 * x1)) + x2)) < 6400 then some ((0, (D 113 (w32 ((w32 (80 * x1)) + x2)))), (mk D)) else none)) := by
  refine Eq.trans (s_ifeq (y := 162) (pc := 13) (nx := 16) (b := 30) (tg := 30) rfl rfl) (ite_c ?_ ?_)
  · refine Eq.trans (s_push (y := 162) (pc := 30) (nx := 31) (a := 0) (b := (-1)) rfl) ?_
    exact s_ret (y := 162) (pc := 31) (nx := 32) (a := 0) rfl (by decide)
  · refine Eq.trans (s_load (y := 162) (pc := 16) (nx := 17) (a := 3) (b := 0) (x := 106) rfl rfl) ?_
    refine Eq.trans (s_get (y := 162) (pc := 17) (nx := 20) (a := 10) (b := 7) (t := 3) (v := 113) rfl (mk_k106 _) rfl (mk_106_7 _)) ?_
    refine Eq.trans (s_push (y := 162) (pc := 20) (nx := 22) (a := 0) (b := 80) rfl) ?_
    refine Eq.trans (s_load (y := 162) (pc := 22) (nx := 23) (a := 0) (b := 1) (x := x1) rfl rfl) ?_
    refine Eq.trans (s_mul (y := 162) (pc := 23) (nx := 24) (b := 0) rfl) ?_
    refine Eq.trans (s_load (y := 162) (pc := 24) (nx := 25) (a := 0) (b := 2) (x := x2) rfl rfl) ?_
    refine Eq.trans (s_add (y := 162) (pc := 25) (nx := 26) (b := 0) rfl) ?_
    refine Eq.trans (s_ald (y := 162) (pc := 26) (nx := 27) (a := 1) (b := 0) (k := 1) (n := 6400) (t := 0) (v := (D 113 (w32 ((w32 (80 * x1)) + x2)))) rfl (mk_k113 _) rfl rfl (mk_l113 _) (mk_c113 _ _)) (ite_c ?_ rfl)
    refine Eq.trans (s_goto (y := 162) (pc := 27) (nx := 30) (a := 0) (b := 31) (tg := 31) rfl rfl) ?_
    exact s_ret (y := 162) (pc := 31) (nx := 32) (a := 0) rfl (by decide)
theorem r_163 (D : Mem) : qR 163 [(3, 106)] (mk D) = ((qR 150 [(3, 106)] (mk D)).bind fun w => qE 163 4 [(3, 106)] (psh w.1 []) w.2) := by
  show qE 163 0 [(3, 106)] [] (mk D) = _
  refine Eq.trans (s_load (y := 163) (pc := 0) (nx := 1) (a := 3) (b := 0) (x := 106) rfl rfl) ?_
  exact s_call (y := 163) (pc := 1) (nx := 4) (a := 150) (b := 0) (as := [(3, 106)]) (r := []) rfl (Nat.le_of_ble_eq_true rfl) rfl rfl (Nat.le_of_ble_eq_true rfl) (Nat.le_of_ble_eq_true rfl) (Or.inr ⟨rfl, mk_k106 _⟩)
theorem e_163_4 (D : Mem) (s0 : Int) : qE 163 4 [(3, 106)] [(0, s0)] (mk D) = some ((0, s0), (mk D)) := by
  exact s_ret (y := 163) (pc := 4) (nx := 5) (a := 0) rfl (by decide)
theorem r_164 (D : Mem) (x1 : Int) : qR 164 [(3, 106), (0, x1)] (mk D) = (qE 164 (swG (pSw.getD 4 []) x1 (Int.toNat 97)) [(3, 106), (0, x1)] [] (mk D)) := by
  show qE 164 0 [(3, 106), (0, x1)] [] (mk D) = _
  refine Eq.trans (s_load (y := 164) (pc := 0) (nx := 1) (a := 0) (b := 1) (x := x1) rfl rfl) ?_
  refine Eq.trans (s_sw (y := 164) (pc := 1) (nx := 0) (a := 4) (b := 97) rfl) ?_
  rfl
theorem e_164_52 (D : Mem) (x1 : Int) : qE 164 52 [(3, 106), (0, x1)] [] (mk D) = some ((0, (D 106 6)), (mk D)) := by
  refine Eq.trans (s_load (y := 164) (pc := 52) (nx := 53) (a := 3) (b := 0) (x := 106) rfl rfl) ?_
  refine Eq.trans (s_get (y := 164) (pc := 53) (nx := 56) (a := 10) (b := 6) (t := 0) (v := (D 106 6)) rfl (mk_k106 _) rfl (mk_106_6 _)) ?_
  exact s_ret (y := 164) (pc := 56) (nx := 57) (a := 0) rfl (by decide)
theorem e_164_57 (D : Mem) (x1 : Int) : qE 164 57 [(3, 106), (0, x1)] [] (mk D) = ((qR 152 [(3, 106)] (mk D)).bind fun w => qE 164 61 [(3, 106), (0, x1)] (psh w.1 []) w.2) := by
  refine Eq.trans (s_load (y := 164) (pc := 57) (nx := 58) (a := 3) (b := 0) (x := 106) rfl rfl) ?_
  exact s_call (y := 164) (pc := 58) (nx := 61) (a := 152) (b := 0) (as := [(3, 106)]) (r := []) rfl (Nat.le_of_ble_eq_true rfl) rfl rfl (Nat.le_of_ble_eq_true rfl) (Nat.le_of_ble_eq_true rfl) (Or.inr ⟨rfl, mk_k106 _⟩)
theorem e_164_61 (D : Mem) (x1 : Int) (s0 : Int) : qE 164 61 [(3, 106), (0, x1)] [(0, s0)] (mk D) = some ((0, s0), (mk D)) := by
  exact s_ret (y := 164) (pc := 61) (nx := 62) (a := 0) rfl (by decide)
theorem e_164_62 (D : Mem) (x1 : Int) : qE 164 62 [(3, 106), (0, x1)] [] (mk D) = ((qR 157 [(3, 106)] (mk D)).bind fun w => qE 164 66 [(3, 106), (0, x1)] (psh w.1 []) w.2) := by
  refine Eq.trans (s_load (y := 164) (pc := 62) (nx := 63) (a := 3) (b := 0) (x := 106) rfl rfl) ?_
  exact s_call (y := 164) (pc := 63) (nx := 66) (a := 157) (b := 0) (as := [(3, 106)]) (r := []) rfl (Nat.le_of_ble_eq_true rfl) rfl rfl (Nat.le_of_ble_eq_true rfl) (Nat.le_of_ble_eq_true rfl) (Or.inr ⟨rfl, mk_k106 _⟩)
theorem e_164_66 (D : Mem) (x1 : Int) (s0 : Int) : qE 164 66 [(3, 106), (0, x1)] [(0, s0)] (mk D) = some ((0, s0), (mk D)) := by
  exact s_ret (y := 164) (pc := 66) (nx := 67) (a := 0) rfl (by decide)
theorem e_164_67 (D : Mem) (x1 : Int) : qE 164 67 [(3, 106), (0, x1)] [] (mk D) = some ((0, (D 106 12)), (mk D)) := by
  refine Eq.trans (s_load (y := 164) (pc := 67) (nx := 68) (a := 3) (b := 0) (x := 106) rfl rfl) ?_
  refine Eq.trans (s_get (y := 164) (pc := 68) (nx := 71) (a := 10) (b := 12) (t := 0) (v := (D 106 12)) rfl (mk_k106 _) rfl (mk_106_12 _)) ?_
  exact s_ret (y := 164) (pc := 71) (nx := 72) (a := 0) rfl (by decide)
theorem e_164_72 (D : Mem) (x1 : Int) : qE 164 72 [(3, 106), (0, x1)] [] (mk D) = some ((0, (D 106 14)), (mk D)) := by
  refine Eq.trans (s_load (y := 164) (pc := 72) (nx := 73) (a := 3) (b := 0) (x := 106) rfl rfl) ?_
  refine Eq.trans (s_get (y := 164) (pc := 73) (nx := 76) (a := 10) (b := 14) (t := 0) (v := (D 106 14)) rfl (mk_k106 _) rfl (mk_106_14 _)) ?_
  exact s_ret (y := 164) (pc := 76) (nx := 77) (a := 0) rfl (by decide)
theorem e_164_77 (D : Mem) (x1 : Int) : qE 164 77 [(3, 106), (0, x1)] [] (mk D) = some ((0, (D 106 16)), (mk D)) := by
  refine Eq.trans (s_load (y := 164) (pc := 77) (nx := 78) (a := 3) (b := 0) (x := 106) rfl rfl) ?_
  refine Eq.trans (s_get (y := 164) (pc := 78) (nx := 81) (a := 10) (b := 16) (t := 0) (v := (D 106 16)) rfl (mk_k106 _) rfl (mk_106_16 _)) ?_
  exact s_ret (y := 164) (pc := 81) (nx := 82) (a := 0) rfl (by decide)
theorem e_164_82 (D : Mem) (x1 : Int) : qE 164 82 [(3, 106), (0, x1)] [] (mk D) = some ((0, (D 106 21)), (mk D)) := by
  refine Eq.trans (s_load (y := 164) (pc := 82) (nx := 83) (a := 3) (b := 0) (x := 106) rfl rfl) ?_
  refine Eq.trans (s_get (y := 164) (pc := 83) (nx := 86) (a := 10) (b := 21) (t := 0) (v := (D 106 21)) rfl (mk_k106 _) rfl (mk_106_21 _)) ?_
  exact s_ret (y := 164) (pc := 86) (nx := 87) (a := 0) rfl (by decide)
theorem e_164_87 (D : Mem) (x1 : Int) : qE 164 87 [(3, 106), (0, x1)] [] (mk D) = some ((0, (D 106 8)), (mk D)) := by
  refine Eq.trans (s_load (y := 164) (pc := 87) (nx := 88) (a := 3) (b := 0) (x := 106) rfl rfl) ?_
  refine Eq.trans (s_get (y := 164) (pc := 88) (nx := 91) (a := 10) (b := 8) (t := 0) (v := (D 106 8)) rfl (mk_k106 _) rfl (mk_106_8 _)) ?_
  exact s_ret (y := 164) (pc := 91) (nx := 92) (a := 0) rfl (by decide)
theorem e_164_92 (D : Mem) (x1 : Int) : qE 164 92 [(3, 106), (0, x1)] [] (mk D) = some ((0, (D 106 9)), (mk D)) := by
  refine Eq.trans (s_load (y := 164) (pc := 92) (nx := 93) (a := 3) (b := 0) (x := 106) rfl rfl) ?_
  refine Eq.trans (s_get (y := 164) (pc := 93) (nx := 96) (a := 10) (b := 9) (t := 0) (v := (D 106 9)) rfl (mk_k106 _) rfl (mk_106_9 _)) ?_
  exact s_ret (y := 164) (pc := 96) (nx := 97) (a := 0) rfl (by decide)
theorem e_164_97 (D : Mem) (x1 : Int) : qE 164 97 [(3, 106), (0, x1)] [] (mk D) = some ((0, (-1)), (mk D)) := by
  refine Eq.trans (s_push (y := 164) (pc := 97) (nx := 98) (a := 0) (b := (-1)) rfl) ?_
  exact s_ret (y := 164) (pc := 98) (nx := 99) (a := 0) rfl (by decide)
theorem r_165 (D : Mem) (x1 : Int) : qR 165 [(3, 106), (0, x1)] (mk D) = ((qR 142 [(0, x1), (0, 0), (0, 100)] (mk D)).bind fun w => qE 165 7 [(3, 106), (0, x1)] (psh w.1 []) w.2) := by
  show qE 165 0 [(3, 106), (0, x1)] [] (mk D) = _
  refine Eq.trans (s_load (y := 165) (pc := 0) (nx := 1) (a := 0) (b := 1) (x := x1) rfl rfl) ?_
  refine Eq.trans (s_push (y := 165) (pc := 1) (nx := 2) (a := 0) (b := 0) rfl) ?_
  refine Eq.trans (s_push (y := 165) (pc := 2) (nx := 4) (a := 0) (b := 100) rfl) ?_
  exact s_call (y := 165) (pc := 4) (nx := 7) (a := 142) (b := 0) (as := [(0, x1), (0, 0), (0, 100)]) (r := []) rfl (Nat.le_of_ble_eq_true rfl) rfl rfl (Nat.le_of_ble_eq_true rfl) (Nat.le_of_ble_eq_true rfl) (Or.inl rfl)
theorem e_165_7 (D : Mem) (x1 : Int) (s0 : Int) : qE 165 7 [(3, 106), (0, x1)] [(0, s0)] (mk D) = (if s0 = 0 then some ((0, (-1)), (mk D)) else some ((0, 1), (mk (mU D 106 9 x1)))) := by
  refine Eq.trans (s_ifne (y := 165) (pc := 7) (nx := 10) (b := 12) (tg := 12) rfl rfl) (ite_c ?_ ?_)
  · refine Eq.trans (s_push (y := 165) (pc := 10) (nx := 11) (a := 0) (b := (-1)) rfl) ?_
    exact s_ret (y := 165) (pc := 11) (nx := 12) (a := 0) rfl (by decide)
  · refine Eq.trans (s_load (y := 165) (pc := 12) (nx := 13) (a := 3) (b := 0) (x := 106) rfl rfl) ?_
    refine Eq.trans (s_load (y := 165) (pc := 13) (nx := 14) (a := 0) (b := 1) (x := x1) rfl rfl) ?_
    refine Eq.trans (s_put (y := 165) (pc := 14) (nx := 17) (a := 10) (b := 9) (t := 0) (v := x1) (μ' := mk (mU D 106 9 x1)) rfl (mk_k106 _) rfl (mu_106_9 _ _)) ?_
    refine Eq.trans (s_push (y := 165) (pc := 17) (nx := 18) (a := 0) (b := 1) rfl) ?_
    exact s_ret (y := 165) (pc := 18) (nx := 19) (a := 0) rfl (by decide)
theorem r_166 (D : Mem) (x1 : Int) (x2 : Int) : qR 166 [(3, 106), (0, x1), (0, x2)] (mk D) = ((qR 142 [(0, x1), (0, 0), (0, 2)] (mk D)).bind fun w => qE 166 6 [(3, 106), (0, x1), (0, x2)] (psh w.1 []) w.2) := by
  show qE 166 0 [(3, 106), (0, x1), (0, x2)] [] (mk D) = _
  refine Eq.trans (s_load (y := 166) (pc := 0) (nx := 1) (a := 0) (b := 1) (x := x1) rfl rfl) ?_
  refine Eq.trans (s_push (y := 166) (pc := 1) (nx := 2) (a := 0) (b := 0) rfl) ?_
  refine Eq.trans (s_push (y := 166) (pc := 2) (nx := 3) (a := 0) (b := 2) rfl) ?_
  exact s_call (y := 166) (pc := 3) (nx := 6) (a := 142) (b := 0) (as := [(0, x1), (0, 0), (0, 2)]) (r := []) rfl (Nat.le_of_ble_eq_true rfl) rfl rfl (Nat.le_of_ble_eq_true rfl) (Nat.le_of_ble_eq_true rfl) (Or.inl rfl)
theorem e_166_6 (D : Mem) (x1 : Int) (x2 : Int) (s0 : Int) : qE 166 6 [(3, 106), (0, x1), (0, x2)] [(0, s0)] (mk D) = (if s0 = 0 then some ((0, (-1)), (mk D)) else ((qR 142 [(0, x2), (0, 0), (0, 100000)] (mk D)).bind fun w => qE 166 16 [(3, 106), (0, x1), (0, x2)] (psh w.1 []) w.2)) := by
  refine Eq.trans (s_ifeq (y := 166) (pc := 6) (nx := 9) (b := 19) (tg := 19) rfl rfl) (ite_c ?_ ?_)
  · refine Eq.trans (s_push (y := 166) (pc := 19) (nx := 20) (a := 0) (b := (-1)) rfl) ?_
    exact s_ret (y := 166) (pc := 20) (nx := 21) (a := 0) rfl (by decide)
  · refine Eq.trans (s_load (y := 166) (pc := 9) (nx := 10) (a := 0) (b := 2) (x := x2) rfl rfl) ?_
    refine Eq.trans (s_push (y := 166) (pc := 10) (nx := 11) (a := 0) (b := 0) rfl) ?_
    refine Eq.trans (s_push (y := 166) (pc := 11) (nx := 13) (a := 0) (b := 100000) rfl) ?_
    exact s_call (y := 166) (pc := 13) (nx := 16) (a := 142) (b := 0) (as := [(0, x2), (0, 0), (0, 100000)]) (r := []) rfl (Nat.le_of_ble_eq_true rfl) rfl rfl (Nat.le_of_ble_eq_true rfl) (Nat.le_of_ble_eq_true rfl) (Or.inl rfl)
theorem e_166_16 (D : Mem) (x1 : Int) (x2 : Int) (s0 : Int) : qE 166 16 [(3, 106), (0, x1), (0, x2)] [(0, s0)] (mk D) = (if s0 = 0 then some ((0, (-1)), (mk D)) else (if 0 ≤ x1 ∧ x1 < 3 then some ((0, 1), (mk (mU D 114 x1 x2))) else none)) := by
  refine Eq.trans (s_ifne (y := 166) (pc := 16) (nx := 19) (b := 21) (tg := 21) rfl rfl) (ite_c ?_ ?_)
  · refine Eq.trans (s_push (y := 166) (pc := 19) (nx := 20) (a := 0) (b := (-1)) rfl) ?_
    exact s_ret (y := 166) (pc := 20) (nx := 21) (a := 0) rfl (by decide)
  · refine Eq.trans (s_load (y := 166) (pc := 21) (nx := 22) (a := 3) (b := 0) (x := 106) rfl rfl) ?_
    refine Eq.trans (s_get (y := 166) (pc := 22) (nx := 25) (a := 10) (b := 10) (t := 3) (v := 114) rfl (mk_k106 _) rfl (mk_106_10 _)) ?_
    refine Eq.trans (s_load (y := 166) (pc := 25) (nx := 26) (a := 0) (b := 1) (x := x1) rfl rfl) ?_
    refine Eq.trans (s_load (y := 166) (pc := 26) (nx := 27) (a := 0) (b := 2) (x := x2) rfl rfl) ?_
    refine Eq.trans (s_ast (y := 166) (pc := 27) (nx := 28) (a := 1) (b := 0) (k := 1) (n := 3) (t := 0) (v := x2) (μ' := mk (mU D 114 x1 x2)) rfl (by decide) (mk_k114 _) rfl (mk_l114 _) (mu_114 _ _ _)) (ite_c ?_ rfl)
    refine Eq.trans (s_push (y := 166) (pc := 28) (nx := 29) (a := 0) (b := 1) rfl) ?_
    exact s_ret (y := 166) (pc := 29) (nx := 30) (a := 0) rfl (by decide)
theorem r_167 (D : Mem) (x1 : Int) : qR 167 [(3, 106), (0, x1)] (mk D) = ((qR 142 [(0, x1), (0, 1), (0, 9)] (mk D)).bind fun w => qE 167 7 [(3, 106), (0, x1)] (psh w.1 []) w.2) := by
  show qE 167 0 [(3, 106), (0, x1)] [] (mk D) = _
  refine Eq.trans (s_load (y := 167) (pc := 0) (nx := 1) (a := 0) (b := 1) (x := x1) rfl rfl) ?_
  refine Eq.trans (s_push (y := 167) (pc := 1) (nx := 2) (a := 0) (b := 1) rfl) ?_
  refine Eq.trans (s_push (y := 167) (pc := 2) (nx := 4) (a := 0) (b := 9) rfl) ?_
  exact s_call (y := 167) (pc := 4) (nx := 7) (a := 142) (b := 0) (as := [(0, x1), (0, 1), (0, 9)]) (r := []) rfl (Nat.le_of_ble_eq_true rfl) rfl rfl (Nat.le_of_ble_eq_true rfl) (Nat.le_of_ble_eq_true rfl) (Or.inl rfl)
theorem e_167_7 (D : Mem) (x1 : Int) (s0 : Int) : qE 167 7 [(3, 106), (0, x1)] [(0, s0)] (mk D) = (if s0 = 0 then some ((0, (-1)), (mk D)) else (if (D 106 14) = 12 then some ((0, (-2)), (mk D)) else (if 0 ≤ (D 106 14) ∧ (D 106 14) < 12 then some ((0, ((mU (mU D 116 (D 106 14) x1) 106 14 (w32 (((mU D 116 (D 106 14) x1) 106 14) + 1))) 106 14)), (mk (mU (mU D 116 (D 106 14) x1) 106 14 (w32 (((mU D 116 (D 106 14) x1) 106 14) + 1))))) else none))) := by
  refine Eq.trans (s_ifne (y := 167) (pc := 7) (nx := 10) (b := 12) (tg := 12) rfl rfl) (ite_c ?_ ?_)
  · refine Eq.trans (s_push (y := 167) (pc := 10) (nx := 11) (a := 0) (b := (-1)) rfl) ?_
    exact s_ret (y := 167) (pc := 11) (nx := 12) (a := 0) rfl (by decide)
  · refine Eq.trans (s_load (y := 167) (pc := 12) (nx := 13) (a := 3) (b := 0) (x := 106) rfl rfl) ?_
    refine Eq.trans (s_get (y := 167) (pc := 13) (nx := 16) (a := 10) (b := 14) (t := 0) (v := (D 106 14)) rfl (mk_k106 _) rfl (mk_106_14 _)) ?_
    refine Eq.trans (s_push (y := 167) (pc := 16) (nx := 18) (a := 0) (b := 12) rfl) ?_
    refine Eq.trans (s_icne (y := 167) (pc := 18) (nx := 21) (b := 24) (tg := 24) rfl rfl) (ite_c ?_ ?_)
    · refine Eq.trans (s_push (y := 167) (pc := 21) (nx := 23) (a := 0) (b := (-2)) rfl) ?_
      exact s_ret (y := 167) (pc := 23) (nx := 24) (a := 0) rfl (by decide)
    · refine Eq.trans (s_load (y := 167) (pc := 24) (nx := 25) (a := 3) (b := 0) (x := 106) rfl rfl) ?_
      refine Eq.trans (s_get (y := 167) (pc := 25) (nx := 28) (a := 10) (b := 13) (t := 3) (v := 116) rfl (mk_k106 _) rfl (mk_106_13 _)) ?_
      refine Eq.trans (s_load (y := 167) (pc := 28) (nx := 29) (a := 3) (b := 0) (x := 106) rfl rfl) ?_
      refine Eq.trans (s_get (y := 167) (pc := 29) (nx := 32) (a := 10) (b := 14) (t := 0) (v := (D 106 14)) rfl (mk_k106 _) rfl (mk_106_14 _)) ?_
      refine Eq.trans (s_load (y := 167) (pc := 32) (nx := 33) (a := 0) (b := 1) (x := x1) rfl rfl) ?_
      refine Eq.trans (s_ast (y := 167) (pc := 33) (nx := 34) (a := 1) (b := 0) (k := 1) (n := 12) (t := 0) (v := x1) (μ' := mk (mU D 116 (D 106 14) x1)) rfl (by decide) (mk_k116 _) rfl (mk_l116 _) (mu_116 _ _ _)) (ite_c ?_ rfl)
      refine Eq.trans (s_load (y := 167) (pc := 34) (nx := 35) (a := 3) (b := 0) (x := 106) rfl rfl) ?_
      refine Eq.trans (s_dup (y := 167) (pc := 35) (nx := 36) (a := 0) (b := 0) rfl (by decide)) ?_
      refine Eq.trans (s_get (y := 167) (pc := 36) (nx := 39) (a := 10) (b := 14) (t := 0) (v := ((mU D 116 (D 106 14) x1) 106 14)) rfl (mk_k106 _) rfl (mk_106_14 _)) ?_
      refine Eq.trans (s_push (y := 167) (pc := 39) (nx := 40) (a := 0) (b := 1) rfl) ?_
      refine Eq.trans (s_add (y := 167) (pc := 40) (nx := 41) (b := 0) rfl) ?_
      refine Eq.trans (s_put (y := 167) (pc := 41) (nx := 44) (a := 10) (b := 14) (t := 0) (v := (w32 (((mU D 116 (D 106 14) x1) 106 14) + 1))) (μ' := mk (mU (mU D 116 (D 106 14) x1) 106 14 (w32 (((mU D 116 (D 106 14) x1) 106 14) + 1)))) rfl (mk_k106 _) rfl (mu_106_14 _ _)) ?_
      refine Eq.trans (s_load (y := 167) (pc := 44) (nx := 45) (a := 3) (b := 0) (x := 106) rfl rfl) ?_
      refine Eq.trans (s_get (y := 167) (pc := 45) (nx := 48) (a := 10) (b := 14) (t := 0) (v := ((mU (mU D 116 (D 106 14) x1) 106 14 (w32 (((mU D 116 (D 106 14) x1) 106 14) + 1))) 106 14)) rfl (mk_k106 _) rfl (mk_106_14 _)) ?_
      exact s_ret (y := 167) (pc := 48) (nx := 49) (a := 0) rfl (by decide)
theorem r_168 (D : Mem) : qR 168 [(3, 106)] (mk D) = (if (D 106 14) = 0 then some ((0, (-4)), (mk D)) else some ((0, ((mU D 106 14 (w32 ((D 106 14) - 1))) 106 14)), (mk (mU D 106 14 (w32 ((D 106 14) - 1)))))) := by
  show qE 168 0 [(3, 106)] [] (mk D) = _
  refine Eq.trans (s_load (y := 168) (pc := 0) (nx := 1) (a := 3) (b := 0) (x := 106) rfl rfl) ?_
  refine Eq.trans (s_get (y := 168) (pc := 1) (nx := 4) (a := 10) (b := 14) (t := 0) (v := (D 106 14)) rfl (mk_k106 _) rfl (mk_106_14 _)) ?_
  refine Eq.trans (s_ifne (y := 168) (pc := 4) (nx := 7) (b := 10) (tg := 10) rfl rfl) (ite_c ?_ ?_)
  · refine Eq.trans (s_push (y := 168) (pc := 7) (nx := 9) (a := 0) (b := (-4)) rfl) ?_
    exact s_ret (y := 168) (pc := 9) (nx := 10) (a := 0) rfl (by decide)
  · refine Eq.trans (s_load (y := 168) (pc := 10) (nx := 11) (a := 3) (b := 0) (x := 106) rfl rfl) ?_
    refine Eq.trans (s_dup (y := 168) (pc := 11) (nx := 12) (a := 0) (b := 0) rfl (by decide)) ?_
    refine Eq.trans (s_get (y := 168) (pc := 12) (nx := 15) (a := 10) (b := 14) (t := 0) (v := (D 106 14)) rfl (mk_k106 _) rfl (mk_106_14 _)) ?_
    refine Eq.trans (s_push (y := 168) (pc := 15) (nx := 16) (a := 0) (b := 1) rfl) ?_
    refine Eq.trans (s_sub (y := 168) (pc := 16) (nx := 17) (b := 0) rfl) ?_
    refine Eq.trans (s_put (y := 168) (pc := 17) (nx := 20) (a := 10) (b := 14) (t := 0) (v := (w32 ((D 106 14) - 1))) (μ' := mk (mU D 106 14 (w32 ((D 106 14) - 1)))) rfl (mk_k106 _) rfl (mu_106_14 _ _)) ?_
    refine Eq.trans (s_load (y := 168) (pc := 20) (nx := 21) (a := 3) (b := 0) (x := 106) rfl rfl) ?_
    refine Eq.trans (s_get (y := 168) (pc := 21) (nx := 24) (a := 10) (b := 14) (t := 0) (v := ((mU D 106 14 (w32 ((D 106 14) - 1))) 106 14)) rfl (mk_k106 _) rfl (mk_106_14 _)) ?_
    exact s_ret (y := 168) (pc := 24) (nx := 25) (a := 0) rfl (by decide)
theorem r_169 (D : Mem) (x1 : Int) (x2 : Int) : qR 169 [(3, 106), (0, x1), (0, x2)] (mk D) = qE 169 7 [(3, 106), (0, x1), (0, x2), (0, 0), (9, 0)] [] (mk (mU D 106 25 0)) := by
  show qE 169 0 [(3, 106), (0, x1), (0, x2), (9, 0), (9, 0)] [] (mk D) = _
  refine Eq.trans (s_load (y := 169) (pc := 0) (nx := 1) (a := 3) (b := 0) (x := 106) rfl rfl) ?_
  refine Eq.trans (s_push (y := 169) (pc := 1) (nx := 2) (a := 0) (b := 0) rfl) ?_
  refine Eq.trans (s_put (y := 169) (pc := 2) (nx := 5) (a := 10) (b := 25) (t := 0) (v := 0) (μ' := mk (mU D 106 25 0)) rfl (mk_k106 _) rfl (mu_106_25 _ _)) ?_
  refine Eq.trans (s_push (y := 169) (pc := 5) (nx := 6) (a := 0) (b := 0) rfl) ?_
  refine Eq.trans (s_store (y := 169) (pc := 6) (nx := 7) (a := 0) (b := 3) (ls' := [(3, 106), (0, x1), (0, x2), (0, 0), (9, 0)]) rfl (Nat.le_of_ble_eq_true rfl) rfl) ?_
  rfl
theorem e_169_7 (D : Mem) (x1 : Int) (x2 : Int) (x3 : Int) (v4 : PV) : qE 169 7 [(3, 106), (0, x1), (0, x2), (0, x3), v4] [] (mk D) = (if 0 ≤ x1 ∧ x1 < 80 then (if x3 < (D 109 x1) then (if 0 ≤ (w32 ((w32 (10 * x1)) + x3)) ∧ (w32 ((w32 (10 * x1)) + x3)) < 800 then (if 0 ≤ (D 108 (w32 ((w32 (10 * x1)) + x3))) ∧ (D 108 (w32 ((w32 (10 * x1)) + x3))) < 26 then (if x2 = 2 then (if (D 106 25) = 0 then qE 169 63 [(3, 106), (0, x1), (0, x2), (0, x3), (0, (D 107 (D 108 (w32 ((w32 (10 * x1)) + x3)))))] [] (mk D) else (if 0 ≤ (w32 ((D 106 25) - 1)) ∧ (w32 ((D 106 25) - 1)) < 10 then (if (D 123 (w32 ((D 106 25) - 1))) = (D 107 (D 108 (w32 ((w32 (10 * x1)) + x3)))) then qE 169 7 [(3, 106), (0, x1), (0, x2), (0, (w32 (x3 + 1))), (0, (D 107 (D 108 (w32 ((w32 (10 * x1)) + x3)))))] [] (mk D) else qE 169 63 [(3, 106), (0, x1), (0, x2), (0, x3), (0, (D 107 (D 108 (w32 ((w32 (10 * x1)) + x3)))))] [] (mk D)) else none)) else qE 169 63 [(3, 106), (0, x1), (0, x2), (0, x3), (0, (D 107 (D 108 (w32 ((w32 (10 * x1)) + x3)))))] [] (mk D)) else none) else none) else some ((9, 0), (mk D))) else none) := by
  refine Eq.trans (s_load (y := 169) (pc := 7) (nx := 8) (a := 0) (b := 3) (x := x3) rfl rfl) ?_
  refine Eq.trans (s_load (y := 169) (pc := 8) (nx := 9) (a := 3) (b := 0) (x := 106) rfl rfl) ?_
  refine Eq.trans (s_get (y := 169) (pc := 9) (nx := 12) (a := 10) (b := 2) (t := 3) (v := 109) rfl (mk_k106 _) rfl (mk_106_2 _)) ?_
  refine Eq.trans (s_load (y := 169) (pc := 12) (nx := 13) (a := 0) (b := 1) (x := x1) rfl rfl) ?_
  refine Eq.trans (s_ald (y := 169) (pc := 13) (nx := 14) (a := 1) (b := 0) (k := 1) (n := 80) (t := 0) (v := (D 109 x1)) rfl (mk_k109 _) rfl rfl (mk_l109 _) (mk_c109 _ _)) (ite_c ?_ rfl)
  refine Eq.trans (s_icge (y := 169) (pc := 14) (nx := 17) (b := 90) (tg := 90) rfl rfl) (ite_c ?_ ?_)
  · refine Eq.trans (s_load (y := 169) (pc := 17) (nx := 18) (a := 3) (b := 0) (x := 106) rfl rfl) ?_
    refine Eq.trans (s_get (y := 169) (pc := 18) (nx := 21) (a := 10) (b := 0) (t := 3) (v := 107) rfl (mk_k106 _) rfl (mk_106_0 _)) ?_
    refine Eq.trans (s_load (y := 169) (pc := 21) (nx := 22) (a := 3) (b := 0) (x := 106) rfl rfl) ?_
    refine Eq.trans (s_get (y := 169) (pc := 22) (nx := 25) (a := 10) (b := 1) (t := 3) (v := 108) rfl (mk_k106 _) rfl (mk_106_1 _)) ?_
    refine Eq.trans (s_push (y := 169) (pc := 25) (nx := 27) (a := 0) (b := 10) rfl) ?_
    refine Eq.trans (s_load (y := 169) (pc := 27) (nx := 28) (a := 0) (b := 1) (x := x1) rfl rfl) ?_
    refine Eq.trans (s_mul (y := 169) (pc := 28) (nx := 29) (b := 0) rfl) ?_
    refine Eq.trans (s_load (y := 169) (pc := 29) (nx := 30) (a := 0) (b := 3) (x := x3) rfl rfl) ?_
    refine Eq.trans (s_add (y := 169) (pc := 30) (nx := 31) (b := 0) rfl) ?_
    refine Eq.trans (s_ald (y := 169) (pc := 31) (nx := 32) (a := 1) (b := 0) (k := 1) (n := 800) (t := 0) (v := (D 108 (w32 ((w32 (10 * x1)) + x3)))) rfl (mk_k108 _) rfl rfl (mk_l108 _) (mk_c108 _ _)) (ite_c ?_ rfl)
    refine Eq.trans (s_ald (y := 169) (pc := 32) (nx := 33) (a := 1) (b := 0) (k := 1) (n := 26) (t := 0) (v := (D 107 (D 108 (w32 ((w32 (10 * x1)) + x3))))) rfl (mk_k107 _) rfl rfl (mk_l107 _) (mk_c107 _ _)) (ite_c ?_ rfl)
    refine Eq.trans (s_store (y := 169) (pc := 33) (nx := 35) (a := 0) (b := 4) (ls' := [(3, 106), (0, x1), (0, x2), (0, x3), (0, (D 107 (D 108 (w32 ((w32 (10 * x1)) + x3)))))]) rfl (Nat.le_of_ble_eq_true rfl) rfl) ?_
    refine Eq.trans (s_load (y := 169) (pc := 35) (nx := 36) (a := 0) (b := 2) (x := x2) rfl rfl) ?_
    refine Eq.trans (s_push (y := 169) (pc := 36) (nx := 37) (a := 0) (b := 2) rfl) ?_
    refine Eq.trans (s_icne (y := 169) (pc := 37) (nx := 40) (b := 63) (tg := 63) rfl rfl) (ite_c ?_ ?_)
    · refine Eq.trans (s_load (y := 169) (pc := 40) (nx := 41) (a := 3) (b := 0) (x := 106) rfl rfl) ?_
      refine Eq.trans (s_get (y := 169) (pc := 41) (nx := 44) (a := 10) (b := 25) (t := 0) (v := (D 106 25)) rfl (mk_k106 _) rfl (mk_106_25 _)) ?_
      refine Eq.trans (s_ifeq (y := 169) (pc := 44) (nx := 47) (b := 63) (tg := 63) rfl rfl) (ite_c ?_ ?_)
      · rfl
      · refine Eq.trans (s_load (y := 169) (pc := 47) (nx := 48) (a := 3) (b := 0) (x := 106) rfl rfl) ?_
        refine Eq.trans (s_get (y := 169) (pc := 48) (nx := 51) (a := 10) (b := 24) (t := 3) (v := 123) rfl (mk_k106 _) rfl (mk_106_24 _)) ?_
        refine Eq.trans (s_load (y := 169) (pc := 51) (nx := 52) (a := 3) (b := 0) (x := 106) rfl rfl) ?_
        refine Eq.trans (s_get (y := 169) (pc := 52) (nx := 55) (a := 10) (b := 25) (t := 0) (v := (D 106 25)) rfl (mk_k106 _) rfl (mk_106_25 _)) ?_
        refine Eq.trans (s_push (y := 169) (pc := 55) (nx := 56) (a := 0) (b := 1) rfl) ?_
        refine Eq.trans (s_sub (y := 169) (pc := 56) (nx := 57) (b := 0) rfl) ?_
        refine Eq.trans (s_ald (y := 169) (pc := 57) (nx := 58) (a := 1) (b := 0) (k := 1) (n := 10) (t := 0) (v := (D 123 (w32 ((D 106 25) - 1)))) rfl (mk_k123 _) rfl rfl (mk_l123 _) (mk_c123 _ _)) (ite_c ?_ rfl)
        refine Eq.trans (s_load (y := 169) (pc := 58) (nx := 60) (a := 0) (b := 4) (x := (D 107 (D 108 (w32 ((w32 (10 * x1)) + x3))))) rfl rfl) ?_
        refine Eq.trans (s_iceq (y := 169) (pc := 60) (nx := 63) (b := 84) (tg := 84) rfl rfl) (ite_c ?_ ?_)
        · refine Eq.trans (s_iinc (y := 169) (pc := 84) (nx := 87) (a := 3) (b := 1) (x := x3) (ls' := [(3, 106), (0, x1), (0, x2), (0, (w32 (x3 + 1))), (0, (D 107 (D 108 (w32 ((w32 (10 * x1)) + x3)))))]) rfl rfl rfl) ?_
          refine Eq.trans (s_goto (y := 169) (pc := 87) (nx := 90) (a := 0) (b := 7) (tg := 7) rfl rfl) ?_
          rfl
        · rfl
    · rfl
  · exact s_retv (y := 169) (pc := 90) (nx := 91) (b := 0) rfl
theorem e_169_63 (D : Mem) (x1 : Int) (x2 : Int) (x3 : Int) (x4 : Int) : qE 169 63 [(3, 106), (0, x1), (0, x2), (0, x3), (0, x4)] [] (mk D) = (if 0 ≤ (D 106 25) ∧ (D 106 25) < 10 then qE 169 7 [(3, 106), (0, x1), (0, x2), (0, (w32 (x3 + 1))), (0, x4)] [] (mk (mU (mU D 123 (D 106 25) x4) 106 25 (w32 (((mU D 123 (D 106 25) x4) 106 25) + 1)))) else none) := by
  refine Eq.trans (s_load (y := 169) (pc := 63) (nx := 64) (a := 3) (b := 0) (x := 106) rfl rfl) ?_
  refine Eq.trans (s_get (y := 169) (pc := 64) (nx := 67) (a := 10) (b := 24) (t := 3) (v := 123) rfl (mk_k106 _) rfl (mk_106_24 _)) ?_
  refine Eq.trans (s_load (y := 169) (pc := 67) (nx := 68) (a := 3) (b := 0) (x := 106) rfl rfl) ?_
  refine Eq.trans (s_get (y := 169) (pc := 68) (nx := 71) (a := 10) (b := 25) (t := 0) (v := (D 106 25)) rfl (mk_k106 _) rfl (mk_106_25 _)) ?_
  refine Eq.trans (s_load (y := 169) (pc := 71) (nx := 73) (a := 0) (b := 4) (x := x4) rfl rfl) ?_
  refine Eq.trans (s_ast (y := 169) (pc := 73) (nx := 74) (a := 1) (b := 0) (k := 1) (n := 10) (t := 0) (v := x4) (μ' := mk (mU D 123 (D 106 25) x4)) rfl (by decide) (mk_k123 _) rfl (mk_l123 _) (mu_123 _ _ _)) (ite_c ?_ rfl)
  refine Eq.trans (s_load (y := 169) (pc := 74) (nx := 75) (a := 3) (b := 0) (x := 106) rfl rfl) ?_
  refine Eq.trans (s_dup (y := 169) (pc := 75) (nx := 76) (a := 0) (b := 0) rfl (by decide)) ?_
  refine Eq.trans (s_get (y := 169) (pc := 76) (nx := 79) (a := 10) (b := 25) (t := 0) (v := ((mU D 123 (D 106 25) x4) 106 25)) rfl (mk_k106 _) rfl (mk_106_25 _)) ?_
  refine Eq.trans (s_push (y := 169) (pc := 79) (nx := 80) (a := 0) (b := 1) rfl) ?_
  refine Eq.trans (s_add (y := 169) (pc := 80) (nx := 81) (b := 0) rfl) ?_
  refine Eq.trans (s_put (y := 169) (pc := 81) (nx := 84) (a := 10) (b := 25) (t := 0) (v := (w32 (((mU D 123 (D 106 25) x4) 106 25) + 1))) (μ' := mk (mU (mU D 123 (D 106 25) x4) 106 25 (w32 (((mU D 123 (D 106 25) x4) 106 25) + 1)))) rfl (mk_k106 _) rfl (mu_106_25 _ _)) ?_
  refine Eq.trans (s_iinc (y := 169) (pc := 84) (nx := 87) (a := 3) (b := 1) (x := x3) (ls' := [(3, 106), (0, x1), (0, x2), (0, (w32 (x3 + 1))), (0, x4)]) rfl rfl rfl) ?_
  refine Eq.trans (s_goto (y := 169) (pc := 87) (nx := 90) (a := 0) (b := 7) (tg := 7) rfl rfl) ?_
  rfl
