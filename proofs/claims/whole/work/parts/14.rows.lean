theorem r_170 (D : Mem) : qR 170 [(3, 106)] (mk D) = qE 170 10 [(3, 106), (0, 0)] [] (mk (mU D 106 27 (D 106 14))) := by
  show qE 170 0 [(3, 106), (9, 0)] [] (mk D) = _
  refine Eq.trans (s_load (y := 170) (pc := 0) (nx := 1) (a := 3) (b := 0) (x := 106) rfl rfl) ?_
  refine Eq.trans (s_load (y := 170) (pc := 1) (nx := 2) (a := 3) (b := 0) (x := 106) rfl rfl) ?_
  refine Eq.trans (s_get (y := 170) (pc := 2) (nx := 5) (a := 10) (b := 14) (t := 0) (v := (D 106 14)) rfl (mk_k106 _) rfl (mk_106_14 _)) ?_
  refine Eq.trans (s_put (y := 170) (pc := 5) (nx := 8) (a := 10) (b := 27) (t := 0) (v := (D 106 14)) (μ' := mk (mU D 106 27 (D 106 14))) rfl (mk_k106 _) rfl (mu_106_27 _ _)) ?_
  refine Eq.trans (s_push (y := 170) (pc := 8) (nx := 9) (a := 0) (b := 0) rfl) ?_
  refine Eq.trans (s_store (y := 170) (pc := 9) (nx := 10) (a := 0) (b := 1) (ls' := [(3, 106), (0, 0)]) rfl (Nat.le_of_ble_eq_true rfl) rfl) ?_
  rfl
theorem e_170_10 (D : Mem) (x1 : Int) : qE 170 10 [(3, 106), (0, x1)] [] (mk D) = (if x1 < (D 106 14) then (if 0 ≤ x1 ∧ x1 < 12 then (if 0 ≤ x1 ∧ x1 < 12 then qE 170 10 [(3, 106), (0, (w32 (x1 + 1)))] [] (mk (mU D 124 x1 (D 116 x1))) else none) else none) else some ((9, 0), (mk D))) := by
  refine Eq.trans (s_load (y := 170) (pc := 10) (nx := 11) (a := 0) (b := 1) (x := x1) rfl rfl) ?_
  refine Eq.trans (s_load (y := 170) (pc := 11) (nx := 12) (a := 3) (b := 0) (x := 106) rfl rfl) ?_
  refine Eq.trans (s_get (y := 170) (pc := 12) (nx := 15) (a := 10) (b := 14) (t := 0) (v := (D 106 14)) rfl (mk_k106 _) rfl (mk_106_14 _)) ?_
  refine Eq.trans (s_icge (y := 170) (pc := 15) (nx := 18) (b := 36) (tg := 36) rfl rfl) (ite_c ?_ ?_)
  · refine Eq.trans (s_load (y := 170) (pc := 18) (nx := 19) (a := 3) (b := 0) (x := 106) rfl rfl) ?_
    refine Eq.trans (s_get (y := 170) (pc := 19) (nx := 22) (a := 10) (b := 26) (t := 3) (v := 124) rfl (mk_k106 _) rfl (mk_106_26 _)) ?_
    refine Eq.trans (s_load (y := 170) (pc := 22) (nx := 23) (a := 0) (b := 1) (x := x1) rfl rfl) ?_
    refine Eq.trans (s_load (y := 170) (pc := 23) (nx := 24) (a := 3) (b := 0) (x := 106) rfl rfl) ?_
    refine Eq.trans (s_get (y := 170) (pc := 24) (nx := 27) (a := 10) (b := 13) (t := 3) (v := 116) rfl (mk_k106 _) rfl (mk_106_13 _)) ?_
    refine Eq.trans (s_load (y := 170) (pc := 27) (nx := 28) (a := 0) (b := 1) (x := x1) rfl rfl) ?_
    refine Eq.trans (s_ald (y := 170) (pc := 28) (nx := 29) (a := 1) (b := 0) (k := 1) (n := 12) (t := 0) (v := (D 116 x1)) rfl (mk_k116 _) rfl rfl (mk_l116 _) (mk_c116 _ _)) (ite_c ?_ rfl)
    refine Eq.trans (s_ast (y := 170) (pc := 29) (nx := 30) (a := 1) (b := 0) (k := 1) (n := 12) (t := 0) (v := (D 116 x1)) (μ' := mk (mU D 124 x1 (D 116 x1))) rfl (by decide) (mk_k124 _) rfl (mk_l124 _) (mu_124 _ _ _)) (ite_c ?_ rfl)
    refine Eq.trans (s_iinc (y := 170) (pc := 30) (nx := 33) (a := 1) (b := 1) (x := x1) (ls' := [(3, 106), (0, (w32 (x1 + 1)))]) rfl rfl rfl) ?_
    refine Eq.trans (s_goto (y := 170) (pc := 33) (nx := 36) (a := 0) (b := 10) (tg := 10) rfl rfl) ?_
    rfl
  · exact s_retv (y := 170) (pc := 36) (nx := 37) (b := 0) rfl
theorem r_171 (D : Mem) (x1 : Int) (x2 : Int) : qR 171 [(3, 106), (0, x1), (0, x2)] (mk D) = ((qR 169 [(3, 106), (0, x1), (0, x2)] (mk D)).bind fun w => qE 171 6 [(3, 106), (0, x1), (0, x2), (9, 0)] (psh w.1 []) w.2) := by
  show qE 171 0 [(3, 106), (0, x1), (0, x2), (9, 0)] [] (mk D) = _
  refine Eq.trans (s_load (y := 171) (pc := 0) (nx := 1) (a := 3) (b := 0) (x := 106) rfl rfl) ?_
  refine Eq.trans (s_load (y := 171) (pc := 1) (nx := 2) (a := 0) (b := 1) (x := x1) rfl rfl) ?_
  refine Eq.trans (s_load (y := 171) (pc := 2) (nx := 3) (a := 0) (b := 2) (x := x2) rfl rfl) ?_
  exact s_call (y := 171) (pc := 3) (nx := 6) (a := 169) (b := 0) (as := [(3, 106), (0, x1), (0, x2)]) (r := []) rfl (Nat.le_of_ble_eq_true rfl) rfl rfl (Nat.le_of_ble_eq_true rfl) (Nat.le_of_ble_eq_true rfl) (Or.inr ⟨rfl, mk_k106 _⟩)
theorem e_171_6 (D : Mem) (x1 : Int) (x2 : Int) : qE 171 6 [(3, 106), (0, x1), (0, x2), (9, 0)] [] (mk D) = qE 171 16 [(3, 106), (0, x1), (0, x2), (0, 0)] [] (mk (mU D 106 27 (D 106 25))) := by
  refine Eq.trans (s_load (y := 171) (pc := 6) (nx := 7) (a := 3) (b := 0) (x := 106) rfl rfl) ?_
  refine Eq.trans (s_load (y := 171) (pc := 7) (nx := 8) (a := 3) (b := 0) (x := 106) rfl rfl) ?_
  refine Eq.trans (s_get (y := 171) (pc := 8) (nx := 11) (a := 10) (b := 25) (t := 0) (v := (D 106 25)) rfl (mk_k106 _) rfl (mk_106_25 _)) ?_
  refine Eq.trans (s_put (y := 171) (pc := 11) (nx := 14) (a := 10) (b := 27) (t := 0) (v := (D 106 25)) (μ' := mk (mU D 106 27 (D 106 25))) rfl (mk_k106 _) rfl (mu_106_27 _ _)) ?_
  refine Eq.trans (s_push (y := 171) (pc := 14) (nx := 15) (a := 0) (b := 0) rfl) ?_
  refine Eq.trans (s_store (y := 171) (pc := 15) (nx := 16) (a := 0) (b := 3) (ls' := [(3, 106), (0, x1), (0, x2), (0, 0)]) rfl (Nat.le_of_ble_eq_true rfl) rfl) ?_
  rfl
theorem e_171_16 (D : Mem) (x1 : Int) (x2 : Int) (x3 : Int) : qE 171 16 [(3, 106), (0, x1), (0, x2), (0, x3)] [] (mk D) = (if x3 < (D 106 25) then (if 0 ≤ x3 ∧ x3 < 10 then (if 0 ≤ x3 ∧ x3 < 12 then qE 171 16 [(3, 106), (0, x1), (0, x2), (0, (w32 (x3 + 1)))] [] (mk (mU D 124 x3 (D 123 x3))) else none) else none) else some ((9, 0), (mk D))) := by
  refine Eq.trans (s_load (y := 171) (pc := 16) (nx := 17) (a := 0) (b := 3) (x := x3) rfl rfl) ?_
  refine Eq.trans (s_load (y := 171) (pc := 17) (nx := 18) (a := 3) (b := 0) (x := 106) rfl rfl) ?_
  refine Eq.trans (s_get (y := 171) (pc := 18) (nx := 21) (a := 10) (b := 25) (t := 0) (v := (D 106 25)) rfl (mk_k106 _) rfl (mk_106_25 _)) ?_
  refine Eq.trans (s_icge (y := 171) (pc := 21) (nx := 24) (b := 42) (tg := 42) rfl rfl) (ite_c ?_ ?_)
  · refine Eq.trans (s_load (y := 171) (pc := 24) (nx := 25) (a := 3) (b := 0) (x := 106) rfl rfl) ?_
    refine Eq.trans (s_get (y := 171) (pc := 25) (nx := 28) (a := 10) (b := 26) (t := 3) (v := 124) rfl (mk_k106 _) rfl (mk_106_26 _)) ?_
    refine Eq.trans (s_load (y := 171) (pc := 28) (nx := 29) (a := 0) (b := 3) (x := x3) rfl rfl) ?_
    refine Eq.trans (s_load (y := 171) (pc := 29) (nx := 30) (a := 3) (b := 0) (x := 106) rfl rfl) ?_
    refine Eq.trans (s_get (y := 171) (pc := 30) (nx := 33) (a := 10) (b := 24) (t := 3) (v := 123) rfl (mk_k106 _) rfl (mk_106_24 _)) ?_
    refine Eq.trans (s_load (y := 171) (pc := 33) (nx := 34) (a := 0) (b := 3) (x := x3) rfl rfl) ?_
    refine Eq.trans (s_ald (y := 171) (pc := 34) (nx := 35) (a := 1) (b := 0) (k := 1) (n := 10) (t := 0) (v := (D 123 x3)) rfl (mk_k123 _) rfl rfl (mk_l123 _) (mk_c123 _ _)) (ite_c ?_ rfl)
    refine Eq.trans (s_ast (y := 171) (pc := 35) (nx := 36) (a := 1) (b := 0) (k := 1) (n := 12) (t := 0) (v := (D 123 x3)) (μ' := mk (mU D 124 x3 (D 123 x3))) rfl (by decide) (mk_k124 _) rfl (mk_l124 _) (mu_124 _ _ _)) (ite_c ?_ rfl)
    refine Eq.trans (s_iinc (y := 171) (pc := 36) (nx := 39) (a := 3) (b := 1) (x := x3) (ls' := [(3, 106), (0, x1), (0, x2), (0, (w32 (x3 + 1)))]) rfl rfl rfl) ?_
    refine Eq.trans (s_goto (y := 171) (pc := 39) (nx := 42) (a := 0) (b := 16) (tg := 16) rfl rfl) ?_
    rfl
  · exact s_retv (y := 171) (pc := 42) (nx := 43) (b := 0) rfl
theorem r_172 (D : Mem) (x1 : Int) (x2 : Int) (x3 : Int) : qR 172 [(3, 106), (0, x1), (0, x2), (0, x3)] (mk D) = qE 172 6 [(3, 106), (0, x1), (0, x2), (0, x3), (0, 1), (0, 0)] [] (mk D) := by
  show qE 172 0 [(3, 106), (0, x1), (0, x2), (0, x3), (9, 0), (9, 0)] [] (mk D) = _
  refine Eq.trans (s_push (y := 172) (pc := 0) (nx := 1) (a := 0) (b := 1) rfl) ?_
  refine Eq.trans (s_store (y := 172) (pc := 1) (nx := 3) (a := 0) (b := 4) (ls' := [(3, 106), (0, x1), (0, x2), (0, x3), (0, 1), (9, 0)]) rfl (Nat.le_of_ble_eq_true rfl) rfl) ?_
  refine Eq.trans (s_push (y := 172) (pc := 3) (nx := 4) (a := 0) (b := 0) rfl) ?_
  refine Eq.trans (s_store (y := 172) (pc := 4) (nx := 6) (a := 0) (b := 5) (ls' := [(3, 106), (0, x1), (0, x2), (0, x3), (0, 1), (0, 0)]) rfl (Nat.le_of_ble_eq_true rfl) rfl) ?_
  rfl
theorem e_172_6 (D : Mem) (x1 : Int) (x2 : Int) (x3 : Int) (x4 : Int) (x5 : Int) : qE 172 6 [(3, 106), (0, x1), (0, x2), (0, x3), (0, x4), (0, x5)] [] (mk D) = (if x5 < x3 then (if x4 = 0 then (if x4 = 0 ∨ x4 = 1 then some ((0, x4), (mk D)) else none) else (if 0 ≤ (w32 (x1 + x5)) ∧ (w32 (x1 + x5)) < 12 then (if 0 ≤ (w32 (x2 + x5)) ∧ (w32 (x2 + x5)) < 10 then (if (D 124 (w32 (x1 + x5))) = (D 123 (w32 (x2 + x5))) then qE 172 6 [(3, 106), (0, x1), (0, x2), (0, x3), (0, 1), (0, (w32 (x5 + 1)))] [] (mk D) else qE 172 6 [(3, 106), (0, x1), (0, x2), (0, x3), (0, 0), (0, (w32 (x5 + 1)))] [] (mk D)) else none) else none)) else (if x4 = 0 ∨ x4 = 1 then some ((0, x4), (mk D)) else none)) := by
  refine Eq.trans (s_load (y := 172) (pc := 6) (nx := 8) (a := 0) (b := 5) (x := x5) rfl rfl) ?_
  refine Eq.trans (s_load (y := 172) (pc := 8) (nx := 9) (a := 0) (b := 3) (x := x3) rfl rfl) ?_
  refine Eq.trans (s_icge (y := 172) (pc := 9) (nx := 12) (b := 51) (tg := 51) rfl rfl) (ite_c ?_ ?_)
  · refine Eq.trans (s_load (y := 172) (pc := 12) (nx := 14) (a := 0) (b := 4) (x := x4) rfl rfl) ?_
    refine Eq.trans (s_ifeq (y := 172) (pc := 14) (nx := 17) (b := 51) (tg := 51) rfl rfl) (ite_c ?_ ?_)
    · refine Eq.trans (s_load (y := 172) (pc := 51) (nx := 53) (a := 0) (b := 4) (x := x4) rfl rfl) ?_
      exact s_retzq (y := 172) (pc := 53) (nx := 54) rfl
    · refine Eq.trans (s_load (y := 172) (pc := 17) (nx := 18) (a := 3) (b := 0) (x := 106) rfl rfl) ?_
      refine Eq.trans (s_get (y := 172) (pc := 18) (nx := 21) (a := 10) (b := 26) (t := 3) (v := 124) rfl (mk_k106 _) rfl (mk_106_26 _)) ?_
      refine Eq.trans (s_load (y := 172) (pc := 21) (nx := 22) (a := 0) (b := 1) (x := x1) rfl rfl) ?_
      refine Eq.trans (s_load (y := 172) (pc := 22) (nx := 24) (a := 0) (b := 5) (x := x5) rfl rfl) ?_
      refine Eq.trans (s_add (y := 172) (pc := 24) (nx := 25) (b := 0) rfl) ?_
      refine Eq.trans (s_ald (y := 172) (pc := 25) (nx := 26) (a := 1) (b := 0) (k := 1) (n := 12) (t := 0) (v := (D 124 (w32 (x1 + x5)))) rfl (mk_k124 _) rfl rfl (mk_l124 _) (mk_c124 _ _)) (ite_c ?_ rfl)
      refine Eq.trans (s_load (y := 172) (pc := 26) (nx := 27) (a := 3) (b := 0) (x := 106) rfl rfl) ?_
      refine Eq.trans (s_get (y := 172) (pc := 27) (nx := 30) (a := 10) (b := 24) (t := 3) (v := 123) rfl (mk_k106 _) rfl (mk_106_24 _)) ?_
      refine Eq.trans (s_load (y := 172) (pc := 30) (nx := 31) (a := 0) (b := 2) (x := x2) rfl rfl) ?_
      refine Eq.trans (s_load (y := 172) (pc := 31) (nx := 33) (a := 0) (b := 5) (x := x5) rfl rfl) ?_
      refine Eq.trans (s_add (y := 172) (pc := 33) (nx := 34) (b := 0) rfl) ?_
      refine Eq.trans (s_ald (y := 172) (pc := 34) (nx := 35) (a := 1) (b := 0) (k := 1) (n := 10) (t := 0) (v := (D 123 (w32 (x2 + x5)))) rfl (mk_k123 _) rfl rfl (mk_l123 _) (mk_c123 _ _)) (ite_c ?_ rfl)
      refine Eq.trans (s_icne (y := 172) (pc := 35) (nx := 38) (b := 42) (tg := 42) rfl rfl) (ite_c ?_ ?_)
      · refine Eq.trans (s_push (y := 172) (pc := 38) (nx := 39) (a := 0) (b := 1) rfl) ?_
        refine Eq.trans (s_goto (y := 172) (pc := 39) (nx := 42) (a := 0) (b := 43) (tg := 43) rfl rfl) ?_
        refine Eq.trans (s_store (y := 172) (pc := 43) (nx := 45) (a := 0) (b := 4) (ls' := [(3, 106), (0, x1), (0, x2), (0, x3), (0, 1), (0, x5)]) rfl (Nat.le_of_ble_eq_true rfl) rfl) ?_
        refine Eq.trans (s_iinc (y := 172) (pc := 45) (nx := 48) (a := 5) (b := 1) (x := x5) (ls' := [(3, 106), (0, x1), (0, x2), (0, x3), (0, 1), (0, (w32 (x5 + 1)))]) rfl rfl rfl) ?_
        refine Eq.trans (s_goto (y := 172) (pc := 48) (nx := 51) (a := 0) (b := 6) (tg := 6) rfl rfl) ?_
        rfl
      · refine Eq.trans (s_push (y := 172) (pc := 42) (nx := 43) (a := 0) (b := 0) rfl) ?_
        refine Eq.trans (s_store (y := 172) (pc := 43) (nx := 45) (a := 0) (b := 4) (ls' := [(3, 106), (0, x1), (0, x2), (0, x3), (0, 0), (0, x5)]) rfl (Nat.le_of_ble_eq_true rfl) rfl) ?_
        refine Eq.trans (s_iinc (y := 172) (pc := 45) (nx := 48) (a := 5) (b := 1) (x := x5) (ls' := [(3, 106), (0, x1), (0, x2), (0, x3), (0, 0), (0, (w32 (x5 + 1)))]) rfl rfl rfl) ?_
        refine Eq.trans (s_goto (y := 172) (pc := 48) (nx := 51) (a := 0) (b := 6) (tg := 6) rfl rfl) ?_
        rfl
  · refine Eq.trans (s_load (y := 172) (pc := 51) (nx := 53) (a := 0) (b := 4) (x := x4) rfl rfl) ?_
    exact s_retzq (y := 172) (pc := 53) (nx := 54) rfl
theorem r_173 (D : Mem) (x1 : Int) (x2 : Int) : qR 173 [(3, 106), (0, x1), (0, x2)] (mk D) = (if x2 = 3 then ((qR 169 [(3, 106), (0, x1), (0, 1)] (mk D)).bind fun w => qE 173 15 [(3, 106), (0, x1), (0, x2)] (psh w.1 []) w.2) else ((qR 169 [(3, 106), (0, x1), (0, x2)] (mk D)).bind fun w => qE 173 15 [(3, 106), (0, x1), (0, x2)] (psh w.1 []) w.2)) := by
  show qE 173 0 [(3, 106), (0, x1), (0, x2)] [] (mk D) = _
  refine Eq.trans (s_load (y := 173) (pc := 0) (nx := 1) (a := 3) (b := 0) (x := 106) rfl rfl) ?_
  refine Eq.trans (s_load (y := 173) (pc := 1) (nx := 2) (a := 0) (b := 1) (x := x1) rfl rfl) ?_
  refine Eq.trans (s_load (y := 173) (pc := 2) (nx := 3) (a := 0) (b := 2) (x := x2) rfl rfl) ?_
  refine Eq.trans (s_push (y := 173) (pc := 3) (nx := 4) (a := 0) (b := 3) rfl) ?_
  refine Eq.trans (s_icne (y := 173) (pc := 4) (nx := 7) (b := 11) (tg := 11) rfl rfl) (ite_c ?_ ?_)
  · refine Eq.trans (s_push (y := 173) (pc := 7) (nx := 8) (a := 0) (b := 1) rfl) ?_
    refine Eq.trans (s_goto (y := 173) (pc := 8) (nx := 11) (a := 0) (b := 12) (tg := 12) rfl rfl) ?_
    exact s_call (y := 173) (pc := 12) (nx := 15) (a := 169) (b := 0) (as := [(3, 106), (0, x1), (0, 1)]) (r := []) rfl (Nat.le_of_ble_eq_true rfl) rfl rfl (Nat.le_of_ble_eq_true rfl) (Nat.le_of_ble_eq_true rfl) (Or.inr ⟨rfl, mk_k106 _⟩)
  · refine Eq.trans (s_load (y := 173) (pc := 11) (nx := 12) (a := 0) (b := 2) (x := x2) rfl rfl) ?_
    exact s_call (y := 173) (pc := 12) (nx := 15) (a := 169) (b := 0) (as := [(3, 106), (0, x1), (0, x2)]) (r := []) rfl (Nat.le_of_ble_eq_true rfl) rfl rfl (Nat.le_of_ble_eq_true rfl) (Nat.le_of_ble_eq_true rfl) (Or.inr ⟨rfl, mk_k106 _⟩)
theorem e_173_15 (D : Mem) (x1 : Int) (x2 : Int) : qE 173 15 [(3, 106), (0, x1), (0, x2)] [] (mk D) = (if x2 = 3 then (if (D 106 27) ≤ 0 then some ((0, 0), (mk D)) else (if (D 106 27) ≤ (D 106 25) then ((qR 172 [(3, 106), (0, 0), (0, 0), (0, (D 106 27))] (mk D)).bind fun w => qE 173 48 [(3, 106), (0, x1), (0, x2)] (psh w.1 []) w.2) else some ((0, 0), (mk D)))) else (if (D 106 27) = (D 106 25) then ((qR 172 [(3, 106), (0, 0), (0, 0), (0, (D 106 27))] (mk D)).bind fun w => qE 173 78 [(3, 106), (0, x1), (0, x2)] (psh w.1 []) w.2) else some ((0, 0), (mk D)))) := by
  refine Eq.trans (s_load (y := 173) (pc := 15) (nx := 16) (a := 0) (b := 2) (x := x2) rfl rfl) ?_
  refine Eq.trans (s_push (y := 173) (pc := 16) (nx := 17) (a := 0) (b := 3) rfl) ?_
  refine Eq.trans (s_icne (y := 173) (pc := 17) (nx := 20) (b := 57) (tg := 57) rfl rfl) (ite_c ?_ ?_)
  · refine Eq.trans (s_load (y := 173) (pc := 20) (nx := 21) (a := 3) (b := 0) (x := 106) rfl rfl) ?_
    refine Eq.trans (s_get (y := 173) (pc := 21) (nx := 24) (a := 10) (b := 27) (t := 0) (v := (D 106 27)) rfl (mk_k106 _) rfl (mk_106_27 _)) ?_
    refine Eq.trans (s_ifle (y := 173) (pc := 24) (nx := 27) (b := 55) (tg := 55) rfl rfl) (ite_c ?_ ?_)
    · refine Eq.trans (s_push (y := 173) (pc := 55) (nx := 56) (a := 0) (b := 0) rfl) ?_
      exact s_retz (y := 173) (pc := 56) (nx := 57) rfl (by decide)
    · refine Eq.trans (s_load (y := 173) (pc := 27) (nx := 28) (a := 3) (b := 0) (x := 106) rfl rfl) ?_
      refine Eq.trans (s_get (y := 173) (pc := 28) (nx := 31) (a := 10) (b := 27) (t := 0) (v := (D 106 27)) rfl (mk_k106 _) rfl (mk_106_27 _)) ?_
      refine Eq.trans (s_load (y := 173) (pc := 31) (nx := 32) (a := 3) (b := 0) (x := 106) rfl rfl) ?_
      refine Eq.trans (s_get (y := 173) (pc := 32) (nx := 35) (a := 10) (b := 25) (t := 0) (v := (D 106 25)) rfl (mk_k106 _) rfl (mk_106_25 _)) ?_
      refine Eq.trans (s_icgt (y := 173) (pc := 35) (nx := 38) (b := 55) (tg := 55) rfl rfl) (ite_c ?_ ?_)
      · refine Eq.trans (s_load (y := 173) (pc := 38) (nx := 39) (a := 3) (b := 0) (x := 106) rfl rfl) ?_
        refine Eq.trans (s_push (y := 173) (pc := 39) (nx := 40) (a := 0) (b := 0) rfl) ?_
        refine Eq.trans (s_push (y := 173) (pc := 40) (nx := 41) (a := 0) (b := 0) rfl) ?_
        refine Eq.trans (s_load (y := 173) (pc := 41) (nx := 42) (a := 3) (b := 0) (x := 106) rfl rfl) ?_
        refine Eq.trans (s_get (y := 173) (pc := 42) (nx := 45) (a := 10) (b := 27) (t := 0) (v := (D 106 27)) rfl (mk_k106 _) rfl (mk_106_27 _)) ?_
        exact s_call (y := 173) (pc := 45) (nx := 48) (a := 172) (b := 0) (as := [(3, 106), (0, 0), (0, 0), (0, (D 106 27))]) (r := []) rfl (Nat.le_of_ble_eq_true rfl) rfl rfl (Nat.le_of_ble_eq_true rfl) (Nat.le_of_ble_eq_true rfl) (Or.inr ⟨rfl, mk_k106 _⟩)
      · refine Eq.trans (s_push (y := 173) (pc := 55) (nx := 56) (a := 0) (b := 0) rfl) ?_
        exact s_retz (y := 173) (pc := 56) (nx := 57) rfl (by decide)
  · refine Eq.trans (s_load (y := 173) (pc := 57) (nx := 58) (a := 3) (b := 0) (x := 106) rfl rfl) ?_
    refine Eq.trans (s_get (y := 173) (pc := 58) (nx := 61) (a := 10) (b := 27) (t := 0) (v := (D 106 27)) rfl (mk_k106 _) rfl (mk_106_27 _)) ?_
    refine Eq.trans (s_load (y := 173) (pc := 61) (nx := 62) (a := 3) (b := 0) (x := 106) rfl rfl) ?_
    refine Eq.trans (s_get (y := 173) (pc := 62) (nx := 65) (a := 10) (b := 25) (t := 0) (v := (D 106 25)) rfl (mk_k106 _) rfl (mk_106_25 _)) ?_
    refine Eq.trans (s_icne (y := 173) (pc := 65) (nx := 68) (b := 85) (tg := 85) rfl rfl) (ite_c ?_ ?_)
    · refine Eq.trans (s_load (y := 173) (pc := 68) (nx := 69) (a := 3) (b := 0) (x := 106) rfl rfl) ?_
      refine Eq.trans (s_push (y := 173) (pc := 69) (nx := 70) (a := 0) (b := 0) rfl) ?_
      refine Eq.trans (s_push (y := 173) (pc := 70) (nx := 71) (a := 0) (b := 0) rfl) ?_
      refine Eq.trans (s_load (y := 173) (pc := 71) (nx := 72) (a := 3) (b := 0) (x := 106) rfl rfl) ?_
      refine Eq.trans (s_get (y := 173) (pc := 72) (nx := 75) (a := 10) (b := 27) (t := 0) (v := (D 106 27)) rfl (mk_k106 _) rfl (mk_106_27 _)) ?_
      exact s_call (y := 173) (pc := 75) (nx := 78) (a := 172) (b := 0) (as := [(3, 106), (0, 0), (0, 0), (0, (D 106 27))]) (r := []) rfl (Nat.le_of_ble_eq_true rfl) rfl rfl (Nat.le_of_ble_eq_true rfl) (Nat.le_of_ble_eq_true rfl) (Or.inr ⟨rfl, mk_k106 _⟩)
    · refine Eq.trans (s_push (y := 173) (pc := 85) (nx := 86) (a := 0) (b := 0) rfl) ?_
      exact s_retz (y := 173) (pc := 86) (nx := 87) rfl (by decide)
theorem e_173_48 (D : Mem) (x1 : Int) (x2 : Int) (s0 : Int) : qE 173 48 [(3, 106), (0, x1), (0, x2)] [(0, s0)] (mk D) = (if s0 = 0 then some ((0, 0), (mk D)) else some ((0, 1), (mk D))) := by
  refine Eq.trans (s_ifeq (y := 173) (pc := 48) (nx := 51) (b := 55) (tg := 55) rfl rfl) (ite_c ?_ ?_)
  · refine Eq.trans (s_push (y := 173) (pc := 55) (nx := 56) (a := 0) (b := 0) rfl) ?_
    exact s_retz (y := 173) (pc := 56) (nx := 57) rfl (by decide)
  · refine Eq.trans (s_push (y := 173) (pc := 51) (nx := 52) (a := 0) (b := 1) rfl) ?_
    refine Eq.trans (s_goto (y := 173) (pc := 52) (nx := 55) (a := 0) (b := 56) (tg := 56) rfl rfl) ?_
    exact s_retz (y := 173) (pc := 56) (nx := 57) rfl (by decide)
theorem e_173_78 (D : Mem) (x1 : Int) (x2 : Int) (s0 : Int) : qE 173 78 [(3, 106), (0, x1), (0, x2)] [(0, s0)] (mk D) = (if s0 = 0 then some ((0, 0), (mk D)) else some ((0, 1), (mk D))) := by
  refine Eq.trans (s_ifeq (y := 173) (pc := 78) (nx := 81) (b := 85) (tg := 85) rfl rfl) (ite_c ?_ ?_)
  · refine Eq.trans (s_push (y := 173) (pc := 85) (nx := 86) (a := 0) (b := 0) rfl) ?_
    exact s_retz (y := 173) (pc := 86) (nx := 87) rfl (by decide)
  · refine Eq.trans (s_push (y := 173) (pc := 81) (nx := 82) (a := 0) (b := 1) rfl) ?_
    refine Eq.trans (s_goto (y := 173) (pc := 82) (nx := 85) (a := 0) (b := 86) (tg := 86) rfl rfl) ?_
    exact s_retz (y := 173) (pc := 86) (nx := 87) rfl (by decide)
theorem r_174 (D : Mem) : qR 174 [(3, 106)] (mk D) = qE 174 4 [(3, 106), (0, 0), (0, 0)] [] (mk D) := by
  show qE 174 0 [(3, 106), (9, 0), (9, 0)] [] (mk D) = _
  refine Eq.trans (s_push (y := 174) (pc := 0) (nx := 1) (a := 0) (b := 0) rfl) ?_
  refine Eq.trans (s_store (y := 174) (pc := 1) (nx := 2) (a := 0) (b := 1) (ls' := [(3, 106), (0, 0), (9, 0)]) rfl (Nat.le_of_ble_eq_true rfl) rfl) ?_
  refine Eq.trans (s_push (y := 174) (pc := 2) (nx := 3) (a := 0) (b := 0) rfl) ?_
  refine Eq.trans (s_store (y := 174) (pc := 3) (nx := 4) (a := 0) (b := 2) (ls' := [(3, 106), (0, 0), (0, 0)]) rfl (Nat.le_of_ble_eq_true rfl) rfl) ?_
  rfl
theorem e_174_4 (D : Mem) (x1 : Int) (x2 : Int) : qE 174 4 [(3, 106), (0, x1), (0, x2)] [] (mk D) = (if (D 106 27) = (D 106 25) then (if x2 < (D 106 27) then (if x1 = 0 then (if 0 ≤ x2 ∧ x2 < 12 then (if 0 ≤ x2 ∧ x2 < 10 then ((qR 147 [(3, 106), (0, (D 124 x2)), (0, (D 123 x2))] (mk D)).bind fun w => qE 174 43 [(3, 106), (0, x1), (0, x2)] (psh w.1 []) w.2) else none) else none) else qE 174 4 [(3, 106), (0, 1), (0, (w32 (x2 + 1)))] [] (mk D)) else (if x1 = 0 ∨ x1 = 1 then some ((0, x1), (mk D)) else none)) else (if x1 = 0 ∨ x1 = 1 then some ((0, x1), (mk D)) else none)) := by
  refine Eq.trans (s_load (y := 174) (pc := 4) (nx := 5) (a := 3) (b := 0) (x := 106) rfl rfl) ?_
  refine Eq.trans (s_get (y := 174) (pc := 5) (nx := 8) (a := 10) (b := 27) (t := 0) (v := (D 106 27)) rfl (mk_k106 _) rfl (mk_106_27 _)) ?_
  refine Eq.trans (s_load (y := 174) (pc := 8) (nx := 9) (a := 3) (b := 0) (x := 106) rfl rfl) ?_
  refine Eq.trans (s_get (y := 174) (pc := 9) (nx := 12) (a := 10) (b := 25) (t := 0) (v := (D 106 25)) rfl (mk_k106 _) rfl (mk_106_25 _)) ?_
  refine Eq.trans (s_icne (y := 174) (pc := 12) (nx := 15) (b := 89) (tg := 89) rfl rfl) (ite_c ?_ ?_)
  · refine Eq.trans (s_load (y := 174) (pc := 15) (nx := 16) (a := 0) (b := 2) (x := x2) rfl rfl) ?_
    refine Eq.trans (s_load (y := 174) (pc := 16) (nx := 17) (a := 3) (b := 0) (x := 106) rfl rfl) ?_
    refine Eq.trans (s_get (y := 174) (pc := 17) (nx := 20) (a := 10) (b := 27) (t := 0) (v := (D 106 27)) rfl (mk_k106 _) rfl (mk_106_27 _)) ?_
    refine Eq.trans (s_icge (y := 174) (pc := 20) (nx := 23) (b := 89) (tg := 89) rfl rfl) (ite_c ?_ ?_)
    · refine Eq.trans (s_load (y := 174) (pc := 23) (nx := 24) (a := 0) (b := 1) (x := x1) rfl rfl) ?_
      refine Eq.trans (s_ifne (y := 174) (pc := 24) (nx := 27) (b := 77) (tg := 77) rfl rfl) (ite_c ?_ ?_)
      · refine Eq.trans (s_load (y := 174) (pc := 27) (nx := 28) (a := 3) (b := 0) (x := 106) rfl rfl) ?_
        refine Eq.trans (s_load (y := 174) (pc := 28) (nx := 29) (a := 3) (b := 0) (x := 106) rfl rfl) ?_
        refine Eq.trans (s_get (y := 174) (pc := 29) (nx := 32) (a := 10) (b := 26) (t := 3) (v := 124) rfl (mk_k106 _) rfl (mk_106_26 _)) ?_
        refine Eq.trans (s_load (y := 174) (pc := 32) (nx := 33) (a := 0) (b := 2) (x := x2) rfl rfl) ?_
        refine Eq.trans (s_ald (y := 174) (pc := 33) (nx := 34) (a := 1) (b := 0) (k := 1) (n := 12) (t := 0) (v := (D 124 x2)) rfl (mk_k124 _) rfl rfl (mk_l124 _) (mk_c124 _ _)) (ite_c ?_ rfl)
        refine Eq.trans (s_load (y := 174) (pc := 34) (nx := 35) (a := 3) (b := 0) (x := 106) rfl rfl) ?_
        refine Eq.trans (s_get (y := 174) (pc := 35) (nx := 38) (a := 10) (b := 24) (t := 3) (v := 123) rfl (mk_k106 _) rfl (mk_106_24 _)) ?_
        refine Eq.trans (s_load (y := 174) (pc := 38) (nx := 39) (a := 0) (b := 2) (x := x2) rfl rfl) ?_
        refine Eq.trans (s_ald (y := 174) (pc := 39) (nx := 40) (a := 1) (b := 0) (k := 1) (n := 10) (t := 0) (v := (D 123 x2)) rfl (mk_k123 _) rfl rfl (mk_l123 _) (mk_c123 _ _)) (ite_c ?_ rfl)
        exact s_call (y := 174) (pc := 40) (nx := 43) (a := 147) (b := 0) (as := [(3, 106), (0, (D 124 x2)), (0, (D 123 x2))]) (r := []) rfl (Nat.le_of_ble_eq_true rfl) rfl rfl (Nat.le_of_ble_eq_true rfl) (Nat.le_of_ble_eq_true rfl) (Or.inr ⟨rfl, mk_k106 _⟩)
      · refine Eq.trans (s_push (y := 174) (pc := 77) (nx := 78) (a := 0) (b := 1) rfl) ?_
        refine Eq.trans (s_goto (y := 174) (pc := 78) (nx := 81) (a := 0) (b := 82) (tg := 82) rfl rfl) ?_
        refine Eq.trans (s_store (y := 174) (pc := 82) (nx := 83) (a := 0) (b := 1) (ls' := [(3, 106), (0, 1), (0, x2)]) rfl (Nat.le_of_ble_eq_true rfl) rfl) ?_
        refine Eq.trans (s_iinc (y := 174) (pc := 83) (nx := 86) (a := 2) (b := 1) (x := x2) (ls' := [(3, 106), (0, 1), (0, (w32 (x2 + 1)))]) rfl rfl rfl) ?_
        refine Eq.trans (s_goto (y := 174) (pc := 86) (nx := 89) (a := 0) (b := 4) (tg := 4) rfl rfl) ?_
        rfl
    · refine Eq.trans (s_load (y := 174) (pc := 89) (nx := 90) (a := 0) (b := 1) (x := x1) rfl rfl) ?_
      exact s_retzq (y := 174) (pc := 90) (nx := 91) rfl
  · refine Eq.trans (s_load (y := 174) (pc := 89) (nx := 90) (a := 0) (b := 1) (x := x1) rfl rfl) ?_
    exact s_retzq (y := 174) (pc := 90) (nx := 91) rfl
theorem e_174_43 (D : Mem) (x1 : Int) (x2 : Int) (s0 : Int) : qE 174 43 [(3, 106), (0, x1), (0, x2)] [(0, s0)] (mk D) = (if s0 = 0 then qE 174 4 [(3, 106), (0, 0), (0, (w32 (x2 + 1)))] [] (mk D) else ((qR 172 [(3, 106), (0, 0), (0, 0), (0, x2)] (mk D)).bind fun w => qE 174 53 [(3, 106), (0, x1), (0, x2)] (psh w.1 []) w.2)) := by
  refine Eq.trans (s_ifeq (y := 174) (pc := 43) (nx := 46) (b := 81) (tg := 81) rfl rfl) (ite_c ?_ ?_)
  · refine Eq.trans (s_push (y := 174) (pc := 81) (nx := 82) (a := 0) (b := 0) rfl) ?_
    refine Eq.trans (s_store (y := 174) (pc := 82) (nx := 83) (a := 0) (b := 1) (ls' := [(3, 106), (0, 0), (0, x2)]) rfl (Nat.le_of_ble_eq_true rfl) rfl) ?_
    refine Eq.trans (s_iinc (y := 174) (pc := 83) (nx := 86) (a := 2) (b := 1) (x := x2) (ls' := [(3, 106), (0, 0), (0, (w32 (x2 + 1)))]) rfl rfl rfl) ?_
    refine Eq.trans (s_goto (y := 174) (pc := 86) (nx := 89) (a := 0) (b := 4) (tg := 4) rfl rfl) ?_
    rfl
  · refine Eq.trans (s_load (y := 174) (pc := 46) (nx := 47) (a := 3) (b := 0) (x := 106) rfl rfl) ?_
    refine Eq.trans (s_push (y := 174) (pc := 47) (nx := 48) (a := 0) (b := 0) rfl) ?_
    refine Eq.trans (s_push (y := 174) (pc := 48) (nx := 49) (a := 0) (b := 0) rfl) ?_
    refine Eq.trans (s_load (y := 174) (pc := 49) (nx := 50) (a := 0) (b := 2) (x := x2) rfl rfl) ?_
    exact s_call (y := 174) (pc := 50) (nx := 53) (a := 172) (b := 0) (as := [(3, 106), (0, 0), (0, 0), (0, x2)]) (r := []) rfl (Nat.le_of_ble_eq_true rfl) rfl rfl (Nat.le_of_ble_eq_true rfl) (Nat.le_of_ble_eq_true rfl) (Or.inr ⟨rfl, mk_k106 _⟩)
theorem e_174_53 (D : Mem) (x1 : Int) (x2 : Int) (s0 : Int) : qE 174 53 [(3, 106), (0, x1), (0, x2)] [(0, s0)] (mk D) = (if s0 = 0 then qE 174 4 [(3, 106), (0, 0), (0, (w32 (x2 + 1)))] [] (mk D) else ((qR 172 [(3, 106), (0, (w32 (x2 + 1))), (0, (w32 (x2 + 1))), (0, (w32 ((w32 ((D 106 27) - x2)) - 1)))] (mk D)).bind fun w => qE 174 74 [(3, 106), (0, x1), (0, x2)] (psh w.1 []) w.2)) := by
  refine Eq.trans (s_ifeq (y := 174) (pc := 53) (nx := 56) (b := 81) (tg := 81) rfl rfl) (ite_c ?_ ?_)
  · refine Eq.trans (s_push (y := 174) (pc := 81) (nx := 82) (a := 0) (b := 0) rfl) ?_
    refine Eq.trans (s_store (y := 174) (pc := 82) (nx := 83) (a := 0) (b := 1) (ls' := [(3, 106), (0, 0), (0, x2)]) rfl (Nat.le_of_ble_eq_true rfl) rfl) ?_
    refine Eq.trans (s_iinc (y := 174) (pc := 83) (nx := 86) (a := 2) (b := 1) (x := x2) (ls' := [(3, 106), (0, 0), (0, (w32 (x2 + 1)))]) rfl rfl rfl) ?_
    refine Eq.trans (s_goto (y := 174) (pc := 86) (nx := 89) (a := 0) (b := 4) (tg := 4) rfl rfl) ?_
    rfl
  · refine Eq.trans (s_load (y := 174) (pc := 56) (nx := 57) (a := 3) (b := 0) (x := 106) rfl rfl) ?_
    refine Eq.trans (s_load (y := 174) (pc := 57) (nx := 58) (a := 0) (b := 2) (x := x2) rfl rfl) ?_
    refine Eq.trans (s_push (y := 174) (pc := 58) (nx := 59) (a := 0) (b := 1) rfl) ?_
    refine Eq.trans (s_add (y := 174) (pc := 59) (nx := 60) (b := 0) rfl) ?_
    refine Eq.trans (s_load (y := 174) (pc := 60) (nx := 61) (a := 0) (b := 2) (x := x2) rfl rfl) ?_
    refine Eq.trans (s_push (y := 174) (pc := 61) (nx := 62) (a := 0) (b := 1) rfl) ?_
    refine Eq.trans (s_add (y := 174) (pc := 62) (nx := 63) (b := 0) rfl) ?_
    refine Eq.trans (s_load (y := 174) (pc := 63) (nx := 64) (a := 3) (b := 0) (x := 106) rfl rfl) ?_
    refine Eq.trans (s_get (y := 174) (pc := 64) (nx := 67) (a := 10) (b := 27) (t := 0) (v := (D 106 27)) rfl (mk_k106 _) rfl (mk_106_27 _)) ?_
    refine Eq.trans (s_load (y := 174) (pc := 67) (nx := 68) (a := 0) (b := 2) (x := x2) rfl rfl) ?_
    refine Eq.trans (s_sub (y := 174) (pc := 68) (nx := 69) (b := 0) rfl) ?_
    refine Eq.trans (s_push (y := 174) (pc := 69) (nx := 70) (a := 0) (b := 1) rfl) ?_
    refine Eq.trans (s_sub (y := 174) (pc := 70) (nx := 71) (b := 0) rfl) ?_
    exact s_call (y := 174) (pc := 71) (nx := 74) (a := 172) (b := 0) (as := [(3, 106), (0, (w32 (x2 + 1))), (0, (w32 (x2 + 1))), (0, (w32 ((w32 ((D 106 27) - x2)) - 1)))]) (r := []) rfl (Nat.le_of_ble_eq_true rfl) rfl rfl (Nat.le_of_ble_eq_true rfl) (Nat.le_of_ble_eq_true rfl) (Or.inr ⟨rfl, mk_k106 _⟩)
theorem e_174_74 (D : Mem) (x1 : Int) (x2 : Int) (s0 : Int) : qE 174 74 [(3, 106), (0, x1), (0, x2)] [(0, s0)] (mk D) = (if s0 = 0 then qE 174 4 [(3, 106), (0, 0), (0, (w32 (x2 + 1)))] [] (mk D) else qE 174 4 [(3, 106), (0, 1), (0, (w32 (x2 + 1)))] [] (mk D)) := by
  refine Eq.trans (s_ifeq (y := 174) (pc := 74) (nx := 77) (b := 81) (tg := 81) rfl rfl) (ite_c ?_ ?_)
  · refine Eq.trans (s_push (y := 174) (pc := 81) (nx := 82) (a := 0) (b := 0) rfl) ?_
    refine Eq.trans (s_store (y := 174) (pc := 82) (nx := 83) (a := 0) (b := 1) (ls' := [(3, 106), (0, 0), (0, x2)]) rfl (Nat.le_of_ble_eq_true rfl) rfl) ?_
    refine Eq.trans (s_iinc (y := 174) (pc := 83) (nx := 86) (a := 2) (b := 1) (x := x2) (ls' := [(3, 106), (0, 0), (0, (w32 (x2 + 1)))]) rfl rfl rfl) ?_
    refine Eq.trans (s_goto (y := 174) (pc := 86) (nx := 89) (a := 0) (b := 4) (tg := 4) rfl rfl) ?_
    rfl
  · refine Eq.trans (s_push (y := 174) (pc := 77) (nx := 78) (a := 0) (b := 1) rfl) ?_
    refine Eq.trans (s_goto (y := 174) (pc := 78) (nx := 81) (a := 0) (b := 82) (tg := 82) rfl rfl) ?_
    refine Eq.trans (s_store (y := 174) (pc := 82) (nx := 83) (a := 0) (b := 1) (ls' := [(3, 106), (0, 1), (0, x2)]) rfl (Nat.le_of_ble_eq_true rfl) rfl) ?_
    refine Eq.trans (s_iinc (y := 174) (pc := 83) (nx := 86) (a := 2) (b := 1) (x := x2) (ls' := [(3, 106), (0, 1), (0, (w32 (x2 + 1)))]) rfl rfl rfl) ?_
    refine Eq.trans (s_goto (y := 174) (pc := 86) (nx := 89) (a := 0) (b := 4) (tg := 4) rfl rfl) ?_
    rfl
theorem r_175 (D : Mem) : qR 175 [(3, 106)] (mk D) = qE 175 4 [(3, 106), (0, 0), (0, 0)] [] (mk D) := by
  show qE 175 0 [(3, 106), (9, 0), (9, 0)] [] (mk D) = _
  refine Eq.trans (s_push (y := 175) (pc := 0) (nx := 1) (a := 0) (b := 0) rfl) ?_
  refine Eq.trans (s_store (y := 175) (pc := 1) (nx := 2) (a := 0) (b := 1) (ls' := [(3, 106), (0, 0), (9, 0)]) rfl (Nat.le_of_ble_eq_true rfl) rfl) ?_
  refine Eq.trans (s_push (y := 175) (pc := 2) (nx := 3) (a := 0) (b := 0) rfl) ?_
  refine Eq.trans (s_store (y := 175) (pc := 3) (nx := 4) (a := 0) (b := 2) (ls' := [(3, 106), (0, 0), (0, 0)]) rfl (Nat.le_of_ble_eq_true rfl) rfl) ?_
  rfl
theorem e_175_4 (D : Mem) (x1 : Int) (x2 : Int) : qE 175 4 [(3, 106), (0, x1), (0, x2)] [] (mk D) = (if (w32 ((D 106 27) + 1)) = (D 106 25) then (if x2 < (D 106 25) then (if x1 = 0 then ((qR 172 [(3, 106), (0, 0), (0, 0), (0, x2)] (mk D)).bind fun w => qE 175 36 [(3, 106), (0, x1), (0, x2)] (psh w.1 []) w.2) else qE 175 4 [(3, 106), (0, 1), (0, (w32 (x2 + 1)))] [] (mk D)) else (if x1 = 0 ∨ x1 = 1 then some ((0, x1), (mk D)) else none)) else (if x1 = 0 ∨ x1 = 1 then some ((0, x1), (mk D)) else none)) := by
  refine Eq.trans (s_load (y := 175) (pc := 4) (nx := 5) (a := 3) (b := 0) (x := 106) rfl rfl) ?_
  refine Eq.trans (s_get (y := 175) (pc := 5) (nx := 8) (a := 10) (b := 27) (t := 0) (v := (D 106 27)) rfl (mk_k106 _) rfl (mk_106_27 _)) ?_
  refine Eq.trans (s_push (y := 175) (pc := 8) (nx := 9) (a := 0) (b := 1) rfl) ?_
  refine Eq.trans (s_add (y := 175) (pc := 9) (nx := 10) (b := 0) rfl) ?_
  refine Eq.trans (s_load (y := 175) (pc := 10) (nx := 11) (a := 3) (b := 0) (x := 106) rfl rfl) ?_
  refine Eq.trans (s_get (y := 175) (pc := 11) (nx := 14) (a := 10) (b := 25) (t := 0) (v := (D 106 25)) rfl (mk_k106 _) rfl (mk_106_25 _)) ?_
  refine Eq.trans (s_icne (y := 175) (pc := 14) (nx := 17) (b := 68) (tg := 68) rfl rfl) (ite_c ?_ ?_)
  · refine Eq.trans (s_load (y := 175) (pc := 17) (nx := 18) (a := 0) (b := 2) (x := x2) rfl rfl) ?_
    refine Eq.trans (s_load (y := 175) (pc := 18) (nx := 19) (a := 3) (b := 0) (x := 106) rfl rfl) ?_
    refine Eq.trans (s_get (y := 175) (pc := 19) (nx := 22) (a := 10) (b := 25) (t := 0) (v := (D 106 25)) rfl (mk_k106 _) rfl (mk_106_25 _)) ?_
    refine Eq.trans (s_icge (y := 175) (pc := 22) (nx := 25) (b := 68) (tg := 68) rfl rfl) (ite_c ?_ ?_)
    · refine Eq.trans (s_load (y := 175) (pc := 25) (nx := 26) (a := 0) (b := 1) (x := x1) rfl rfl) ?_
      refine Eq.trans (s_ifne (y := 175) (pc := 26) (nx := 29) (b := 56) (tg := 56) rfl rfl) (ite_c ?_ ?_)
      · refine Eq.trans (s_load (y := 175) (pc := 29) (nx := 30) (a := 3) (b := 0) (x := 106) rfl rfl) ?_
        refine Eq.trans (s_push (y := 175) (pc := 30) (nx := 31) (a := 0) (b := 0) rfl) ?_
        refine Eq.trans (s_push (y := 175) (pc := 31) (nx := 32) (a := 0) (b := 0) rfl) ?_
        refine Eq.trans (s_load (y := 175) (pc := 32) (nx := 33) (a := 0) (b := 2) (x := x2) rfl rfl) ?_
        exact s_call (y := 175) (pc := 33) (nx := 36) (a := 172) (b := 0) (as := [(3, 106), (0, 0), (0, 0), (0, x2)]) (r := []) rfl (Nat.le_of_ble_eq_true rfl) rfl rfl (Nat.le_of_ble_eq_true rfl) (Nat.le_of_ble_eq_true rfl) (Or.inr ⟨rfl, mk_k106 _⟩)
      · refine Eq.trans (s_push (y := 175) (pc := 56) (nx := 57) (a := 0) (b := 1) rfl) ?_
        refine Eq.trans (s_goto (y := 175) (pc := 57) (nx := 60) (a := 0) (b := 61) (tg := 61) rfl rfl) ?_
        refine Eq.trans (s_store (y := 175) (pc := 61) (nx := 62) (a := 0) (b := 1) (ls' := [(3, 106), (0, 1), (0, x2)]) rfl (Nat.le_of_ble_eq_true rfl) rfl) ?_
        refine Eq.trans (s_iinc (y := 175) (pc := 62) (nx := 65) (a := 2) (b := 1) (x := x2) (ls' := [(3, 106), (0, 1), (0, (w32 (x2 + 1)))]) rfl rfl rfl) ?_
        refine Eq.trans (s_goto (y := 175) (pc := 65) (nx := 68) (a := 0) (b := 4) (tg := 4) rfl rfl) ?_
        rfl
    · refine Eq.trans (s_load (y := 175) (pc := 68) (nx := 69) (a := 0) (b := 1) (x := x1) rfl rfl) ?_
      exact s_retzq (y := 175) (pc := 69) (nx := 70) rfl
  · refine Eq.trans (s_load (y := 175) (pc := 68) (nx := 69) (a := 0) (b := 1) (x := x1) rfl rfl) ?_
    exact s_retzq (y := 175) (pc := 69) (nx := 70) rfl
theorem e_175_36 (D : Mem) (x1 : Int) (x2 : Int) (s0 : Int) : qE 175 36 [(3, 106), (0, x1), (0, x2)] [(0, s0)] (mk D) = (if s0 = 0 then qE 175 4 [(3, 106), (0, 0), (0, (w32 (x2 + 1)))] [] (mk D) else ((qR 172 [(3, 106), (0, x2), (0, (w32 (x2 + 1))), (0, (w32 ((D 106 27) - x2)))] (mk D)).bind fun w => qE 175 53 [(3, 106), (0, x1), (0, x2)] (psh w.1 []) w.2)) := by
  refine Eq.trans (s_ifeq (y := 175) (pc := 36) (nx := 39) (b := 60) (tg := 60) rfl rfl) (ite_c ?_ ?_)
  · refine Eq.trans (s_push (y := 175) (pc := 60) (nx := 61) (a := 0) (b := 0) rfl) ?_
    refine Eq.trans (s_store (y := 175) (pc := 61) (nx := 62) (a := 0) (b := 1) (ls' := [(3, 106), (0, 0), (0, x2)]) rfl (Nat.le_of_ble_eq_true rfl) rfl) ?_
    refine Eq.trans (s_iinc (y := 175) (pc := 62) (nx := 65) (a := 2) (b := 1) (x := x2) (ls' := [(3, 106), (0, 0), (0, (w32 (x2 + 1)))]) rfl rfl rfl) ?_
    refine Eq.trans (s_goto (y := 175) (pc := 65) (nx := 68) (a := 0) (b := 4) (tg := 4) rfl rfl) ?_
    rfl
  · refine Eq.trans (s_load (y := 175) (pc := 39) (nx := 40) (a := 3) (b := 0) (x := 106) rfl rfl) ?_
    refine Eq.trans (s_load (y := 175) (pc := 40) (nx := 41) (a := 0) (b := 2) (x := x2) rfl rfl) ?_
    refine Eq.trans (s_load (y := 175) (pc := 41) (nx := 42) (a := 0) (b := 2) (x := x2) rfl rfl) ?_
    refine Eq.trans (s_push (y := 175) (pc := 42) (nx := 43) (a := 0) (b := 1) rfl) ?_
    refine Eq.trans (s_add (y := 175) (pc := 43) (nx := 44) (b := 0) rfl) ?_
    refine Eq.trans (s_load (y := 175) (pc := 44) (nx := 45) (a := 3) (b := 0) (x := 106) rfl rfl) ?_
    refine Eq.trans (s_get (y := 175) (pc := 45) (nx := 48) (a := 10) (b := 27) (t := 0) (v := (D 106 27)) rfl (mk_k106 _) rfl (mk_106_27 _)) ?_
    refine Eq.trans (s_load (y := 175) (pc := 48) (nx := 49) (a := 0) (b := 2) (x := x2) rfl rfl) ?_
    refine Eq.trans (s_sub (y := 175) (pc := 49) (nx := 50) (b := 0) rfl) ?_
    exact s_call (y := 175) (pc := 50) (nx := 53) (a := 172) (b := 0) (as := [(3, 106), (0, x2), (0, (w32 (x2 + 1))), (0, (w32 ((D 106 27) - x2)))]) (r := []) rfl (Nat.le_of_ble_eq_true rfl) rfl rfl (Nat.le_of_ble_eq_true rfl) (Nat.le_of_ble_eq_true rfl) (Or.inr ⟨rfl, mk_k106 _⟩)
theorem e_175_53 (D : Mem) (x1 : Int) (x2 : Int) (s0 : Int) : qE 175 53 [(3, 106), (0, x1), (0, x2)] [(0, s0)] (mk D) = (if s0 = 0 then qE 175 4 [(3, 106), (0, 0), (0, (w32 (x2 + 1)))] [] (mk D) else qE 175 4 [(3, 106), (0, 1), (0, (w32 (x2 + 1)))] [] (mk D)) := by
  refine Eq.trans (s_ifeq (y := 175) (pc := 53) (nx := 56) (b := 60) (tg := 60) rfl rfl) (ite_c ?_ ?_)
  · refine Eq.trans (s_push (y := 175) (pc := 60) (nx := 61) (a := 0) (b := 0) rfl) ?_
    refine Eq.trans (s_store (y := 175) (pc := 61) (nx := 62) (a := 0) (b := 1) (ls' := [(3, 106), (0, 0), (0, x2)]) rfl (Nat.le_of_ble_eq_true rfl) rfl) ?_
    refine Eq.trans (s_iinc (y := 175) (pc := 62) (nx := 65) (a := 2) (b := 1) (x := x2) (ls' := [(3, 106), (0, 0), (0, (w32 (x2 + 1)))]) rfl rfl rfl) ?_
    refine Eq.trans (s_goto (y := 175) (pc := 65) (nx := 68) (a := 0) (b := 4) (tg := 4) rfl rfl) ?_
    rfl
  · refine Eq.trans (s_push (y := 175) (pc := 56) (nx := 57) (a := 0) (b := 1) rfl) ?_
    refine Eq.trans (s_goto (y := 175) (pc := 57) (nx := 60) (a := 0) (b := 61) (tg := 61) rfl rfl) ?_
    refine Eq.trans (s_store (y := 175) (pc := 61) (nx := 62) (a := 0) (b := 1) (ls' := [(3, 106), (0, 1), (0, x2)]) rfl (Nat.le_of_ble_eq_true rfl) rfl) ?_
    refine Eq.trans (s_iinc (y := 175) (pc := 62) (nx := 65) (a := 2) (b := 1) (x := x2) (ls' := [(3, 106), (0, 1), (0, (w32 (x2 + 1)))]) rfl rfl rfl) ?_
    refine Eq.trans (s_goto (y := 175) (pc := 65) (nx := 68) (a := 0) (b := 4) (tg := 4) rfl rfl) ?_
    rfl
theorem r_176 (D : Mem) : qR 176 [(3, 106)] (mk D) = qE 176 4 [(3, 106), (0, 0), (0, 0)] [] (mk D) := by
  show qE 176 0 [(3, 106), (9, 0), (9, 0)] [] (mk D) = _
  refine Eq.trans (s_push (y := 176) (pc := 0) (nx := 1) (a := 0) (b := 0) rfl) ?_
  refine Eq.trans (s_store (y := 176) (pc := 1) (nx := 2) (a := 0) (b := 1) (ls' := [(3, 106), (0, 0), (9, 0)]) rfl (Nat.le_of_ble_eq_true rfl) rfl) ?_
  refine Eq.trans (s_push (y := 176) (pc := 2) (nx := 3) (a := 0) (b := 0) rfl) ?_
  refine Eq.trans (s_store (y := 176) (pc := 3) (nx := 4) (a := 0) (b := 2) (ls' := [(3, 106), (0, 0), (0, 0)]) rfl (Nat.le_of_ble_eq_true rfl) rfl) ?_
  rfl
theorem e_176_4 (D : Mem) (x1 : Int) (x2 : Int) : qE 176 4 [(3, 106), (0, x1), (0, x2)] [] (mk D) = (if (D 106 27) = (w32 ((D 106 25) + 1)) then (if (w32 (x2 + 1)) < (D 106 27) then (if x1 = 0 then (if 0 ≤ x2 ∧ x2 < 12 then (if 0 ≤ (w32 (x2 + 1)) ∧ (w32 (x2 + 1)) < 12 then (if (D 124 x2) = (D 124 (w32 (x2 + 1))) then ((qR 172 [(3, 106), (0, 0), (0, 0), (0, x2)] (mk D)).bind fun w => qE 176 55 [(3, 106), (0, x1), (0, x2)] (psh w.1 []) w.2) else qE 176 4 [(3, 106), (0, 0), (0, (w32 (x2 + 1)))] [] (mk D)) else none) else none) else qE 176 4 [(3, 106), (0, 1), (0, (w32 (x2 + 1)))] [] (mk D)) else (if x1 = 0 ∨ x1 = 1 then some ((0, x1), (mk D)) else none)) else (if x1 = 0 ∨ x1 = 1 then some ((0, x1), (mk D)) else none)) := by
  refine Eq.trans (s_load (y := 176) (pc := 4) (nx := 5) (a := 3) (b := 0) (x := 106) rfl rfl) ?_
  refine Eq.trans (s_get (y := 176) (pc := 5) (nx := 8) (a := 10) (b := 27) (t := 0) (v := (D 106 27)) rfl (mk_k106 _) rfl (mk_106_27 _)) ?_
  refine Eq.trans (s_load (y := 176) (pc := 8) (nx := 9) (a := 3) (b := 0) (x := 106) rfl rfl) ?_
  refine Eq.trans (s_get (y := 176) (pc := 9) (nx := 12) (a := 10) (b := 25) (t := 0) (v := (D 106 25)) rfl (mk_k106 _) rfl (mk_106_25 _)) ?_
  refine Eq.trans (s_push (y := 176) (pc := 12) (nx := 13) (a := 0) (b := 1) rfl) ?_
  refine Eq.trans (s_add (y := 176) (pc := 13) (nx := 14) (b := 0) rfl) ?_
  refine Eq.trans (s_icne (y := 176) (pc := 14) (nx := 17) (b := 89) (tg := 89) rfl rfl) (ite_c ?_ ?_)
  · refine Eq.trans (s_load (y := 176) (pc := 17) (nx := 18) (a := 0) (b := 2) (x := x2) rfl rfl) ?_
    refine Eq.trans (s_push (y := 176) (pc := 18) (nx := 19) (a := 0) (b := 1) rfl) ?_
    refine Eq.trans (s_add (y := 176) (pc := 19) (nx := 20) (b := 0) rfl) ?_
    refine Eq.trans (s_load (y := 176) (pc := 20) (nx := 21) (a := 3) (b := 0) (x := 106) rfl rfl) ?_
    refine Eq.trans (s_get (y := 176) (pc := 21) (nx := 24) (a := 10) (b := 27) (t := 0) (v := (D 106 27)) rfl (mk_k106 _) rfl (mk_106_27 _)) ?_
    refine Eq.trans (s_icge (y := 176) (pc := 24) (nx := 27) (b := 89) (tg := 89) rfl rfl) (ite_c ?_ ?_)
    · refine Eq.trans (s_load (y := 176) (pc := 27) (nx := 28) (a := 0) (b := 1) (x := x1) rfl rfl) ?_
      refine Eq.trans (s_ifne (y := 176) (pc := 28) (nx := 31) (b := 77) (tg := 77) rfl rfl) (ite_c ?_ ?_)
      · refine Eq.trans (s_load (y := 176) (pc := 31) (nx := 32) (a := 3) (b := 0) (x := 106) rfl rfl) ?_
        refine Eq.trans (s_get (y := 176) (pc := 32) (nx := 35) (a := 10) (b := 26) (t := 3) (v := 124) rfl (mk_k106 _) rfl (mk_106_26 _)) ?_
        refine Eq.trans (s_load (y := 176) (pc := 35) (nx := 36) (a := 0) (b := 2) (x := x2) rfl rfl) ?_
        refine Eq.trans (s_ald (y := 176) (pc := 36) (nx := 37) (a := 1) (b := 0) (k := 1) (n := 12) (t := 0) (v := (D 124 x2)) rfl (mk_k124 _) rfl rfl (mk_l124 _) (mk_c124 _ _)) (ite_c ?_ rfl)
        refine Eq.trans (s_load (y := 176) (pc := 37) (nx := 38) (a := 3) (b := 0) (x := 106) rfl rfl) ?_
        refine Eq.trans (s_get (y := 176) (pc := 38) (nx := 41) (a := 10) (b := 26) (t := 3) (v := 124) rfl (mk_k106 _) rfl (mk_106_26 _)) ?_
        refine Eq.trans (s_load (y := 176) (pc := 41) (nx := 42) (a := 0) (b := 2) (x := x2) rfl rfl) ?_
        refine Eq.trans (s_push (y := 176) (pc := 42) (nx := 43) (a := 0) (b := 1) rfl) ?_
        refine Eq.trans (s_add (y := 176) (pc := 43) (nx := 44) (b := 0) rfl) ?_
        refine Eq.trans (s_ald (y := 176) (pc := 44) (nx := 45) (a := 1) (b := 0) (k := 1) (n := 12) (t := 0) (v := (D 124 (w32 (x2 + 1)))) rfl (mk_k124 _) rfl rfl (mk_l124 _) (mk_c124 _ _)) (ite_c ?_ rfl)
        refine Eq.trans (s_icne (y := 176) (pc := 45) (nx := 48) (b := 81) (tg := 81) rfl rfl) (ite_c ?_ ?_)
        · refine Eq.trans (s_load (y := 176) (pc := 48) (nx := 49) (a := 3) (b := 0) (x := 106) rfl rfl) ?_
          refine Eq.trans (s_push (y := 176) (pc := 49) (nx := 50) (a := 0) (b := 0) rfl) ?_
          refine Eq.trans (s_push (y := 176) (pc := 50) (nx := 51) (a := 0) (b := 0) rfl) ?_
          refine Eq.trans (s_load (y := 176) (pc := 51) (nx := 52) (a := 0) (b := 2) (x := x2) rfl rfl) ?_
          exact s_call (y := 176) (pc := 52) (nx := 55) (a := 172) (b := 0) (as := [(3, 106), (0, 0), (0, 0), (0, x2)]) (r := []) rfl (Nat.le_of_ble_eq_true rfl) rfl rfl (Nat.le_of_ble_eq_true rfl) (Nat.le_of_ble_eq_true rfl) (Or.inr ⟨rfl, mk_k106 _⟩)
        · refine Eq.trans (s_push (y := 176) (pc := 81) (nx := 82) (a := 0) (b := 0) rfl) ?_
          refine Eq.trans (s_store (y := 176) (pc := 82) (nx := 83) (a := 0) (b := 1) (ls' := [(3, 106), (0, 0), (0, x2)]) rfl (Nat.le_of_ble_eq_true rfl) rfl) ?_
          refine Eq.trans (s_iinc (y := 176) (pc := 83) (nx := 86) (a := 2) (b := 1) (x := x2) (ls' := [(3, 106), (0, 0), (0, (w32 (x2 + 1)))]) rfl rfl rfl) ?_
          refine Eq.trans (s_goto (y := 176) (pc := 86) (nx := 89) (a := 0) (b := 4) (tg := 4) rfl rfl) ?_
          rfl
      · refine Eq.trans (s_push (y := 176) (pc := 77) (nx := 78) (a := 0) (b := 1) rfl) ?_
        refine Eq.trans (s_goto (y := 176) (pc := 78) (nx := 81) (a := 0) (b := 82) (tg := 82) rfl rfl) ?_
        refine Eq.trans (s_store (y := 176) (pc := 82) (nx := 83) (a := 0) (b := 1) (ls' := [(3, 106), (0, 1), (0, x2)]) rfl (Nat.le_of_ble_eq_true rfl) rfl) ?_
        refine Eq.trans (s_iinc (y := 176) (pc := 83) (nx := 86) (a := 2) (b := 1) (x := x2) (ls' := [(3, 106), (0, 1), (0, (w32 (x2 + 1)))]) rfl rfl rfl) ?_
        refine Eq.trans (s_goto (y := 176) (pc := 86) (nx := 89) (a := 0) (b := 4) (tg := 4) rfl rfl) ?_
        rfl
    · refine Eq.trans (s_load (y := 176) (pc := 89) (nx := 90) (a := 0) (b := 1) (x := x1) rfl rfl) ?_
      exact s_retzq (y := 176) (pc := 90) (nx := 91) rfl
  · refine Eq.trans (s_load (y := 176) (pc := 89) (nx := 90) (a := 0) (b := 1) (x := x1) rfl rfl) ?_
    exact s_retzq (y := 176) (pc := 90) (nx := 91) rfl
theorem e_176_55 (D : Mem) (x1 : Int) (x2 : Int) (s0 : Int) : qE 176 55 [(3, 106), (0, x1), (0, x2)] [(0, s0)] (mk D) = (if s0 = 0 then qE 176 4 [(3, 106), (0, 0), (0, (w32 (x2 + 1)))] [] (mk D) else ((qR 172 [(3, 106), (0, (w32 (x2 + 1))), (0, x2), (0, (w32 ((w32 ((D 106 27) - x2)) - 1)))] (mk D)).bind fun w => qE 176 74 [(3, 106), (0, x1), (0, x2)] (psh w.1 []) w.2)) := by
  refine Eq.trans (s_ifeq (y := 176) (pc := 55) (nx := 58) (b := 81) (tg := 81) rfl rfl) (ite_c ?_ ?_)
  · refine Eq.trans (s_push (y := 176) (pc := 81) (nx := 82) (a := 0) (b := 0) rfl) ?_
    refine Eq.trans (s_store (y := 176) (pc := 82) (nx := 83) (a := 0) (b := 1) (ls' := [(3, 106), (0, 0), (0, x2)]) rfl (Nat.le_of_ble_eq_true rfl) rfl) ?_
    refine Eq.trans (s_iinc (y := 176) (pc := 83) (nx := 86) (a := 2) (b := 1) (x := x2) (ls' := [(3, 106), (0, 0), (0, (w32 (x2 + 1)))]) rfl rfl rfl) ?_
    refine Eq.trans (s_goto (y := 176) (pc := 86) (nx := 89) (a := 0) (b := 4) (tg := 4) rfl rfl) ?_
    rfl
  · refine Eq.trans (s_load (y := 176) (pc := 58) (nx := 59) (a := 3) (b := 0) (x := 106) rfl rfl) ?_
    refine Eq.trans (s_load (y := 176) (pc := 59) (nx := 60) (a := 0) (b := 2) (x := x2) rfl rfl) ?_
    refine Eq.trans (s_push (y := 176) (pc := 60) (nx := 61) (a := 0) (b := 1) rfl) ?_
    refine Eq.trans (s_add (y := 176) (pc := 61) (nx := 62) (b := 0) rfl) ?_
    refine Eq.trans (s_load (y := 176) (pc := 62) (nx := 63) (a := 0) (b := 2) (x := x2) rfl rfl) ?_
    refine Eq.trans (s_load (y := 176) (pc := 63) (nx := 64) (a := 3) (b := 0) (x := 106) rfl rfl) ?_
    refine Eq.trans (s_get (y := 176) (pc := 64) (nx := 67) (a := 10) (b := 27) (t := 0) (v := (D 106 27)) rfl (mk_k106 _) rfl (mk_106_27 _)) ?_
    refine Eq.trans (s_load (y := 176) (pc := 67) (nx := 68) (a := 0) (b := 2) (x := x2) rfl rfl) ?_
    refine Eq.trans (s_sub (y := 176) (pc := 68) (nx := 69) (b := 0) rfl) ?_
    refine Eq.trans (s_push (y := 176) (pc := 69) (nx := 70) (a := 0) (b := 1) rfl) ?_
    refine Eq.trans (s_sub (y := 176) (pc := 70) (nx := 71) (b := 0) rfl) ?_
    exact s_call (y := 176) (pc := 71) (nx := 74) (a := 172) (b := 0) (as := [(3, 106), (0, (w32 (x2 + 1))), (0, x2), (0, (w32 ((w32 ((D 106 27) - x2)) - 1)))]) (r := []) rfl (Nat.le_of_ble_eq_true rfl) rfl rfl (Nat.le_of_ble_eq_true rfl) (Nat.le_of_ble_eq_true rfl) (Or.inr ⟨rfl, mk_k106 _⟩)
theorem e_176_74 (D : Mem) (x1 : Int) (x2 : Int) (s0 : Int) : qE 176 74 [(3, 106), (0, x1), (0, x2)] [(0, s0)] (mk D) = (if s0 = 0 then qE 176 4 [(3, 106), (0, 0), (0, (w32 (x2 + 1)))] [] (mk D) else qE 176 4 [(3, 106), (0, 1), (0, (w32 (x2 + 1)))] [] (mk D)) := by
  refine Eq.trans (s_ifeq (y := 176) (pc := 74) (nx := 77) (b := 81) (tg := 81) rfl rfl) (ite_c ?_ ?_)
  · refine Eq.trans (s_push (y := 176) (pc := 81) (nx := 82) (a := 0) (b := 0) rfl) ?_
    refine Eq.trans (s_store (y := 176) (pc := 82) (nx := 83) (a := 0) (b := 1) (ls' := [(3, 106), (0, 0), (0, x2)]) rfl (Nat.le_of_ble_eq_true rfl) rfl) ?_
    refine Eq.trans (s_iinc (y := 176) (pc := 83) (nx := 86) (a := 2) (b := 1) (x := x2) (ls' := [(3, 106), (0, 0), (0, (w32 (x2 + 1)))]) rfl rfl rfl) ?_
    refine Eq.trans (s_goto (y := 176) (pc := 86) (nx := 89) (a := 0) (b := 4) (tg := 4) rfl rfl) ?_
    rfl
  · refine Eq.trans (s_push (y := 176) (pc := 77) (nx := 78) (a := 0) (b := 1) rfl) ?_
    refine Eq.trans (s_goto (y := 176) (pc := 78) (nx := 81) (a := 0) (b := 82) (tg := 82) rfl rfl) ?_
    refine Eq.trans (s_store (y := 176) (pc := 82) (nx := 83) (a := 0) (b := 1) (ls' := [(3, 106), (0, 1), (0, x2)]) rfl (Nat.le_of_ble_eq_true rfl) rfl) ?_
    refine Eq.trans (s_iinc (y := 176) (pc := 83) (nx := 86) (a := 2) (b := 1) (x := x2) (ls' := [(3, 106), (0, 1), (0, (w32 (x2 + 1)))]) rfl rfl rfl) ?_
    refine Eq.trans (s_goto (y := 176) (pc := 86) (nx := 89) (a := 0) (b := 4) (tg := 4) rfl rfl) ?_
    rfl
theorem r_177 (D : Mem) (x1 : Int) (x2 : Int) (x3 : Int) : qR 177 [(3, 106), (0, x1), (0, x2), (0, x3)] (mk D) = (if 0 ≤ x1 ∧ x1 < 80 then (if (D 112 x1) = 0 then some ((0, (-1)), (mk D)) else ((qR 173 [(3, 106), (0, x1), (0, x2)] (mk D)).bind fun w => qE 177 17 [(3, 106), (0, x1), (0, x2), (0, x3), (9, 0), (9, 0), (9, 0)] (psh w.1 []) w.2)) else none) := by
  show qE 177 0 [(3, 106), (0, x1), (0, x2), (0, x3), (9, 0), (9, 0), (9, 0)] [] (mk D) = _
  refine Eq.trans (s_load (y := 177) (pc := 0) (nx := 1) (a := 3) (b := 0) (x := 106) rfl rfl) ?_
  refine Eq.trans (s_get (y := 177) (pc := 1) (nx := 4) (a := 10) (b := 5) (t := 3) (v := 112) rfl (mk_k106 _) rfl (mk_106_5 _)) ?_
  refine Eq.trans (s_load (y := 177) (pc := 4) (nx := 5) (a := 0) (b := 1) (x := x1) rfl rfl) ?_
  refine Eq.trans (s_ald (y := 177) (pc := 5) (nx := 6) (a := 6) (b := 0) (k := 6) (n := 80) (t := 0) (v := (D 112 x1)) rfl (mk_k112 _) rfl rfl (mk_l112 _) (mk_c112 _ _)) (ite_c ?_ rfl)
  refine Eq.trans (s_ifne (y := 177) (pc := 6) (nx := 9) (b := 11) (tg := 11) rfl rfl) (ite_c ?_ ?_)
  · refine Eq.trans (s_push (y := 177) (pc := 9) (nx := 10) (a := 0) (b := (-1)) rfl) ?_
    exact s_ret (y := 177) (pc := 10) (nx := 11) (a := 0) rfl (by decide)
  · refine Eq.trans (s_load (y := 177) (pc := 11) (nx := 12) (a := 3) (b := 0) (x := 106) rfl rfl) ?_
    refine Eq.trans (s_load (y := 177) (pc := 12) (nx := 13) (a := 0) (b := 1) (x := x1) rfl rfl) ?_
    refine Eq.trans (s_load (y := 177) (pc := 13) (nx := 14) (a := 0) (b := 2) (x := x2) rfl rfl) ?_
    exact s_call (y := 177) (pc := 14) (nx := 17) (a := 173) (b := 0) (as := [(3, 106), (0, x1), (0, x2)]) (r := []) rfl (Nat.le_of_ble_eq_true rfl) rfl rfl (Nat.le_of_ble_eq_true rfl) (Nat.le_of_ble_eq_true rfl) (Or.inr ⟨rfl, mk_k106 _⟩)
theorem e_177_17 (D : Mem) (x1 : Int) (x2 : Int) (x3 : Int) (s0 : Int) : qE 177 17 [(3, 106), (0, x1), (0, x2), (0, x3), (9, 0), (9, 0), (9, 0)] [(0, s0)] (mk D) = (if s0 = 0 then (if x2 = 3 then some ((0, (-1)), (mk D)) else qE 177 35 [(3, 106), (0, x1), (0, x2), (0, x3), (0, (-1)), (0, 0), (9, 0)] [] (mk D)) else some ((0, 0), (mk D))) := by
  refine Eq.trans (s_ifeq (y := 177) (pc := 17) (nx := 20) (b := 22) (tg := 22) rfl rfl) (ite_c ?_ ?_)
  · refine Eq.trans (s_load (y := 177) (pc := 22) (nx := 23) (a := 0) (b := 2) (x := x2) rfl rfl) ?_
    refine Eq.trans (s_push (y := 177) (pc := 23) (nx := 24) (a := 0) (b := 3) rfl) ?_
    refine Eq.trans (s_icne (y := 177) (pc := 24) (nx := 27) (b := 29) (tg := 29) rfl rfl) (ite_c ?_ ?_)
    · refine Eq.trans (s_push (y := 177) (pc := 27) (nx := 28) (a := 0) (b := (-1)) rfl) ?_
      exact s_ret (y := 177) (pc := 28) (nx := 29) (a := 0) rfl (by decide)
    · refine Eq.trans (s_push (y := 177) (pc := 29) (nx := 30) (a := 0) (b := (-1)) rfl) ?_
      refine Eq.trans (s_store (y := 177) (pc := 30) (nx := 32) (a := 0) (b := 4) (ls' := [(3, 106), (0, x1), (0, x2), (0, x3), (0, (-1)), (9, 0), (9, 0)]) rfl (Nat.le_of_ble_eq_true rfl) rfl) ?_
      refine Eq.trans (s_push (y := 177) (pc := 32) (nx := 33) (a := 0) (b := 0) rfl) ?_
      refine Eq.trans (s_store (y := 177) (pc := 33) (nx := 35) (a := 0) (b := 5) (ls' := [(3, 106), (0, x1), (0, x2), (0, x3), (0, (-1)), (0, 0), (9, 0)]) rfl (Nat.le_of_ble_eq_true rfl) rfl) ?_
      rfl
  · refine Eq.trans (s_push (y := 177) (pc := 20) (nx := 21) (a := 0) (b := 0) rfl) ?_
    exact s_ret (y := 177) (pc := 21) (nx := 22) (a := 0) rfl (by decide)
theorem e_177_35 (D : Mem) (x1 : Int) (x2 : Int) (x3 : Int) (x4 : Int) (x5 : Int) (v6 : PV) : qE 177 35 [(3, 106), (0, x1), (0, x2), (0, x3), (0, x4), (0, x5), v6] [] (mk D) = (if x5 < 3 then (if x5 = 0 then ((qR 174 [(3, 106)] (mk D)).bind fun w => qE 177 50 [(3, 106), (0, x1), (0, x2), (0, x3), (0, x4), (0, x5), v6] (psh w.1 []) w.2) else (if x5 = 1 then ((qR 175 [(3, 106)] (mk D)).bind fun w => qE 177 63 [(3, 106), (0, x1), (0, x2), (0, x3), (0, x4), (0, x5), v6] (psh w.1 []) w.2) else ((qR 176 [(3, 106)] (mk D)).bind fun w => qE 177 70 [(3, 106), (0, x1), (0, x2), (0, x3), (0, x4), (0, x5), v6] (psh w.1 []) w.2))) else some ((0, x4), (mk D))) := by
  refine Eq.trans (s_load (y := 177) (pc := 35) (nx := 37) (a := 0) (b := 5) (x := x5) rfl rfl) ?_
  refine Eq.trans (s_push (y := 177) (pc := 37) (nx := 38) (a := 0) (b := 3) rfl) ?_
  refine Eq.trans (s_icge (y := 177) (pc := 38) (nx := 41) (b := 120) (tg := 120) rfl rfl) (ite_c ?_ ?_)
  · refine Eq.trans (s_load (y := 177) (pc := 41) (nx := 43) (a := 0) (b := 5) (x := x5) rfl rfl) ?_
    refine Eq.trans (s_ifne (y := 177) (pc := 43) (nx := 46) (b := 53) (tg := 53) rfl rfl) (ite_c ?_ ?_)
    · refine Eq.trans (s_load (y := 177) (pc := 46) (nx := 47) (a := 3) (b := 0) (x := 106) rfl rfl) ?_
      exact s_call (y := 177) (pc := 47) (nx := 50) (a := 174) (b := 0) (as := [(3, 106)]) (r := []) rfl (Nat.le_of_ble_eq_true rfl) rfl rfl (Nat.le_of_ble_eq_true rfl) (Nat.le_of_ble_eq_true rfl) (Or.inr ⟨rfl, mk_k106 _⟩)
    · refine Eq.trans (s_load (y := 177) (pc := 53) (nx := 55) (a := 0) (b := 5) (x := x5) rfl rfl) ?_
      refine Eq.trans (s_push (y := 177) (pc := 55) (nx := 56) (a := 0) (b := 1) rfl) ?_
      refine Eq.trans (s_icne (y := 177) (pc := 56) (nx := 59) (b := 66) (tg := 66) rfl rfl) (ite_c ?_ ?_)
      · refine Eq.trans (s_load (y := 177) (pc := 59) (nx := 60) (a := 3) (b := 0) (x := 106) rfl rfl) ?_
        exact s_call (y := 177) (pc := 60) (nx := 63) (a := 175) (b := 0) (as := [(3, 106)]) (r := []) rfl (Nat.le_of_ble_eq_true rfl) rfl rfl (Nat.le_of_ble_eq_true rfl) (Nat.le_of_ble_eq_true rfl) (Or.inr ⟨rfl, mk_k106 _⟩)
      · refine Eq.trans (s_load (y := 177) (pc := 66) (nx := 67) (a := 3) (b := 0) (x := 106) rfl rfl) ?_
        exact s_call (y := 177) (pc := 67) (nx := 70) (a := 176) (b := 0) (as := [(3, 106)]) (r := []) rfl (Nat.le_of_ble_eq_true rfl) rfl rfl (Nat.le_of_ble_eq_true rfl) (Nat.le_of_ble_eq_true rfl) (Or.inr ⟨rfl, mk_k106 _⟩)
  · refine Eq.trans (s_load (y := 177) (pc := 120) (nx := 122) (a := 0) (b := 4) (x := x4) rfl rfl) ?_
    exact s_ret (y := 177) (pc := 122) (nx := 123) (a := 0) rfl (by decide)
theorem e_177_50 (D : Mem) (x1 : Int) (x2 : Int) (x3 : Int) (x4 : Int) (x5 : Int) (v6 : PV) (s0 : Int) : qE 177 50 [(3, 106), (0, x1), (0, x2), (0, x3), (0, x4), (0, x5), v6] [(0, s0)] (mk D) = qE 177 70 [(3, 106), (0, x1), (0, x2), (0, x3), (0, x4), (0, x5), v6] [(0, s0)] (mk D) := by
  refine Eq.trans (s_goto (y := 177) (pc := 50) (nx := 53) (a := 0) (b := 70) (tg := 70) rfl rfl) ?_
  rfl
theorem e_177_63 (D : Mem) (x1 : Int) (x2 : Int) (x3 : Int) (x4 : Int) (x5 : Int) (v6 : PV) (s0 : Int) : qE 177 63 [(3, 106), (0, x1), (0, x2), (0, x3), (0, x4), (0, x5), v6] [(0, s0)] (mk D) = qE 177 70 [(3, 106), (0, x1), (0, x2), (0, x3), (0, x4), (0, x5), v6] [(0, s0)] (mk D) := by
  refine Eq.trans (s_goto (y := 177) (pc := 63) (nx := 66) (a := 0) (b := 70) (tg := 70) rfl rfl) ?_
  rfl
theorem e_177_70 (D : Mem) (x1 : Int) (x2 : Int) (x3 : Int) (x4 : Int) (x5 : Int) (v6 : PV) (s0 : Int) : qE 177 70 [(3, 106), (0, x1), (0, x2), (0, x3), (0, x4), (0, x5), v6] [(0, s0)] (mk D) = (if s0 = 0 then qE 177 35 [(3, 106), (0, x1), (0, x2), (0, x3), (0, x4), (0, (w32 (x5 + 1))), (0, s0)] [] (mk D) else (if 0 ≤ x5 ∧ x5 < 3 then (if (D 114 x5) ≤ x3 then (if x4 < 0 then (if 0 ≤ x5 ∧ x5 < 3 then qE 177 35 [(3, 106), (0, x1), (0, x2), (0, x3), (0, (D 114 x5)), (0, (w32 (x5 + 1))), (0, s0)] [] (mk D) else none) else (if 0 ≤ x5 ∧ x5 < 3 then (if (D 114 x5) < x4 then (if 0 ≤ x5 ∧ x5 < 3 then qE 177 35 [(3, 106), (0, x1), (0, x2), (0, x3), (0, (D 114 x5)), (0, (w32 (x5 + 1))), (0, s0)] [] (mk D) else none) else qE 177 35 [(3, 106), (0, x1), (0, x2), (0, x3), (0, x4), (0, (w32 (x5 + 1))), (0, s0)] [] (mk D)) else none)) else qE 177 35 [(3, 106), (0, x1), (0, x2), (0, x3), (0, x4), (0, (w32 (x5 + 1))), (0, s0)] [] (mk D)) else none)) := by
  refine Eq.trans (s_store (y := 177) (pc := 70) (nx := 72) (a := 0) (b := 6) (ls' := [(3, 106), (0, x1), (0, x2), (0, x3), (0, x4), (0, x5), (0, s0)]) rfl (Nat.le_of_ble_eq_true rfl) rfl) ?_
  refine Eq.trans (s_load (y := 177) (pc := 72) (nx := 74) (a := 0) (b := 6) (x := s0) rfl rfl) ?_
  refine Eq.trans (s_ifeq (y := 177) (pc := 74) (nx := 77) (b := 114) (tg := 114) rfl rfl) (ite_c ?_ ?_)
  · refine Eq.trans (s_iinc (y := 177) (pc := 114) (nx := 117) (a := 5) (b := 1) (x := x5) (ls' := [(3, 106), (0, x1), (0, x2), (0, x3), (0, x4), (0, (w32 (x5 + 1))), (0, s0)]) rfl rfl rfl) ?_
    refine Eq.trans (s_goto (y := 177) (pc := 117) (nx := 120) (a := 0) (b := 35) (tg := 35) rfl rfl) ?_
    rfl
  · refine Eq.trans (s_load (y := 177) (pc := 77) (nx := 78) (a := 3) (b := 0) (x := 106) rfl rfl) ?_
    refine Eq.trans (s_get (y := 177) (pc := 78) (nx := 81) (a := 10) (b := 10) (t := 3) (v := 114) rfl (mk_k106 _) rfl (mk_106_10 _)) ?_
    refine Eq.trans (s_load (y := 177) (pc := 81) (nx := 83) (a := 0) (b := 5) (x := x5) rfl rfl) ?_
    refine Eq.trans (s_ald (y := 177) (pc := 83) (nx := 84) (a := 1) (b := 0) (k := 1) (n := 3) (t := 0) (v := (D 114 x5)) rfl (mk_k114 _) rfl rfl (mk_l114 _) (mk_c114 _ _)) (ite_c ?_ rfl)
    refine Eq.trans (s_load (y := 177) (pc := 84) (nx := 85) (a := 0) (b := 3) (x := x3) rfl rfl) ?_
    refine Eq.trans (s_icgt (y := 177) (pc := 85) (nx := 88) (b := 114) (tg := 114) rfl rfl) (ite_c ?_ ?_)
    · refine Eq.trans (s_load (y := 177) (pc := 88) (nx := 90) (a := 0) (b := 4) (x := x4) rfl rfl) ?_
      refine Eq.trans (s_iflt (y := 177) (pc := 90) (nx := 93) (b := 105) (tg := 105) rfl rfl) (ite_c ?_ ?_)
      · refine Eq.trans (s_load (y := 177) (pc := 105) (nx := 106) (a := 3) (b := 0) (x := 106) rfl rfl) ?_
        refine Eq.trans (s_get (y := 177) (pc := 106) (nx := 109) (a := 10) (b := 10) (t := 3) (v := 114) rfl (mk_k106 _) rfl (mk_106_10 _)) ?_
        refine Eq.trans (s_load (y := 177) (pc := 109) (nx := 111) (a := 0) (b := 5) (x := x5) rfl rfl) ?_
        refine Eq.trans (s_ald (y := 177) (pc := 111) (nx := 112) (a := 1) (b := 0) (k := 1) (n := 3) (t := 0) (v := (D 114 x5)) rfl (mk_k114 _) rfl rfl (mk_l114 _) (mk_c114 _ _)) (ite_c ?_ rfl)
        refine Eq.trans (s_store (y := 177) (pc := 112) (nx := 114) (a := 0) (b := 4) (ls' := [(3, 106), (0, x1), (0, x2), (0, x3), (0, (D 114 x5)), (0, x5), (0, s0)]) rfl (Nat.le_of_ble_eq_true rfl) rfl) ?_
        refine Eq.trans (s_iinc (y := 177) (pc := 114) (nx := 117) (a := 5) (b := 1) (x := x5) (ls' := [(3, 106), (0, x1), (0, x2), (0, x3), (0, (D 114 x5)), (0, (w32 (x5 + 1))), (0, s0)]) rfl rfl rfl) ?_
        refine Eq.trans (s_goto (y := 177) (pc := 117) (nx := 120) (a := 0) (b := 35) (tg := 35) rfl rfl) ?_
        rfl
      · refine Eq.trans (s_load (y := 177) (pc := 93) (nx := 94) (a := 3) (b := 0) (x := 106) rfl rfl) ?_
        refine Eq.trans (s_get (y := 177) (pc := 94) (nx := 97) (a := 10) (b := 10) (t := 3) (v := 114) rfl (mk_k106 _) rfl (mk_106_10 _)) ?_
        refine Eq.trans (s_load (y := 177) (pc := 97) (nx := 99) (a := 0) (b := 5) (x := x5) rfl rfl) ?_
        refine Eq.trans (s_ald (y := 177) (pc := 99) (nx := 100) (a := 1) (b := 0) (k := 1) (n := 3) (t := 0) (v := (D 114 x5)) rfl (mk_k114 _) rfl rfl (mk_l114 _) (mk_c114 _ _)) (ite_c ?_ rfl)
        refine Eq.trans (s_load (y := 177) (pc := 100) (nx := 102) (a := 0) (b := 4) (x := x4) rfl rfl) ?_
        refine Eq.trans (s_icge (y := 177) (pc := 102) (nx := 105) (b := 114) (tg := 114) rfl rfl) (ite_c ?_ ?_)
        · refine Eq.trans (s_load (y := 177) (pc := 105) (nx := 106) (a := 3) (b := 0) (x := 106) rfl rfl) ?_
          refine Eq.trans (s_get (y := 177) (pc := 106) (nx := 109) (a := 10) (b := 10) (t := 3) (v := 114) rfl (mk_k106 _) rfl (mk_106_10 _)) ?_
          refine Eq.trans (s_load (y := 177) (pc := 109) (nx := 111) (a := 0) (b := 5) (x := x5) rfl rfl) ?_
          refine Eq.trans (s_ald (y := 177) (pc := 111) (nx := 112) (a := 1) (b := 0) (k := 1) (n := 3) (t := 0) (v := (D 114 x5)) rfl (mk_k114 _) rfl rfl (mk_l114 _) (mk_c114 _ _)) (ite_c ?_ rfl)
          refine Eq.trans (s_store (y := 177) (pc := 112) (nx := 114) (a := 0) (b := 4) (ls' := [(3, 106), (0, x1), (0, x2), (0, x3), (0, (D 114 x5)), (0, x5), (0, s0)]) rfl (Nat.le_of_ble_eq_true rfl) rfl) ?_
          refine Eq.trans (s_iinc (y := 177) (pc := 114) (nx := 117) (a := 5) (b := 1) (x := x5) (ls' := [(3, 106), (0, x1), (0, x2), (0, x3), (0, (D 114 x5)), (0, (w32 (x5 + 1))), (0, s0)]) rfl rfl rfl) ?_
          refine Eq.trans (s_goto (y := 177) (pc := 117) (nx := 120) (a := 0) (b := 35) (tg := 35) rfl rfl) ?_
          rfl
        · refine Eq.trans (s_iinc (y := 177) (pc := 114) (nx := 117) (a := 5) (b := 1) (x := x5) (ls' := [(3, 106), (0, x1), (0, x2), (0, x3), (0, x4), (0, (w32 (x5 + 1))), (0, s0)]) rfl rfl rfl) ?_
          refine Eq.trans (s_goto (y := 177) (pc := 117) (nx := 120) (a := 0) (b := 35) (tg := 35) rfl rfl) ?_
          rfl
    · refine Eq.trans (s_iinc (y := 177) (pc := 114) (nx := 117) (a := 5) (b := 1) (x := x5) (ls' := [(3, 106), (0, x1), (0, x2), (0, x3), (0, x4), (0, (w32 (x5 + 1))), (0, s0)]) rfl rfl rfl) ?_
      refine Eq.trans (s_goto (y := 177) (pc := 117) (nx := 120) (a := 0) (b := 35) (tg := 35) rfl rfl) ?_
      rfl
theorem r_178 (D : Mem) (x1 : Int) (x2 : Int) : qR 178 [(3, 106), (0, x1), (0, x2)] (mk D) = qE 178 2 [(3, 106), (0, x1), (0, x2), (0, 0)] [] (mk D) := by
  show qE 178 0 [(3, 106), (0, x1), (0, x2), (9, 0)] [] (mk D) = _
  refine Eq.trans (s_push (y := 178) (pc := 0) (nx := 1) (a := 0) (b := 0) rfl) ?_
  refine Eq.trans (s_store (y := 178) (pc := 1) (nx := 2) (a := 0) (b := 3) (ls' := [(3, 106), (0, x1), (0, x2), (0, 0)]) rfl (Nat.le_of_ble_eq_true rfl) rfl) ?_
  rfl
theorem e_178_2 (D : Mem) (x1 : Int) (x2 : Int) (x3 : Int) : qE 178 2 [(3, 106), (0, x1), (0, x2), (0, x3)] [] (mk D) = (if 0 ≤ x1 ∧ x1 < 80 then (if x3 < (D 109 x1) then (if 0 ≤ x2 ∧ x2 < 80 then (if x3 < (D 109 x2) then (if 0 ≤ (w32 ((w32 (10 * x1)) + x3)) ∧ (w32 ((w32 (10 * x1)) + x3)) < 800 then (if 0 ≤ (w32 ((w32 (10 * x2)) + x3)) ∧ (w32 ((w32 (10 * x2)) + x3)) < 800 then (if (D 108 (w32 ((w32 (10 * x1)) + x3))) = (D 108 (w32 ((w32 (10 * x2)) + x3))) then qE 178 2 [(3, 106), (0, x1), (0, x2), (0, (w32 (x3 + 1)))] [] (mk D) else qE 178 53 [(3, 106), (0, x1), (0, x2), (0, x3)] [] (mk D)) else none) else none) else qE 178 53 [(3, 106), (0, x1), (0, x2), (0, x3)] [] (mk D)) else none) else qE 178 53 [(3, 106), (0, x1), (0, x2), (0, x3)] [] (mk D)) else none) := by
  refine Eq.trans (s_load (y := 178) (pc := 2) (nx := 3) (a := 0) (b := 3) (x := x3) rfl rfl) ?_
  refine Eq.trans (s_load (y := 178) (pc := 3) (nx := 4) (a := 3) (b := 0) (x := 106) rfl rfl) ?_
  refine Eq.trans (s_get (y := 178) (pc := 4) (nx := 7) (a := 10) (b := 2) (t := 3) (v := 109) rfl (mk_k106 _) rfl (mk_106_2 _)) ?_
  refine Eq.trans (s_load (y := 178) (pc := 7) (nx := 8) (a := 0) (b := 1) (x := x1) rfl rfl) ?_
  refine Eq.trans (s_ald (y := 178) (pc := 8) (nx := 9) (a := 1) (b := 0) (k := 1) (n := 80) (t := 0) (v := (D 109 x1)) rfl (mk_k109 _) rfl rfl (mk_l109 _) (mk_c109 _ _)) (ite_c ?_ rfl)
  refine Eq.trans (s_icge (y := 178) (pc := 9) (nx := 12) (b := 53) (tg := 53) rfl rfl) (ite_c ?_ ?_)
  · refine Eq.trans (s_load (y := 178) (pc := 12) (nx := 13) (a := 0) (b := 3) (x := x3) rfl rfl) ?_
    refine Eq.trans (s_load (y := 178) (pc := 13) (nx := 14) (a := 3) (b := 0) (x := 106) rfl rfl) ?_
    refine Eq.trans (s_get (y := 178) (pc := 14) (nx := 17) (a := 10) (b := 2) (t := 3) (v := 109) rfl (mk_k106 _) rfl (mk_106_2 _)) ?_
    refine Eq.trans (s_load (y := 178) (pc := 17) (nx := 18) (a := 0) (b := 2) (x := x2) rfl rfl) ?_
    refine Eq.trans (s_ald (y := 178) (pc := 18) (nx := 19) (a := 1) (b := 0) (k := 1) (n := 80) (t := 0) (v := (D 109 x2)) rfl (mk_k109 _) rfl rfl (mk_l109 _) (mk_c109 _ _)) (ite_c ?_ rfl)
    refine Eq.trans (s_icge (y := 178) (pc := 19) (nx := 22) (b := 53) (tg := 53) rfl rfl) (ite_c ?_ ?_)
    · refine Eq.trans (s_load (y := 178) (pc := 22) (nx := 23) (a := 3) (b := 0) (x := 106) rfl rfl) ?_
      refine Eq.trans (s_get (y := 178) (pc := 23) (nx := 26) (a := 10) (b := 1) (t := 3) (v := 108) rfl (mk_k106 _) rfl (mk_106_1 _)) ?_
      refine Eq.trans (s_push (y := 178) (pc := 26) (nx := 28) (a := 0) (b := 10) rfl) ?_
      refine Eq.trans (s_load (y := 178) (pc := 28) (nx := 29) (a := 0) (b := 1) (x := x1) rfl rfl) ?_
      refine Eq.trans (s_mul (y := 178) (pc := 29) (nx := 30) (b := 0) rfl) ?_
      refine Eq.trans (s_load (y := 178) (pc := 30) (nx := 31) (a := 0) (b := 3) (x := x3) rfl rfl) ?_
      refine Eq.trans (s_add (y := 178) (pc := 31) (nx := 32) (b := 0) rfl) ?_
      refine Eq.trans (s_ald (y := 178) (pc := 32) (nx := 33) (a := 1) (b := 0) (k := 1) (n := 800) (t := 0) (v := (D 108 (w32 ((w32 (10 * x1)) + x3)))) rfl (mk_k108 _) rfl rfl (mk_l108 _) (mk_c108 _ _)) (ite_c ?_ rfl)
      refine Eq.trans (s_load (y := 178) (pc := 33) (nx := 34) (a := 3) (b := 0) (x := 106) rfl rfl) ?_
      refine Eq.trans (s_get (y := 178) (pc := 34) (nx := 37) (a := 10) (b := 1) (t := 3) (v := 108) rfl (mk_k106 _) rfl (mk_106_1 _)) ?_
      refine Eq.trans (s_push (y := 178) (pc := 37) (nx := 39) (a := 0) (b := 10) rfl) ?_
      refine Eq.trans (s_load (y := 178) (pc := 39) (nx := 40) (a := 0) (b := 2) (x := x2) rfl rfl) ?_
      refine Eq.trans (s_mul (y := 178) (pc := 40) (nx := 41) (b := 0) rfl) ?_
      refine Eq.trans (s_load (y := 178) (pc := 41) (nx := 42) (a := 0) (b := 3) (x := x3) rfl rfl) ?_
      refine Eq.trans (s_add (y := 178) (pc := 42) (nx := 43) (b := 0) rfl) ?_
      refine Eq.trans (s_ald (y := 178) (pc := 43) (nx := 44) (a := 1) (b := 0) (k := 1) (n := 800) (t := 0) (v := (D 108 (w32 ((w32 (10 * x2)) + x3)))) rfl (mk_k108 _) rfl rfl (mk_l108 _) (mk_c108 _ _)) (ite_c ?_ rfl)
      refine Eq.trans (s_icne (y := 178) (pc := 44) (nx := 47) (b := 53) (tg := 53) rfl rfl) (ite_c ?_ ?_)
      · refine Eq.trans (s_iinc (y := 178) (pc := 47) (nx := 50) (a := 3) (b := 1) (x := x3) (ls' := [(3, 106), (0, x1), (0, x2), (0, (w32 (x3 + 1)))]) rfl rfl rfl) ?_
        refine Eq.trans (s_goto (y := 178) (pc := 50) (nx := 53) (a := 0) (b := 2) (tg := 2) rfl rfl) ?_
        rfl
      · rfl
    · rfl
  · rfl
theorem e_178_53 (D : Mem) (x1 : Int) (x2 : Int) (x3 : Int) : qE 178 53 [(3, 106), (0, x1), (0, x2), (0, x3)] [] (mk D) = (if 0 ≤ x1 ∧ x1 < 80 then (if x3 = (D 109 x1) then qE 178 73 [(3, 106), (0, x1), (0, x2), (0, x3)] [] (mk D) else (if 0 ≤ x2 ∧ x2 < 80 then (if x3 = (D 109 x2) then qE 178 73 [(3, 106), (0, x1), (0, x2), (0, x3)] [] (mk D) else (if 0 ≤ (w32 ((w32 (10 * x1)) + x3)) ∧ (w32 ((w32 (10 * x1)) + x3)) < 800 then (if 0 ≤ (w32 ((w32 (10 * x2)) + x3)) ∧ (w32 ((w32 (10 * x2)) + x3)) < 800 then (if (D 108 (w32 ((w32 (10 * x1)) + x3))) < (D 108 (w32 ((w32 (10 * x2)) + x3))) then some ((0, 1), (mk D)) else some ((0, 0), (mk D))) else none) else none)) else none)) else none) := by
  refine Eq.trans (s_load (y := 178) (pc := 53) (nx := 54) (a := 0) (b := 3) (x := x3) rfl rfl) ?_
  refine Eq.trans (s_load (y := 178) (pc := 54) (nx := 55) (a := 3) (b := 0) (x := 106) rfl rfl) ?_
  refine Eq.trans (s_get (y := 178) (pc := 55) (nx := 58) (a := 10) (b := 2) (t := 3) (v := 109) rfl (mk_k106 _) rfl (mk_106_2 _)) ?_
  refine Eq.trans (s_load (y := 178) (pc := 58) (nx := 59) (a := 0) (b := 1) (x := x1) rfl rfl) ?_
  refine Eq.trans (s_ald (y := 178) (pc := 59) (nx := 60) (a := 1) (b := 0) (k := 1) (n := 80) (t := 0) (v := (D 109 x1)) rfl (mk_k109 _) rfl rfl (mk_l109 _) (mk_c109 _ _)) (ite_c ?_ rfl)
  refine Eq.trans (s_iceq (y := 178) (pc := 60) (nx := 63) (b := 73) (tg := 73) rfl rfl) (ite_c ?_ ?_)
  · rfl
  · refine Eq.trans (s_load (y := 178) (pc := 63) (nx := 64) (a := 0) (b := 3) (x := x3) rfl rfl) ?_
    refine Eq.trans (s_load (y := 178) (pc := 64) (nx := 65) (a := 3) (b := 0) (x := 106) rfl rfl) ?_
    refine Eq.trans (s_get (y := 178) (pc := 65) (nx := 68) (a := 10) (b := 2) (t := 3) (v := 109) rfl (mk_k106 _) rfl (mk_106_2 _)) ?_
    refine Eq.trans (s_load (y := 178) (pc := 68) (nx := 69) (a := 0) (b := 2) (x := x2) rfl rfl) ?_
    refine Eq.trans (s_ald (y := 178) (pc := 69) (nx := 70) (a := 1) (b := 0) (k := 1) (n := 80) (t := 0) (v := (D 109 x2)) rfl (mk_k109 _) rfl rfl (mk_l109 _) (mk_c109 _ _)) (ite_c ?_ rfl)
    refine Eq.trans (s_icne (y := 178) (pc := 70) (nx := 73) (b := 94) (tg := 94) rfl rfl) (ite_c ?_ ?_)
    · rfl
    · refine Eq.trans (s_load (y := 178) (pc := 94) (nx := 95) (a := 3) (b := 0) (x := 106) rfl rfl) ?_
      refine Eq.trans (s_get (y := 178) (pc := 95) (nx := 98) (a := 10) (b := 1) (t := 3) (v := 108) rfl (mk_k106 _) rfl (mk_106_1 _)) ?_
      refine Eq.trans (s_push (y := 178) (pc := 98) (nx := 100) (a := 0) (b := 10) rfl) ?_
      refine Eq.trans (s_load (y := 178) (pc := 100) (nx := 101) (a := 0) (b := 1) (x := x1) rfl rfl) ?_
      refine Eq.trans (s_mul (y := 178) (pc := 101) (nx := 102) (b := 0) rfl) ?_
      refine Eq.trans (s_load (y := 178) (pc := 102) (nx := 103) (a := 0) (b := 3) (x := x3) rfl rfl) ?_
      refine Eq.trans (s_add (y := 178) (pc := 103) (nx := 104) (b := 0) rfl) ?_
      refine Eq.trans (s_ald (y := 178) (pc := 104) (nx := 105) (a := 1) (b := 0) (k := 1) (n := 800) (t := 0) (v := (D 108 (w32 ((w32 (10 * x1)) + x3)))) rfl (mk_k108 _) rfl rfl (mk_l108 _) (mk_c108 _ _)) (ite_c ?_ rfl)
      refine Eq.trans (s_load (y := 178) (pc := 105) (nx := 106) (a := 3) (b := 0) (x := 106) rfl rfl) ?_
      refine Eq.trans (s_get (y := 178) (pc := 106) (nx := 109) (a := 10) (b := 1) (t := 3) (v := 108) rfl (mk_k106 _) rfl (mk_106_1 _)) ?_
      refine Eq.trans (s_push (y := 178) (pc := 109) (nx := 111) (a := 0) (b := 10) rfl) ?_
      refine Eq.trans (s_load (y := 178) (pc := 111) (nx := 112) (a := 0) (b := 2) (x := x2) rfl rfl) ?_
      refine Eq.trans (s_mul (y := 178) (pc := 112) (nx := 113) (b := 0) rfl) ?_
      refine Eq.trans (s_load (y := 178) (pc := 113) (nx := 114) (a := 0) (b := 3) (x := x3) rfl rfl) ?_
      refine Eq.trans (s_add (y := 178) (pc := 114) (nx := 115) (b := 0) rfl) ?_
      refine Eq.trans (s_ald (y := 178) (pc := 115) (nx := 116) (a := 1) (b := 0) (k := 1) (n := 800) (t := 0) (v := (D 108 (w32 ((w32 (10 * x2)) + x3)))) rfl (mk_k108 _) rfl rfl (mk_l108 _) (mk_c108 _ _)) (ite_c ?_ rfl)
      refine Eq.trans (s_icge (y := 178) (pc := 116) (nx := 119) (b := 123) (tg := 123) rfl rfl) (ite_c ?_ ?_)
      · refine Eq.trans (s_push (y := 178) (pc := 119) (nx := 120) (a := 0) (b := 1) rfl) ?_
        refine Eq.trans (s_goto (y := 178) (pc := 120) (nx := 123) (a := 0) (b := 124) (tg := 124) rfl rfl) ?_
        exact s_retz (y := 178) (pc := 124) (nx := 125) rfl (by decide)
      · refine Eq.trans (s_push (y := 178) (pc := 123) (nx := 124) (a := 0) (b := 0) rfl) ?_
        exact s_retz (y := 178) (pc := 124) (nx := 125) rfl (by decide)
theorem e_178_73 (D : Mem) (x1 : Int) (x2 : Int) (x3 : Int) : qE 178 73 [(3, 106), (0, x1), (0, x2), (0, x3)] [] (mk D) = (if 0 ≤ x1 ∧ x1 < 80 then (if 0 ≤ x2 ∧ x2 < 80 then (if (D 109 x1) < (D 109 x2) then some ((0, 1), (mk D)) else some ((0, 0), (mk D))) else none) else none) := by
  refine Eq.trans (s_load (y := 178) (pc := 73) (nx := 74) (a := 3) (b := 0) (x := 106) rfl rfl) ?_
  refine Eq.trans (s_get (y := 178) (pc := 74) (nx := 77) (a := 10) (b := 2) (t := 3) (v := 109) rfl (mk_k106 _) rfl (mk_106_2 _)) ?_
  refine Eq.trans (s_load (y := 178) (pc := 77) (nx := 78) (a := 0) (b := 1) (x := x1) rfl rfl) ?_
  refine Eq.trans (s_ald (y := 178) (pc := 78) (nx := 79) (a := 1) (b := 0) (k := 1) (n := 80) (t := 0) (v := (D 109 x1)) rfl (mk_k109 _) rfl rfl (mk_l109 _) (mk_c109 _ _)) (ite_c ?_ rfl)
  refine Eq.trans (s_load (y := 178) (pc := 79) (nx := 80) (a := 3) (b := 0) (x := 106) rfl rfl) ?_
  refine Eq.trans (s_get (y := 178) (pc := 80) (nx := 83) (a := 10) (b := 2) (t := 3) (v := 109) rfl (mk_k106 _) rfl (mk_106_2 _)) ?_
  refine Eq.trans (s_load (y := 178) (pc := 83) (nx := 84) (a := 0) (b := 2) (x := x2) rfl rfl) ?_
  refine Eq.trans (s_ald (y := 178) (pc := 84) (nx := 85) (a := 1) (b := 0) (k := 1) (n := 80) (t := 0) (v := (D 109 x2)) rfl (mk_k109 _) rfl rfl (mk_l109 _) (mk_c109 _ _)) (ite_c ?_ rfl)
  refine Eq.trans (s_icge (y := 178) (pc := 85) (nx := 88) (b := 92) (tg := 92) rfl rfl) (ite_c ?_ ?_)
  · refine Eq.trans (s_push (y := 178) (pc := 88) (nx := 89) (a := 0) (b := 1) rfl) ?_
    refine Eq.trans (s_goto (y := 178) (pc := 89) (nx := 92) (a := 0) (b := 93) (tg := 93) rfl rfl) ?_
    exact s_retz (y := 178) (pc := 93) (nx := 94) rfl (by decide)
  · refine Eq.trans (s_push (y := 178) (pc := 92) (nx := 93) (a := 0) (b := 0) rfl) ?_
    exact s_retz (y := 178) (pc := 93) (nx := 94) rfl (by decide)
theorem r_179 (D : Mem) (x1 : Int) (x2 : Int) (x3 : Int) : qR 179 [(3, 106), (0, x1), (0, x2), (0, x3)] (mk D) = qE 179 8 [(3, 106), (0, x1), (0, x2), (0, x3), (0, 0), (9, 0), (9, 0), (9, 0)] [] (mk (mU D 106 30 0)) := by
  show qE 179 0 [(3, 106), (0, x1), (0, x2), (0, x3), (9, 0), (9, 0), (9, 0), (9, 0)] [] (mk D) = _
  refine Eq.trans (s_load (y := 179) (pc := 0) (nx := 1) (a := 3) (b := 0) (x := 106) rfl rfl) ?_
  refine Eq.trans (s_push (y := 179) (pc := 1) (nx := 2) (a := 0) (b := 0) rfl) ?_
  refine Eq.trans (s_put (y := 179) (pc := 2) (nx := 5) (a := 10) (b := 30) (t := 0) (v := 0) (μ' := mk (mU D 106 30 0)) rfl (mk_k106 _) rfl (mu_106_30 _ _)) ?_
  refine Eq.trans (s_push (y := 179) (pc := 5) (nx := 6) (a := 0) (b := 0) rfl) ?_
  refine Eq.trans (s_store (y := 179) (pc := 6) (nx := 8) (a := 0) (b := 4) (ls' := [(3, 106), (0, x1), (0, x2), (0, x3), (0, 0), (9, 0), (9, 0), (9, 0)]) rfl (Nat.le_of_ble_eq_true rfl) rfl) ?_
  rfl
theorem e_179_8 (D : Mem) (x1 : Int) (x2 : Int) (x3 : Int) (x4 : Int) (v5 : PV) (v6 : PV) (v7 : PV) : qE 179 8 [(3, 106), (0, x1), (0, x2), (0, x3), (0, x4), v5, v6, v7] [] (mk D) = (if x4 < (D 106 6) then ((qR 177 [(3, 106), (0, x4), (0, x1), (0, x2)] (mk D)).bind fun w => qE 179 25 [(3, 106), (0, x1), (0, x2), (0, x3), (0, x4), v5, v6, v7] (psh w.1 []) w.2) else some ((9, 0), (mk D))) := by
  refine Eq.trans (s_load (y := 179) (pc := 8) (nx := 10) (a := 0) (b := 4) (x := x4) rfl rfl) ?_
  refine Eq.trans (s_load (y := 179) (pc := 10) (nx := 11) (a := 3) (b := 0) (x := 106) rfl rfl) ?_
  refine Eq.trans (s_get (y := 179) (pc := 11) (nx := 14) (a := 10) (b := 6) (t := 0) (v := (D 106 6)) rfl (mk_k106 _) rfl (mk_106_6 _)) ?_
  refine Eq.trans (s_icge (y := 179) (pc := 14) (nx := 17) (b := 173) (tg := 173) rfl rfl) (ite_c ?_ ?_)
  · refine Eq.trans (s_load (y := 179) (pc := 17) (nx := 18) (a := 3) (b := 0) (x := 106) rfl rfl) ?_
    refine Eq.trans (s_load (y := 179) (pc := 18) (nx := 20) (a := 0) (b := 4) (x := x4) rfl rfl) ?_
    refine Eq.trans (s_load (y := 179) (pc := 20) (nx := 21) (a := 0) (b := 1) (x := x1) rfl rfl) ?_
    refine Eq.trans (s_load (y := 179) (pc := 21) (nx := 22) (a := 0) (b := 2) (x := x2) rfl rfl) ?_
    exact s_call (y := 179) (pc := 22) (nx := 25) (a := 177) (b := 0) (as := [(3, 106), (0, x4), (0, x1), (0, x2)]) (r := []) rfl (Nat.le_of_ble_eq_true rfl) rfl rfl (Nat.le_of_ble_eq_true rfl) (Nat.le_of_ble_eq_true rfl) (Or.inr ⟨rfl, mk_k106 _⟩)
  · exact s_retv (y := 179) (pc := 173) (nx := 174) (b := 0) rfl
theorem e_179_25 (D : Mem) (x1 : Int) (x2 : Int) (x3 : Int) (x4 : Int) (v5 : PV) (v6 : PV) (v7 : PV) (s0 : Int) : qE 179 25 [(3, 106), (0, x1), (0, x2), (0, x3), (0, x4), v5, v6, v7] [(0, s0)] (mk D) = (if s0 < 0 then qE 179 8 [(3, 106), (0, x1), (0, x2), (0, x3), (0, (w32 (x4 + 1))), (0, s0), v6, v7] [] (mk D) else ((qR 160 [(3, 106), (0, x4), (0, x3)] (mk D)).bind fun w => qE 179 39 [(3, 106), (0, x1), (0, x2), (0, x3), (0, x4), (0, s0), v6, v7] (psh w.1 []) w.2)) := by
  refine Eq.trans (s_store (y := 179) (pc := 25) (nx := 27) (a := 0) (b := 5) (ls' := [(3, 106), (0, x1), (0, x2), (0, x3), (0, x4), (0, s0), v6, v7]) rfl (Nat.le_of_ble_eq_true rfl) rfl) ?_
  refine Eq.trans (s_load (y := 179) (pc := 27) (nx := 29) (a := 0) (b := 5) (x := s0) rfl rfl) ?_
  refine Eq.trans (s_iflt (y := 179) (pc := 29) (nx := 32) (b := 167) (tg := 167) rfl rfl) (ite_c ?_ ?_)
  · refine Eq.trans (s_iinc (y := 179) (pc := 167) (nx := 170) (a := 4) (b := 1) (x := x4) (ls' := [(3, 106), (0, x1), (0, x2), (0, x3), (0, (w32 (x4 + 1))), (0, s0), v6, v7]) rfl rfl rfl) ?_
    refine Eq.trans (s_goto (y := 179) (pc := 170) (nx := 173) (a := 0) (b := 8) (tg := 8) rfl rfl) ?_
    rfl
  · refine Eq.trans (s_load (y := 179) (pc := 32) (nx := 33) (a := 3) (b := 0) (x := 106) rfl rfl) ?_
    refine Eq.trans (s_load (y := 179) (pc := 33) (nx := 35) (a := 0) (b := 4) (x := x4) rfl rfl) ?_
    refine Eq.trans (s_load (y := 179) (pc := 35) (nx := 36) (a := 0) (b := 3) (x := x3) rfl rfl) ?_
    exact s_call (y := 179) (pc := 36) (nx := 39) (a := 160) (b := 0) (as := [(3, 106), (0, x4), (0, x3)]) (r := []) rfl (Nat.le_of_ble_eq_true rfl) rfl rfl (Nat.le_of_ble_eq_true rfl) (Nat.le_of_ble_eq_true rfl) (Or.inr ⟨rfl, mk_k106 _⟩)
theorem e_179_39 (D : Mem) (x1 : Int) (x2 : Int) (x3 : Int) (x4 : Int) (x5 : Int) (v6 : PV) (v7 : PV) (s0 : Int) : qE 179 39 [(3, 106), (0, x1), (0, x2), (0, x3), (0, x4), (0, x5), v6, v7] [(0, s0)] (mk D) = qE 179 50 [(3, 106), (0, x1), (0, x2), (0, x3), (0, x4), (0, x5), (0, (w32 (s0 - x5))), (0, (D 106 30))] [] (mk D) := by
  refine Eq.trans (s_load (y := 179) (pc := 39) (nx := 41) (a := 0) (b := 5) (x := x5) rfl rfl) ?_
  refine Eq.trans (s_sub (y := 179) (pc := 41) (nx := 42) (b := 0) rfl) ?_
  refine Eq.trans (s_store (y := 179) (pc := 42) (nx := 44) (a := 0) (b := 6) (ls' := [(3, 106), (0, x1), (0, x2), (0, x3), (0, x4), (0, x5), (0, (w32 (s0 - x5))), v7]) rfl (Nat.le_of_ble_eq_true rfl) rfl) ?_
  refine Eq.trans (s_load (y := 179) (pc := 44) (nx := 45) (a := 3) (b := 0) (x := 106) rfl rfl) ?_
  refine Eq.trans (s_get (y := 179) (pc := 45) (nx := 48) (a := 10) (b := 30) (t := 0) (v := (D 106 30)) rfl (mk_k106 _) rfl (mk_106_30 _)) ?_
  refine Eq.trans (s_store (y := 179) (pc := 48) (nx := 50) (a := 0) (b := 7) (ls' := [(3, 106), (0, x1), (0, x2), (0, x3), (0, x4), (0, x5), (0, (w32 (s0 - x5))), (0, (D 106 30))]) rfl (Nat.le_of_ble_eq_true rfl) rfl) ?_
  rfl
theorem e_179_50 (D : Mem) (x1 : Int) (x2 : Int) (x3 : Int) (x4 : Int) (x5 : Int) (x6 : Int) (x7 : Int) : qE 179 50 [(3, 106), (0, x1), (0, x2), (0, x3), (0, x4), (0, x5), (0, x6), (0, x7)] [] (mk D) = (if x7 ≤ 0 then qE 179 139 [(3, 106), (0, x1), (0, x2), (0, x3), (0, x4), (0, x5), (0, x6), (0, x7)] [] (mk D) else (if 0 ≤ (w32 (x7 - 1)) ∧ (w32 (x7 - 1)) < 80 then (if (D 126 (w32 (x7 - 1))) < x6 then qE 179 101 [(3, 106), (0, x1), (0, x2), (0, x3), (0, x4), (0, x5), (0, x6), (0, x7)] [] (mk D) else (if 0 ≤ (w32 (x7 - 1)) ∧ (w32 (x7 - 1)) < 80 then (if (D 126 (w32 (x7 - 1))) = x6 then (if 0 ≤ (w32 (x7 - 1)) ∧ (w32 (x7 - 1)) < 80 then ((qR 178 [(3, 106), (0, x4), (0, (D 125 (w32 (x7 - 1))))] (mk D)).bind fun w => qE 179 98 [(3, 106), (0, x1), (0, x2), (0, x3), (0, x4), (0, x5), (0, x6), (0, x7)] (psh w.1 []) w.2) else none) else qE 179 139 [(3, 106), (0, x1), (0, x2), (0, x3), (0, x4), (0, x5), (0, x6), (0, x7)] [] (mk D)) else none)) else none)) := by
  refine Eq.trans (s_load (y := 179) (pc := 50) (nx := 52) (a := 0) (b := 7) (x := x7) rfl rfl) ?_
  refine Eq.trans (s_ifle (y := 179) (pc := 52) (nx := 55) (b := 139) (tg := 139) rfl rfl) (ite_c ?_ ?_)
  · rfl
  · refine Eq.trans (s_load (y := 179) (pc := 55) (nx := 56) (a := 3) (b := 0) (x := 106) rfl rfl) ?_
    refine Eq.trans (s_get (y := 179) (pc := 56) (nx := 59) (a := 10) (b := 29) (t := 3) (v := 126) rfl (mk_k106 _) rfl (mk_106_29 _)) ?_
    refine Eq.trans (s_load (y := 179) (pc := 59) (nx := 61) (a := 0) (b := 7) (x := x7) rfl rfl) ?_
    refine Eq.trans (s_push (y := 179) (pc := 61) (nx := 62) (a := 0) (b := 1) rfl) ?_
    refine Eq.trans (s_sub (y := 179) (pc := 62) (nx := 63) (b := 0) rfl) ?_
    refine Eq.trans (s_ald (y := 179) (pc := 63) (nx := 64) (a := 1) (b := 0) (k := 1) (n := 80) (t := 0) (v := (D 126 (w32 (x7 - 1)))) rfl (mk_k126 _) rfl rfl (mk_l126 _) (mk_c126 _ _)) (ite_c ?_ rfl)
    refine Eq.trans (s_load (y := 179) (pc := 64) (nx := 66) (a := 0) (b := 6) (x := x6) rfl rfl) ?_
    refine Eq.trans (s_iclt (y := 179) (pc := 66) (nx := 69) (b := 101) (tg := 101) rfl rfl) (ite_c ?_ ?_)
    · rfl
    · refine Eq.trans (s_load (y := 179) (pc := 69) (nx := 70) (a := 3) (b := 0) (x := 106) rfl rfl) ?_
      refine Eq.trans (s_get (y := 179) (pc := 70) (nx := 73) (a := 10) (b := 29) (t := 3) (v := 126) rfl (mk_k106 _) rfl (mk_106_29 _)) ?_
      refine Eq.trans (s_load (y := 179) (pc := 73) (nx := 75) (a := 0) (b := 7) (x := x7) rfl rfl) ?_
      refine Eq.trans (s_push (y := 179) (pc := 75) (nx := 76) (a := 0) (b := 1) rfl) ?_
      refine Eq.trans (s_sub (y := 179) (pc := 76) (nx := 77) (b := 0) rfl) ?_
      refine Eq.trans (s_ald (y := 179) (pc := 77) (nx := 78) (a := 1) (b := 0) (k := 1) (n := 80) (t := 0) (v := (D 126 (w32 (x7 - 1)))) rfl (mk_k126 _) rfl rfl (mk_l126 _) (mk_c126 _ _)) (ite_c ?_ rfl)
      refine Eq.trans (s_load (y := 179) (pc := 78) (nx := 80) (a := 0) (b := 6) (x := x6) rfl rfl) ?_
      refine Eq.trans (s_icne (y := 179) (pc := 80) (nx := 83) (b := 139) (tg := 139) rfl rfl) (ite_c ?_ ?_)
      · refine Eq.trans (s_load (y := 179) (pc := 83) (nx := 84) (a := 3) (b := 0) (x := 106) rfl rfl) ?_
        refine Eq.trans (s_load (y := 179) (pc := 84) (nx := 86) (a := 0) (b := 4) (x := x4) rfl rfl) ?_
        refine Eq.trans (s_load (y := 179) (pc := 86) (nx := 87) (a := 3) (b := 0) (x := 106) rfl rfl) ?_
        refine Eq.trans (s_get (y := 179) (pc := 87) (nx := 90) (a := 10) (b := 28) (t := 3) (v := 125) rfl (mk_k106 _) rfl (mk_106_28 _)) ?_
        refine Eq.trans (s_load (y := 179) (pc := 90) (nx := 92) (a := 0) (b := 7) (x := x7) rfl rfl) ?_
        refine Eq.trans (s_push (y := 179) (pc := 92) (nx := 93) (a := 0) (b := 1) rfl) ?_
        refine Eq.trans (s_sub (y := 179) (pc := 93) (nx := 94) (b := 0) rfl) ?_
        refine Eq.trans (s_ald (y := 179) (pc := 94) (nx := 95) (a := 1) (b := 0) (k := 1) (n := 80) (t := 0) (v := (D 125 (w32 (x7 - 1)))) rfl (mk_k125 _) rfl rfl (mk_l125 _) (mk_c125 _ _)) (ite_c ?_ rfl)
        exact s_call (y := 179) (pc := 95) (nx := 98) (a := 178) (b := 0) (as := [(3, 106), (0, x4), (0, (D 125 (w32 (x7 - 1))))]) (r := []) rfl (Nat.le_of_ble_eq_true rfl) rfl rfl (Nat.le_of_ble_eq_true rfl) (Nat.le_of_ble_eq_true rfl) (Or.inr ⟨rfl, mk_k106 _⟩)
      · rfl
theorem e_179_98 (D : Mem) (x1 : Int) (x2 : Int) (x3 : Int) (x4 : Int) (x5 : Int) (x6 : Int) (x7 : Int) (s0 : Int) : qE 179 98 [(3, 106), (0, x1), (0, x2), (0, x3), (0, x4), (0, x5), (0, x6), (0, x7)] [(0, s0)] (mk D) = (if s0 = 0 then qE 179 139 [(3, 106), (0, x1), (0, x2), (0, x3), (0, x4), (0, x5), (0, x6), (0, x7)] [] (mk D) else qE 179 101 [(3, 106), (0, x1), (0, x2), (0, x3), (0, x4), (0, x5), (0, x6), (0, x7)] [] (mk D)) := by
  refine Eq.trans (s_ifeq (y := 179) (pc := 98) (nx := 101) (b := 139) (tg := 139) rfl rfl) (ite_c ?_ ?_)
  · rfl
  · rfl
theorem e_179_101 (D : Mem) (x1 : Int) (x2 : Int) (x3 : Int) (x4 : Int) (x5 : Int) (x6 : Int) (x7 : Int) : qE 179 101 [(3, 106), (0, x1), (0, x2), (0, x3), (0, x4), (0, x5), (0, x6), (0, x7)] [] (mk D) = (if 0 ≤ (w32 (x7 - 1)) ∧ (w32 (x7 - 1)) < 80 then (if 0 ≤ x7 ∧ x7 < 80 then (if 0 ≤ (w32 (x7 - 1)) ∧ (w32 (x7 - 1)) < 80 then (if 0 ≤ x7 ∧ x7 < 80 then qE 179 50 [(3, 106), (0, x1), (0, x2), (0, x3), (0, x4), (0, x5), (0, x6), (0, (w32 (x7 + (-1))))] [] (mk (mU (mU D 126 x7 (D 126 (w32 (x7 - 1)))) 125 x7 ((mU D 126 x7 (D 126 (w32 (x7 - 1)))) 125 (w32 (x7 - 1))))) else none) else none) else none) else none) := by
  refine Eq.trans (s_load (y := 179) (pc := 101) (nx := 102) (a := 3) (b := 0) (x := 106) rfl rfl) ?_
  refine Eq.trans (s_get (y := 179) (pc := 102) (nx := 105) (a := 10) (b := 29) (t := 3) (v := 126) rfl (mk_k106 _) rfl (mk_106_29 _)) ?_
  refine Eq.trans (s_load (y := 179) (pc := 105) (nx := 107) (a := 0) (b := 7) (x := x7) rfl rfl) ?_
  refine Eq.trans (s_load (y := 179) (pc := 107) (nx := 108) (a := 3) (b := 0) (x := 106) rfl rfl) ?_
  refine Eq.trans (s_get (y := 179) (pc := 108) (nx := 111) (a := 10) (b := 29) (t := 3) (v := 126) rfl (mk_k106 _) rfl (mk_106_29 _)) ?_
  refine Eq.trans (s_load (y := 179) (pc := 111) (nx := 113) (a := 0) (b := 7) (x := x7) rfl rfl) ?_
  refine Eq.trans (s_push (y := 179) (pc := 113) (nx := 114) (a := 0) (b := 1) rfl) ?_
  refine Eq.trans (s_sub (y := 179) (pc := 114) (nx := 115) (b := 0) rfl) ?_
  refine Eq.trans (s_ald (y := 179) (pc := 115) (nx := 116) (a := 1) (b := 0) (k := 1) (n := 80) (t := 0) (v := (D 126 (w32 (x7 - 1)))) rfl (mk_k126 _) rfl rfl (mk_l126 _) (mk_c126 _ _)) (ite_c ?_ rfl)
  refine Eq.trans (s_ast (y := 179) (pc := 116) (nx := 117) (a := 1) (b := 0) (k := 1) (n := 80) (t := 0) (v := (D 126 (w32 (x7 - 1)))) (μ' := mk (mU D 126 x7 (D 126 (w32 (x7 - 1))))) rfl (by decide) (mk_k126 _) rfl (mk_l126 _) (mu_126 _ _ _)) (ite_c ?_ rfl)
  refine Eq.trans (s_load (y := 179) (pc := 117) (nx := 118) (a := 3) (b := 0) (x := 106) rfl rfl) ?_
  refine Eq.trans (s_get (y := 179) (pc := 118) (nx := 121) (a := 10) (b := 28) (t := 3) (v := 125) rfl (mk_k106 _) rfl (mk_106_28 _)) ?_
  refine Eq.trans (s_load (y := 179) (pc := 121) (nx := 123) (a := 0) (b := 7) (x := x7) rfl rfl) ?_
  refine Eq.trans (s_load (y := 179) (pc := 123) (nx := 124) (a := 3) (b := 0) (x := 106) rfl rfl) ?_
  refine Eq.trans (s_get (y := 179) (pc := 124) (nx := 127) (a := 10) (b := 28) (t := 3) (v := 125) rfl (mk_k106 _) rfl (mk_106_28 _)) ?_
  refine Eq.trans (s_load (y := 179) (pc := 127) (nx := 129) (a := 0) (b := 7) (x := x7) rfl rfl) ?_
  refine Eq.trans (s_push (y := 179) (pc := 129) (nx := 130) (a := 0) (b := 1) rfl) ?_
  refine Eq.trans (s_sub (y := 179) (pc := 130) (nx := 131) (b := 0) rfl) ?_
  refine Eq.trans (s_ald (y := 179) (pc := 131) (nx := 132) (a := 1) (b := 0) (k := 1) (n := 80) (t := 0) (v := ((mU D 126 x7 (D 126 (w32 (x7 - 1)))) 125 (w32 (x7 - 1)))) rfl (mk_k125 _) rfl rfl (mk_l125 _) (mk_c125 _ _)) (ite_c ?_ rfl)
  refine Eq.trans (s_ast (y := 179) (pc := 132) (nx := 133) (a := 1) (b := 0) (k := 1) (n := 80) (t := 0) (v := ((mU D 126 x7 (D 126 (w32 (x7 - 1)))) 125 (w32 (x7 - 1)))) (μ' := mk (mU (mU D 126 x7 (D 126 (w32 (x7 - 1)))) 125 x7 ((mU D 126 x7 (D 126 (w32 (x7 - 1)))) 125 (w32 (x7 - 1))))) rfl (by decide) (mk_k125 _) rfl (mk_l125 _) (mu_125 _ _ _)) (ite_c ?_ rfl)
  refine Eq.trans (s_iinc (y := 179) (pc := 133) (nx := 136) (a := 7) (b := (-1)) (x := x7) (ls' := [(3, 106), (0, x1), (0, x2), (0, x3), (0, x4), (0, x5), (0, x6), (0, (w32 (x7 + (-1))))]) rfl rfl rfl) ?_
  refine Eq.trans (s_goto (y := 179) (pc := 136) (nx := 139) (a := 0) (b := 50) (tg := 50) rfl rfl) ?_
  rfl
theorem e_179_139 (D : Mem) (x1 : Int) (x2 : Int) (x3 : Int) (x4 : Int) (x5 : Int) (x6 : Int) (x7 : Int) : qE 179 139 [(3, 106), (0, x1), (0, x2), (0, x3), (0, x4), (0, x5), (0, x6), (0, x7)] [] (mk D) = (if 0 ≤ x7 ∧ x7 < 80 then (if 0 ≤ x7 ∧ x7 < 80 then qE 179 8 [(3, 106), (0, x1), (0, x2), (0, x3), (0, (w32 (x4 + 1))), (0, x5), (0, x6), (0, x7)] [] (mk (mU (mU (mU D 126 x7 x6) 125 x7 x4) 106 30 (w32 (((mU (mU D 126 x7 x6) 125 x7 x4) 106 30) + 1)))) else none) else none) := by
  refine Eq.trans (s_load (y := 179) (pc := 139) (nx := 140) (a := 3) (b := 0) (x := 106) rfl rfl) ?_
  refine Eq.trans (s_get (y := 179) (pc := 140) (nx := 143) (a := 10) (b := 29) (t := 3) (v := 126) rfl (mk_k106 _) rfl (mk_106_29 _)) ?_
  refine Eq.trans (s_load (y := 179) (pc := 143) (nx := 145) (a := 0) (b := 7) (x := x7) rfl rfl) ?_
  refine Eq.trans (s_load (y := 179) (pc := 145) (nx := 147) (a := 0) (b := 6) (x := x6) rfl rfl) ?_
  refine Eq.trans (s_ast (y := 179) (pc := 147) (nx := 148) (a := 1) (b := 0) (k := 1) (n := 80) (t := 0) (v := x6) (μ' := mk (mU D 126 x7 x6)) rfl (by decide) (mk_k126 _) rfl (mk_l126 _) (mu_126 _ _ _)) (ite_c ?_ rfl)
  refine Eq.trans (s_load (y := 179) (pc := 148) (nx := 149) (a := 3) (b := 0) (x := 106) rfl rfl) ?_
  refine Eq.trans (s_get (y := 179) (pc := 149) (nx := 152) (a := 10) (b := 28) (t := 3) (v := 125) rfl (mk_k106 _) rfl (mk_106_28 _)) ?_
  refine Eq.trans (s_load (y := 179) (pc := 152) (nx := 154) (a := 0) (b := 7) (x := x7) rfl rfl) ?_
  refine Eq.trans (s_load (y := 179) (pc := 154) (nx := 156) (a := 0) (b := 4) (x := x4) rfl rfl) ?_
  refine Eq.trans (s_ast (y := 179) (pc := 156) (nx := 157) (a := 1) (b := 0) (k := 1) (n := 80) (t := 0) (v := x4) (μ' := mk (mU (mU D 126 x7 x6) 125 x7 x4)) rfl (by decide) (mk_k125 _) rfl (mk_l125 _) (mu_125 _ _ _)) (ite_c ?_ rfl)
  refine Eq.trans (s_load (y := 179) (pc := 157) (nx := 158) (a := 3) (b := 0) (x := 106) rfl rfl) ?_
  refine Eq.trans (s_dup (y := 179) (pc := 158) (nx := 159) (a := 0) (b := 0) rfl (by decide)) ?_
  refine Eq.trans (s_get (y := 179) (pc := 159) (nx := 162) (a := 10) (b := 30) (t := 0) (v := ((mU (mU D 126 x7 x6) 125 x7 x4) 106 30)) rfl (mk_k106 _) rfl (mk_106_30 _)) ?_
  refine Eq.trans (s_push (y := 179) (pc := 162) (nx := 163) (a := 0) (b := 1) rfl) ?_
  refine Eq.trans (s_add (y := 179) (pc := 163) (nx := 164) (b := 0) rfl) ?_
  refine Eq.trans (s_put (y := 179) (pc := 164) (nx := 167) (a := 10) (b := 30) (t := 0) (v := (w32 (((mU (mU D 126 x7 x6) 125 x7 x4) 106 30) + 1))) (μ' := mk (mU (mU (mU D 126 x7 x6) 125 x7 x4) 106 30 (w32 (((mU (mU D 126 x7 x6) 125 x7 x4) 106 30) + 1)))) rfl (mk_k106 _) rfl (mu_106_30 _ _)) ?_
  refine Eq.trans (s_iinc (y := 179) (pc := 167) (nx := 170) (a := 4) (b := 1) (x := x4) (ls' := [(3, 106), (0, x1), (0, x2), (0, x3), (0, (w32 (x4 + 1))), (0, x5), (0, x6), (0, x7)]) rfl rfl rfl) ?_
  refine Eq.trans (s_goto (y := 179) (pc := 170) (nx := 173) (a := 0) (b := 8) (tg := 8) rfl rfl) ?_
  rfl
theorem r_180 (D : Mem) (x1 : Int) (x2 : Int) : qR 180 [(3, 106), (0, x1), (0, x2)] (mk D) = ((qR 142 [(0, x1), (0, 0), (0, 3)] (mk D)).bind fun w => qE 180 6 [(3, 106), (0, x1), (0, x2)] (psh w.1 []) w.2) := by
  show qE 180 0 [(3, 106), (0, x1), (0, x2)] [] (mk D) = _
  refine Eq.trans (s_load (y := 180) (pc := 0) (nx := 1) (a := 0) (b := 1) (x := x1) rfl rfl) ?_
  refine Eq.trans (s_push (y := 180) (pc := 1) (nx := 2) (a := 0) (b := 0) rfl) ?_
  refine Eq.trans (s_push (y := 180) (pc := 2) (nx := 3) (a := 0) (b := 3) rfl) ?_
  exact s_call (y := 180) (pc := 3) (nx := 6) (a := 142) (b := 0) (as := [(0, x1), (0, 0), (0, 3)]) (r := []) rfl (Nat.le_of_ble_eq_true rfl) rfl rfl (Nat.le_of_ble_eq_true rfl) (Nat.le_of_ble_eq_true rfl) (Or.inl rfl)
theorem e_180_6 (D : Mem) (x1 : Int) (x2 : Int) (s0 : Int) : qE 180 6 [(3, 106), (0, x1), (0, x2)] [(0, s0)] (mk D) = (if s0 = 0 then some ((0, (-1)), (mk D)) else (if x1 = 0 then some ((0, (-5)), (mk D)) else ((qR 170 [(3, 106)] (mk D)).bind fun w => qE 180 22 [(3, 106), (0, x1), (0, x2)] (psh w.1 []) w.2))) := by
  refine Eq.trans (s_ifne (y := 180) (pc := 6) (nx := 9) (b := 11) (tg := 11) rfl rfl) (ite_c ?_ ?_)
  · refine Eq.trans (s_push (y := 180) (pc := 9) (nx := 10) (a := 0) (b := (-1)) rfl) ?_
    exact s_ret (y := 180) (pc := 10) (nx := 11) (a := 0) rfl (by decide)
  · refine Eq.trans (s_load (y := 180) (pc := 11) (nx := 12) (a := 0) (b := 1) (x := x1) rfl rfl) ?_
    refine Eq.trans (s_ifne (y := 180) (pc := 12) (nx := 15) (b := 18) (tg := 18) rfl rfl) (ite_c ?_ ?_)
    · refine Eq.trans (s_push (y := 180) (pc := 15) (nx := 17) (a := 0) (b := (-5)) rfl) ?_
      exact s_ret (y := 180) (pc := 17) (nx := 18) (a := 0) rfl (by decide)
    · refine Eq.trans (s_load (y := 180) (pc := 18) (nx := 19) (a := 3) (b := 0) (x := 106) rfl rfl) ?_
      exact s_call (y := 180) (pc := 19) (nx := 22) (a := 170) (b := 0) (as := [(3, 106)]) (r := []) rfl (Nat.le_of_ble_eq_true rfl) rfl rfl (Nat.le_of_ble_eq_true rfl) (Nat.le_of_ble_eq_true rfl) (Or.inr ⟨rfl, mk_k106 _⟩)
theorem e_180_22 (D : Mem) (x1 : Int) (x2 : Int) : qE 180 22 [(3, 106), (0, x1), (0, x2)] [] (mk D) = ((qR 159 [(3, 106)] (mk D)).bind fun w => qE 180 29 [(3, 106), (0, x1), (0, x2)] (psh w.1 [(0, x2), (0, x1), (3, 106)]) w.2) := by
  refine Eq.trans (s_load (y := 180) (pc := 22) (nx := 23) (a := 3) (b := 0) (x := 106) rfl rfl) ?_
  refine Eq.trans (s_load (y := 180) (pc := 23) (nx := 24) (a := 0) (b := 1) (x := x1) rfl rfl) ?_
  refine Eq.trans (s_load (y := 180) (pc := 24) (nx := 25) (a := 0) (b := 2) (x := x2) rfl rfl) ?_
  refine Eq.trans (s_load (y := 180) (pc := 25) (nx := 26) (a := 3) (b := 0) (x := 106) rfl rfl) ?_
  exact s_call (y := 180) (pc := 26) (nx := 29) (a := 159) (b := 0) (as := [(3, 106)]) (r := [(0, x2), (0, x1), (3, 106)]) rfl (Nat.le_of_ble_eq_true rfl) rfl rfl (Nat.le_of_ble_eq_true rfl) (Nat.le_of_ble_eq_true rfl) (Or.inr ⟨rfl, mk_k106 _⟩)
theorem e_180_29 (D : Mem) (x1 : Int) (x2 : Int) (s1 : Int) (s2 : Int) (s3 : Int) : qE 180 29 [(3, 106), (0, x1), (0, x2)] [(0, s3), (0, s2), (0, s1), (3, 106)] (mk D) = ((qR 179 [(3, 106), (0, s1), (0, s2), (0, s3)] (mk D)).bind fun w => qE 180 32 [(3, 106), (0, x1), (0, x2)] (psh w.1 []) w.2) := by
  exact s_call (y := 180) (pc := 29) (nx := 32) (a := 179) (b := 0) (as := [(3, 106), (0, s1), (0, s2), (0, s3)]) (r := []) rfl (Nat.le_of_ble_eq_true rfl) rfl rfl (Nat.le_of_ble_eq_true rfl) (Nat.le_of_ble_eq_true rfl) (Or.inr ⟨rfl, mk_k106 _⟩)
theorem e_180_32 (D : Mem) (x1 : Int) (x2 : Int) : qE 180 32 [(3, 106), (0, x1), (0, x2)] [] (mk D) = some ((0, (D 106 30)), (mk D)) := by
  refine Eq.trans (s_load (y := 180) (pc := 32) (nx := 33) (a := 3) (b := 0) (x := 106) rfl rfl) ?_
  refine Eq.trans (s_get (y := 180) (pc := 33) (nx := 36) (a := 10) (b := 30) (t := 0) (v := (D 106 30)) rfl (mk_k106 _) rfl (mk_106_30 _)) ?_
  exact s_ret (y := 180) (pc := 36) (nx := 37) (a := 0) rfl (by decide)
theorem r_181 (D : Mem) (x1 : Int) (x2 : Int) (x3 : Int) : qR 181 [(3, 106), (0, x1), (0, x2), (0, x3)] (mk D) = ((qR 180 [(3, 106), (0, x1), (0, x2)] (mk D)).bind fun w => qE 181 6 [(3, 106), (0, x1), (0, x2), (0, x3), (9, 0)] (psh w.1 []) w.2) := by
  show qE 181 0 [(3, 106), (0, x1), (0, x2), (0, x3), (9, 0)] [] (mk D) = _
  refine Eq.trans (s_load (y := 181) (pc := 0) (nx := 1) (a := 3) (b := 0) (x := 106) rfl rfl) ?_
  refine Eq.trans (s_load (y := 181) (pc := 1) (nx := 2) (a := 0) (b := 1) (x := x1) rfl rfl) ?_
  refine Eq.trans (s_load (y := 181) (pc := 2) (nx := 3) (a := 0) (b := 2) (x := x2) rfl rfl) ?_
  exact s_call (y := 181) (pc := 3) (nx := 6) (a := 180) (b := 0) (as := [(3, 106), (0, x1), (0, x2)]) (r := []) rfl (Nat.le_of_ble_eq_true rfl) rfl rfl (Nat.le_of_ble_eq_true rfl) (Nat.le_of_ble_eq_true rfl) (Or.inr ⟨rfl, mk_k106 _⟩)
theorem e_181_6 (D : Mem) (x1 : Int) (x2 : Int) (x3 : Int) (s0 : Int) : qE 181 6 [(3, 106), (0, x1), (0, x2), (0, x3), (9, 0)] [(0, s0)] (mk D) = (if x3 < 0 then some ((0, (-1)), (mk D)) else (if x3 < s0 then (if 0 ≤ x3 ∧ x3 < 80 then some ((0, (D 125 x3)), (mk D)) else none) else some ((0, (-1)), (mk D)))) := by
  refine Eq.trans (s_store (y := 181) (pc := 6) (nx := 8) (a := 0) (b := 4) (ls' := [(3, 106), (0, x1), (0, x2), (0, x3), (0, s0)]) rfl (Nat.le_of_ble_eq_true rfl) rfl) ?_
  refine Eq.trans (s_load (y := 181) (pc := 8) (nx := 9) (a := 0) (b := 3) (x := x3) rfl rfl) ?_
  refine Eq.trans (s_iflt (y := 181) (pc := 9) (nx := 12) (b := 27) (tg := 27) rfl rfl) (ite_c ?_ ?_)
  · refine Eq.trans (s_push (y := 181) (pc := 27) (nx := 28) (a := 0) (b := (-1)) rfl) ?_
    exact s_ret (y := 181) (pc := 28) (nx := 29) (a := 0) rfl (by decide)
  · refine Eq.trans (s_load (y := 181) (pc := 12) (nx := 13) (a := 0) (b := 3) (x := x3) rfl rfl) ?_
    refine Eq.trans (s_load (y := 181) (pc := 13) (nx := 15) (a := 0) (b := 4) (x := s0) rfl rfl) ?_
    refine Eq.trans (s_icge (y := 181) (pc := 15) (nx := 18) (b := 27) (tg := 27) rfl rfl) (ite_c ?_ ?_)
    · refine Eq.trans (s_load (y := 181) (pc := 18) (nx := 19) (a := 3) (b := 0) (x := 106) rfl rfl) ?_
      refine Eq.trans (s_get (y := 181) (pc := 19) (nx := 22) (a := 10) (b := 28) (t := 3) (v := 125) rfl (mk_k106 _) rfl (mk_106_28 _)) ?_
      refine Eq.trans (s_load (y := 181) (pc := 22) (nx := 23) (a := 0) (b := 3) (x := x3) rfl rfl) ?_
      refine Eq.trans (s_ald (y := 181) (pc := 23) (nx := 24) (a := 1) (b := 0) (k := 1) (n := 80) (t := 0) (v := (D 125 x3)) rfl (mk_k125 _) rfl rfl (mk_l125 _) (mk_c125 _ _)) (ite_c ?_ rfl)
      refine Eq.trans (s_goto (y := 181) (pc := 24) (nx := 27) (a := 0) (b := 28) (tg := 28) rfl rfl) ?_
      exact s_ret (y := 181) (pc := 28) (nx := 29) (a := 0) rfl (by decide)
    · refine Eq.trans (s_push (y := 181) (pc := 27) (nx := 28) (a := 0) (b := (-1)) rfl) ?_
      exact s_ret (y := 181) (pc := 28) (nx := 29) (a := 0) rfl (by decide)
theorem r_182 (D : Mem) (x1 : Int) (x2 : Int) : qR 182 [(3, 106), (0, x1), (0, x2)] (mk D) = ((qR 143 [(3, 106), (0, x2)] (mk D)).bind fun w => qE 182 5 [(3, 106), (0, x1), (0, x2)] (psh w.1 []) w.2) := by
  show qE 182 0 [(3, 106), (0, x1), (0, x2)] [] (mk D) = _
  refine Eq.trans (s_load (y := 182) (pc := 0) (nx := 1) (a := 3) (b := 0) (x := 106) rfl rfl) ?_
  refine Eq.trans (s_load (y := 182) (pc := 1) (nx := 2) (a := 0) (b := 2) (x := x2) rfl rfl) ?_
  exact s_call (y := 182) (pc := 2) (nx := 5) (a := 143) (b := 0) (as := [(3, 106), (0, x2)]) (r := []) rfl (Nat.le_of_ble_eq_true rfl) rfl rfl (Nat.le_of_ble_eq_true rfl) (Nat.le_of_ble_eq_true rfl) (Or.inr ⟨rfl, mk_k106 _⟩)
theorem e_182_5 (D : Mem) (x1 : Int) (x2 : Int) (s0 : Int) : qE 182 5 [(3, 106), (0, x1), (0, x2)] [(0, s0)] (mk D) = (if s0 = 0 then some ((0, (-2)), (mk D)) else ((qR 142 [(0, x1), (0, 0), (0, 3)] (mk D)).bind fun w => qE 182 14 [(3, 106), (0, x1), (0, x2)] (psh w.1 []) w.2)) := by
  refine Eq.trans (s_ifeq (y := 182) (pc := 5) (nx := 8) (b := 17) (tg := 17) rfl rfl) (ite_c ?_ ?_)
  · refine Eq.trans (s_push (y := 182) (pc := 17) (nx := 19) (a := 0) (b := (-2)) rfl) ?_
    exact s_ret (y := 182) (pc := 19) (nx := 20) (a := 0) rfl (by decide)
  · refine Eq.trans (s_load (y := 182) (pc := 8) (nx := 9) (a := 0) (b := 1) (x := x1) rfl rfl) ?_
    refine Eq.trans (s_push (y := 182) (pc := 9) (nx := 10) (a := 0) (b := 0) rfl) ?_
    refine Eq.trans (s_push (y := 182) (pc := 10) (nx := 11) (a := 0) (b := 3) rfl) ?_
    exact s_call (y := 182) (pc := 11) (nx := 14) (a := 142) (b := 0) (as := [(0, x1), (0, 0), (0, 3)]) (r := []) rfl (Nat.le_of_ble_eq_true rfl) rfl rfl (Nat.le_of_ble_eq_true rfl) (Nat.le_of_ble_eq_true rfl) (Or.inl rfl)
theorem e_182_14 (D : Mem) (x1 : Int) (x2 : Int) (s0 : Int) : qE 182 14 [(3, 106), (0, x1), (0, x2)] [(0, s0)] (mk D) = (if s0 = 0 then some ((0, (-2)), (mk D)) else (if x1 = 0 then some ((0, (-5)), (mk D)) else ((qR 170 [(3, 106)] (mk D)).bind fun w => qE 182 31 [(3, 106), (0, x1), (0, x2)] (psh w.1 []) w.2))) := by
  refine Eq.trans (s_ifne (y := 182) (pc := 14) (nx := 17) (b := 20) (tg := 20) rfl rfl) (ite_c ?_ ?_)
  · refine Eq.trans (s_push (y := 182) (pc := 17) (nx := 19) (a := 0) (b := (-2)) rfl) ?_
    exact s_ret (y := 182) (pc := 19) (nx := 20) (a := 0) rfl (by decide)
  · refine Eq.trans (s_load (y := 182) (pc := 20) (nx := 21) (a := 0) (b := 1) (x := x1) rfl rfl) ?_
    refine Eq.trans (s_ifne (y := 182) (pc := 21) (nx := 24) (b := 27) (tg := 27) rfl rfl) (ite_c ?_ ?_)
    · refine Eq.trans (s_push (y := 182) (pc := 24) (nx := 26) (a := 0) (b := (-5)) rfl) ?_
      exact s_ret (y := 182) (pc := 26) (nx := 27) (a := 0) rfl (by decide)
    · refine Eq.trans (s_load (y := 182) (pc := 27) (nx := 28) (a := 3) (b := 0) (x := 106) rfl rfl) ?_
      exact s_call (y := 182) (pc := 28) (nx := 31) (a := 170) (b := 0) (as := [(3, 106)]) (r := []) rfl (Nat.le_of_ble_eq_true rfl) rfl rfl (Nat.le_of_ble_eq_true rfl) (Nat.le_of_ble_eq_true rfl) (Or.inr ⟨rfl, mk_k106 _⟩)
theorem e_182_31 (D : Mem) (x1 : Int) (x2 : Int) : qE 182 31 [(3, 106), (0, x1), (0, x2)] [] (mk D) = ((qR 177 [(3, 106), (0, x2), (0, x1), (0, 100000)] (mk D)).bind fun w => qE 182 39 [(3, 106), (0, x1), (0, x2)] (psh w.1 []) w.2) := by
  refine Eq.trans (s_load (y := 182) (pc := 31) (nx := 32) (a := 3) (b := 0) (x := 106) rfl rfl) ?_
  refine Eq.trans (s_load (y := 182) (pc := 32) (nx := 33) (a := 0) (b := 2) (x := x2) rfl rfl) ?_
  refine Eq.trans (s_load (y := 182) (pc := 33) (nx := 34) (a := 0) (b := 1) (x := x1) rfl rfl) ?_
  refine Eq.trans (s_push (y := 182) (pc := 34) (nx := 36) (a := 0) (b := 100000) rfl) ?_
  exact s_call (y := 182) (pc := 36) (nx := 39) (a := 177) (b := 0) (as := [(3, 106), (0, x2), (0, x1), (0, 100000)]) (r := []) rfl (Nat.le_of_ble_eq_true rfl) rfl rfl (Nat.le_of_ble_eq_true rfl) (Nat.le_of_ble_eq_true rfl) (Or.inr ⟨rfl, mk_k106 _⟩)
theorem e_182_39 (D : Mem) (x1 : Int) (x2 : Int) (s0 : Int) : qE 182 39 [(3, 106), (0, x1), (0, x2)] [(0, s0)] (mk D) = some ((0, s0), (mk D)) := by
  exact s_ret (y := 182) (pc := 39) (nx := 40) (a := 0) rfl (by decide)
theorem r_183 (D : Mem) (x1 : Int) : qR 183 [(3, 106), (0, x1)] (mk D) = (if 0 ≤ x1 ∧ x1 < 80 then (if (D 110 x1) < 1000000 then (if 0 ≤ x1 ∧ x1 < 80 then (if 0 ≤ x1 ∧ x1 < 80 then ((qR 159 [(3, 106)] (mk (mU D 110 x1 (w32 ((D 110 x1) + 1))))).bind fun w => qE 183 34 [(3, 106), (0, x1), (9, 0), (9, 0)] (psh w.1 []) w.2) else none) else none) else (if 0 ≤ x1 ∧ x1 < 80 then ((qR 159 [(3, 106)] (mk (mU D 110 x1 1000000))).bind fun w => qE 183 34 [(3, 106), (0, x1), (9, 0), (9, 0)] (psh w.1 []) w.2) else none)) else none) := by
  show qE 183 0 [(3, 106), (0, x1), (9, 0), (9, 0)] [] (mk D) = _
  refine Eq.trans (s_load (y := 183) (pc := 0) (nx := 1) (a := 3) (b := 0) (x := 106) rfl rfl) ?_
  refine Eq.trans (s_get (y := 183) (pc := 1) (nx := 4) (a := 10) (b := 3) (t := 3) (v := 110) rfl (mk_k106 _) rfl (mk_106_3 _)) ?_
  refine Eq.trans (s_load (y := 183) (pc := 4) (nx := 5) (a := 0) (b := 1) (x := x1) rfl rfl) ?_
  refine Eq.trans (s_load (y := 183) (pc := 5) (nx := 6) (a := 3) (b := 0) (x := 106) rfl rfl) ?_
  refine Eq.trans (s_get (y := 183) (pc := 6) (nx := 9) (a := 10) (b := 3) (t := 3) (v := 110) rfl (mk_k106 _) rfl (mk_106_3 _)) ?_
  refine Eq.trans (s_load (y := 183) (pc := 9) (nx := 10) (a := 0) (b := 1) (x := x1) rfl rfl) ?_
  refine Eq.trans (s_ald (y := 183) (pc := 10) (nx := 11) (a := 1) (b := 0) (k := 1) (n := 80) (t := 0) (v := (D 110 x1)) rfl (mk_k110 _) rfl rfl (mk_l110 _) (mk_c110 _ _)) (ite_c ?_ rfl)
  refine Eq.trans (s_push (y := 183) (pc := 11) (nx := 13) (a := 0) (b := 1000000) rfl) ?_
  refine Eq.trans (s_icge (y := 183) (pc := 13) (nx := 16) (b := 27) (tg := 27) rfl rfl) (ite_c ?_ ?_)
  · refine Eq.trans (s_load (y := 183) (pc := 16) (nx := 17) (a := 3) (b := 0) (x := 106) rfl rfl) ?_
    refine Eq.trans (s_get (y := 183) (pc := 17) (nx := 20) (a := 10) (b := 3) (t := 3) (v := 110) rfl (mk_k106 _) rfl (mk_106_3 _)) ?_
    refine Eq.trans (s_load (y := 183) (pc := 20) (nx := 21) (a := 0) (b := 1) (x := x1) rfl rfl) ?_
    refine Eq.trans (s_ald (y := 183) (pc := 21) (nx := 22) (a := 1) (b := 0) (k := 1) (n := 80) (t := 0) (v := (D 110 x1)) rfl (mk_k110 _) rfl rfl (mk_l110 _) (mk_c110 _ _)) (ite_c ?_ rfl)
    refine Eq.trans (s_push (y := 183) (pc := 22) (nx := 23) (a := 0) (b := 1) rfl) ?_
    refine Eq.trans (s_add (y := 183) (pc := 23) (nx := 24) (b := 0) rfl) ?_
    refine Eq.trans (s_goto (y := 183) (pc := 24) (nx := 27) (a := 0) (b := 29) (tg := 29) rfl rfl) ?_
    refine Eq.trans (s_ast (y := 183) (pc := 29) (nx := 30) (a := 1) (b := 0) (k := 1) (n := 80) (t := 0) (v := (w32 ((D 110 x1) + 1))) (μ' := mk (mU D 110 x1 (w32 ((D 110 x1) + 1)))) rfl (by decide) (mk_k110 _) rfl (mk_l110 _) (mu_110 _ _ _)) (ite_c ?_ rfl)
    refine Eq.trans (s_load (y := 183) (pc := 30) (nx := 31) (a := 3) (b := 0) (x := 106) rfl rfl) ?_
    exact s_call (y := 183) (pc := 31) (nx := 34) (a := 159) (b := 0) (as := [(3, 106)]) (r := []) rfl (Nat.le_of_ble_eq_true rfl) rfl rfl (Nat.le_of_ble_eq_true rfl) (Nat.le_of_ble_eq_true rfl) (Or.inr ⟨rfl, mk_k106 _⟩)
  · refine Eq.trans (s_push (y := 183) (pc := 27) (nx := 29) (a := 0) (b := 1000000) rfl) ?_
    refine Eq.trans (s_ast (y := 183) (pc := 29) (nx := 30) (a := 1) (b := 0) (k := 1) (n := 80) (t := 0) (v := 1000000) (μ' := mk (mU D 110 x1 1000000)) rfl (by decide) (mk_k110 _) rfl (mk_l110 _) (mu_110 _ _ _)) (ite_c ?_ rfl)
    refine Eq.trans (s_load (y := 183) (pc := 30) (nx := 31) (a := 3) (b := 0) (x := 106) rfl rfl) ?_
    exact s_call (y := 183) (pc := 31) (nx := 34) (a := 159) (b := 0) (as := [(3, 106)]) (r := []) rfl (Nat.le_of_ble_eq_true rfl) rfl rfl (Nat.le_of_ble_eq_true rfl) (Nat.le_of_ble_eq_true rfl) (Or.inr ⟨rfl, mk_k106 _⟩)
theorem e_183_34 (D : Mem) (x1 : Int) (s0 : Int) : qE 183 34 [(3, 106), (0, x1), (9, 0), (9, 0)] [(0, s0)] (mk D) = (if s0 < 0 then qE 183 95 [(3, 106), (0, x1), (0, s0), (9, 0)] [] (mk D) else (if 0 ≤ (w32 ((w32 (80 * s0)) + x1)) ∧ (w32 ((w32 (80 * s0)) + x1)) < 6400 then (if (D 113 (w32 ((w32 (80 * s0)) + x1))) ≤ 0 then ((qR 157 [(3, 106)] (mk D)).bind fun w => qE 183 59 [(3, 106), (0, x1), (0, s0), (0, (w32 ((w32 (80 * s0)) + x1)))] (psh w.1 []) w.2) else qE 183 65 [(3, 106), (0, x1), (0, s0), (0, (w32 ((w32 (80 * s0)) + x1)))] [] (mk D)) else none)) := by
  refine Eq.trans (s_store (y := 183) (pc := 34) (nx := 35) (a := 0) (b := 2) (ls' := [(3, 106), (0, x1), (0, s0), (9, 0)]) rfl (Nat.le_of_ble_eq_true rfl) rfl) ?_
  refine Eq.trans (s_load (y := 183) (pc := 35) (nx := 36) (a := 0) (b := 2) (x := s0) rfl rfl) ?_
  refine Eq.trans (s_iflt (y := 183) (pc := 36) (nx := 39) (b := 95) (tg := 95) rfl rfl) (ite_c ?_ ?_)
  · rfl
  · refine Eq.trans (s_push (y := 183) (pc := 39) (nx := 41) (a := 0) (b := 80) rfl) ?_
    refine Eq.trans (s_load (y := 183) (pc := 41) (nx := 42) (a := 0) (b := 2) (x := s0) rfl rfl) ?_
    refine Eq.trans (s_mul (y := 183) (pc := 42) (nx := 43) (b := 0) rfl) ?_
    refine Eq.trans (s_load (y := 183) (pc := 43) (nx := 44) (a := 0) (b := 1) (x := x1) rfl rfl) ?_
    refine Eq.trans (s_add (y := 183) (pc := 44) (nx := 45) (b := 0) rfl) ?_
    refine Eq.trans (s_store (y := 183) (pc := 45) (nx := 46) (a := 0) (b := 3) (ls' := [(3, 106), (0, x1), (0, s0), (0, (w32 ((w32 (80 * s0)) + x1)))]) rfl (Nat.le_of_ble_eq_true rfl) rfl) ?_
    refine Eq.trans (s_load (y := 183) (pc := 46) (nx := 47) (a := 3) (b := 0) (x := 106) rfl rfl) ?_
    refine Eq.trans (s_get (y := 183) (pc := 47) (nx := 50) (a := 10) (b := 7) (t := 3) (v := 113) rfl (mk_k106 _) rfl (mk_106_7 _)) ?_
    refine Eq.trans (s_load (y := 183) (pc := 50) (nx := 51) (a := 0) (b := 3) (x := (w32 ((w32 (80 * s0)) + x1))) rfl rfl) ?_
    refine Eq.trans (s_ald (y := 183) (pc := 51) (nx := 52) (a := 1) (b := 0) (k := 1) (n := 6400) (t := 0) (v := (D 113 (w32 ((w32 (80 * s0)) + x1)))) rfl (mk_k113 _) rfl rfl (mk_l113 _) (mk_c113 _ _)) (ite_c ?_ rfl)
    refine Eq.trans (s_ifgt (y := 183) (pc := 52) (nx := 55) (b := 65) (tg := 65) rfl rfl) (ite_c ?_ ?_)
    · refine Eq.trans (s_load (y := 183) (pc := 55) (nx := 56) (a := 3) (b := 0) (x := 106) rfl rfl) ?_
      exact s_call (y := 183) (pc := 56) (nx := 59) (a := 157) (b := 0) (as := [(3, 106)]) (r := []) rfl (Nat.le_of_ble_eq_true rfl) rfl rfl (Nat.le_of_ble_eq_true rfl) (Nat.le_of_ble_eq_true rfl) (Or.inr ⟨rfl, mk_k106 _⟩)
    · rfl
theorem e_183_59 (D : Mem) (x1 : Int) (x2 : Int) (x3 : Int) (s0 : Int) : qE 183 59 [(3, 106), (0, x1), (0, x2), (0, x3)] [(0, s0)] (mk D) = (if s0 < 150 then qE 183 65 [(3, 106), (0, x1), (0, x2), (0, x3)] [] (mk D) else qE 183 95 [(3, 106), (0, x1), (0, x2), (0, x3)] [] (mk D)) := by
  refine Eq.trans (s_push (y := 183) (pc := 59) (nx := 62) (a := 0) (b := 150) rfl) ?_
  refine Eq.trans (s_icge (y := 183) (pc := 62) (nx := 65) (b := 95) (tg := 95) rfl rfl) (ite_c ?_ ?_)
  · rfl
  · rfl
theorem e_183_65 (D : Mem) (x1 : Int) (x2 : Int) (x3 : Int) : qE 183 65 [(3, 106), (0, x1), (0, x2), (0, x3)] [] (mk D) = (if 0 ≤ x3 ∧ x3 < 6400 then (if (D 113 x3) < 1000000 then (if 0 ≤ x3 ∧ x3 < 6400 then (if 0 ≤ x3 ∧ x3 < 6400 then qE 183 95 [(3, 106), (0, x1), (0, x2), (0, x3)] [] (mk (mU D 113 x3 (w32 ((D 113 x3) + 1)))) else none) else none) else (if 0 ≤ x3 ∧ x3 < 6400 then qE 183 95 [(3, 106), (0, x1), (0, x2), (0, x3)] [] (mk (mU D 113 x3 1000000)) else none)) else none) := by
  refine Eq.trans (s_load (y := 183) (pc := 65) (nx := 66) (a := 3) (b := 0) (x := 106) rfl rfl) ?_
  refine Eq.trans (s_get (y := 183) (pc := 66) (nx := 69) (a := 10) (b := 7) (t := 3) (v := 113) rfl (mk_k106 _) rfl (mk_106_7 _)) ?_
  refine Eq.trans (s_load (y := 183) (pc := 69) (nx := 70) (a := 0) (b := 3) (x := x3) rfl rfl) ?_
  refine Eq.trans (s_load (y := 183) (pc := 70) (nx := 71) (a := 3) (b := 0) (x := 106) rfl rfl) ?_
  refine Eq.trans (s_get (y := 183) (pc := 71) (nx := 74) (a := 10) (b := 7) (t := 3) (v := 113) rfl (mk_k106 _) rfl (mk_106_7 _)) ?_
  refine Eq.trans (s_load (y := 183) (pc := 74) (nx := 75) (a := 0) (b := 3) (x := x3) rfl rfl) ?_
  refine Eq.trans (s_ald (y := 183) (pc := 75) (nx := 76) (a := 1) (b := 0) (k := 1) (n := 6400) (t := 0) (v := (D 113 x3)) rfl (mk_k113 _) rfl rfl (mk_l113 _) (mk_c113 _ _)) (ite_c ?_ rfl)
  refine Eq.trans (s_push (y := 183) (pc := 76) (nx := 78) (a := 0) (b := 1000000) rfl) ?_
  refine Eq.trans (s_icge (y := 183) (pc := 78) (nx := 81) (b := 92) (tg := 92) rfl rfl) (ite_c ?_ ?_)
  · refine Eq.trans (s_load (y := 183) (pc := 81) (nx := 82) (a := 3) (b := 0) (x := 106) rfl rfl) ?_
    refine Eq.trans (s_get (y := 183) (pc := 82) (nx := 85) (a := 10) (b := 7) (t := 3) (v := 113) rfl (mk_k106 _) rfl (mk_106_7 _)) ?_
    refine Eq.trans (s_load (y := 183) (pc := 85) (nx := 86) (a := 0) (b := 3) (x := x3) rfl rfl) ?_
    refine Eq.trans (s_ald (y := 183) (pc := 86) (nx := 87) (a := 1) (b := 0) (k := 1) (n := 6400) (t := 0) (v := (D 113 x3)) rfl (mk_k113 _) rfl rfl (mk_l113 _) (mk_c113 _ _)) (ite_c ?_ rfl)
    refine Eq.trans (s_push (y := 183) (pc := 87) (nx := 88) (a := 0) (b := 1) rfl) ?_
    refine Eq.trans (s_add (y := 183) (pc := 88) (nx := 89) (b := 0) rfl) ?_
    refine Eq.trans (s_goto (y := 183) (pc := 89) (nx := 92) (a := 0) (b := 94) (tg := 94) rfl rfl) ?_
    refine Eq.trans (s_ast (y := 183) (pc := 94) (nx := 95) (a := 1) (b := 0) (k := 1) (n := 6400) (t := 0) (v := (w32 ((D 113 x3) + 1))) (μ' := mk (mU D 113 x3 (w32 ((D 113 x3) + 1)))) rfl (by decide) (mk_k113 _) rfl (mk_l113 _) (mu_113 _ _ _)) (ite_c ?_ rfl)
    rfl
  · refine Eq.trans (s_push (y := 183) (pc := 92) (nx := 94) (a := 0) (b := 1000000) rfl) ?_
    refine Eq.trans (s_ast (y := 183) (pc := 94) (nx := 95) (a := 1) (b := 0) (k := 1) (n := 6400) (t := 0) (v := 1000000) (μ' := mk (mU D 113 x3 1000000)) rfl (by decide) (mk_k113 _) rfl (mk_l113 _) (mu_113 _ _ _)) (ite_c ?_ rfl)
    rfl
theorem e_183_95 (D : Mem) (x1 : Int) (x2 : Int) (v3 : PV) : qE 183 95 [(3, 106), (0, x1), (0, x2), v3] [] (mk D) = (if 0 ≤ x1 ∧ x1 < 80 then (if 0 ≤ ((mU (mU D 106 8 (w32 ((D 106 8) + 1))) 111 x1 ((mU D 106 8 (w32 ((D 106 8) + 1))) 106 8)) 106 16) ∧ ((mU (mU D 106 8 (w32 ((D 106 8) + 1))) 111 x1 ((mU D 106 8 (w32 ((D 106 8) + 1))) 106 8)) 106 16) < 60 then some ((9, 0), (mk (mU (mU (mU (mU D 106 8 (w32 ((D 106 8) + 1))) 111 x1 ((mU D 106 8 (w32 ((D 106 8) + 1))) 106 8)) 117 ((mU (mU D 106 8 (w32 ((D 106 8) + 1))) 111 x1 ((mU D 106 8 (w32 ((D 106 8) + 1))) 106 8)) 106 16) x1) 106 16 (w32 (((mU (mU (mU D 106 8 (w32 ((D 106 8) + 1))) 111 x1 ((mU D 106 8 (w32 ((D 106 8) + 1))) 106 8)) 117 ((mU (mU D 106 8 (w32 ((D 106 8) + 1))) 111 x1 ((mU D 106 8 (w32 ((D 106 8) + 1))) 106 8)) 106 16) x1) 106 16) + 1))))) else none) else none) := by
  refine Eq.trans (s_load (y := 183) (pc := 95) (nx := 96) (a := 3) (b := 0) (x := 106) rfl rfl) ?_
  refine Eq.trans (s_dup (y := 183) (pc := 96) (nx := 97) (a := 0) (b := 0) rfl (by decide)) ?_
  refine Eq.trans (s_get (y := 183) (pc := 97) (nx := 100) (a := 10) (b := 8) (t := 0) (v := (D 106 8)) rfl (mk_k106 _) rfl (mk_106_8 _)) ?_
  refine Eq.trans (s_push (y := 183) (pc := 100) (nx := 101) (a := 0) (b := 1) rfl) ?_
  refine Eq.trans (s_add (y := 183) (pc := 101) (nx := 102) (b := 0) rfl) ?_
  refine Eq.trans (s_put (y := 183) (pc := 102) (nx := 105) (a := 10) (b := 8) (t := 0) (v := (w32 ((D 106 8) + 1))) (μ' := mk (mU D 106 8 (w32 ((D 106 8) + 1)))) rfl (mk_k106 _) rfl (mu_106_8 _ _)) ?_
  refine Eq.trans (s_load (y := 183) (pc := 105) (nx := 106) (a := 3) (b := 0) (x := 106) rfl rfl) ?_
  refine Eq.trans (s_get (y := 183) (pc := 106) (nx := 109) (a := 10) (b := 4) (t := 3) (v := 111) rfl (mk_k106 _) rfl (mk_106_4 _)) ?_
  refine Eq.trans (s_load (y := 183) (pc := 109) (nx := 110) (a := 0) (b := 1) (x := x1) rfl rfl) ?_
  refine Eq.trans (s_load (y := 183) (pc := 110) (nx := 111) (a := 3) (b := 0) (x := 106) rfl rfl) ?_
  refine Eq.trans (s_get (y := 183) (pc := 111) (nx := 114) (a := 10) (b := 8) (t := 0) (v := ((mU D 106 8 (w32 ((D 106 8) + 1))) 106 8)) rfl (mk_k106 _) rfl (mk_106_8 _)) ?_
  refine Eq.trans (s_ast (y := 183) (pc := 114) (nx := 115) (a := 1) (b := 0) (k := 1) (n := 80) (t := 0) (v := ((mU D 106 8 (w32 ((D 106 8) + 1))) 106 8)) (μ' := mk (mU (mU D 106 8 (w32 ((D 106 8) + 1))) 111 x1 ((mU D 106 8 (w32 ((D 106 8) + 1))) 106 8))) rfl (by decide) (mk_k111 _) rfl (mk_l111 _) (mu_111 _ _ _)) (ite_c ?_ rfl)
  refine Eq.trans (s_load (y := 183) (pc := 115) (nx := 116) (a := 3) (b := 0) (x := 106) rfl rfl) ?_
  refine Eq.trans (s_get (y := 183) (pc := 116) (nx := 119) (a := 10) (b := 15) (t := 3) (v := 117) rfl (mk_k106 _) rfl (mk_106_15 _)) ?_
  refine Eq.trans (s_load (y := 183) (pc := 119) (nx := 120) (a := 3) (b := 0) (x := 106) rfl rfl) ?_
  refine Eq.trans (s_get (y := 183) (pc := 120) (nx := 123) (a := 10) (b := 16) (t := 0) (v := ((mU (mU D 106 8 (w32 ((D 106 8) + 1))) 111 x1 ((mU D 106 8 (w32 ((D 106 8) + 1))) 106 8)) 106 16)) rfl (mk_k106 _) rfl (mk_106_16 _)) ?_
  refine Eq.trans (s_load (y := 183) (pc := 123) (nx := 124) (a := 0) (b := 1) (x := x1) rfl rfl) ?_
  refine Eq.trans (s_ast (y := 183) (pc := 124) (nx := 125) (a := 1) (b := 0) (k := 1) (n := 60) (t := 0) (v := x1) (μ' := mk (mU (mU (mU D 106 8 (w32 ((D 106 8) + 1))) 111 x1 ((mU D 106 8 (w32 ((D 106 8) + 1))) 106 8)) 117 ((mU (mU D 106 8 (w32 ((D 106 8) + 1))) 111 x1 ((mU D 106 8 (w32 ((D 106 8) + 1))) 106 8)) 106 16) x1)) rfl (by decide) (mk_k117 _) rfl (mk_l117 _) (mu_117 _ _ _)) (ite_c ?_ rfl)
  refine Eq.trans (s_load (y := 183) (pc := 125) (nx := 126) (a := 3) (b := 0) (x := 106) rfl rfl) ?_
  refine Eq.trans (s_dup (y := 183) (pc := 126) (nx := 127) (a := 0) (b := 0) rfl (by decide)) ?_
  refine Eq.trans (s_get (y := 183) (pc := 127) (nx := 130) (a := 10) (b := 16) (t := 0) (v := ((mU (mU (mU D 106 8 (w32 ((D 106 8) + 1))) 111 x1 ((mU D 106 8 (w32 ((D 106 8) + 1))) 106 8)) 117 ((mU (mU D 106 8 (w32 ((D 106 8) + 1))) 111 x1 ((mU D 106 8 (w32 ((D 106 8) + 1))) 106 8)) 106 16) x1) 106 16)) rfl (mk_k106 _) rfl (mk_106_16 _)) ?_
  refine Eq.trans (s_push (y := 183) (pc := 130) (nx := 131) (a := 0) (b := 1) rfl) ?_
  refine Eq.trans (s_add (y := 183) (pc := 131) (nx := 132) (b := 0) rfl) ?_
  refine Eq.trans (s_put (y := 183) (pc := 132) (nx := 135) (a := 10) (b := 16) (t := 0) (v := (w32 (((mU (mU (mU D 106 8 (w32 ((D 106 8) + 1))) 111 x1 ((mU D 106 8 (w32 ((D 106 8) + 1))) 106 8)) 117 ((mU (mU D 106 8 (w32 ((D 106 8) + 1))) 111 x1 ((mU D 106 8 (w32 ((D 106 8) + 1))) 106 8)) 106 16) x1) 106 16) + 1))) (μ' := mk (mU (mU (mU (mU D 106 8 (w32 ((D 106 8) + 1))) 111 x1 ((mU D 106 8 (w32 ((D 106 8) + 1))) 106 8)) 117 ((mU (mU D 106 8 (w32 ((D 106 8) + 1))) 111 x1 ((mU D 106 8 (w32 ((D 106 8) + 1))) 106 8)) 106 16) x1) 106 16 (w32 (((mU (mU (mU D 106 8 (w32 ((D 106 8) + 1))) 111 x1 ((mU D 106 8 (w32 ((D 106 8) + 1))) 106 8)) 117 ((mU (mU D 106 8 (w32 ((D 106 8) + 1))) 111 x1 ((mU D 106 8 (w32 ((D 106 8) + 1))) 106 8)) 106 16) x1) 106 16) + 1)))) rfl (mk_k106 _) rfl (mu_106_16 _ _)) ?_
  exact s_retv (y := 183) (pc := 135) (nx := 136) (b := 0) rfl
theorem r_184 (D : Mem) (x1 : Int) (x2 : Int) (x3 : Int) : qR 184 [(3, 106), (0, x1), (0, x2), (0, x3)] (mk D) = ((qR 180 [(3, 106), (0, x1), (0, x2)] (mk D)).bind fun w => qE 184 6 [(3, 106), (0, x1), (0, x2), (0, x3), (9, 0), (9, 0)] (psh w.1 []) w.2) := by
  show qE 184 0 [(3, 106), (0, x1), (0, x2), (0, x3), (9, 0), (9, 0)] [] (mk D) = _
  refine Eq.trans (s_load (y := 184) (pc := 0) (nx := 1) (a := 3) (b := 0) (x := 106) rfl rfl) ?_
  refine Eq.trans (s_load (y := 184) (pc := 1) (nx := 2) (a := 0) (b := 1) (x := x1) rfl rfl) ?_
  refine Eq.trans (s_load (y := 184) (pc := 2) (nx := 3) (a := 0) (b := 2) (x := x2) rfl rfl) ?_
  exact s_call (y := 184) (pc := 3) (nx := 6) (a := 180) (b := 0) (as := [(3, 106), (0, x1), (0, x2)]) (r := []) rfl (Nat.le_of_ble_eq_true rfl) rfl rfl (Nat.le_of_ble_eq_true rfl) (Nat.le_of_ble_eq_true rfl) (Or.inr ⟨rfl, mk_k106 _⟩)
theorem e_184_6 (D : Mem) (x1 : Int) (x2 : Int) (x3 : Int) (s0 : Int) : qE 184 6 [(3, 106), (0, x1), (0, x2), (0, x3), (9, 0), (9, 0)] [(0, s0)] (mk D) = (if s0 < 0 then some ((0, s0), (mk D)) else (if x3 < 0 then some ((0, (-6)), (mk D)) else (if x3 < s0 then (if (D 106 16) = 60 then some ((0, (-2)), (mk D)) else (if 0 ≤ x3 ∧ x3 < 80 then ((qR 183 [(3, 106), (0, (D 125 x3))] (mk D)).bind fun w => qE 184 55 [(3, 106), (0, x1), (0, x2), (0, x3), (0, s0), (0, (D 125 x3))] (psh w.1 []) w.2) else none)) else some ((0, (-6)), (mk D))))) := by
  refine Eq.trans (s_store (y := 184) (pc := 6) (nx := 8) (a := 0) (b := 4) (ls' := [(3, 106), (0, x1), (0, x2), (0, x3), (0, s0), (9, 0)]) rfl (Nat.le_of_ble_eq_true rfl) rfl) ?_
  refine Eq.trans (s_load (y := 184) (pc := 8) (nx := 10) (a := 0) (b := 4) (x := s0) rfl rfl) ?_
  refine Eq.trans (s_ifge (y := 184) (pc := 10) (nx := 13) (b := 16) (tg := 16) rfl rfl) (ite_c ?_ ?_)
  · refine Eq.trans (s_load (y := 184) (pc := 13) (nx := 15) (a := 0) (b := 4) (x := s0) rfl rfl) ?_
    exact s_ret (y := 184) (pc := 15) (nx := 16) (a := 0) rfl (by decide)
  · refine Eq.trans (s_load (y := 184) (pc := 16) (nx := 17) (a := 0) (b := 3) (x := x3) rfl rfl) ?_
    refine Eq.trans (s_iflt (y := 184) (pc := 17) (nx := 20) (b := 26) (tg := 26) rfl rfl) (ite_c ?_ ?_)
    · refine Eq.trans (s_push (y := 184) (pc := 26) (nx := 28) (a := 0) (b := (-6)) rfl) ?_
      exact s_ret (y := 184) (pc := 28) (nx := 29) (a := 0) rfl (by decide)
    · refine Eq.trans (s_load (y := 184) (pc := 20) (nx := 21) (a := 0) (b := 3) (x := x3) rfl rfl) ?_
      refine Eq.trans (s_load (y := 184) (pc := 21) (nx := 23) (a := 0) (b := 4) (x := s0) rfl rfl) ?_
      refine Eq.trans (s_iclt (y := 184) (pc := 23) (nx := 26) (b := 29) (tg := 29) rfl rfl) (ite_c ?_ ?_)
      · refine Eq.trans (s_load (y := 184) (pc := 29) (nx := 30) (a := 3) (b := 0) (x := 106) rfl rfl) ?_
        refine Eq.trans (s_get (y := 184) (pc := 30) (nx := 33) (a := 10) (b := 16) (t := 0) (v := (D 106 16)) rfl (mk_k106 _) rfl (mk_106_16 _)) ?_
        refine Eq.trans (s_push (y := 184) (pc := 33) (nx := 35) (a := 0) (b := 60) rfl) ?_
        refine Eq.trans (s_icne (y := 184) (pc := 35) (nx := 38) (b := 41) (tg := 41) rfl rfl) (ite_c ?_ ?_)
        · refine Eq.trans (s_push (y := 184) (pc := 38) (nx := 40) (a := 0) (b := (-2)) rfl) ?_
          exact s_ret (y := 184) (pc := 40) (nx := 41) (a := 0) rfl (by decide)
        · refine Eq.trans (s_load (y := 184) (pc := 41) (nx := 42) (a := 3) (b := 0) (x := 106) rfl rfl) ?_
          refine Eq.trans (s_get (y := 184) (pc := 42) (nx := 45) (a := 10) (b := 28) (t := 3) (v := 125) rfl (mk_k106 _) rfl (mk_106_28 _)) ?_
          refine Eq.trans (s_load (y := 184) (pc := 45) (nx := 46) (a := 0) (b := 3) (x := x3) rfl rfl) ?_
          refine Eq.trans (s_ald (y := 184) (pc := 46) (nx := 47) (a := 1) (b := 0) (k := 1) (n := 80) (t := 0) (v := (D 125 x3)) rfl (mk_k125 _) rfl rfl (mk_l125 _) (mk_c125 _ _)) (ite_c ?_ rfl)
          refine Eq.trans (s_store (y := 184) (pc := 47) (nx := 49) (a := 0) (b := 5) (ls' := [(3, 106), (0, x1), (0, x2), (0, x3), (0, s0), (0, (D 125 x3))]) rfl (Nat.le_of_ble_eq_true rfl) rfl) ?_
          refine Eq.trans (s_load (y := 184) (pc := 49) (nx := 50) (a := 3) (b := 0) (x := 106) rfl rfl) ?_
          refine Eq.trans (s_load (y := 184) (pc := 50) (nx := 52) (a := 0) (b := 5) (x := (D 125 x3)) rfl rfl) ?_
          exact s_call (y := 184) (pc := 52) (nx := 55) (a := 183) (b := 0) (as := [(3, 106), (0, (D 125 x3))]) (r := []) rfl (Nat.le_of_ble_eq_true rfl) rfl rfl (Nat.le_of_ble_eq_true rfl) (Nat.le_of_ble_eq_true rfl) (Or.inr ⟨rfl, mk_k106 _⟩)
      · refine Eq.trans (s_push (y := 184) (pc := 26) (nx := 28) (a := 0) (b := (-6)) rfl) ?_
        exact s_ret (y := 184) (pc := 28) (nx := 29) (a := 0) rfl (by decide)
theorem e_184_55 (D : Mem) (x1 : Int) (x2 : Int) (x3 : Int) (x4 : Int) (x5 : Int) : qE 184 55 [(3, 106), (0, x1), (0, x2), (0, x3), (0, x4), (0, x5)] [] (mk D) = some ((0, x5), (mk (mU D 106 14 0))) := by
  refine Eq.trans (s_load (y := 184) (pc := 55) (nx := 56) (a := 3) (b := 0) (x := 106) rfl rfl) ?_
  refine Eq.trans (s_push (y := 184) (pc := 56) (nx := 57) (a := 0) (b := 0) rfl) ?_
  refine Eq.trans (s_put (y := 184) (pc := 57) (nx := 60) (a := 10) (b := 14) (t := 0) (v := 0) (μ' := mk (mU D 106 14 0)) rfl (mk_k106 _) rfl (mu_106_14 _ _)) ?_
  refine Eq.trans (s_load (y := 184) (pc := 60) (nx := 62) (a := 0) (b := 5) (x := x5) rfl rfl) ?_
  exact s_ret (y := 184) (pc := 62) (nx := 63) (a := 0) rfl (by decide)
theorem r_185 (D : Mem) : qR 185 [(3, 106)] (mk D) = qE 185 4 [(3, 106), (0, (-1)), (0, 0), (9, 0), (9, 0)] [] (mk D) := by
  show qE 185 0 [(3, 106), (9, 0), (9, 0), (9, 0), (9, 0)] [] (mk D) = _
  refine Eq.trans (s_push (y := 185) (pc := 0) (nx := 1) (a := 0) (b := (-1)) rfl) ?_
  refine Eq.trans (s_store (y := 185) (pc := 1) (nx := 2) (a := 0) (b := 1) (ls' := [(3, 106), (0, (-1)), (9, 0), (9, 0), (9, 0)]) rfl (Nat.le_of_ble_eq_true rfl) rfl) ?_
  refine Eq.trans (s_push (y := 185) (pc := 2) (nx := 3) (a := 0) (b := 0) rfl) ?_
  refine Eq.trans (s_store (y := 185) (pc := 3) (nx := 4) (a := 0) (b := 2) (ls' := [(3, 106), (0, (-1)), (0, 0), (9, 0), (9, 0)]) rfl (Nat.le_of_ble_eq_true rfl) rfl) ?_
  rfl
theorem e_185_4 (D : Mem) (x1 : Int) (x2 : Int) (v3 : PV) (v4 : PV) : qE 185 4 [(3, 106), (0, x1), (0, x2), v3, v4] [] (mk D) = (if x2 < (D 106 21) then (if 0 ≤ x2 ∧ x2 < 8 then (if (D 119 x2) = (D 106 12) then qE 185 34 [(3, 106), (0, x1), (0, x2), (0, 1), (0, 0)] [] (mk D) else qE 185 34 [(3, 106), (0, x1), (0, x2), (0, 0), (0, 0)] [] (mk D)) else none) else some ((0, x1), (mk D))) := by
  refine Eq.trans (s_load (y := 185) (pc := 4) (nx := 5) (a := 0) (b := 2) (x := x2) rfl rfl) ?_
  refine Eq.trans (s_load (y := 185) (pc := 5) (nx := 6) (a := 3) (b := 0) (x := 106) rfl rfl) ?_
  refine Eq.trans (s_get (y := 185) (pc := 6) (nx := 9) (a := 10) (b := 21) (t := 0) (v := (D 106 21)) rfl (mk_k106 _) rfl (mk_106_21 _)) ?_
  refine Eq.trans (s_icge (y := 185) (pc := 9) (nx := 12) (b := 97) (tg := 97) rfl rfl) (ite_c ?_ ?_)
  · refine Eq.trans (s_load (y := 185) (pc := 12) (nx := 13) (a := 3) (b := 0) (x := 106) rfl rfl) ?_
    refine Eq.trans (s_get (y := 185) (pc := 13) (nx := 16) (a := 10) (b := 18) (t := 3) (v := 119) rfl (mk_k106 _) rfl (mk_106_18 _)) ?_
    refine Eq.trans (s_load (y := 185) (pc := 16) (nx := 17) (a := 0) (b := 2) (x := x2) rfl rfl) ?_
    refine Eq.trans (s_ald (y := 185) (pc := 17) (nx := 18) (a := 1) (b := 0) (k := 1) (n := 8) (t := 0) (v := (D 119 x2)) rfl (mk_k119 _) rfl rfl (mk_l119 _) (mk_c119 _ _)) (ite_c ?_ rfl)
    refine Eq.trans (s_load (y := 185) (pc := 18) (nx := 19) (a := 3) (b := 0) (x := 106) rfl rfl) ?_
    refine Eq.trans (s_get (y := 185) (pc := 19) (nx := 22) (a := 10) (b := 12) (t := 0) (v := (D 106 12)) rfl (mk_k106 _) rfl (mk_106_12 _)) ?_
    refine Eq.trans (s_icne (y := 185) (pc := 22) (nx := 25) (b := 29) (tg := 29) rfl rfl) (ite_c ?_ ?_)
    · refine Eq.trans (s_push (y := 185) (pc := 25) (nx := 26) (a := 0) (b := 1) rfl) ?_
      refine Eq.trans (s_goto (y := 185) (pc := 26) (nx := 29) (a := 0) (b := 30) (tg := 30) rfl rfl) ?_
      refine Eq.trans (s_store (y := 185) (pc := 30) (nx := 31) (a := 0) (b := 3) (ls' := [(3, 106), (0, x1), (0, x2), (0, 1), v4]) rfl (Nat.le_of_ble_eq_true rfl) rfl) ?_
      refine Eq.trans (s_push (y := 185) (pc := 31) (nx := 32) (a := 0) (b := 0) rfl) ?_
      refine Eq.trans (s_store (y := 185) (pc := 32) (nx := 34) (a := 0) (b := 4) (ls' := [(3, 106), (0, x1), (0, x2), (0, 1), (0, 0)]) rfl (Nat.le_of_ble_eq_true rfl) rfl) ?_
      rfl
    · refine Eq.trans (s_push (y := 185) (pc := 29) (nx := 30) (a := 0) (b := 0) rfl) ?_
      refine Eq.trans (s_store (y := 185) (pc := 30) (nx := 31) (a := 0) (b := 3) (ls' := [(3, 106), (0, x1), (0, x2), (0, 0), v4]) rfl (Nat.le_of_ble_eq_true rfl) rfl) ?_
      refine Eq.trans (s_push (y := 185) (pc := 31) (nx := 32) (a := 0) (b := 0) rfl) ?_
      refine Eq.trans (s_store (y := 185) (pc := 32) (nx := 34) (a := 0) (b := 4) (ls' := [(3, 106), (0, x1), (0, x2), (0, 0), (0, 0)]) rfl (Nat.le_of_ble_eq_true rfl) rfl) ?_
      rfl
  · refine Eq.trans (s_load (y := 185) (pc := 97) (nx := 98) (a := 0) (b := 1) (x := x1) rfl rfl) ?_
    exact s_ret (y := 185) (pc := 98) (nx := 99) (a := 0) rfl (by decide)
theorem e_185_34 (D : Mem) (x1 : Int) (x2 : Int) (x3 : Int) (x4 : Int) : qE 185 34 [(3, 106), (0, x1), (0, x2), (0, x3), (0, x4)] [] (mk D) = (if x4 < (D 106 12) then (if x3 = 0 then qE 185 81 [(3, 106), (0, x1), (0, x2), (0, x3), (0, x4)] [] (mk D) else (if 0 ≤ (w32 ((w32 (10 * x2)) + x4)) ∧ (w32 ((w32 (10 * x2)) + x4)) < 80 then (if 0 ≤ x4 ∧ x4 < 10 then (if (D 118 (w32 ((w32 (10 * x2)) + x4))) = (D 115 x4) then qE 185 34 [(3, 106), (0, x1), (0, x2), (0, 1), (0, (w32 (x4 + 1)))] [] (mk D) else qE 185 34 [(3, 106), (0, x1), (0, x2), (0, 0), (0, (w32 (x4 + 1)))] [] (mk D)) else none) else none)) else qE 185 81 [(3, 106), (0, x1), (0, x2), (0, x3), (0, x4)] [] (mk D)) := by
  refine Eq.trans (s_load (y := 185) (pc := 34) (nx := 36) (a := 0) (b := 4) (x := x4) rfl rfl) ?_
  refine Eq.trans (s_load (y := 185) (pc := 36) (nx := 37) (a := 3) (b := 0) (x := 106) rfl rfl) ?_
  refine Eq.trans (s_get (y := 185) (pc := 37) (nx := 40) (a := 10) (b := 12) (t := 0) (v := (D 106 12)) rfl (mk_k106 _) rfl (mk_106_12 _)) ?_
  refine Eq.trans (s_icge (y := 185) (pc := 40) (nx := 43) (b := 81) (tg := 81) rfl rfl) (ite_c ?_ ?_)
  · refine Eq.trans (s_load (y := 185) (pc := 43) (nx := 44) (a := 0) (b := 3) (x := x3) rfl rfl) ?_
    refine Eq.trans (s_ifeq (y := 185) (pc := 44) (nx := 47) (b := 81) (tg := 81) rfl rfl) (ite_c ?_ ?_)
    · rfl
    · refine Eq.trans (s_load (y := 185) (pc := 47) (nx := 48) (a := 3) (b := 0) (x := 106) rfl rfl) ?_
      refine Eq.trans (s_get (y := 185) (pc := 48) (nx := 51) (a := 10) (b := 17) (t := 3) (v := 118) rfl (mk_k106 _) rfl (mk_106_17 _)) ?_
      refine Eq.trans (s_push (y := 185) (pc := 51) (nx := 53) (a := 0) (b := 10) rfl) ?_
      refine Eq.trans (s_load (y := 185) (pc := 53) (nx := 54) (a := 0) (b := 2) (x := x2) rfl rfl) ?_
      refine Eq.trans (s_mul (y := 185) (pc := 54) (nx := 55) (b := 0) rfl) ?_
      refine Eq.trans (s_load (y := 185) (pc := 55) (nx := 57) (a := 0) (b := 4) (x := x4) rfl rfl) ?_
      refine Eq.trans (s_add (y := 185) (pc := 57) (nx := 58) (b := 0) rfl) ?_
      refine Eq.trans (s_ald (y := 185) (pc := 58) (nx := 59) (a := 1) (b := 0) (k := 1) (n := 80) (t := 0) (v := (D 118 (w32 ((w32 (10 * x2)) + x4)))) rfl (mk_k118 _) rfl rfl (mk_l118 _) (mk_c118 _ _)) (ite_c ?_ rfl)
      refine Eq.trans (s_load (y := 185) (pc := 59) (nx := 60) (a := 3) (b := 0) (x := 106) rfl rfl) ?_
      refine Eq.trans (s_get (y := 185) (pc := 60) (nx := 63) (a := 10) (b := 11) (t := 3) (v := 115) rfl (mk_k106 _) rfl (mk_106_11 _)) ?_
      refine Eq.trans (s_load (y := 185) (pc := 63) (nx := 65) (a := 0) (b := 4) (x := x4) rfl rfl) ?_
      refine Eq.trans (s_ald (y := 185) (pc := 65) (nx := 66) (a := 1) (b := 0) (k := 1) (n := 10) (t := 0) (v := (D 115 x4)) rfl (mk_k115 _) rfl rfl (mk_l115 _) (mk_c115 _ _)) (ite_c ?_ rfl)
      refine Eq.trans (s_icne (y := 185) (pc := 66) (nx := 69) (b := 73) (tg := 73) rfl rfl) (ite_c ?_ ?_)
      · refine Eq.trans (s_push (y := 185) (pc := 69) (nx := 70) (a := 0) (b := 1) rfl) ?_
        refine Eq.trans (s_goto (y := 185) (pc := 70) (nx := 73) (a := 0) (b := 74) (tg := 74) rfl rfl) ?_
        refine Eq.trans (s_store (y := 185) (pc := 74) (nx := 75) (a := 0) (b := 3) (ls' := [(3, 106), (0, x1), (0, x2), (0, 1), (0, x4)]) rfl (Nat.le_of_ble_eq_true rfl) rfl) ?_
        refine Eq.trans (s_iinc (y := 185) (pc := 75) (nx := 78) (a := 4) (b := 1) (x := x4) (ls' := [(3, 106), (0, x1), (0, x2), (0, 1), (0, (w32 (x4 + 1)))]) rfl rfl rfl) ?_
        refine Eq.trans (s_goto (y := 185) (pc := 78) (nx := 81) (a := 0) (b := 34) (tg := 34) rfl rfl) ?_
        rfl
      · refine Eq.trans (s_push (y := 185) (pc := 73) (nx := 74) (a := 0) (b := 0) rfl) ?_
        refine Eq.trans (s_store (y := 185) (pc := 74) (nx := 75) (a := 0) (b := 3) (ls' := [(3, 106), (0, x1), (0, x2), (0, 0), (0, x4)]) rfl (Nat.le_of_ble_eq_true rfl) rfl) ?_
        refine Eq.trans (s_iinc (y := 185) (pc := 75) (nx := 78) (a := 4) (b := 1) (x := x4) (ls' := [(3, 106), (0, x1), (0, x2), (0, 0), (0, (w32 (x4 + 1)))]) rfl rfl rfl) ?_
        refine Eq.trans (s_goto (y := 185) (pc := 78) (nx := 81) (a := 0) (b := 34) (tg := 34) rfl rfl) ?_
        rfl
  · rfl
theorem e_185_81 (D : Mem) (x1 : Int) (x2 : Int) (x3 : Int) (x4 : Int) : qE 185 81 [(3, 106), (0, x1), (0, x2), (0, x3), (0, x4)] [] (mk D) = (if x3 = 0 then qE 185 4 [(3, 106), (0, x1), (0, (w32 (x2 + 1))), (0, x3), (0, x4)] [] (mk D) else qE 185 4 [(3, 106), (0, x2), (0, (w32 (x2 + 1))), (0, x3), (0, x4)] [] (mk D)) := by
  refine Eq.trans (s_load (y := 185) (pc := 81) (nx := 82) (a := 0) (b := 3) (x := x3) rfl rfl) ?_
  refine Eq.trans (s_ifeq (y := 185) (pc := 82) (nx := 85) (b := 89) (tg := 89) rfl rfl) (ite_c ?_ ?_)
  · refine Eq.trans (s_load (y := 185) (pc := 89) (nx := 90) (a := 0) (b := 1) (x := x1) rfl rfl) ?_
    refine Eq.trans (s_store (y := 185) (pc := 90) (nx := 91) (a := 0) (b := 1) (ls' := [(3, 106), (0, x1), (0, x2), (0, x3), (0, x4)]) rfl (Nat.le_of_ble_eq_true rfl) rfl) ?_
    refine Eq.trans (s_iinc (y := 185) (pc := 91) (nx := 94) (a := 2) (b := 1) (x := x2) (ls' := [(3, 106), (0, x1), (0, (w32 (x2 + 1))), (0, x3), (0, x4)]) rfl rfl rfl) ?_
    refine Eq.trans (s_goto (y := 185) (pc := 94) (nx := 97) (a := 0) (b := 4) (tg := 4) rfl rfl) ?_
    rfl
  · refine Eq.trans (s_load (y := 185) (pc := 85) (nx := 86) (a := 0) (b := 2) (x := x2) rfl rfl) ?_
    refine Eq.trans (s_goto (y := 185) (pc := 86) (nx := 89) (a := 0) (b := 90) (tg := 90) rfl rfl) ?_
    refine Eq.trans (s_store (y := 185) (pc := 90) (nx := 91) (a := 0) (b := 1) (ls' := [(3, 106), (0, x2), (0, x2), (0, x3), (0, x4)]) rfl (Nat.le_of_ble_eq_true rfl) rfl) ?_
    refine Eq.trans (s_iinc (y := 185) (pc := 91) (nx := 94) (a := 2) (b := 1) (x := x2) (ls' := [(3, 106), (0, x2), (0, (w32 (x2 + 1))), (0, x3), (0, x4)]) rfl rfl rfl) ?_
    refine Eq.trans (s_goto (y := 185) (pc := 94) (nx := 97) (a := 0) (b := 4) (tg := 4) rfl rfl) ?_
    rfl
theorem r_186 (D : Mem) (x1 : Int) (x2 : Int) : qR 186 [(3, 106), (0, x1), (0, x2)] (mk D) = qE 186 2 [(3, 106), (0, x1), (0, x2), (0, 0)] [] (mk D) := by
  show qE 186 0 [(3, 106), (0, x1), (0, x2), (9, 0)] [] (mk D) = _
  refine Eq.trans (s_push (y := 186) (pc := 0) (nx := 1) (a := 0) (b := 0) rfl) ?_
  refine Eq.trans (s_store (y := 186) (pc := 1) (nx := 2) (a := 0) (b := 3) (ls' := [(3, 106), (0, x1), (0, x2), (0, 0)]) rfl (Nat.le_of_ble_eq_true rfl) rfl) ?_
  rfl
theorem e_186_2 (D : Mem) (x1 : Int) (x2 : Int) (x3 : Int) : qE 186 2 [(3, 106), (0, x1), (0, x2), (0, x3)] [] (mk D) = (if x3 < 10 then (if 0 ≤ (w32 ((w32 (10 * x2)) + x3)) ∧ (w32 ((w32 (10 * x2)) + x3)) < 80 then (if 0 ≤ (w32 ((w32 (10 * x1)) + x3)) ∧ (w32 ((w32 (10 * x1)) + x3)) < 80 then qE 186 2 [(3, 106), (0, x1), (0, x2), (0, (w32 (x3 + 1)))] [] (mk (mU D 118 (w32 ((w32 (10 * x1)) + x3)) (D 118 (w32 ((w32 (10 * x2)) + x3))))) else none) else none) else (if 0 ≤ x2 ∧ x2 < 8 then (if 0 ≤ x1 ∧ x1 < 8 then (if 0 ≤ x2 ∧ x2 < 8 then (if 0 ≤ x1 ∧ x1 < 8 then (if 0 ≤ x2 ∧ x2 < 8 then (if 0 ≤ x1 ∧ x1 < 8 then some ((9, 0), (mk (mU (mU (mU D 119 x1 (D 119 x2)) 120 x1 ((mU D 119 x1 (D 119 x2)) 120 x2)) 121 x1 ((mU (mU D 119 x1 (D 119 x2)) 120 x1 ((mU D 119 x1 (D 119 x2)) 120 x2)) 121 x2)))) else none) else none) else none) else none) else none) else none)) := by
  refine Eq.trans (s_load (y := 186) (pc := 2) (nx := 3) (a := 0) (b := 3) (x := x3) rfl rfl) ?_
  refine Eq.trans (s_push (y := 186) (pc := 3) (nx := 5) (a := 0) (b := 10) rfl) ?_
  refine Eq.trans (s_icge (y := 186) (pc := 5) (nx := 8) (b := 36) (tg := 36) rfl rfl) (ite_c ?_ ?_)
  · refine Eq.trans (s_load (y := 186) (pc := 8) (nx := 9) (a := 3) (b := 0) (x := 106) rfl rfl) ?_
    refine Eq.trans (s_get (y := 186) (pc := 9) (nx := 12) (a := 10) (b := 17) (t := 3) (v := 118) rfl (mk_k106 _) rfl (mk_106_17 _)) ?_
    refine Eq.trans (s_push (y := 186) (pc := 12) (nx := 14) (a := 0) (b := 10) rfl) ?_
    refine Eq.trans (s_load (y := 186) (pc := 14) (nx := 15) (a := 0) (b := 1) (x := x1) rfl rfl) ?_
    refine Eq.trans (s_mul (y := 186) (pc := 15) (nx := 16) (b := 0) rfl) ?_
    refine Eq.trans (s_load (y := 186) (pc := 16) (nx := 17) (a := 0) (b := 3) (x := x3) rfl rfl) ?_
    refine Eq.trans (s_add (y := 186) (pc := 17) (nx := 18) (b := 0) rfl) ?_
    refine Eq.trans (s_load (y := 186) (pc := 18) (nx := 19) (a := 3) (b := 0) (x := 106) rfl rfl) ?_
    refine Eq.trans (s_get (y := 186) (pc := 19) (nx := 22) (a := 10) (b := 17) (t := 3) (v := 118) rfl (mk_k106 _) rfl (mk_106_17 _)) ?_
    refine Eq.trans (s_push (y := 186) (pc := 22) (nx := 24) (a := 0) (b := 10) rfl) ?_
    refine Eq.trans (s_load (y := 186) (pc := 24) (nx := 25) (a := 0) (b := 2) (x := x2) rfl rfl) ?_
    refine Eq.trans (s_mul (y := 186) (pc := 25) (nx := 26) (b := 0) rfl) ?_
    refine Eq.trans (s_load (y := 186) (pc := 26) (nx := 27) (a := 0) (b := 3) (x := x3) rfl rfl) ?_
    refine Eq.trans (s_add (y := 186) (pc := 27) (nx := 28) (b := 0) rfl) ?_
    refine Eq.trans (s_ald (y := 186) (pc := 28) (nx := 29) (a := 1) (b := 0) (k := 1) (n := 80) (t := 0) (v := (D 118 (w32 ((w32 (10 * x2)) + x3)))) rfl (mk_k118 _) rfl rfl (mk_l118 _) (mk_c118 _ _)) (ite_c ?_ rfl)
    refine Eq.trans (s_ast (y := 186) (pc := 29) (nx := 30) (a := 1) (b := 0) (k := 1) (n := 80) (t := 0) (v := (D 118 (w32 ((w32 (10 * x2)) + x3)))) (μ' := mk (mU D 118 (w32 ((w32 (10 * x1)) + x3)) (D 118 (w32 ((w32 (10 * x2)) + x3))))) rfl (by decide) (mk_k118 _) rfl (mk_l118 _) (mu_118 _ _ _)) (ite_c ?_ rfl)
    refine Eq.trans (s_iinc (y := 186) (pc := 30) (nx := 33) (a := 3) (b := 1) (x := x3) (ls' := [(3, 106), (0, x1), (0, x2), (0, (w32 (x3 + 1)))]) rfl rfl rfl) ?_
    refine Eq.trans (s_goto (y := 186) (pc := 33) (nx := 36) (a := 0) (b := 2) (tg := 2) rfl rfl) ?_
    rfl
  · refine Eq.trans (s_load (y := 186) (pc := 36) (nx := 37) (a := 3) (b := 0) (x := 106) rfl rfl) ?_
    refine Eq.trans (s_get (y := 186) (pc := 37) (nx := 40) (a := 10) (b := 18) (t := 3) (v := 119) rfl (mk_k106 _) rfl (mk_106_18 _)) ?_
    refine Eq.trans (s_load (y := 186) (pc := 40) (nx := 41) (a := 0) (b := 1) (x := x1) rfl rfl) ?_
    refine Eq.trans (s_load (y := 186) (pc := 41) (nx := 42) (a := 3) (b := 0) (x := 106) rfl rfl) ?_
    refine Eq.trans (s_get (y := 186) (pc := 42) (nx := 45) (a := 10) (b := 18) (t := 3) (v := 119) rfl (mk_k106 _) rfl (mk_106_18 _)) ?_
    refine Eq.trans (s_load (y := 186) (pc := 45) (nx := 46) (a := 0) (b := 2) (x := x2) rfl rfl) ?_
    refine Eq.trans (s_ald (y := 186) (pc := 46) (nx := 47) (a := 1) (b := 0) (k := 1) (n := 8) (t := 0) (v := (D 119 x2)) rfl (mk_k119 _) rfl rfl (mk_l119 _) (mk_c119 _ _)) (ite_c ?_ rfl)
    refine Eq.trans (s_ast (y := 186) (pc := 47) (nx := 48) (a := 1) (b := 0) (k := 1) (n := 8) (t := 0) (v := (D 119 x2)) (μ' := mk (mU D 119 x1 (D 119 x2))) rfl (by decide) (mk_k119 _) rfl (mk_l119 _) (mu_119 _ _ _)) (ite_c ?_ rfl)
    refine Eq.trans (s_load (y := 186) (pc := 48) (nx := 49) (a := 3) (b := 0) (x := 106) rfl rfl) ?_
    refine Eq.trans (s_get (y := 186) (pc := 49) (nx := 52) (a := 10) (b := 19) (t := 3) (v := 120) rfl (mk_k106 _) rfl (mk_106_19 _)) ?_
    refine Eq.trans (s_load (y := 186) (pc := 52) (nx := 53) (a := 0) (b := 1) (x := x1) rfl rfl) ?_
    refine Eq.trans (s_load (y := 186) (pc := 53) (nx := 54) (a := 3) (b := 0) (x := 106) rfl rfl) ?_
    refine Eq.trans (s_get (y := 186) (pc := 54) (nx := 57) (a := 10) (b := 19) (t := 3) (v := 120) rfl (mk_k106 _) rfl (mk_106_19 _)) ?_
    refine Eq.trans (s_load (y := 186) (pc := 57) (nx := 58) (a := 0) (b := 2) (x := x2) rfl rfl) ?_
    refine Eq.trans (s_ald (y := 186) (pc := 58) (nx := 59) (a := 1) (b := 0) (k := 1) (n := 8) (t := 0) (v := ((mU D 119 x1 (D 119 x2)) 120 x2)) rfl (mk_k120 _) rfl rfl (mk_l120 _) (mk_c120 _ _)) (ite_c ?_ rfl)
    refine Eq.trans (s_ast (y := 186) (pc := 59) (nx := 60) (a := 1) (b := 0) (k := 1) (n := 8) (t := 0) (v := ((mU D 119 x1 (D 119 x2)) 120 x2)) (μ' := mk (mU (mU D 119 x1 (D 119 x2)) 120 x1 ((mU D 119 x1 (D 119 x2)) 120 x2))) rfl (by decide) (mk_k120 _) rfl (mk_l120 _) (mu_120 _ _ _)) (ite_c ?_ rfl)
    refine Eq.trans (s_load (y := 186) (pc := 60) (nx := 61) (a := 3) (b := 0) (x := 106) rfl rfl) ?_
    refine Eq.trans (s_get (y := 186) (pc := 61) (nx := 64) (a := 10) (b := 20) (t := 3) (v := 121) rfl (mk_k106 _) rfl (mk_106_20 _)) ?_
    refine Eq.trans (s_load (y := 186) (pc := 64) (nx := 65) (a := 0) (b := 1) (x := x1) rfl rfl) ?_
    refine Eq.trans (s_load (y := 186) (pc := 65) (nx := 66) (a := 3) (b := 0) (x := 106) rfl rfl) ?_
    refine Eq.trans (s_get (y := 186) (pc := 66) (nx := 69) (a := 10) (b := 20) (t := 3) (v := 121) rfl (mk_k106 _) rfl (mk_106_20 _)) ?_
    refine Eq.trans (s_load (y := 186) (pc := 69) (nx := 70) (a := 0) (b := 2) (x := x2) rfl rfl) ?_
    refine Eq.trans (s_ald (y := 186) (pc := 70) (nx := 71) (a := 1) (b := 0) (k := 1) (n := 8) (t := 0) (v := ((mU (mU D 119 x1 (D 119 x2)) 120 x1 ((mU D 119 x1 (D 119 x2)) 120 x2)) 121 x2)) rfl (mk_k121 _) rfl rfl (mk_l121 _) (mk_c121 _ _)) (ite_c ?_ rfl)
    refine Eq.trans (s_ast (y := 186) (pc := 71) (nx := 72) (a := 1) (b := 0) (k := 1) (n := 8) (t := 0) (v := ((mU (mU D 119 x1 (D 119 x2)) 120 x1 ((mU D 119 x1 (D 119 x2)) 120 x2)) 121 x2)) (μ' := mk (mU (mU (mU D 119 x1 (D 119 x2)) 120 x1 ((mU D 119 x1 (D 119 x2)) 120 x2)) 121 x1 ((mU (mU D 119 x1 (D 119 x2)) 120 x1 ((mU D 119 x1 (D 119 x2)) 120 x2)) 121 x2))) rfl (by decide) (mk_k121 _) rfl (mk_l121 _) (mu_121 _ _ _)) (ite_c ?_ rfl)
    exact s_retv (y := 186) (pc := 72) (nx := 73) (b := 0) rfl
theorem r_187 (D : Mem) (x1 : Int) : qR 187 [(3, 106), (0, x1)] (mk D) = ((qR 186 [(3, 106), (0, x1), (0, ((mU D 106 21 (w32 ((D 106 21) - 1))) 106 21))] (mk (mU D 106 21 (w32 ((D 106 21) - 1))))).bind fun w => qE 187 19 [(3, 106), (0, x1)] (psh w.1 []) w.2) := by
  show qE 187 0 [(3, 106), (0, x1)] [] (mk D) = _
  refine Eq.trans (s_load (y := 187) (pc := 0) (nx := 1) (a := 3) (b := 0) (x := 106) rfl rfl) ?_
  refine Eq.trans (s_dup (y := 187) (pc := 1) (nx := 2) (a := 0) (b := 0) rfl (by decide)) ?_
  refine Eq.trans (s_get (y := 187) (pc := 2) (nx := 5) (a := 10) (b := 21) (t := 0) (v := (D 106 21)) rfl (mk_k106 _) rfl (mk_106_21 _)) ?_
  refine Eq.trans (s_push (y := 187) (pc := 5) (nx := 6) (a := 0) (b := 1) rfl) ?_
  refine Eq.trans (s_sub (y := 187) (pc := 6) (nx := 7) (b := 0) rfl) ?_
  refine Eq.trans (s_put (y := 187) (pc := 7) (nx := 10) (a := 10) (b := 21) (t := 0) (v := (w32 ((D 106 21) - 1))) (μ' := mk (mU D 106 21 (w32 ((D 106 21) - 1)))) rfl (mk_k106 _) rfl (mu_106_21 _ _)) ?_
  refine Eq.trans (s_load (y := 187) (pc := 10) (nx := 11) (a := 3) (b := 0) (x := 106) rfl rfl) ?_
  refine Eq.trans (s_load (y := 187) (pc := 11) (nx := 12) (a := 0) (b := 1) (x := x1) rfl rfl) ?_
  refine Eq.trans (s_load (y := 187) (pc := 12) (nx := 13) (a := 3) (b := 0) (x := 106) rfl rfl) ?_
  refine Eq.trans (s_get (y := 187) (pc := 13) (nx := 16) (a := 10) (b := 21) (t := 0) (v := ((mU D 106 21 (w32 ((D 106 21) - 1))) 106 21)) rfl (mk_k106 _) rfl (mk_106_21 _)) ?_
  exact s_call (y := 187) (pc := 16) (nx := 19) (a := 186) (b := 0) (as := [(3, 106), (0, x1), (0, ((mU D 106 21 (w32 ((D 106 21) - 1))) 106 21))]) (r := []) rfl (Nat.le_of_ble_eq_true rfl) rfl rfl (Nat.le_of_ble_eq_true rfl) (Nat.le_of_ble_eq_true rfl) (Or.inr ⟨rfl, mk_k106 _⟩)
theorem e_187_19 (D : Mem) (x1 : Int) : qE 187 19 [(3, 106), (0, x1)] [] (mk D) = some ((9, 0), (mk D)) := by
  exact s_retv (y := 187) (pc := 19) (nx := 20) (b := 0) rfl
theorem r_188 (D : Mem) : qR 188 [(3, 106)] (mk D) = (if (D 106 21) = 8 then qE 188 13 [(3, 106), (0, 0), (0, 1)] [] (mk D) else qE 188 53 [(3, 106), (9, 0), (9, 0)] [] (mk D)) := by
  show qE 188 0 [(3, 106), (9, 0), (9, 0)] [] (mk D) = _
  refine Eq.trans (s_load (y := 188) (pc := 0) (nx := 1) (a := 3) (b := 0) (x := 106) rfl rfl) ?_
  refine Eq.trans (s_get (y := 188) (pc := 1) (nx := 4) (a := 10) (b := 21) (t := 0) (v := (D 106 21)) rfl (mk_k106 _) rfl (mk_106_21 _)) ?_
  refine Eq.trans (s_push (y := 188) (pc := 4) (nx := 6) (a := 0) (b := 8) rfl) ?_
  refine Eq.trans (s_icne (y := 188) (pc := 6) (nx := 9) (b := 53) (tg := 53) rfl rfl) (ite_c ?_ ?_)
  · refine Eq.trans (s_push (y := 188) (pc := 9) (nx := 10) (a := 0) (b := 0) rfl) ?_
    refine Eq.trans (s_store (y := 188) (pc := 10) (nx := 11) (a := 0) (b := 1) (ls' := [(3, 106), (0, 0), (9, 0)]) rfl (Nat.le_of_ble_eq_true rfl) rfl) ?_
    refine Eq.trans (s_push (y := 188) (pc := 11) (nx := 12) (a := 0) (b := 1) rfl) ?_
    refine Eq.trans (s_store (y := 188) (pc := 12) (nx := 13) (a := 0) (b := 2) (ls' := [(3, 106), (0, 0), (0, 1)]) rfl (Nat.le_of_ble_eq_true rfl) rfl) ?_
    rfl
  · rfl
theorem e_188_13 (D : Mem) (x1 : Int) (x2 : Int) : qE 188 13 [(3, 106), (0, x1), (0, x2)] [] (mk D) = (if x2 < (D 106 21) then (if 0 ≤ x2 ∧ x2 < 8 then (if 0 ≤ x1 ∧ x1 < 8 then (if (D 121 x2) < (D 121 x1) then qE 188 13 [(3, 106), (0, x2), (0, (w32 (x2 + 1)))] [] (mk D) else qE 188 13 [(3, 106), (0, x1), (0, (w32 (x2 + 1)))] [] (mk D)) else none) else none) else ((qR 187 [(3, 106), (0, x1)] (mk D)).bind fun w => qE 188 53 [(3, 106), (0, x1), (0, x2)] (psh w.1 []) w.2)) := by
  refine Eq.trans (s_load (y := 188) (pc := 13) (nx := 14) (a := 0) (b := 2) (x := x2) rfl rfl) ?_
  refine Eq.trans (s_load (y := 188) (pc := 14) (nx := 15) (a := 3) (b := 0) (x := 106) rfl rfl) ?_
  refine Eq.trans (s_get (y := 188) (pc := 15) (nx := 18) (a := 10) (b := 21) (t := 0) (v := (D 106 21)) rfl (mk_k106 _) rfl (mk_106_21 _)) ?_
  refine Eq.trans (s_icge (y := 188) (pc := 18) (nx := 21) (b := 48) (tg := 48) rfl rfl) (ite_c ?_ ?_)
  · refine Eq.trans (s_load (y := 188) (pc := 21) (nx := 22) (a := 3) (b := 0) (x := 106) rfl rfl) ?_
    refine Eq.trans (s_get (y := 188) (pc := 22) (nx := 25) (a := 10) (b := 20) (t := 3) (v := 121) rfl (mk_k106 _) rfl (mk_106_20 _)) ?_
    refine Eq.trans (s_load (y := 188) (pc := 25) (nx := 26) (a := 0) (b := 2) (x := x2) rfl rfl) ?_
    refine Eq.trans (s_ald (y := 188) (pc := 26) (nx := 27) (a := 1) (b := 0) (k := 1) (n := 8) (t := 0) (v := (D 121 x2)) rfl (mk_k121 _) rfl rfl (mk_l121 _) (mk_c121 _ _)) (ite_c ?_ rfl)
    refine Eq.trans (s_load (y := 188) (pc := 27) (nx := 28) (a := 3) (b := 0) (x := 106) rfl rfl) ?_
    refine Eq.trans (s_get (y := 188) (pc := 28) (nx := 31) (a := 10) (b := 20) (t := 3) (v := 121) rfl (mk_k106 _) rfl (mk_106_20 _)) ?_
    refine Eq.trans (s_load (y := 188) (pc := 31) (nx := 32) (a := 0) (b := 1) (x := x1) rfl rfl) ?_
    refine Eq.trans (s_ald (y := 188) (pc := 32) (nx := 33) (a := 1) (b := 0) (k := 1) (n := 8) (t := 0) (v := (D 121 x1)) rfl (mk_k121 _) rfl rfl (mk_l121 _) (mk_c121 _ _)) (ite_c ?_ rfl)
    refine Eq.trans (s_icge (y := 188) (pc := 33) (nx := 36) (b := 40) (tg := 40) rfl rfl) (ite_c ?_ ?_)
    · refine Eq.trans (s_load (y := 188) (pc := 36) (nx := 37) (a := 0) (b := 2) (x := x2) rfl rfl) ?_
      refine Eq.trans (s_goto (y := 188) (pc := 37) (nx := 40) (a := 0) (b := 41) (tg := 41) rfl rfl) ?_
      refine Eq.trans (s_store (y := 188) (pc := 41) (nx := 42) (a := 0) (b := 1) (ls' := [(3, 106), (0, x2), (0, x2)]) rfl (Nat.le_of_ble_eq_true rfl) rfl) ?_
      refine Eq.trans (s_iinc (y := 188) (pc := 42) (nx := 45) (a := 2) (b := 1) (x := x2) (ls' := [(3, 106), (0, x2), (0, (w32 (x2 + 1)))]) rfl rfl rfl) ?_
      refine Eq.trans (s_goto (y := 188) (pc := 45) (nx := 48) (a := 0) (b := 13) (tg := 13) rfl rfl) ?_
      rfl
    · refine Eq.trans (s_load (y := 188) (pc := 40) (nx := 41) (a := 0) (b := 1) (x := x1) rfl rfl) ?_
      refine Eq.trans (s_store (y := 188) (pc := 41) (nx := 42) (a := 0) (b := 1) (ls' := [(3, 106), (0, x1), (0, x2)]) rfl (Nat.le_of_ble_eq_true rfl) rfl) ?_
      refine Eq.trans (s_iinc (y := 188) (pc := 42) (nx := 45) (a := 2) (b := 1) (x := x2) (ls' := [(3, 106), (0, x1), (0, (w32 (x2 + 1)))]) rfl rfl rfl) ?_
      refine Eq.trans (s_goto (y := 188) (pc := 45) (nx := 48) (a := 0) (b := 13) (tg := 13) rfl rfl) ?_
      rfl
  · refine Eq.trans (s_load (y := 188) (pc := 48) (nx := 49) (a := 3) (b := 0) (x := 106) rfl rfl) ?_
    refine Eq.trans (s_load (y := 188) (pc := 49) (nx := 50) (a := 0) (b := 1) (x := x1) rfl rfl) ?_
    exact s_call (y := 188) (pc := 50) (nx := 53) (a := 187) (b := 0) (as := [(3, 106), (0, x1)]) (r := []) rfl (Nat.le_of_ble_eq_true rfl) rfl rfl (Nat.le_of_ble_eq_true rfl) (Nat.le_of_ble_eq_true rfl) (Or.inr ⟨rfl, mk_k106 _⟩)
theorem e_188_53 (D : Mem) (v1 : PV) (v2 : PV) : qE 188 53 [(3, 106), v1, v2] [] (mk D) = qE 188 55 [(3, 106), (0, 0), v2] [] (mk D) := by
  refine Eq.trans (s_push (y := 188) (pc := 53) (nx := 54) (a := 0) (b := 0) rfl) ?_
  refine Eq.trans (s_store (y := 188) (pc := 54) (nx := 55) (a := 0) (b := 1) (ls' := [(3, 106), (0, 0), v2]) rfl (Nat.le_of_ble_eq_true rfl) rfl) ?_
  rfl
theorem e_188_55 (D : Mem) (x1 : Int) (v2 : PV) : qE 188 55 [(3, 106), (0, x1), v2] [] (mk D) = (if x1 < (D 106 12) then (if 0 ≤ x1 ∧ x1 < 10 then (if 0 ≤ (w32 ((w32 (10 * (D 106 21))) + x1)) ∧ (w32 ((w32 (10 * (D 106 21))) + x1)) < 80 then qE 188 55 [(3, 106), (0, (w32 (x1 + 1))), v2] [] (mk (mU D 118 (w32 ((w32 (10 * (D 106 21))) + x1)) (D 115 x1))) else none) else none) else (if 0 ≤ (D 106 21) ∧ (D 106 21) < 8 then (if 0 ≤ ((mU D 119 (D 106 21) (D 106 12)) 106 21) ∧ ((mU D 119 (D 106 21) (D 106 12)) 106 21) < 8 then some ((9, 0), (mk (mU (mU (mU D 119 (D 106 21) (D 106 12)) 120 ((mU D 119 (D 106 21) (D 106 12)) 106 21) 0) 106 21 (w32 (((mU (mU D 119 (D 106 21) (D 106 12)) 120 ((mU D 119 (D 106 21) (D 106 12)) 106 21) 0) 106 21) + 1))))) else none) else none)) := by
  refine Eq.trans (s_load (y := 188) (pc := 55) (nx := 56) (a := 0) (b := 1) (x := x1) rfl rfl) ?_
  refine Eq.trans (s_load (y := 188) (pc := 56) (nx := 57) (a := 3) (b := 0) (x := 106) rfl rfl) ?_
  refine Eq.trans (s_get (y := 188) (pc := 57) (nx := 60) (a := 10) (b := 12) (t := 0) (v := (D 106 12)) rfl (mk_k106 _) rfl (mk_106_12 _)) ?_
  refine Eq.trans (s_icge (y := 188) (pc := 60) (nx := 63) (b := 89) (tg := 89) rfl rfl) (ite_c ?_ ?_)
  · refine Eq.trans (s_load (y := 188) (pc := 63) (nx := 64) (a := 3) (b := 0) (x := 106) rfl rfl) ?_
    refine Eq.trans (s_get (y := 188) (pc := 64) (nx := 67) (a := 10) (b := 17) (t := 3) (v := 118) rfl (mk_k106 _) rfl (mk_106_17 _)) ?_
    refine Eq.trans (s_push (y := 188) (pc := 67) (nx := 69) (a := 0) (b := 10) rfl) ?_
    refine Eq.trans (s_load (y := 188) (pc := 69) (nx := 70) (a := 3) (b := 0) (x := 106) rfl rfl) ?_
    refine Eq.trans (s_get (y := 188) (pc := 70) (nx := 73) (a := 10) (b := 21) (t := 0) (v := (D 106 21)) rfl (mk_k106 _) rfl (mk_106_21 _)) ?_
    refine Eq.trans (s_mul (y := 188) (pc := 73) (nx := 74) (b := 0) rfl) ?_
    refine Eq.trans (s_load (y := 188) (pc := 74) (nx := 75) (a := 0) (b := 1) (x := x1) rfl rfl) ?_
    refine Eq.trans (s_add (y := 188) (pc := 75) (nx := 76) (b := 0) rfl) ?_
    refine Eq.trans (s_load (y := 188) (pc := 76) (nx := 77) (a := 3) (b := 0) (x := 106) rfl rfl) ?_
    refine Eq.trans (s_get (y := 188) (pc := 77) (nx := 80) (a := 10) (b := 11) (t := 3) (v := 115) rfl (mk_k106 _) rfl (mk_106_11 _)) ?_
    refine Eq.trans (s_load (y := 188) (pc := 80) (nx := 81) (a := 0) (b := 1) (x := x1) rfl rfl) ?_
    refine Eq.trans (s_ald (y := 188) (pc := 81) (nx := 82) (a := 1) (b := 0) (k := 1) (n := 10) (t := 0) (v := (D 115 x1)) rfl (mk_k115 _) rfl rfl (mk_l115 _) (mk_c115 _ _)) (ite_c ?_ rfl)
    refine Eq.trans (s_ast (y := 188) (pc := 82) (nx := 83) (a := 1) (b := 0) (k := 1) (n := 80) (t := 0) (v := (D 115 x1)) (μ' := mk (mU D 118 (w32 ((w32 (10 * (D 106 21))) + x1)) (D 115 x1))) rfl (by decide) (mk_k118 _) rfl (mk_l118 _) (mu_118 _ _ _)) (ite_c ?_ rfl)
    refine Eq.trans (s_iinc (y := 188) (pc := 83) (nx := 86) (a := 1) (b := 1) (x := x1) (ls' := [(3, 106), (0, (w32 (x1 + 1))), v2]) rfl rfl rfl) ?_
    refine Eq.trans (s_goto (y := 188) (pc := 86) (nx := 89) (a := 0) (b := 55) (tg := 55) rfl rfl) ?_
    rfl
  · refine Eq.trans (s_load (y := 188) (pc := 89) (nx := 90) (a := 3) (b := 0) (x := 106) rfl rfl) ?_
    refine Eq.trans (s_get (y := 188) (pc := 90) (nx := 93) (a := 10) (b := 18) (t := 3) (v := 119) rfl (mk_k106 _) rfl (mk_106_18 _)) ?_
    refine Eq.trans (s_load (y := 188) (pc := 93) (nx := 94) (a := 3) (b := 0) (x := 106) rfl rfl) ?_
    refine Eq.trans (s_get (y := 188) (pc := 94) (nx := 97) (a := 10) (b := 21) (t := 0) (v := (D 106 21)) rfl (mk_k106 _) rfl (mk_106_21 _)) ?_
    refine Eq.trans (s_load (y := 188) (pc := 97) (nx := 98) (a := 3) (b := 0) (x := 106) rfl rfl) ?_
    refine Eq.trans (s_get (y := 188) (pc := 98) (nx := 101) (a := 10) (b := 12) (t := 0) (v := (D 106 12)) rfl (mk_k106 _) rfl (mk_106_12 _)) ?_
    refine Eq.trans (s_ast (y := 188) (pc := 101) (nx := 102) (a := 1) (b := 0) (k := 1) (n := 8) (t := 0) (v := (D 106 12)) (μ' := mk (mU D 119 (D 106 21) (D 106 12))) rfl (by decide) (mk_k119 _) rfl (mk_l119 _) (mu_119 _ _ _)) (ite_c ?_ rfl)
    refine Eq.trans (s_load (y := 188) (pc := 102) (nx := 103) (a := 3) (b := 0) (x := 106) rfl rfl) ?_
    refine Eq.trans (s_get (y := 188) (pc := 103) (nx := 106) (a := 10) (b := 19) (t := 3) (v := 120) rfl (mk_k106 _) rfl (mk_106_19 _)) ?_
    refine Eq.trans (s_load (y := 188) (pc := 106) (nx := 107) (a := 3) (b := 0) (x := 106) rfl rfl) ?_
    refine Eq.trans (s_get (y := 188) (pc := 107) (nx := 110) (a := 10) (b := 21) (t := 0) (v := ((mU D 119 (D 106 21) (D 106 12)) 106 21)) rfl (mk_k106 _) rfl (mk_106_21 _)) ?_
    refine Eq.trans (s_push (y := 188) (pc := 110) (nx := 111) (a := 0) (b := 0) rfl) ?_
    refine Eq.trans (s_ast (y := 188) (pc := 111) (nx := 112) (a := 1) (b := 0) (k := 1) (n := 8) (t := 0) (v := 0) (μ' := mk (mU (mU D 119 (D 106 21) (D 106 12)) 120 ((mU D 119 (D 106 21) (D 106 12)) 106 21) 0)) rfl (by decide) (mk_k120 _) rfl (mk_l120 _) (mu_120 _ _ _)) (ite_c ?_ rfl)
    refine Eq.trans (s_load (y := 188) (pc := 112) (nx := 113) (a := 3) (b := 0) (x := 106) rfl rfl) ?_
    refine Eq.trans (s_dup (y := 188) (pc := 113) (nx := 114) (a := 0) (b := 0) rfl (by decide)) ?_
    refine Eq.trans (s_get (y := 188) (pc := 114) (nx := 117) (a := 10) (b := 21) (t := 0) (v := ((mU (mU D 119 (D 106 21) (D 106 12)) 120 ((mU D 119 (D 106 21) (D 106 12)) 106 21) 0) 106 21)) rfl (mk_k106 _) rfl (mk_106_21 _)) ?_
    refine Eq.trans (s_push (y := 188) (pc := 117) (nx := 118) (a := 0) (b := 1) rfl) ?_
    refine Eq.trans (s_add (y := 188) (pc := 118) (nx := 119) (b := 0) rfl) ?_
    refine Eq.trans (s_put (y := 188) (pc := 119) (nx := 122) (a := 10) (b := 21) (t := 0) (v := (w32 (((mU (mU D 119 (D 106 21) (D 106 12)) 120 ((mU D 119 (D 106 21) (D 106 12)) 106 21) 0) 106 21) + 1))) (μ' := mk (mU (mU (mU D 119 (D 106 21) (D 106 12)) 120 ((mU D 119 (D 106 21) (D 106 12)) 106 21) 0) 106 21 (w32 (((mU (mU D 119 (D 106 21) (D 106 12)) 120 ((mU D 119 (D 106 21) (D 106 12)) 106 21) 0) 106 21) + 1)))) rfl (mk_k106 _) rfl (mu_106_21 _ _)) ?_
    exact s_retv (y := 188) (pc := 122) (nx := 123) (b := 0) rfl
theorem r_189 (D : Mem) : qR 189 [(3, 106)] (mk D) = (if (D 106 12) = 0 then some ((0, (-4)), (mk D)) else ((qR 150 [(3, 106)] (mk D)).bind fun w => qE 189 14 [(3, 106), (9, 0), (9, 0)] (psh w.1 []) w.2)) := by
  show qE 189 0 [(3, 106), (9, 0), (9, 0)] [] (mk D) = _
  refine Eq.trans (s_load (y := 189) (pc := 0) (nx := 1) (a := 3) (b := 0) (x := 106) rfl rfl) ?_
  refine Eq.trans (s_get (y := 189) (pc := 1) (nx := 4) (a := 10) (b := 12) (t := 0) (v := (D 106 12)) rfl (mk_k106 _) rfl (mk_106_12 _)) ?_
  refine Eq.trans (s_ifne (y := 189) (pc := 4) (nx := 7) (b := 10) (tg := 10) rfl rfl) (ite_c ?_ ?_)
  · refine Eq.trans (s_push (y := 189) (pc := 7) (nx := 9) (a := 0) (b := (-4)) rfl) ?_
    exact s_ret (y := 189) (pc := 9) (nx := 10) (a := 0) rfl (by decide)
  · refine Eq.trans (s_load (y := 189) (pc := 10) (nx := 11) (a := 3) (b := 0) (x := 106) rfl rfl) ?_
    exact s_call (y := 189) (pc := 11) (nx := 14) (a := 150) (b := 0) (as := [(3, 106)]) (r := []) rfl (Nat.le_of_ble_eq_true rfl) rfl rfl (Nat.le_of_ble_eq_true rfl) (Nat.le_of_ble_eq_true rfl) (Or.inr ⟨rfl, mk_k106 _⟩)
theorem e_189_14 (D : Mem) (s0 : Int) : qE 189 14 [(3, 106), (9, 0), (9, 0)] [(0, s0)] (mk D) = ((qR 185 [(3, 106)] (mk D)).bind fun w => qE 189 19 [(3, 106), (0, s0), (9, 0)] (psh w.1 []) w.2) := by
  refine Eq.trans (s_store (y := 189) (pc := 14) (nx := 15) (a := 0) (b := 1) (ls' := [(3, 106), (0, s0), (9, 0)]) rfl (Nat.le_of_ble_eq_true rfl) rfl) ?_
  refine Eq.trans (s_load (y := 189) (pc := 15) (nx := 16) (a := 3) (b := 0) (x := 106) rfl rfl) ?_
  exact s_call (y := 189) (pc := 16) (nx := 19) (a := 185) (b := 0) (as := [(3, 106)]) (r := []) rfl (Nat.le_of_ble_eq_true rfl) rfl rfl (Nat.le_of_ble_eq_true rfl) (Nat.le_of_ble_eq_true rfl) (Or.inr ⟨rfl, mk_k106 _⟩)
theorem e_189_19 (D : Mem) (x1 : Int) (s0 : Int) : qE 189 19 [(3, 106), (0, x1), (9, 0)] [(0, s0)] (mk D) = (if x1 < 0 then (if s0 < 0 then (if s0 < 0 then ((qR 188 [(3, 106)] (mk D)).bind fun w => qE 189 114 [(3, 106), (0, x1), (0, s0)] (psh w.1 []) w.2) else qE 189 121 [(3, 106), (0, x1), (0, s0)] [] (mk D)) else (if 0 ≤ s0 ∧ s0 < 8 then (if (D 120 s0) = 2 then (if (D 106 16) = 60 then some ((0, (-2)), (mk D)) else (if (D 106 6) = 80 then some ((0, (-2)), (mk D)) else ((qR 187 [(3, 106), (0, s0)] (mk D)).bind fun w => qE 189 88 [(3, 106), (0, x1), (0, s0)] (psh w.1 []) w.2))) else (if s0 < 0 then ((qR 188 [(3, 106)] (mk D)).bind fun w => qE 189 114 [(3, 106), (0, x1), (0, s0)] (psh w.1 []) w.2) else qE 189 121 [(3, 106), (0, x1), (0, s0)] [] (mk D))) else none)) else (if (D 106 16) = 60 then some ((0, (-2)), (mk D)) else ((qR 183 [(3, 106), (0, x1)] (mk D)).bind fun w => qE 189 41 [(3, 106), (0, x1), (0, s0)] (psh w.1 []) w.2))) := by
  refine Eq.trans (s_store (y := 189) (pc := 19) (nx := 20) (a := 0) (b := 2) (ls' := [(3, 106), (0, x1), (0, s0)]) rfl (Nat.le_of_ble_eq_true rfl) rfl) ?_
  refine Eq.trans (s_load (y := 189) (pc := 20) (nx := 21) (a := 0) (b := 1) (x := x1) rfl rfl) ?_
  refine Eq.trans (s_iflt (y := 189) (pc := 21) (nx := 24) (b := 48) (tg := 48) rfl rfl) (ite_c ?_ ?_)
  · refine Eq.trans (s_load (y := 189) (pc := 48) (nx := 49) (a := 0) (b := 2) (x := s0) rfl rfl) ?_
    refine Eq.trans (s_iflt (y := 189) (pc := 49) (nx := 52) (b := 106) (tg := 106) rfl rfl) (ite_c ?_ ?_)
    · refine Eq.trans (s_load (y := 189) (pc := 106) (nx := 107) (a := 0) (b := 2) (x := s0) rfl rfl) ?_
      refine Eq.trans (s_ifge (y := 189) (pc := 107) (nx := 110) (b := 121) (tg := 121) rfl rfl) (ite_c ?_ ?_)
      · refine Eq.trans (s_load (y := 189) (pc := 110) (nx := 111) (a := 3) (b := 0) (x := 106) rfl rfl) ?_
        exact s_call (y := 189) (pc := 111) (nx := 114) (a := 188) (b := 0) (as := [(3, 106)]) (r := []) rfl (Nat.le_of_ble_eq_true rfl) rfl rfl (Nat.le_of_ble_eq_true rfl) (Nat.le_of_ble_eq_true rfl) (Or.inr ⟨rfl, mk_k106 _⟩)
      · rfl
    · refine Eq.trans (s_load (y := 189) (pc := 52) (nx := 53) (a := 3) (b := 0) (x := 106) rfl rfl) ?_
      refine Eq.trans (s_get (y := 189) (pc := 53) (nx := 56) (a := 10) (b := 19) (t := 3) (v := 120) rfl (mk_k106 _) rfl (mk_106_19 _)) ?_
      refine Eq.trans (s_load (y := 189) (pc := 56) (nx := 57) (a := 0) (b := 2) (x := s0) rfl rfl) ?_
      refine Eq.trans (s_ald (y := 189) (pc := 57) (nx := 58) (a := 1) (b := 0) (k := 1) (n := 8) (t := 0) (v := (D 120 s0)) rfl (mk_k120 _) rfl rfl (mk_l120 _) (mk_c120 _ _)) (ite_c ?_ rfl)
      refine Eq.trans (s_push (y := 189) (pc := 58) (nx := 59) (a := 0) (b := 2) rfl) ?_
      refine Eq.trans (s_icne (y := 189) (pc := 59) (nx := 62) (b := 106) (tg := 106) rfl rfl) (ite_c ?_ ?_)
      · refine Eq.trans (s_load (y := 189) (pc := 62) (nx := 63) (a := 3) (b := 0) (x := 106) rfl rfl) ?_
        refine Eq.trans (s_get (y := 189) (pc := 63) (nx := 66) (a := 10) (b := 16) (t := 0) (v := (D 106 16)) rfl (mk_k106 _) rfl (mk_106_16 _)) ?_
        refine Eq.trans (s_push (y := 189) (pc := 66) (nx := 68) (a := 0) (b := 60) rfl) ?_
        refine Eq.trans (s_iceq (y := 189) (pc := 68) (nx := 71) (b := 80) (tg := 80) rfl rfl) (ite_c ?_ ?_)
        · refine Eq.trans (s_push (y := 189) (pc := 80) (nx := 82) (a := 0) (b := (-2)) rfl) ?_
          exact s_ret (y := 189) (pc := 82) (nx := 83) (a := 0) rfl (by decide)
        · refine Eq.trans (s_load (y := 189) (pc := 71) (nx := 72) (a := 3) (b := 0) (x := 106) rfl rfl) ?_
          refine Eq.trans (s_get (y := 189) (pc := 72) (nx := 75) (a := 10) (b := 6) (t := 0) (v := (D 106 6)) rfl (mk_k106 _) rfl (mk_106_6 _)) ?_
          refine Eq.trans (s_push (y := 189) (pc := 75) (nx := 77) (a := 0) (b := 80) rfl) ?_
          refine Eq.trans (s_icne (y := 189) (pc := 77) (nx := 80) (b := 83) (tg := 83) rfl rfl) (ite_c ?_ ?_)
          · refine Eq.trans (s_push (y := 189) (pc := 80) (nx := 82) (a := 0) (b := (-2)) rfl) ?_
            exact s_ret (y := 189) (pc := 82) (nx := 83) (a := 0) rfl (by decide)
          · refine Eq.trans (s_load (y := 189) (pc := 83) (nx := 84) (a := 3) (b := 0) (x := 106) rfl rfl) ?_
            refine Eq.trans (s_load (y := 189) (pc := 84) (nx := 85) (a := 0) (b := 2) (x := s0) rfl rfl) ?_
            exact s_call (y := 189) (pc := 85) (nx := 88) (a := 187) (b := 0) (as := [(3, 106), (0, s0)]) (r := []) rfl (Nat.le_of_ble_eq_true rfl) rfl rfl (Nat.le_of_ble_eq_true rfl) (Nat.le_of_ble_eq_true rfl) (Or.inr ⟨rfl, mk_k106 _⟩)
      · refine Eq.trans (s_load (y := 189) (pc := 106) (nx := 107) (a := 0) (b := 2) (x := s0) rfl rfl) ?_
        refine Eq.trans (s_ifge (y := 189) (pc := 107) (nx := 110) (b := 121) (tg := 121) rfl rfl) (ite_c ?_ ?_)
        · refine Eq.trans (s_load (y := 189) (pc := 110) (nx := 111) (a := 3) (b := 0) (x := 106) rfl rfl) ?_
          exact s_call (y := 189) (pc := 111) (nx := 114) (a := 188) (b := 0) (as := [(3, 106)]) (r := []) rfl (Nat.le_of_ble_eq_true rfl) rfl rfl (Nat.le_of_ble_eq_true rfl) (Nat.le_of_ble_eq_true rfl) (Or.inr ⟨rfl, mk_k106 _⟩)
        · rfl
  · refine Eq.trans (s_load (y := 189) (pc := 24) (nx := 25) (a := 3) (b := 0) (x := 106) rfl rfl) ?_
    refine Eq.trans (s_get (y := 189) (pc := 25) (nx := 28) (a := 10) (b := 16) (t := 0) (v := (D 106 16)) rfl (mk_k106 _) rfl (mk_106_16 _)) ?_
    refine Eq.trans (s_push (y := 189) (pc := 28) (nx := 30) (a := 0) (b := 60) rfl) ?_
    refine Eq.trans (s_icne (y := 189) (pc := 30) (nx := 33) (b := 36) (tg := 36) rfl rfl) (ite_c ?_ ?_)
    · refine Eq.trans (s_push (y := 189) (pc := 33) (nx := 35) (a := 0) (b := (-2)) rfl) ?_
      exact s_ret (y := 189) (pc := 35) (nx := 36) (a := 0) rfl (by decide)
    · refine Eq.trans (s_load (y := 189) (pc := 36) (nx := 37) (a := 3) (b := 0) (x := 106) rfl rfl) ?_
      refine Eq.trans (s_load (y := 189) (pc := 37) (nx := 38) (a := 0) (b := 1) (x := x1) rfl rfl) ?_
      exact s_call (y := 189) (pc := 38) (nx := 41) (a := 183) (b := 0) (as := [(3, 106), (0, x1)]) (r := []) rfl (Nat.le_of_ble_eq_true rfl) rfl rfl (Nat.le_of_ble_eq_true rfl) (Nat.le_of_ble_eq_true rfl) (Or.inr ⟨rfl, mk_k106 _⟩)
theorem e_189_41 (D : Mem) (x1 : Int) (x2 : Int) : qE 189 41 [(3, 106), (0, x1), (0, x2)] [] (mk D) = some ((0, x1), (mk (mU D 106 12 0))) := by
  refine Eq.trans (s_load (y := 189) (pc := 41) (nx := 42) (a := 3) (b := 0) (x := 106) rfl rfl) ?_
  refine Eq.trans (s_push (y := 189) (pc := 42) (nx := 43) (a := 0) (b := 0) rfl) ?_
  refine Eq.trans (s_put (y := 189) (pc := 43) (nx := 46) (a := 10) (b := 12) (t := 0) (v := 0) (μ' := mk (mU D 106 12 0)) rfl (mk_k106 _) rfl (mu_106_12 _ _)) ?_
  refine Eq.trans (s_load (y := 189) (pc := 46) (nx := 47) (a := 0) (b := 1) (x := x1) rfl rfl) ?_
  exact s_ret (y := 189) (pc := 47) (nx := 48) (a := 0) rfl (by decide)
theorem e_189_88 (D : Mem) (x1 : Int) (x2 : Int) : qE 189 88 [(3, 106), (0, x1), (0, x2)] [] (mk D) = ((qR 153 [(3, 106), (0, 2)] (mk D)).bind fun w => qE 189 93 [(3, 106), (0, x1), (0, x2)] (psh w.1 []) w.2) := by
  refine Eq.trans (s_load (y := 189) (pc := 88) (nx := 89) (a := 3) (b := 0) (x := 106) rfl rfl) ?_
  refine Eq.trans (s_push (y := 189) (pc := 89) (nx := 90) (a := 0) (b := 2) rfl) ?_
  exact s_call (y := 189) (pc := 90) (nx := 93) (a := 153) (b := 0) (as := [(3, 106), (0, 2)]) (r := []) rfl (Nat.le_of_ble_eq_true rfl) rfl rfl (Nat.le_of_ble_eq_true rfl) (Nat.le_of_ble_eq_true rfl) (Or.inr ⟨rfl, mk_k106 _⟩)
theorem e_189_93 (D : Mem) (x1 : Int) (x2 : Int) (s0 : Int) : qE 189 93 [(3, 106), (0, x1), (0, x2)] [(0, s0)] (mk D) = ((qR 183 [(3, 106), (0, s0)] (mk D)).bind fun w => qE 189 99 [(3, 106), (0, s0), (0, x2)] (psh w.1 []) w.2) := by
  refine Eq.trans (s_store (y := 189) (pc := 93) (nx := 94) (a := 0) (b := 1) (ls' := [(3, 106), (0, s0), (0, x2)]) rfl (Nat.le_of_ble_eq_true rfl) rfl) ?_
  refine Eq.trans (s_load (y := 189) (pc := 94) (nx := 95) (a := 3) (b := 0) (x := 106) rfl rfl) ?_
  refine Eq.trans (s_load (y := 189) (pc := 95) (nx := 96) (a := 0) (b := 1) (x := s0) rfl rfl) ?_
  exact s_call (y := 189) (pc := 96) (nx := 99) (a := 183) (b := 0) (as := [(3, 106), (0, s0)]) (r := []) rfl (Nat.le_of_ble_eq_true rfl) rfl rfl (Nat.le_of_ble_eq_true rfl) (Nat.le_of_ble_eq_true rfl) (Or.inr ⟨rfl, mk_k106 _⟩)
theorem e_189_99 (D : Mem) (x1 : Int) (x2 : Int) : qE 189 99 [(3, 106), (0, x1), (0, x2)] [] (mk D) = some ((0, x1), (mk (mU D 106 12 0))) := by
  refine Eq.trans (s_load (y := 189) (pc := 99) (nx := 100) (a := 3) (b := 0) (x := 106) rfl rfl) ?_
  refine Eq.trans (s_push (y := 189) (pc := 100) (nx := 101) (a := 0) (b := 0) rfl) ?_
  refine Eq.trans (s_put (y := 189) (pc := 101) (nx := 104) (a := 10) (b := 12) (t := 0) (v := 0) (μ' := mk (mU D 106 12 0)) rfl (mk_k106 _) rfl (mu_106_12 _ _)) ?_
  refine Eq.trans (s_load (y := 189) (pc := 104) (nx := 105) (a := 0) (b := 1) (x := x1) rfl rfl) ?_
  exact s_ret (y := 189) (pc := 105) (nx := 106) (a := 0) rfl (by decide)
theorem e_189_114 (D : Mem) (x1 : Int) (x2 : Int) : qE 189 114 [(3, 106), (0, x1), (0, x2)] [] (mk D) = qE 189 121 [(3, 106), (0, x1), (0, (w32 ((D 106 21) - 1)))] [] (mk D) := by
  refine Eq.trans (s_load (y := 189) (pc := 114) (nx := 115) (a := 3) (b := 0) (x := 106) rfl rfl) ?_
  refine Eq.trans (s_get (y := 189) (pc := 115) (nx := 118) (a := 10) (b := 21) (t := 0) (v := (D 106 21)) rfl (mk_k106 _) rfl (mk_106_21 _)) ?_
  refine Eq.trans (s_push (y := 189) (pc := 118) (nx := 119) (a := 0) (b := 1) rfl) ?_
  refine Eq.trans (s_sub (y := 189) (pc := 119) (nx := 120) (b := 0) rfl) ?_
  refine Eq.trans (s_store (y := 189) (pc := 120) (nx := 121) (a := 0) (b := 2) (ls' := [(3, 106), (0, x1), (0, (w32 ((D 106 21) - 1)))]) rfl (Nat.le_of_ble_eq_true rfl) rfl) ?_
  rfl
theorem e_189_121 (D : Mem) (x1 : Int) (x2 : Int) : qE 189 121 [(3, 106), (0, x1), (0, x2)] [] (mk D) = (if 0 ≤ x2 ∧ x2 < 8 then (if 0 ≤ x2 ∧ x2 < 8 then (if 0 ≤ x2 ∧ x2 < 8 then (if 0 ≤ x2 ∧ x2 < 8 then some ((0, (w32 (100 + ((mU (mU (mU (mU D 120 x2 (w32 ((D 120 x2) + 1))) 106 22 (w32 (((mU D 120 x2 (w32 ((D 120 x2) + 1))) 106 22) + 1))) 121 x2 ((mU (mU D 120 x2 (w32 ((D 120 x2) + 1))) 106 22 (w32 (((mU D 120 x2 (w32 ((D 120 x2) + 1))) 106 22) + 1))) 106 22)) 106 12 0) 120 x2)))), (mk (mU (mU (mU (mU D 120 x2 (w32 ((D 120 x2) + 1))) 106 22 (w32 (((mU D 120 x2 (w32 ((D 120 x2) + 1))) 106 22) + 1))) 121 x2 ((mU (mU D 120 x2 (w32 ((D 120 x2) + 1))) 106 22 (w32 (((mU D 120 x2 (w32 ((D 120 x2) + 1))) 106 22) + 1))) 106 22)) 106 12 0))) else none) else none) else none) else none) := by
  refine Eq.trans (s_load (y := 189) (pc := 121) (nx := 122) (a := 3) (b := 0) (x := 106) rfl rfl) ?_
  refine Eq.trans (s_get (y := 189) (pc := 122) (nx := 125) (a := 10) (b := 19) (t := 3) (v := 120) rfl (mk_k106 _) rfl (mk_106_19 _)) ?_
  refine Eq.trans (s_load (y := 189) (pc := 125) (nx := 126) (a := 0) (b := 2) (x := x2) rfl rfl) ?_
  refine Eq.trans (s_dup2 (y := 189) (pc := 126) (nx := 127) (a := 0) (b := 0) rfl (by decide) (by decide)) ?_
  refine Eq.trans (s_ald (y := 189) (pc := 127) (nx := 128) (a := 1) (b := 0) (k := 1) (n := 8) (t := 0) (v := (D 120 x2)) rfl (mk_k120 _) rfl rfl (mk_l120 _) (mk_c120 _ _)) (ite_c ?_ rfl)
  refine Eq.trans (s_push (y := 189) (pc := 128) (nx := 129) (a := 0) (b := 1) rfl) ?_
  refine Eq.trans (s_add (y := 189) (pc := 129) (nx := 130) (b := 0) rfl) ?_
  refine Eq.trans (s_ast (y := 189) (pc := 130) (nx := 131) (a := 1) (b := 0) (k := 1) (n := 8) (t := 0) (v := (w32 ((D 120 x2) + 1))) (μ' := mk (mU D 120 x2 (w32 ((D 120 x2) + 1)))) rfl (by decide) (mk_k120 _) rfl (mk_l120 _) (mu_120 _ _ _)) (ite_c ?_ rfl)
  refine Eq.trans (s_load (y := 189) (pc := 131) (nx := 132) (a := 3) (b := 0) (x := 106) rfl rfl) ?_
  refine Eq.trans (s_dup (y := 189) (pc := 132) (nx := 133) (a := 0) (b := 0) rfl (by decide)) ?_
  refine Eq.trans (s_get (y := 189) (pc := 133) (nx := 136) (a := 10) (b := 22) (t := 0) (v := ((mU D 120 x2 (w32 ((D 120 x2) + 1))) 106 22)) rfl (mk_k106 _) rfl (mk_106_22 _)) ?_
  refine Eq.trans (s_push (y := 189) (pc := 136) (nx := 137) (a := 0) (b := 1) rfl) ?_
  refine Eq.trans (s_add (y := 189) (pc := 137) (nx := 138) (b := 0) rfl) ?_
  refine Eq.trans (s_put (y := 189) (pc := 138) (nx := 141) (a := 10) (b := 22) (t := 0) (v := (w32 (((mU D 120 x2 (w32 ((D 120 x2) + 1))) 106 22) + 1))) (μ' := mk (mU (mU D 120 x2 (w32 ((D 120 x2) + 1))) 106 22 (w32 (((mU D 120 x2 (w32 ((D 120 x2) + 1))) 106 22) + 1)))) rfl (mk_k106 _) rfl (mu_106_22 _ _)) ?_
  refine Eq.trans (s_load (y := 189) (pc := 141) (nx := 142) (a := 3) (b := 0) (x := 106) rfl rfl) ?_
  refine Eq.trans (s_get (y := 189) (pc := 142) (nx := 145) (a := 10) (b := 20) (t := 3) (v := 121) rfl (mk_k106 _) rfl (mk_106_20 _)) ?_
  refine Eq.trans (s_load (y := 189) (pc := 145) (nx := 146) (a := 0) (b := 2) (x := x2) rfl rfl) ?_
  refine Eq.trans (s_load (y := 189) (pc := 146) (nx := 147) (a := 3) (b := 0) (x := 106) rfl rfl) ?_
  refine Eq.trans (s_get (y := 189) (pc := 147) (nx := 150) (a := 10) (b := 22) (t := 0) (v := ((mU (mU D 120 x2 (w32 ((D 120 x2) + 1))) 106 22 (w32 (((mU D 120 x2 (w32 ((D 120 x2) + 1))) 106 22) + 1))) 106 22)) rfl (mk_k106 _) rfl (mk_106_22 _)) ?_
  refine Eq.trans (s_ast (y := 189) (pc := 150) (nx := 151) (a := 1) (b := 0) (k := 1) (n := 8) (t := 0) (v := ((mU (mU D 120 x2 (w32 ((D 120 x2) + 1))) 106 22 (w32 (((mU D 120 x2 (w32 ((D 120 x2) + 1))) 106 22) + 1))) 106 22)) (μ' := mk (mU (mU (mU D 120 x2 (w32 ((D 120 x2) + 1))) 106 22 (w32 (((mU D 120 x2 (w32 ((D 120 x2) + 1))) 106 22) + 1))) 121 x2 ((mU (mU D 120 x2 (w32 ((D 120 x2) + 1))) 106 22 (w32 (((mU D 120 x2 (w32 ((D 120 x2) + 1))) 106 22) + 1))) 106 22))) rfl (by decide) (mk_k121 _) rfl (mk_l121 _) (mu_121 _ _ _)) (ite_c ?_ rfl)
  refine Eq.trans (s_load (y := 189) (pc := 151) (nx := 152) (a := 3) (b := 0) (x := 106) rfl rfl) ?_
  refine Eq.trans (s_push (y := 189) (pc := 152) (nx := 153) (a := 0) (b := 0) rfl) ?_
  refine Eq.trans (s_put (y := 189) (pc := 153) (nx := 156) (a := 10) (b := 12) (t := 0) (v := 0) (μ' := mk (mU (mU (mU (mU D 120 x2 (w32 ((D 120 x2) + 1))) 106 22 (w32 (((mU D 120 x2 (w32 ((D 120 x2) + 1))) 106 22) + 1))) 121 x2 ((mU (mU D 120 x2 (w32 ((D 120 x2) + 1))) 106 22 (w32 (((mU D 120 x2 (w32 ((D 120 x2) + 1))) 106 22) + 1))) 106 22)) 106 12 0)) rfl (mk_k106 _) rfl (mu_106_12 _ _)) ?_
  refine Eq.trans (s_push (y := 189) (pc := 156) (nx := 158) (a := 0) (b := 100) rfl) ?_
  refine Eq.trans (s_load (y := 189) (pc := 158) (nx := 159) (a := 3) (b := 0) (x := 106) rfl rfl) ?_
  refine Eq.trans (s_get (y := 189) (pc := 159) (nx := 162) (a := 10) (b := 19) (t := 3) (v := 120) rfl (mk_k106 _) rfl (mk_106_19 _)) ?_
  refine Eq.trans (s_load (y := 189) (pc := 162) (nx := 163) (a := 0) (b := 2) (x := x2) rfl rfl) ?_
  refine Eq.trans (s_ald (y := 189) (pc := 163) (nx := 164) (a := 1) (b := 0) (k := 1) (n := 8) (t := 0) (v := ((mU (mU (mU (mU D 120 x2 (w32 ((D 120 x2) + 1))) 106 22 (w32 (((mU D 120 x2 (w32 ((D 120 x2) + 1))) 106 22) + 1))) 121 x2 ((mU (mU D 120 x2 (w32 ((D 120 x2) + 1))) 106 22 (w32 (((mU D 120 x2 (w32 ((D 120 x2) + 1))) 106 22) + 1))) 106 22)) 106 12 0) 120 x2)) rfl (mk_k120 _) rfl rfl (mk_l120 _) (mk_c120 _ _)) (ite_c ?_ rfl)
  refine Eq.trans (s_add (y := 189) (pc := 164) (nx := 165) (b := 0) rfl) ?_
  exact s_ret (y := 189) (pc := 165) (nx := 166) (a := 0) rfl (by decide)
theorem r_190 (D : Mem) : qR 190 [(3, 106)] (mk D) = ((qR 185 [(3, 106)] (mk D)).bind fun w => qE 190 4 [(3, 106), (9, 0)] (psh w.1 []) w.2) := by
  show qE 190 0 [(3, 106), (9, 0)] [] (mk D) = _
  refine Eq.trans (s_load (y := 190) (pc := 0) (nx := 1) (a := 3) (b := 0) (x := 106) rfl rfl) ?_
  exact s_call (y := 190) (pc := 1) (nx := 4) (a := 185) (b := 0) (as := [(3, 106)]) (r := []) rfl (Nat.le_of_ble_eq_true rfl) rfl rfl (Nat.le_of_ble_eq_true rfl) (Nat.le_of_ble_eq_true rfl) (Or.inr ⟨rfl, mk_k106 _⟩)
theorem e_190_4 (D : Mem) (s0 : Int) : qE 190 4 [(3, 106), (9, 0)] [(0, s0)] (mk D) = (if s0 < 0 then some ((0, 0), (mk D)) else (if 0 ≤ s0 ∧ s0 < 8 then some ((0, (D 120 s0)), (mk D)) else none)) := by
  refine Eq.trans (s_store (y := 190) (pc := 4) (nx := 5) (a := 0) (b := 1) (ls' := [(3, 106), (0, s0)]) rfl (Nat.le_of_ble_eq_true rfl) rfl) ?_
  refine Eq.trans (s_load (y := 190) (pc := 5) (nx := 6) (a := 0) (b := 1) (x := s0) rfl rfl) ?_
  refine Eq.trans (s_ifge (y := 190) (pc := 6) (nx := 9) (b := 13) (tg := 13) rfl rfl) (ite_c ?_ ?_)
  · refine Eq.trans (s_push (y := 190) (pc := 9) (nx := 10) (a := 0) (b := 0) rfl) ?_
    refine Eq.trans (s_goto (y := 190) (pc := 10) (nx := 13) (a := 0) (b := 19) (tg := 19) rfl rfl) ?_
    exact s_ret (y := 190) (pc := 19) (nx := 20) (a := 0) rfl (by decide)
  · refine Eq.trans (s_load (y := 190) (pc := 13) (nx := 14) (a := 3) (b := 0) (x := 106) rfl rfl) ?_
    refine Eq.trans (s_get (y := 190) (pc := 14) (nx := 17) (a := 10) (b := 19) (t := 3) (v := 120) rfl (mk_k106 _) rfl (mk_106_19 _)) ?_
    refine Eq.trans (s_load (y := 190) (pc := 17) (nx := 18) (a := 0) (b := 1) (x := s0) rfl rfl) ?_
    refine Eq.trans (s_ald (y := 190) (pc := 18) (nx := 19) (a := 1) (b := 0) (k := 1) (n := 8) (t := 0) (v := (D 120 s0)) rfl (mk_k120 _) rfl rfl (mk_l120 _) (mk_c120 _ _)) (ite_c ?_ rfl)
    exact s_ret (y := 190) (pc := 19) (nx := 20) (a := 0) rfl (by decide)
theorem r_191 (D : Mem) (x1 : Int) : qR 191 [(3, 106), (0, x1)] (mk D) = ((qR 143 [(3, 106), (0, x1)] (mk D)).bind fun w => qE 191 5 [(3, 106), (0, x1)] (psh w.1 []) w.2) := by
  show qE 191 0 [(3, 106), (0, x1)] [] (mk D) = _
  refine Eq.trans (s_load (y := 191) (pc := 0) (nx := 1) (a := 3) (b := 0) (x := 106) rfl rfl) ?_
  refine Eq.trans (s_load (y := 191) (pc := 1) (nx := 2) (a := 0) (b := 1) (x := x1) rfl rfl) ?_
  exact s_call (y := 191) (pc := 2) (nx := 5) (a := 143) (b := 0) (as := [(3, 106), (0, x1)]) (r := []) rfl (Nat.le_of_ble_eq_true rfl) rfl rfl (Nat.le_of_ble_eq_true rfl) (Nat.le_of_ble_eq_true rfl) (Or.inr ⟨rfl, mk_k106 _⟩)
theorem e_191_5 (D : Mem) (x1 : Int) (s0 : Int) : qE 191 5 [(3, 106), (0, x1)] [(0, s0)] (mk D) = (if s0 = 0 then some ((0, (-1)), (mk D)) else (if 0 ≤ x1 ∧ x1 < 80 then (if (D 112 x1) = 0 then some ((0, (-4)), (mk D)) else (if (D 106 16) = 60 then some ((0, (-2)), (mk D)) else (if 0 ≤ (D 106 16) ∧ (D 106 16) < 60 then some ((0, ((mU (mU D 117 (D 106 16) x1) 106 16 (w32 (((mU D 117 (D 106 16) x1) 106 16) + 1))) 106 16)), (mk (mU (mU D 117 (D 106 16) x1) 106 16 (w32 (((mU D 117 (D 106 16) x1) 106 16) + 1))))) else none))) else none)) := by
  refine Eq.trans (s_ifne (y := 191) (pc := 5) (nx := 8) (b := 10) (tg := 10) rfl rfl) (ite_c ?_ ?_)
  · refine Eq.trans (s_push (y := 191) (pc := 8) (nx := 9) (a := 0) (b := (-1)) rfl) ?_
    exact s_ret (y := 191) (pc := 9) (nx := 10) (a := 0) rfl (by decide)
  · refine Eq.trans (s_load (y := 191) (pc := 10) (nx := 11) (a := 3) (b := 0) (x := 106) rfl rfl) ?_
    refine Eq.trans (s_get (y := 191) (pc := 11) (nx := 14) (a := 10) (b := 5) (t := 3) (v := 112) rfl (mk_k106 _) rfl (mk_106_5 _)) ?_
    refine Eq.trans (s_load (y := 191) (pc := 14) (nx := 15) (a := 0) (b := 1) (x := x1) rfl rfl) ?_
    refine Eq.trans (s_ald (y := 191) (pc := 15) (nx := 16) (a := 6) (b := 0) (k := 6) (n := 80) (t := 0) (v := (D 112 x1)) rfl (mk_k112 _) rfl rfl (mk_l112 _) (mk_c112 _ _)) (ite_c ?_ rfl)
    refine Eq.trans (s_ifne (y := 191) (pc := 16) (nx := 19) (b := 22) (tg := 22) rfl rfl) (ite_c ?_ ?_)
    · refine Eq.trans (s_push (y := 191) (pc := 19) (nx := 21) (a := 0) (b := (-4)) rfl) ?_
      exact s_ret (y := 191) (pc := 21) (nx := 22) (a := 0) rfl (by decide)
    · refine Eq.trans (s_load (y := 191) (pc := 22) (nx := 23) (a := 3) (b := 0) (x := 106) rfl rfl) ?_
      refine Eq.trans (s_get (y := 191) (pc := 23) (nx := 26) (a := 10) (b := 16) (t := 0) (v := (D 106 16)) rfl (mk_k106 _) rfl (mk_106_16 _)) ?_
      refine Eq.trans (s_push (y := 191) (pc := 26) (nx := 28) (a := 0) (b := 60) rfl) ?_
      refine Eq.trans (s_icne (y := 191) (pc := 28) (nx := 31) (b := 34) (tg := 34) rfl rfl) (ite_c ?_ ?_)
      · refine Eq.trans (s_push (y := 191) (pc := 31) (nx := 33) (a := 0) (b := (-2)) rfl) ?_
        exact s_ret (y := 191) (pc := 33) (nx := 34) (a := 0) rfl (by decide)
      · refine Eq.trans (s_load (y := 191) (pc := 34) (nx := 35) (a := 3) (b := 0) (x := 106) rfl rfl) ?_
        refine Eq.trans (s_get (y := 191) (pc := 35) (nx := 38) (a := 10) (b := 15) (t := 3) (v := 117) rfl (mk_k106 _) rfl (mk_106_15 _)) ?_
        refine Eq.trans (s_load (y := 191) (pc := 38) (nx := 39) (a := 3) (b := 0) (x := 106) rfl rfl) ?_
        refine Eq.trans (s_get (y := 191) (pc := 39) (nx := 42) (a := 10) (b := 16) (t := 0) (v := (D 106 16)) rfl (mk_k106 _) rfl (mk_106_16 _)) ?_
        refine Eq.trans (s_load (y := 191) (pc := 42) (nx := 43) (a := 0) (b := 1) (x := x1) rfl rfl) ?_
        refine Eq.trans (s_ast (y := 191) (pc := 43) (nx := 44) (a := 1) (b := 0) (k := 1) (n := 60) (t := 0) (v := x1) (μ' := mk (mU D 117 (D 106 16) x1)) rfl (by decide) (mk_k117 _) rfl (mk_l117 _) (mu_117 _ _ _)) (ite_c ?_ rfl)
        refine Eq.trans (s_load (y := 191) (pc := 44) (nx := 45) (a := 3) (b := 0) (x := 106) rfl rfl) ?_
        refine Eq.trans (s_dup (y := 191) (pc := 45) (nx := 46) (a := 0) (b := 0) rfl (by decide)) ?_
        refine Eq.trans (s_get (y := 191) (pc := 46) (nx := 49) (a := 10) (b := 16) (t := 0) (v := ((mU D 117 (D 106 16) x1) 106 16)) rfl (mk_k106 _) rfl (mk_106_16 _)) ?_
        refine Eq.trans (s_push (y := 191) (pc := 49) (nx := 50) (a := 0) (b := 1) rfl) ?_
        refine Eq.trans (s_add (y := 191) (pc := 50) (nx := 51) (b := 0) rfl) ?_
        refine Eq.trans (s_put (y := 191) (pc := 51) (nx := 54) (a := 10) (b := 16) (t := 0) (v := (w32 (((mU D 117 (D 106 16) x1) 106 16) + 1))) (μ' := mk (mU (mU D 117 (D 106 16) x1) 106 16 (w32 (((mU D 117 (D 106 16) x1) 106 16) + 1)))) rfl (mk_k106 _) rfl (mu_106_16 _ _)) ?_
        refine Eq.trans (s_load (y := 191) (pc := 54) (nx := 55) (a := 3) (b := 0) (x := 106) rfl rfl) ?_
        refine Eq.trans (s_get (y := 191) (pc := 55) (nx := 58) (a := 10) (b := 16) (t := 0) (v := ((mU (mU D 117 (D 106 16) x1) 106 16 (w32 (((mU D 117 (D 106 16) x1) 106 16) + 1))) 106 16)) rfl (mk_k106 _) rfl (mk_106_16 _)) ?_
        exact s_ret (y := 191) (pc := 58) (nx := 59) (a := 0) rfl (by decide)
theorem r_192 (D : Mem) : qR 192 [(3, 106)] (mk D) = some ((0, (D 106 16)), (mk (mU D 106 16 0))) := by
  show qE 192 0 [(3, 106), (9, 0)] [] (mk D) = _
  refine Eq.trans (s_load (y := 192) (pc := 0) (nx := 1) (a := 3) (b := 0) (x := 106) rfl rfl) ?_
  refine Eq.trans (s_get (y := 192) (pc := 1) (nx := 4) (a := 10) (b := 16) (t := 0) (v := (D 106 16)) rfl (mk_k106 _) rfl (mk_106_16 _)) ?_
  refine Eq.trans (s_store (y := 192) (pc := 4) (nx := 5) (a := 0) (b := 1) (ls' := [(3, 106), (0, (D 106 16))]) rfl (Nat.le_of_ble_eq_true rfl) rfl) ?_
  refine Eq.trans (s_load (y := 192) (pc := 5) (nx := 6) (a := 3) (b := 0) (x := 106) rfl rfl) ?_
  refine Eq.trans (s_push (y := 192) (pc := 6) (nx := 7) (a := 0) (b := 0) rfl) ?_
  refine Eq.trans (s_put (y := 192) (pc := 7) (nx := 10) (a := 10) (b := 16) (t := 0) (v := 0) (μ' := mk (mU D 106 16 0)) rfl (mk_k106 _) rfl (mu_106_16 _ _)) ?_
  refine Eq.trans (s_load (y := 192) (pc := 10) (nx := 11) (a := 0) (b := 1) (x := (D 106 16)) rfl rfl) ?_
  exact s_ret (y := 192) (pc := 11) (nx := 12) (a := 0) rfl (by decide)
theorem r_193 (D : Mem) (x1 : Int) : qR 193 [(3, 106), (0, x1)] (mk D) = ((qR 142 [(0, x1), (0, 0), (0, (w32 ((D 106 16) - 1)))] (mk D)).bind fun w => qE 193 11 [(3, 106), (0, x1)] (psh w.1 []) w.2) := by
  show qE 193 0 [(3, 106), (0, x1)] [] (mk D) = _
  refine Eq.trans (s_load (y := 193) (pc := 0) (nx := 1) (a := 0) (b := 1) (x := x1) rfl rfl) ?_
  refine Eq.trans (s_push (y := 193) (pc := 1) (nx := 2) (a := 0) (b := 0) rfl) ?_
  refine Eq.trans (s_load (y := 193) (pc := 2) (nx := 3) (a := 3) (b := 0) (x := 106) rfl rfl) ?_
  refine Eq.trans (s_get (y := 193) (pc := 3) (nx := 6) (a := 10) (b := 16) (t := 0) (v := (D 106 16)) rfl (mk_k106 _) rfl (mk_106_16 _)) ?_
  refine Eq.trans (s_push (y := 193) (pc := 6) (nx := 7) (a := 0) (b := 1) rfl) ?_
  refine Eq.trans (s_sub (y := 193) (pc := 7) (nx := 8) (b := 0) rfl) ?_
  exact s_call (y := 193) (pc := 8) (nx := 11) (a := 142) (b := 0) (as := [(0, x1), (0, 0), (0, (w32 ((D 106 16) - 1)))]) (r := []) rfl (Nat.le_of_ble_eq_true rfl) rfl rfl (Nat.le_of_ble_eq_true rfl) (Nat.le_of_ble_eq_true rfl) (Or.inl rfl)
theorem e_193_11 (D : Mem) (x1 : Int) (s0 : Int) : qE 193 11 [(3, 106), (0, x1)] [(0, s0)] (mk D) = (if s0 = 0 then some ((0, (-1)), (mk D)) else (if 0 ≤ x1 ∧ x1 < 60 then some ((0, (D 117 x1)), (mk D)) else none)) := by
  refine Eq.trans (s_ifeq (y := 193) (pc := 11) (nx := 14) (b := 23) (tg := 23) rfl rfl) (ite_c ?_ ?_)
  · refine Eq.trans (s_push (y := 193) (pc := 23) (nx := 24) (a := 0) (b := (-1)) rfl) ?_
    exact s_ret (y := 193) (pc := 24) (nx := 25) (a := 0) rfl (by decide)
  · refine Eq.trans (s_load (y := 193) (pc := 14) (nx := 15) (a := 3) (b := 0) (x := 106) rfl rfl) ?_
    refine Eq.trans (s_get (y := 193) (pc := 15) (nx := 18) (a := 10) (b := 15) (t := 3) (v := 117) rfl (mk_k106 _) rfl (mk_106_15 _)) ?_
    refine Eq.trans (s_load (y := 193) (pc := 18) (nx := 19) (a := 0) (b := 1) (x := x1) rfl rfl) ?_
    refine Eq.trans (s_ald (y := 193) (pc := 19) (nx := 20) (a := 1) (b := 0) (k := 1) (n := 60) (t := 0) (v := (D 117 x1)) rfl (mk_k117 _) rfl rfl (mk_l117 _) (mk_c117 _ _)) (ite_c ?_ rfl)
    refine Eq.trans (s_goto (y := 193) (pc := 20) (nx := 23) (a := 0) (b := 24) (tg := 24) rfl rfl) ?_
    exact s_ret (y := 193) (pc := 24) (nx := 25) (a := 0) rfl (by decide)
