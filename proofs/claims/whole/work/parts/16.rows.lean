set_option maxRecDepth 100000 in
theorem e_219_18 (D : Mem) (x3 : Int) : qE 219 18 [(3, 1), (3, 2), (3, 106), (0, x3)] [] (mk D) = (if x3 ≤ (w32 ((D (-1) 1) - 6)) then (if 0 ≤ x3 ∧ x3 < (D (-1) 1) then (qE 219 (swG (pSw.getD 5 []) ((Int32.ofInt (D 1 x3) &&& Int32.ofInt 63).toInt) (Int.toNat 1073)) [(3, 1), (3, 2), (3, 106), (0, x3)] [] (mk D)) else none) else some ((0, 1), (mk D))) := by
  refine Eq.trans (s_load (y := 219) (pc := 18) (nx := 19) (a := 0) (b := 3) (x := x3) rfl rfl) ?_
  refine Eq.trans (s_load (y := 219) (pc := 19) (nx := 20) (a := 3) (b := 0) (x := 1) rfl rfl) ?_
  refine Eq.trans (s_len (y := 219) (pc := 20) (nx := 21) (a := 0) (b := 0) (k := 1) (n := D (-1) 1) rfl (mk_k1 _) (by decide) rfl) ?_
  refine Eq.trans (s_push (y := 219) (pc := 21) (nx := 23) (a := 0) (b := 6) rfl) ?_
  refine Eq.trans (s_sub (y := 219) (pc := 23) (nx := 24) (b := 0) rfl) ?_
  refine Eq.trans (s_icgt (y := 219) (pc := 24) (nx := 27) (b := 1079) (tg := 1079) rfl rfl) (ite_c ?_ ?_)
  · refine Eq.trans (s_load (y := 219) (pc := 27) (nx := 28) (a := 3) (b := 0) (x := 1) rfl rfl) ?_
    refine Eq.trans (s_load (y := 219) (pc := 28) (nx := 29) (a := 0) (b := 3) (x := x3) rfl rfl) ?_
    refine Eq.trans (s_ald (y := 219) (pc := 29) (nx := 30) (a := 1) (b := 0) (k := 1) (n := (D (-1) 1)) (t := 0) (v := (D 1 x3)) rfl (mk_k1 _) rfl rfl rfl (mk_c1 _ _)) (ite_c ?_ rfl)
    refine Eq.trans (s_push (y := 219) (pc := 30) (nx := 32) (a := 0) (b := 63) rfl) ?_
    refine Eq.trans (s_and (y := 219) (pc := 32) (nx := 33) (b := 0) rfl) ?_
    refine Eq.trans (s_sw (y := 219) (pc := 33) (nx := 0) (a := 5) (b := 1073) rfl) ?_
    rfl
  · refine Eq.trans (s_push (y := 219) (pc := 1079) (nx := 1080) (a := 0) (b := 1) rfl) ?_
    exact s_retz (y := 219) (pc := 1080) (nx := 1081) rfl (by decide)
set_option maxRecDepth 100000 in
theorem e_219_188 (D : Mem) (x3 : Int) : qE 219 188 [(3, 1), (3, 2), (3, 106), (0, x3)] [] (mk D) = (if 0 ≤ (w32 (x3 + 1)) ∧ (w32 (x3 + 1)) < (D (-1) 1) then (if 0 ≤ (w32 (x3 + 2)) ∧ (w32 (x3 + 2)) < (D (-1) 1) then ((qR 95 [(3, 2), (0, (D 1 (w32 (x3 + 1)))), (0, (D 1 (w32 (x3 + 2))))] (mk D)).bind fun w => qE 219 202 [(3, 1), (3, 2), (3, 106), (0, x3)] (psh w.1 []) w.2) else none) else none) := by
  refine Eq.trans (s_load (y := 219) (pc := 188) (nx := 189) (a := 3) (b := 1) (x := 2) rfl rfl) ?_
  refine Eq.trans (s_load (y := 219) (pc := 189) (nx := 190) (a := 3) (b := 0) (x := 1) rfl rfl) ?_
  refine Eq.trans (s_load (y := 219) (pc := 190) (nx := 191) (a := 0) (b := 3) (x := x3) rfl rfl) ?_
  refine Eq.trans (s_push (y := 219) (pc := 191) (nx := 192) (a := 0) (b := 1) rfl) ?_
  refine Eq.trans (s_add (y := 219) (pc := 192) (nx := 193) (b := 0) rfl) ?_
  refine Eq.trans (s_ald (y := 219) (pc := 193) (nx := 194) (a := 1) (b := 0) (k := 1) (n := (D (-1) 1)) (t := 0) (v := (D 1 (w32 (x3 + 1)))) rfl (mk_k1 _) rfl rfl rfl (mk_c1 _ _)) (ite_c ?_ rfl)
  refine Eq.trans (s_load (y := 219) (pc := 194) (nx := 195) (a := 3) (b := 0) (x := 1) rfl rfl) ?_
  refine Eq.trans (s_load (y := 219) (pc := 195) (nx := 196) (a := 0) (b := 3) (x := x3) rfl rfl) ?_
  refine Eq.trans (s_push (y := 219) (pc := 196) (nx := 197) (a := 0) (b := 2) rfl) ?_
  refine Eq.trans (s_add (y := 219) (pc := 197) (nx := 198) (b := 0) rfl) ?_
  refine Eq.trans (s_ald (y := 219) (pc := 198) (nx := 199) (a := 1) (b := 0) (k := 1) (n := (D (-1) 1)) (t := 0) (v := (D 1 (w32 (x3 + 2)))) rfl (mk_k1 _) rfl rfl rfl (mk_c1 _ _)) (ite_c ?_ rfl)
  exact s_call (y := 219) (pc := 199) (nx := 202) (a := 95) (b := 0) (as := [(3, 2), (0, (D 1 (w32 (x3 + 1)))), (0, (D 1 (w32 (x3 + 2))))]) (r := []) rfl (Nat.le_of_ble_eq_true rfl) rfl rfl (Nat.le_of_ble_eq_true rfl) (Nat.le_of_ble_eq_true rfl) (Or.inr ⟨rfl, mk_k2 _⟩)
set_option maxRecDepth 100000 in
theorem e_219_202 (D : Mem) (x3 : Int) (s0 : Int) : qE 219 202 [(3, 1), (3, 2), (3, 106), (0, x3)] [(0, s0)] (mk D) = (if 0 ≤ (w32 (x3 + 1)) ∧ (w32 (x3 + 1)) < (D (-1) 1) then (if 0 ≤ (w32 (x3 + 2)) ∧ (w32 (x3 + 2)) < (D (-1) 1) then ((qR 144 [(3, 106), (0, (D 1 (w32 (x3 + 1)))), (0, (D 1 (w32 (x3 + 2))))] (mk D)).bind fun w => qE 219 216 [(3, 1), (3, 2), (3, 106), (0, x3)] (psh w.1 [(0, s0)]) w.2) else none) else none) := by
  refine Eq.trans (s_load (y := 219) (pc := 202) (nx := 203) (a := 3) (b := 2) (x := 106) rfl rfl) ?_
  refine Eq.trans (s_load (y := 219) (pc := 203) (nx := 204) (a := 3) (b := 0) (x := 1) rfl rfl) ?_
  refine Eq.trans (s_load (y := 219) (pc := 204) (nx := 205) (a := 0) (b := 3) (x := x3) rfl rfl) ?_
  refine Eq.trans (s_push (y := 219) (pc := 205) (nx := 206) (a := 0) (b := 1) rfl) ?_
  refine Eq.trans (s_add (y := 219) (pc := 206) (nx := 207) (b := 0) rfl) ?_
  refine Eq.trans (s_ald (y := 219) (pc := 207) (nx := 208) (a := 1) (b := 0) (k := 1) (n := (D (-1) 1)) (t := 0) (v := (D 1 (w32 (x3 + 1)))) rfl (mk_k1 _) rfl rfl rfl (mk_c1 _ _)) (ite_c ?_ rfl)
  refine Eq.trans (s_load (y := 219) (pc := 208) (nx := 209) (a := 3) (b := 0) (x := 1) rfl rfl) ?_
  refine Eq.trans (s_load (y := 219) (pc := 209) (nx := 210) (a := 0) (b := 3) (x := x3) rfl rfl) ?_
  refine Eq.trans (s_push (y := 219) (pc := 210) (nx := 211) (a := 0) (b := 2) rfl) ?_
  refine Eq.trans (s_add (y := 219) (pc := 211) (nx := 212) (b := 0) rfl) ?_
  refine Eq.trans (s_ald (y := 219) (pc := 212) (nx := 213) (a := 1) (b := 0) (k := 1) (n := (D (-1) 1)) (t := 0) (v := (D 1 (w32 (x3 + 2)))) rfl (mk_k1 _) rfl rfl rfl (mk_c1 _ _)) (ite_c ?_ rfl)
  exact s_call (y := 219) (pc := 213) (nx := 216) (a := 144) (b := 0) (as := [(3, 106), (0, (D 1 (w32 (x3 + 1)))), (0, (D 1 (w32 (x3 + 2))))]) (r := [(0, s0)]) rfl (Nat.le_of_ble_eq_true rfl) rfl rfl (Nat.le_of_ble_eq_true rfl) (Nat.le_of_ble_eq_true rfl) (Or.inr ⟨rfl, mk_k106 _⟩)
set_option maxRecDepth 100000 in
theorem e_219_216 (D : Mem) (x3 : Int) (s0 : Int) (s1 : Int) : qE 219 216 [(3, 1), (3, 2), (3, 106), (0, x3)] [(0, s1), (0, s0)] (mk D) = (if s0 = s1 then qE 219 1073 [(3, 1), (3, 2), (3, 106), (0, x3)] [] (mk D) else some ((0, 0), (mk D))) := by
  refine Eq.trans (s_iceq (y := 219) (pc := 216) (nx := 219) (b := 1073) (tg := 1073) rfl rfl) (ite_c ?_ ?_)
  · rfl
  · refine Eq.trans (s_push (y := 219) (pc := 219) (nx := 220) (a := 0) (b := 0) rfl) ?_
    exact s_retz (y := 219) (pc := 220) (nx := 221) rfl (by decide)
set_option maxRecDepth 100000 in
theorem e_219_221 (D : Mem) (x3 : Int) : qE 219 221 [(3, 1), (3, 2), (3, 106), (0, x3)] [] (mk D) = (if 0 ≤ (w32 (x3 + 1)) ∧ (w32 (x3 + 1)) < (D (-1) 1) then (if 0 ≤ (w32 (x3 + 2)) ∧ (w32 (x3 + 2)) < (D (-1) 1) then ((qR 96 [(3, 2), (0, (D 1 (w32 (x3 + 1)))), (0, (D 1 (w32 (x3 + 2))))] (mk D)).bind fun w => qE 219 235 [(3, 1), (3, 2), (3, 106), (0, x3)] (psh w.1 []) w.2) else none) else none) := by
  refine Eq.trans (s_load (y := 219) (pc := 221) (nx := 222) (a := 3) (b := 1) (x := 2) rfl rfl) ?_
  refine Eq.trans (s_load (y := 219) (pc := 222) (nx := 223) (a := 3) (b := 0) (x := 1) rfl rfl) ?_
  refine Eq.trans (s_load (y := 219) (pc := 223) (nx := 224) (a := 0) (b := 3) (x := x3) rfl rfl) ?_
  refine Eq.trans (s_push (y := 219) (pc := 224) (nx := 225) (a := 0) (b := 1) rfl) ?_
  refine Eq.trans (s_add (y := 219) (pc := 225) (nx := 226) (b := 0) rfl) ?_
  refine Eq.trans (s_ald (y := 219) (pc := 226) (nx := 227) (a := 1) (b := 0) (k := 1) (n := (D (-1) 1)) (t := 0) (v := (D 1 (w32 (x3 + 1)))) rfl (mk_k1 _) rfl rfl rfl (mk_c1 _ _)) (ite_c ?_ rfl)
  refine Eq.trans (s_load (y := 219) (pc := 227) (nx := 228) (a := 3) (b := 0) (x := 1) rfl rfl) ?_
  refine Eq.trans (s_load (y := 219) (pc := 228) (nx := 229) (a := 0) (b := 3) (x := x3) rfl rfl) ?_
  refine Eq.trans (s_push (y := 219) (pc := 229) (nx := 230) (a := 0) (b := 2) rfl) ?_
  refine Eq.trans (s_add (y := 219) (pc := 230) (nx := 231) (b := 0) rfl) ?_
  refine Eq.trans (s_ald (y := 219) (pc := 231) (nx := 232) (a := 1) (b := 0) (k := 1) (n := (D (-1) 1)) (t := 0) (v := (D 1 (w32 (x3 + 2)))) rfl (mk_k1 _) rfl rfl rfl (mk_c1 _ _)) (ite_c ?_ rfl)
  exact s_call (y := 219) (pc := 232) (nx := 235) (a := 96) (b := 0) (as := [(3, 2), (0, (D 1 (w32 (x3 + 1)))), (0, (D 1 (w32 (x3 + 2))))]) (r := []) rfl (Nat.le_of_ble_eq_true rfl) rfl rfl (Nat.le_of_ble_eq_true rfl) (Nat.le_of_ble_eq_true rfl) (Or.inr ⟨rfl, mk_k2 _⟩)
set_option maxRecDepth 100000 in
theorem e_219_235 (D : Mem) (x3 : Int) (s0 : Int) : qE 219 235 [(3, 1), (3, 2), (3, 106), (0, x3)] [(0, s0)] (mk D) = (if 0 ≤ (w32 (x3 + 1)) ∧ (w32 (x3 + 1)) < (D (-1) 1) then (if 0 ≤ (w32 (x3 + 2)) ∧ (w32 (x3 + 2)) < (D (-1) 1) then ((qR 146 [(3, 106), (0, (D 1 (w32 (x3 + 1)))), (0, (D 1 (w32 (x3 + 2))))] (mk D)).bind fun w => qE 219 249 [(3, 1), (3, 2), (3, 106), (0, x3)] (psh w.1 [(0, s0)]) w.2) else none) else none) := by
  refine Eq.trans (s_load (y := 219) (pc := 235) (nx := 236) (a := 3) (b := 2) (x := 106) rfl rfl) ?_
  refine Eq.trans (s_load (y := 219) (pc := 236) (nx := 237) (a := 3) (b := 0) (x := 1) rfl rfl) ?_
  refine Eq.trans (s_load (y := 219) (pc := 237) (nx := 238) (a := 0) (b := 3) (x := x3) rfl rfl) ?_
  refine Eq.trans (s_push (y := 219) (pc := 238) (nx := 239) (a := 0) (b := 1) rfl) ?_
  refine Eq.trans (s_add (y := 219) (pc := 239) (nx := 240) (b := 0) rfl) ?_
  refine Eq.trans (s_ald (y := 219) (pc := 240) (nx := 241) (a := 1) (b := 0) (k := 1) (n := (D (-1) 1)) (t := 0) (v := (D 1 (w32 (x3 + 1)))) rfl (mk_k1 _) rfl rfl rfl (mk_c1 _ _)) (ite_c ?_ rfl)
  refine Eq.trans (s_load (y := 219) (pc := 241) (nx := 242) (a := 3) (b := 0) (x := 1) rfl rfl) ?_
  refine Eq.trans (s_load (y := 219) (pc := 242) (nx := 243) (a := 0) (b := 3) (x := x3) rfl rfl) ?_
  refine Eq.trans (s_push (y := 219) (pc := 243) (nx := 244) (a := 0) (b := 2) rfl) ?_
  refine Eq.trans (s_add (y := 219) (pc := 244) (nx := 245) (b := 0) rfl) ?_
  refine Eq.trans (s_ald (y := 219) (pc := 245) (nx := 246) (a := 1) (b := 0) (k := 1) (n := (D (-1) 1)) (t := 0) (v := (D 1 (w32 (x3 + 2)))) rfl (mk_k1 _) rfl rfl rfl (mk_c1 _ _)) (ite_c ?_ rfl)
  exact s_call (y := 219) (pc := 246) (nx := 249) (a := 146) (b := 0) (as := [(3, 106), (0, (D 1 (w32 (x3 + 1)))), (0, (D 1 (w32 (x3 + 2))))]) (r := [(0, s0)]) rfl (Nat.le_of_ble_eq_true rfl) rfl rfl (Nat.le_of_ble_eq_true rfl) (Nat.le_of_ble_eq_true rfl) (Or.inr ⟨rfl, mk_k106 _⟩)
set_option maxRecDepth 100000 in
theorem e_219_249 (D : Mem) (x3 : Int) (s0 : Int) (s1 : Int) : qE 219 249 [(3, 1), (3, 2), (3, 106), (0, x3)] [(0, s1), (0, s0)] (mk D) = (if s0 = s1 then qE 219 1073 [(3, 1), (3, 2), (3, 106), (0, x3)] [] (mk D) else some ((0, 0), (mk D))) := by
  refine Eq.trans (s_iceq (y := 219) (pc := 249) (nx := 252) (b := 1073) (tg := 1073) rfl rfl) (ite_c ?_ ?_)
  · rfl
  · refine Eq.trans (s_push (y := 219) (pc := 252) (nx := 253) (a := 0) (b := 0) rfl) ?_
    exact s_retz (y := 219) (pc := 253) (nx := 254) rfl (by decide)
set_option maxRecDepth 100000 in
theorem e_219_254 (D : Mem) (x3 : Int) : qE 219 254 [(3, 1), (3, 2), (3, 106), (0, x3)] [] (mk D) = (if 0 ≤ (w32 (x3 + 1)) ∧ (w32 (x3 + 1)) < (D (-1) 1) then (if 0 ≤ (w32 (x3 + 2)) ∧ (w32 (x3 + 2)) < (D (-1) 1) then ((qR 97 [(3, 2), (0, (D 1 (w32 (x3 + 1)))), (0, (D 1 (w32 (x3 + 2))))] (mk D)).bind fun w => qE 219 268 [(3, 1), (3, 2), (3, 106), (0, x3)] (psh w.1 []) w.2) else none) else none) := by
  refine Eq.trans (s_load (y := 219) (pc := 254) (nx := 255) (a := 3) (b := 1) (x := 2) rfl rfl) ?_
  refine Eq.trans (s_load (y := 219) (pc := 255) (nx := 256) (a := 3) (b := 0) (x := 1) rfl rfl) ?_
  refine Eq.trans (s_load (y := 219) (pc := 256) (nx := 257) (a := 0) (b := 3) (x := x3) rfl rfl) ?_
  refine Eq.trans (s_push (y := 219) (pc := 257) (nx := 258) (a := 0) (b := 1) rfl) ?_
  refine Eq.trans (s_add (y := 219) (pc := 258) (nx := 259) (b := 0) rfl) ?_
  refine Eq.trans (s_ald (y := 219) (pc := 259) (nx := 260) (a := 1) (b := 0) (k := 1) (n := (D (-1) 1)) (t := 0) (v := (D 1 (w32 (x3 + 1)))) rfl (mk_k1 _) rfl rfl rfl (mk_c1 _ _)) (ite_c ?_ rfl)
  refine Eq.trans (s_load (y := 219) (pc := 260) (nx := 261) (a := 3) (b := 0) (x := 1) rfl rfl) ?_
  refine Eq.trans (s_load (y := 219) (pc := 261) (nx := 262) (a := 0) (b := 3) (x := x3) rfl rfl) ?_
  refine Eq.trans (s_push (y := 219) (pc := 262) (nx := 263) (a := 0) (b := 2) rfl) ?_
  refine Eq.trans (s_add (y := 219) (pc := 263) (nx := 264) (b := 0) rfl) ?_
  refine Eq.trans (s_ald (y := 219) (pc := 264) (nx := 265) (a := 1) (b := 0) (k := 1) (n := (D (-1) 1)) (t := 0) (v := (D 1 (w32 (x3 + 2)))) rfl (mk_k1 _) rfl rfl rfl (mk_c1 _ _)) (ite_c ?_ rfl)
  exact s_call (y := 219) (pc := 265) (nx := 268) (a := 97) (b := 0) (as := [(3, 2), (0, (D 1 (w32 (x3 + 1)))), (0, (D 1 (w32 (x3 + 2))))]) (r := []) rfl (Nat.le_of_ble_eq_true rfl) rfl rfl (Nat.le_of_ble_eq_true rfl) (Nat.le_of_ble_eq_true rfl) (Or.inr ⟨rfl, mk_k2 _⟩)
set_option maxRecDepth 100000 in
theorem e_219_268 (D : Mem) (x3 : Int) (s0 : Int) : qE 219 268 [(3, 1), (3, 2), (3, 106), (0, x3)] [(0, s0)] (mk D) = (if 0 ≤ (w32 (x3 + 1)) ∧ (w32 (x3 + 1)) < (D (-1) 1) then (if 0 ≤ (w32 (x3 + 2)) ∧ (w32 (x3 + 2)) < (D (-1) 1) then ((qR 147 [(3, 106), (0, (D 1 (w32 (x3 + 1)))), (0, (D 1 (w32 (x3 + 2))))] (mk D)).bind fun w => qE 219 282 [(3, 1), (3, 2), (3, 106), (0, x3)] (psh w.1 [(0, s0)]) w.2) else none) else none) := by
  refine Eq.trans (s_load (y := 219) (pc := 268) (nx := 269) (a := 3) (b := 2) (x := 106) rfl rfl) ?_
  refine Eq.trans (s_load (y := 219) (pc := 269) (nx := 270) (a := 3) (b := 0) (x := 1) rfl rfl) ?_
  refine Eq.trans (s_load (y := 219) (pc := 270) (nx := 271) (a := 0) (b := 3) (x := x3) rfl rfl) ?_
  refine Eq.trans (s_push (y := 219) (pc := 271) (nx := 272) (a := 0) (b := 1) rfl) ?_
  refine Eq.trans (s_add (y := 219) (pc := 272) (nx := 273) (b := 0) rfl) ?_
  refine Eq.trans (s_ald (y := 219) (pc := 273) (nx := 274) (a := 1) (b := 0) (k := 1) (n := (D (-1) 1)) (t := 0) (v := (D 1 (w32 (x3 + 1)))) rfl (mk_k1 _) rfl rfl rfl (mk_c1 _ _)) (ite_c ?_ rfl)
  refine Eq.trans (s_load (y := 219) (pc := 274) (nx := 275) (a := 3) (b := 0) (x := 1) rfl rfl) ?_
  refine Eq.trans (s_load (y := 219) (pc := 275) (nx := 276) (a := 0) (b := 3) (x := x3) rfl rfl) ?_
  refine Eq.trans (s_push (y := 219) (pc := 276) (nx := 277) (a := 0) (b := 2) rfl) ?_
  refine Eq.trans (s_add (y := 219) (pc := 277) (nx := 278) (b := 0) rfl) ?_
  refine Eq.trans (s_ald (y := 219) (pc := 278) (nx := 279) (a := 1) (b := 0) (k := 1) (n := (D (-1) 1)) (t := 0) (v := (D 1 (w32 (x3 + 2)))) rfl (mk_k1 _) rfl rfl rfl (mk_c1 _ _)) (ite_c ?_ rfl)
  exact s_call (y := 219) (pc := 279) (nx := 282) (a := 147) (b := 0) (as := [(3, 106), (0, (D 1 (w32 (x3 + 1)))), (0, (D 1 (w32 (x3 + 2))))]) (r := [(0, s0)]) rfl (Nat.le_of_ble_eq_true rfl) rfl rfl (Nat.le_of_ble_eq_true rfl) (Nat.le_of_ble_eq_true rfl) (Or.inr ⟨rfl, mk_k106 _⟩)
set_option maxRecDepth 100000 in
theorem e_219_282 (D : Mem) (x3 : Int) (s0 : Int) (s1 : Int) : qE 219 282 [(3, 1), (3, 2), (3, 106), (0, x3)] [(0, s1), (0, s0)] (mk D) = (if s0 = s1 then qE 219 1073 [(3, 1), (3, 2), (3, 106), (0, x3)] [] (mk D) else some ((0, 0), (mk D))) := by
  refine Eq.trans (s_iceq (y := 219) (pc := 282) (nx := 285) (b := 1073) (tg := 1073) rfl rfl) (ite_c ?_ ?_)
  · rfl
  · refine Eq.trans (s_push (y := 219) (pc := 285) (nx := 286) (a := 0) (b := 0) rfl) ?_
    exact s_retz (y := 219) (pc := 286) (nx := 287) rfl (by decide)
set_option maxRecDepth 100000 in
theorem e_219_287 (D : Mem) (x3 : Int) : qE 219 287 [(3, 1), (3, 2), (3, 106), (0, x3)] [] (mk D) = (if 0 ≤ (w32 (x3 + 1)) ∧ (w32 (x3 + 1)) < (D (-1) 1) then (if 0 ≤ (w32 (x3 + 2)) ∧ (w32 (x3 + 2)) < (D (-1) 1) then (if 0 ≤ (w32 (x3 + 3)) ∧ (w32 (x3 + 3)) < (D (-1) 1) then (if 0 ≤ (w32 (x3 + 4)) ∧ (w32 (x3 + 4)) < (D (-1) 1) then (if 0 ≤ (w32 (x3 + 5)) ∧ (w32 (x3 + 5)) < (D (-1) 1) then ((qR 98 [(3, 2), (0, (D 1 (w32 (x3 + 1)))), (0, (D 1 (w32 (x3 + 2)))), (0, (D 1 (w32 (x3 + 3)))), (0, (D 1 (w32 (x3 + 4)))), (0, (D 1 (w32 (x3 + 5))))] (mk D)).bind fun w => qE 219 316 [(3, 1), (3, 2), (3, 106), (0, x3)] (psh w.1 []) w.2) else none) else none) else none) else none) else none) := by
  refine Eq.trans (s_load (y := 219) (pc := 287) (nx := 288) (a := 3) (b := 1) (x := 2) rfl rfl) ?_
  refine Eq.trans (s_load (y := 219) (pc := 288) (nx := 289) (a := 3) (b := 0) (x := 1) rfl rfl) ?_
  refine Eq.trans (s_load (y := 219) (pc := 289) (nx := 290) (a := 0) (b := 3) (x := x3) rfl rfl) ?_
  refine Eq.trans (s_push (y := 219) (pc := 290) (nx := 291) (a := 0) (b := 1) rfl) ?_
  refine Eq.trans (s_add (y := 219) (pc := 291) (nx := 292) (b := 0) rfl) ?_
  refine Eq.trans (s_ald (y := 219) (pc := 292) (nx := 293) (a := 1) (b := 0) (k := 1) (n := (D (-1) 1)) (t := 0) (v := (D 1 (w32 (x3 + 1)))) rfl (mk_k1 _) rfl rfl rfl (mk_c1 _ _)) (ite_c ?_ rfl)
  refine Eq.trans (s_load (y := 219) (pc := 293) (nx := 294) (a := 3) (b := 0) (x := 1) rfl rfl) ?_
  refine Eq.trans (s_load (y := 219) (pc := 294) (nx := 295) (a := 0) (b := 3) (x := x3) rfl rfl) ?_
  refine Eq.trans (s_push (y := 219) (pc := 295) (nx := 296) (a := 0) (b := 2) rfl) ?_
  refine Eq.trans (s_add (y := 219) (pc := 296) (nx := 297) (b := 0) rfl) ?_
  refine Eq.trans (s_ald (y := 219) (pc := 297) (nx := 298) (a := 1) (b := 0) (k := 1) (n := (D (-1) 1)) (t := 0) (v := (D 1 (w32 (x3 + 2)))) rfl (mk_k1 _) rfl rfl rfl (mk_c1 _ _)) (ite_c ?_ rfl)
  refine Eq.trans (s_load (y := 219) (pc := 298) (nx := 299) (a := 3) (b := 0) (x := 1) rfl rfl) ?_
  refine Eq.trans (s_load (y := 219) (pc := 299) (nx := 300) (a := 0) (b := 3) (x := x3) rfl rfl) ?_
  refine Eq.trans (s_push (y := 219) (pc := 300) (nx := 301) (a := 0) (b := 3) rfl) ?_
  refine Eq.trans (s_add (y := 219) (pc := 301) (nx := 302) (b := 0) rfl) ?_
  refine Eq.trans (s_ald (y := 219) (pc := 302) (nx := 303) (a := 1) (b := 0) (k := 1) (n := (D (-1) 1)) (t := 0) (v := (D 1 (w32 (x3 + 3)))) rfl (mk_k1 _) rfl rfl rfl (mk_c1 _ _)) (ite_c ?_ rfl)
  refine Eq.trans (s_load (y := 219) (pc := 303) (nx := 304) (a := 3) (b := 0) (x := 1) rfl rfl) ?_
  refine Eq.trans (s_load (y := 219) (pc := 304) (nx := 305) (a := 0) (b := 3) (x := x3) rfl rfl) ?_
  refine Eq.trans (s_push (y := 219) (pc := 305) (nx := 306) (a := 0) (b := 4) rfl) ?_
  refine Eq.trans (s_add (y := 219) (pc := 306) (nx := 307) (b := 0) rfl) ?_
  refine Eq.trans (s_ald (y := 219) (pc := 307) (nx := 308) (a := 1) (b := 0) (k := 1) (n := (D (-1) 1)) (t := 0) (v := (D 1 (w32 (x3 + 4)))) rfl (mk_k1 _) rfl rfl rfl (mk_c1 _ _)) (ite_c ?_ rfl)
  refine Eq.trans (s_load (y := 219) (pc := 308) (nx := 309) (a := 3) (b := 0) (x := 1) rfl rfl) ?_
  refine Eq.trans (s_load (y := 219) (pc := 309) (nx := 310) (a := 0) (b := 3) (x := x3) rfl rfl) ?_
  refine Eq.trans (s_push (y := 219) (pc := 310) (nx := 311) (a := 0) (b := 5) rfl) ?_
  refine Eq.trans (s_add (y := 219) (pc := 311) (nx := 312) (b := 0) rfl) ?_
  refine Eq.trans (s_ald (y := 219) (pc := 312) (nx := 313) (a := 1) (b := 0) (k := 1) (n := (D (-1) 1)) (t := 0) (v := (D 1 (w32 (x3 + 5)))) rfl (mk_k1 _) rfl rfl rfl (mk_c1 _ _)) (ite_c ?_ rfl)
  exact s_call (y := 219) (pc := 313) (nx := 316) (a := 98) (b := 0) (as := [(3, 2), (0, (D 1 (w32 (x3 + 1)))), (0, (D 1 (w32 (x3 + 2)))), (0, (D 1 (w32 (x3 + 3)))), (0, (D 1 (w32 (x3 + 4)))), (0, (D 1 (w32 (x3 + 5))))]) (r := []) rfl (Nat.le_of_ble_eq_true rfl) rfl rfl (Nat.le_of_ble_eq_true rfl) (Nat.le_of_ble_eq_true rfl) (Or.inr ⟨rfl, mk_k2 _⟩)
set_option maxRecDepth 100000 in
theorem e_219_316 (D : Mem) (x3 : Int) (s0 : Int) : qE 219 316 [(3, 1), (3, 2), (3, 106), (0, x3)] [(0, s0)] (mk D) = (if 0 ≤ (w32 (x3 + 1)) ∧ (w32 (x3 + 1)) < (D (-1) 1) then (if 0 ≤ (w32 (x3 + 2)) ∧ (w32 (x3 + 2)) < (D (-1) 1) then (if 0 ≤ (w32 (x3 + 3)) ∧ (w32 (x3 + 3)) < (D (-1) 1) then (if 0 ≤ (w32 (x3 + 4)) ∧ (w32 (x3 + 4)) < (D (-1) 1) then (if 0 ≤ (w32 (x3 + 5)) ∧ (w32 (x3 + 5)) < (D (-1) 1) then ((qR 148 [(3, 106), (0, (D 1 (w32 (x3 + 1)))), (0, (D 1 (w32 (x3 + 2)))), (0, (D 1 (w32 (x3 + 3)))), (0, (D 1 (w32 (x3 + 4)))), (0, (D 1 (w32 (x3 + 5))))] (mk D)).bind fun w => qE 219 345 [(3, 1), (3, 2), (3, 106), (0, x3)] (psh w.1 [(0, s0)]) w.2) else none) else none) else none) else none) else none) := by
  refine Eq.trans (s_load (y := 219) (pc := 316) (nx := 317) (a := 3) (b := 2) (x := 106) rfl rfl) ?_
  refine Eq.trans (s_load (y := 219) (pc := 317) (nx := 318) (a := 3) (b := 0) (x := 1) rfl rfl) ?_
  refine Eq.trans (s_load (y := 219) (pc := 318) (nx := 319) (a := 0) (b := 3) (x := x3) rfl rfl) ?_
  refine Eq.trans (s_push (y := 219) (pc := 319) (nx := 320) (a := 0) (b := 1) rfl) ?_
  refine Eq.trans (s_add (y := 219) (pc := 320) (nx := 321) (b := 0) rfl) ?_
  refine Eq.trans (s_ald (y := 219) (pc := 321) (nx := 322) (a := 1) (b := 0) (k := 1) (n := (D (-1) 1)) (t := 0) (v := (D 1 (w32 (x3 + 1)))) rfl (mk_k1 _) rfl rfl rfl (mk_c1 _ _)) (ite_c ?_ rfl)
  refine Eq.trans (s_load (y := 219) (pc := 322) (nx := 323) (a := 3) (b := 0) (x := 1) rfl rfl) ?_
  refine Eq.trans (s_load (y := 219) (pc := 323) (nx := 324) (a := 0) (b := 3) (x := x3) rfl rfl) ?_
  refine Eq.trans (s_push (y := 219) (pc := 324) (nx := 325) (a := 0) (b := 2) rfl) ?_
  refine Eq.trans (s_add (y := 219) (pc := 325) (nx := 326) (b := 0) rfl) ?_
  refine Eq.trans (s_ald (y := 219) (pc := 326) (nx := 327) (a := 1) (b := 0) (k := 1) (n := (D (-1) 1)) (t := 0) (v := (D 1 (w32 (x3 + 2)))) rfl (mk_k1 _) rfl rfl rfl (mk_c1 _ _)) (ite_c ?_ rfl)
  refine Eq.trans (s_load (y := 219) (pc := 327) (nx := 328) (a := 3) (b := 0) (x := 1) rfl rfl) ?_
  refine Eq.trans (s_load (y := 219) (pc := 328) (nx := 329) (a := 0) (b := 3) (x := x3) rfl rfl) ?_
  refine Eq.trans (s_push (y := 219) (pc := 329) (nx := 330) (a := 0) (b := 3) rfl) ?_
  refine Eq.trans (s_add (y := 219) (pc := 330) (nx := 331) (b := 0) rfl) ?_
  refine Eq.trans (s_ald (y := 219) (pc := 331) (nx := 332) (a := 1) (b := 0) (k := 1) (n := (D (-1) 1)) (t := 0) (v := (D 1 (w32 (x3 + 3)))) rfl (mk_k1 _) rfl rfl rfl (mk_c1 _ _)) (ite_c ?_ rfl)
  refine Eq.trans (s_load (y := 219) (pc := 332) (nx := 333) (a := 3) (b := 0) (x := 1) rfl rfl) ?_
  refine Eq.trans (s_load (y := 219) (pc := 333) (nx := 334) (a := 0) (b := 3) (x := x3) rfl rfl) ?_
  refine Eq.trans (s_push (y := 219) (pc := 334) (nx := 335) (a := 0) (b := 4) rfl) ?_
  refine Eq.trans (s_add (y := 219) (pc := 335) (nx := 336) (b := 0) rfl) ?_
  refine Eq.trans (s_ald (y := 219) (pc := 336) (nx := 337) (a := 1) (b := 0) (k := 1) (n := (D (-1) 1)) (t := 0) (v := (D 1 (w32 (x3 + 4)))) rfl (mk_k1 _) rfl rfl rfl (mk_c1 _ _)) (ite_c ?_ rfl)
  refine Eq.trans (s_load (y := 219) (pc := 337) (nx := 338) (a := 3) (b := 0) (x := 1) rfl rfl) ?_
  refine Eq.trans (s_load (y := 219) (pc := 338) (nx := 339) (a := 0) (b := 3) (x := x3) rfl rfl) ?_
  refine Eq.trans (s_push (y := 219) (pc := 339) (nx := 340) (a := 0) (b := 5) rfl) ?_
  refine Eq.trans (s_add (y := 219) (pc := 340) (nx := 341) (b := 0) rfl) ?_
  refine Eq.trans (s_ald (y := 219) (pc := 341) (nx := 342) (a := 1) (b := 0) (k := 1) (n := (D (-1) 1)) (t := 0) (v := (D 1 (w32 (x3 + 5)))) rfl (mk_k1 _) rfl rfl rfl (mk_c1 _ _)) (ite_c ?_ rfl)
  exact s_call (y := 219) (pc := 342) (nx := 345) (a := 148) (b := 0) (as := [(3, 106), (0, (D 1 (w32 (x3 + 1)))), (0, (D 1 (w32 (x3 + 2)))), (0, (D 1 (w32 (x3 + 3)))), (0, (D 1 (w32 (x3 + 4)))), (0, (D 1 (w32 (x3 + 5))))]) (r := [(0, s0)]) rfl (Nat.le_of_ble_eq_true rfl) rfl rfl (Nat.le_of_ble_eq_true rfl) (Nat.le_of_ble_eq_true rfl) (Or.inr ⟨rfl, mk_k106 _⟩)
set_option maxRecDepth 100000 in
theorem e_219_345 (D : Mem) (x3 : Int) (s0 : Int) (s1 : Int) : qE 219 345 [(3, 1), (3, 2), (3, 106), (0, x3)] [(0, s1), (0, s0)] (mk D) = (if s0 = s1 then qE 219 1073 [(3, 1), (3, 2), (3, 106), (0, x3)] [] (mk D) else some ((0, 0), (mk D))) := by
  refine Eq.trans (s_iceq (y := 219) (pc := 345) (nx := 348) (b := 1073) (tg := 1073) rfl rfl) (ite_c ?_ ?_)
  · rfl
  · refine Eq.trans (s_push (y := 219) (pc := 348) (nx := 349) (a := 0) (b := 0) rfl) ?_
    exact s_retz (y := 219) (pc := 349) (nx := 350) rfl (by decide)
set_option maxRecDepth 100000 in
theorem e_219_350 (D : Mem) (x3 : Int) : qE 219 350 [(3, 1), (3, 2), (3, 106), (0, x3)] [] (mk D) = ((qR 99 [(3, 2)] (mk D)).bind fun w => qE 219 354 [(3, 1), (3, 2), (3, 106), (0, x3)] (psh w.1 []) w.2) := by
  refine Eq.trans (s_load (y := 219) (pc := 350) (nx := 351) (a := 3) (b := 1) (x := 2) rfl rfl) ?_
  exact s_call (y := 219) (pc := 351) (nx := 354) (a := 99) (b := 0) (as := [(3, 2)]) (r := []) rfl (Nat.le_of_ble_eq_true rfl) rfl rfl (Nat.le_of_ble_eq_true rfl) (Nat.le_of_ble_eq_true rfl) (Or.inr ⟨rfl, mk_k2 _⟩)
set_option maxRecDepth 100000 in
theorem e_219_354 (D : Mem) (x3 : Int) (s0 : Int) : qE 219 354 [(3, 1), (3, 2), (3, 106), (0, x3)] [(0, s0)] (mk D) = ((qR 149 [(3, 106)] (mk D)).bind fun w => qE 219 358 [(3, 1), (3, 2), (3, 106), (0, x3)] (psh w.1 [(0, s0)]) w.2) := by
  refine Eq.trans (s_load (y := 219) (pc := 354) (nx := 355) (a := 3) (b := 2) (x := 106) rfl rfl) ?_
  exact s_call (y := 219) (pc := 355) (nx := 358) (a := 149) (b := 0) (as := [(3, 106)]) (r := [(0, s0)]) rfl (Nat.le_of_ble_eq_true rfl) rfl rfl (Nat.le_of_ble_eq_true rfl) (Nat.le_of_ble_eq_true rfl) (Or.inr ⟨rfl, mk_k106 _⟩)
set_option maxRecDepth 100000 in
theorem e_219_358 (D : Mem) (x3 : Int) (s0 : Int) (s1 : Int) : qE 219 358 [(3, 1), (3, 2), (3, 106), (0, x3)] [(0, s1), (0, s0)] (mk D) = (if s0 = s1 then qE 219 1073 [(3, 1), (3, 2), (3, 106), (0, x3)] [] (mk D) else some ((0, 0), (mk D))) := by
  refine Eq.trans (s_iceq (y := 219) (pc := 358) (nx := 361) (b := 1073) (tg := 1073) rfl rfl) (ite_c ?_ ?_)
  · rfl
  · refine Eq.trans (s_push (y := 219) (pc := 361) (nx := 362) (a := 0) (b := 0) rfl) ?_
    exact s_retz (y := 219) (pc := 362) (nx := 363) rfl (by decide)
set_option maxRecDepth 100000 in
theorem e_219_363 (D : Mem) (x3 : Int) : qE 219 363 [(3, 1), (3, 2), (3, 106), (0, x3)] [] (mk D) = (if 0 ≤ (w32 (x3 + 1)) ∧ (w32 (x3 + 1)) < (D (-1) 1) then ((qR 100 [(3, 2), (0, (D 1 (w32 (x3 + 1))))] (mk D)).bind fun w => qE 219 372 [(3, 1), (3, 2), (3, 106), (0, x3)] (psh w.1 []) w.2) else none) := by
  refine Eq.trans (s_load (y := 219) (pc := 363) (nx := 364) (a := 3) (b := 1) (x := 2) rfl rfl) ?_
  refine Eq.trans (s_load (y := 219) (pc := 364) (nx := 365) (a := 3) (b := 0) (x := 1) rfl rfl) ?_
  refine Eq.trans (s_load (y := 219) (pc := 365) (nx := 366) (a := 0) (b := 3) (x := x3) rfl rfl) ?_
  refine Eq.trans (s_push (y := 219) (pc := 366) (nx := 367) (a := 0) (b := 1) rfl) ?_
  refine Eq.trans (s_add (y := 219) (pc := 367) (nx := 368) (b := 0) rfl) ?_
  refine Eq.trans (s_ald (y := 219) (pc := 368) (nx := 369) (a := 1) (b := 0) (k := 1) (n := (D (-1) 1)) (t := 0) (v := (D 1 (w32 (x3 + 1)))) rfl (mk_k1 _) rfl rfl rfl (mk_c1 _ _)) (ite_c ?_ rfl)
  exact s_call (y := 219) (pc := 369) (nx := 372) (a := 100) (b := 0) (as := [(3, 2), (0, (D 1 (w32 (x3 + 1))))]) (r := []) rfl (Nat.le_of_ble_eq_true rfl) rfl rfl (Nat.le_of_ble_eq_true rfl) (Nat.le_of_ble_eq_true rfl) (Or.inr ⟨rfl, mk_k2 _⟩)
set_option maxRecDepth 100000 in
theorem e_219_372 (D : Mem) (x3 : Int) (s0 : Int) : qE 219 372 [(3, 1), (3, 2), (3, 106), (0, x3)] [(0, s0)] (mk D) = (if 0 ≤ (w32 (x3 + 1)) ∧ (w32 (x3 + 1)) < (D (-1) 1) then ((qR 154 [(3, 106), (0, (D 1 (w32 (x3 + 1))))] (mk D)).bind fun w => qE 219 381 [(3, 1), (3, 2), (3, 106), (0, x3)] (psh w.1 [(0, s0)]) w.2) else none) := by
  refine Eq.trans (s_load (y := 219) (pc := 372) (nx := 373) (a := 3) (b := 2) (x := 106) rfl rfl) ?_
  refine Eq.trans (s_load (y := 219) (pc := 373) (nx := 374) (a := 3) (b := 0) (x := 1) rfl rfl) ?_
  refine Eq.trans (s_load (y := 219) (pc := 374) (nx := 375) (a := 0) (b := 3) (x := x3) rfl rfl) ?_
  refine Eq.trans (s_push (y := 219) (pc := 375) (nx := 376) (a := 0) (b := 1) rfl) ?_
  refine Eq.trans (s_add (y := 219) (pc := 376) (nx := 377) (b := 0) rfl) ?_
  refine Eq.trans (s_ald (y := 219) (pc := 377) (nx := 378) (a := 1) (b := 0) (k := 1) (n := (D (-1) 1)) (t := 0) (v := (D 1 (w32 (x3 + 1)))) rfl (mk_k1 _) rfl rfl rfl (mk_c1 _ _)) (ite_c ?_ rfl)
  exact s_call (y := 219) (pc := 378) (nx := 381) (a := 154) (b := 0) (as := [(3, 106), (0, (D 1 (w32 (x3 + 1))))]) (r := [(0, s0)]) rfl (Nat.le_of_ble_eq_true rfl) rfl rfl (Nat.le_of_ble_eq_true rfl) (Nat.le_of_ble_eq_true rfl) (Or.inr ⟨rfl, mk_k106 _⟩)
set_option maxRecDepth 100000 in
theorem e_219_381 (D : Mem) (x3 : Int) (s0 : Int) (s1 : Int) : qE 219 381 [(3, 1), (3, 2), (3, 106), (0, x3)] [(0, s1), (0, s0)] (mk D) = (if s0 = s1 then qE 219 1073 [(3, 1), (3, 2), (3, 106), (0, x3)] [] (mk D) else some ((0, 0), (mk D))) := by
  refine Eq.trans (s_iceq (y := 219) (pc := 381) (nx := 384) (b := 1073) (tg := 1073) rfl rfl) (ite_c ?_ ?_)
  · rfl
  · refine Eq.trans (s_push (y := 219) (pc := 384) (nx := 385) (a := 0) (b := 0) rfl) ?_
    exact s_retz (y := 219) (pc := 385) (nx := 386) rfl (by decide)
set_option maxRecDepth 100000 in
theorem e_219_386 (D : Mem) (x3 : Int) : qE 219 386 [(3, 1), (3, 2), (3, 106), (0, x3)] [] (mk D) = (if 0 ≤ (w32 (x3 + 1)) ∧ (w32 (x3 + 1)) < (D (-1) 1) then ((qR 101 [(3, 2), (0, (D 1 (w32 (x3 + 1))))] (mk D)).bind fun w => qE 219 395 [(3, 1), (3, 2), (3, 106), (0, x3)] (psh w.1 []) w.2) else none) := by
  refine Eq.trans (s_load (y := 219) (pc := 386) (nx := 387) (a := 3) (b := 1) (x := 2) rfl rfl) ?_
  refine Eq.trans (s_load (y := 219) (pc := 387) (nx := 388) (a := 3) (b := 0) (x := 1) rfl rfl) ?_
  refine Eq.trans (s_load (y := 219) (pc := 388) (nx := 389) (a := 0) (b := 3) (x := x3) rfl rfl) ?_
  refine Eq.trans (s_push (y := 219) (pc := 389) (nx := 390) (a := 0) (b := 1) rfl) ?_
  refine Eq.trans (s_add (y := 219) (pc := 390) (nx := 391) (b := 0) rfl) ?_
  refine Eq.trans (s_ald (y := 219) (pc := 391) (nx := 392) (a := 1) (b := 0) (k := 1) (n := (D (-1) 1)) (t := 0) (v := (D 1 (w32 (x3 + 1)))) rfl (mk_k1 _) rfl rfl rfl (mk_c1 _ _)) (ite_c ?_ rfl)
  exact s_call (y := 219) (pc := 392) (nx := 395) (a := 101) (b := 0) (as := [(3, 2), (0, (D 1 (w32 (x3 + 1))))]) (r := []) rfl (Nat.le_of_ble_eq_true rfl) rfl rfl (Nat.le_of_ble_eq_true rfl) (Nat.le_of_ble_eq_true rfl) (Or.inr ⟨rfl, mk_k2 _⟩)
set_option maxRecDepth 100000 in
theorem e_219_395 (D : Mem) (x3 : Int) (s0 : Int) : qE 219 395 [(3, 1), (3, 2), (3, 106), (0, x3)] [(0, s0)] (mk D) = (if 0 ≤ (w32 (x3 + 1)) ∧ (w32 (x3 + 1)) < (D (-1) 1) then ((qR 155 [(3, 106), (0, (D 1 (w32 (x3 + 1))))] (mk D)).bind fun w => qE 219 404 [(3, 1), (3, 2), (3, 106), (0, x3)] (psh w.1 [(0, s0)]) w.2) else none) := by
  refine Eq.trans (s_load (y := 219) (pc := 395) (nx := 396) (a := 3) (b := 2) (x := 106) rfl rfl) ?_
  refine Eq.trans (s_load (y := 219) (pc := 396) (nx := 397) (a := 3) (b := 0) (x := 1) rfl rfl) ?_
  refine Eq.trans (s_load (y := 219) (pc := 397) (nx := 398) (a := 0) (b := 3) (x := x3) rfl rfl) ?_
  refine Eq.trans (s_push (y := 219) (pc := 398) (nx := 399) (a := 0) (b := 1) rfl) ?_
  refine Eq.trans (s_add (y := 219) (pc := 399) (nx := 400) (b := 0) rfl) ?_
  refine Eq.trans (s_ald (y := 219) (pc := 400) (nx := 401) (a := 1) (b := 0) (k := 1) (n := (D (-1) 1)) (t := 0) (v := (D 1 (w32 (x3 + 1)))) rfl (mk_k1 _) rfl rfl rfl (mk_c1 _ _)) (ite_c ?_ rfl)
  exact s_call (y := 219) (pc := 401) (nx := 404) (a := 155) (b := 0) (as := [(3, 106), (0, (D 1 (w32 (x3 + 1))))]) (r := [(0, s0)]) rfl (Nat.le_of_ble_eq_true rfl) rfl rfl (Nat.le_of_ble_eq_true rfl) (Nat.le_of_ble_eq_true rfl) (Or.inr ⟨rfl, mk_k106 _⟩)
set_option maxRecDepth 100000 in
theorem e_219_404 (D : Mem) (x3 : Int) (s0 : Int) (s1 : Int) : qE 219 404 [(3, 1), (3, 2), (3, 106), (0, x3)] [(0, s1), (0, s0)] (mk D) = (if s0 = s1 then qE 219 1073 [(3, 1), (3, 2), (3, 106), (0, x3)] [] (mk D) else some ((0, 0), (mk D))) := by
  refine Eq.trans (s_iceq (y := 219) (pc := 404) (nx := 407) (b := 1073) (tg := 1073) rfl rfl) (ite_c ?_ ?_)
  · rfl
  · refine Eq.trans (s_push (y := 219) (pc := 407) (nx := 408) (a := 0) (b := 0) rfl) ?_
    exact s_retz (y := 219) (pc := 408) (nx := 409) rfl (by decide)
set_option maxRecDepth 100000 in
theorem e_219_409 (D : Mem) (x3 : Int) : qE 219 409 [(3, 1), (3, 2), (3, 106), (0, x3)] [] (mk D) = (if 0 ≤ (w32 (x3 + 1)) ∧ (w32 (x3 + 1)) < (D (-1) 1) then (if 0 ≤ (w32 (x3 + 2)) ∧ (w32 (x3 + 2)) < (D (-1) 1) then ((qR 102 [(3, 2), (0, (D 1 (w32 (x3 + 1)))), (0, (D 1 (w32 (x3 + 2))))] (mk D)).bind fun w => qE 219 423 [(3, 1), (3, 2), (3, 106), (0, x3)] (psh w.1 []) w.2) else none) else none) := by
  refine Eq.trans (s_load (y := 219) (pc := 409) (nx := 410) (a := 3) (b := 1) (x := 2) rfl rfl) ?_
  refine Eq.trans (s_load (y := 219) (pc := 410) (nx := 411) (a := 3) (b := 0) (x := 1) rfl rfl) ?_
  refine Eq.trans (s_load (y := 219) (pc := 411) (nx := 412) (a := 0) (b := 3) (x := x3) rfl rfl) ?_
  refine Eq.trans (s_push (y := 219) (pc := 412) (nx := 413) (a := 0) (b := 1) rfl) ?_
  refine Eq.trans (s_add (y := 219) (pc := 413) (nx := 414) (b := 0) rfl) ?_
  refine Eq.trans (s_ald (y := 219) (pc := 414) (nx := 415) (a := 1) (b := 0) (k := 1) (n := (D (-1) 1)) (t := 0) (v := (D 1 (w32 (x3 + 1)))) rfl (mk_k1 _) rfl rfl rfl (mk_c1 _ _)) (ite_c ?_ rfl)
  refine Eq.trans (s_load (y := 219) (pc := 415) (nx := 416) (a := 3) (b := 0) (x := 1) rfl rfl) ?_
  refine Eq.trans (s_load (y := 219) (pc := 416) (nx := 417) (a := 0) (b := 3) (x := x3) rfl rfl) ?_
  refine Eq.trans (s_push (y := 219) (pc := 417) (nx := 418) (a := 0) (b := 2) rfl) ?_
  refine Eq.trans (s_add (y := 219) (pc := 418) (nx := 419) (b := 0) rfl) ?_
  refine Eq.trans (s_ald (y := 219) (pc := 419) (nx := 420) (a := 1) (b := 0) (k := 1) (n := (D (-1) 1)) (t := 0) (v := (D 1 (w32 (x3 + 2)))) rfl (mk_k1 _) rfl rfl rfl (mk_c1 _ _)) (ite_c ?_ rfl)
  exact s_call (y := 219) (pc := 420) (nx := 423) (a := 102) (b := 0) (as := [(3, 2), (0, (D 1 (w32 (x3 + 1)))), (0, (D 1 (w32 (x3 + 2))))]) (r := []) rfl (Nat.le_of_ble_eq_true rfl) rfl rfl (Nat.le_of_ble_eq_true rfl) (Nat.le_of_ble_eq_true rfl) (Or.inr ⟨rfl, mk_k2 _⟩)
set_option maxRecDepth 100000 in
theorem e_219_423 (D : Mem) (x3 : Int) (s0 : Int) : qE 219 423 [(3, 1), (3, 2), (3, 106), (0, x3)] [(0, s0)] (mk D) = (if 0 ≤ (w32 (x3 + 1)) ∧ (w32 (x3 + 1)) < (D (-1) 1) then (if 0 ≤ (w32 (x3 + 2)) ∧ (w32 (x3 + 2)) < (D (-1) 1) then ((qR 156 [(3, 106), (0, (D 1 (w32 (x3 + 1)))), (0, (D 1 (w32 (x3 + 2))))] (mk D)).bind fun w => qE 219 437 [(3, 1), (3, 2), (3, 106), (0, x3)] (psh w.1 [(0, s0)]) w.2) else none) else none) := by
  refine Eq.trans (s_load (y := 219) (pc := 423) (nx := 424) (a := 3) (b := 2) (x := 106) rfl rfl) ?_
  refine Eq.trans (s_load (y := 219) (pc := 424) (nx := 425) (a := 3) (b := 0) (x := 1) rfl rfl) ?_
  refine Eq.trans (s_load (y := 219) (pc := 425) (nx := 426) (a := 0) (b := 3) (x := x3) rfl rfl) ?_
  refine Eq.trans (s_push (y := 219) (pc := 426) (nx := 427) (a := 0) (b := 1) rfl) ?_
  refine Eq.trans (s_add (y := 219) (pc := 427) (nx := 428) (b := 0) rfl) ?_
  refine Eq.trans (s_ald (y := 219) (pc := 428) (nx := 429) (a := 1) (b := 0) (k := 1) (n := (D (-1) 1)) (t := 0) (v := (D 1 (w32 (x3 + 1)))) rfl (mk_k1 _) rfl rfl rfl (mk_c1 _ _)) (ite_c ?_ rfl)
  refine Eq.trans (s_load (y := 219) (pc := 429) (nx := 430) (a := 3) (b := 0) (x := 1) rfl rfl) ?_
  refine Eq.trans (s_load (y := 219) (pc := 430) (nx := 431) (a := 0) (b := 3) (x := x3) rfl rfl) ?_
  refine Eq.trans (s_push (y := 219) (pc := 431) (nx := 432) (a := 0) (b := 2) rfl) ?_
  refine Eq.trans (s_add (y := 219) (pc := 432) (nx := 433) (b := 0) rfl) ?_
  refine Eq.trans (s_ald (y := 219) (pc := 433) (nx := 434) (a := 1) (b := 0) (k := 1) (n := (D (-1) 1)) (t := 0) (v := (D 1 (w32 (x3 + 2)))) rfl (mk_k1 _) rfl rfl rfl (mk_c1 _ _)) (ite_c ?_ rfl)
  exact s_call (y := 219) (pc := 434) (nx := 437) (a := 156) (b := 0) (as := [(3, 106), (0, (D 1 (w32 (x3 + 1)))), (0, (D 1 (w32 (x3 + 2))))]) (r := [(0, s0)]) rfl (Nat.le_of_ble_eq_true rfl) rfl rfl (Nat.le_of_ble_eq_true rfl) (Nat.le_of_ble_eq_true rfl) (Or.inr ⟨rfl, mk_k106 _⟩)
set_option maxRecDepth 100000 in
theorem e_219_437 (D : Mem) (x3 : Int) (s0 : Int) (s1 : Int) : qE 219 437 [(3, 1), (3, 2), (3, 106), (0, x3)] [(0, s1), (0, s0)] (mk D) = (if s0 = s1 then qE 219 1073 [(3, 1), (3, 2), (3, 106), (0, x3)] [] (mk D) else some ((0, 0), (mk D))) := by
  refine Eq.trans (s_iceq (y := 219) (pc := 437) (nx := 440) (b := 1073) (tg := 1073) rfl rfl) (ite_c ?_ ?_)
  · rfl
  · refine Eq.trans (s_push (y := 219) (pc := 440) (nx := 441) (a := 0) (b := 0) rfl) ?_
    exact s_retz (y := 219) (pc := 441) (nx := 442) rfl (by decide)
set_option maxRecDepth 100000 in
theorem e_219_442 (D : Mem) (x3 : Int) : qE 219 442 [(3, 1), (3, 2), (3, 106), (0, x3)] [] (mk D) = (if 0 ≤ (w32 (x3 + 1)) ∧ (w32 (x3 + 1)) < (D (-1) 1) then (if 0 ≤ (w32 (x3 + 2)) ∧ (w32 (x3 + 2)) < (D (-1) 1) then (if 0 ≤ (w32 (x3 + 3)) ∧ (w32 (x3 + 3)) < (D (-1) 1) then ((qR 103 [(3, 2), (0, (D 1 (w32 (x3 + 1)))), (0, (D 1 (w32 (x3 + 2)))), (0, (D 1 (w32 (x3 + 3))))] (mk D)).bind fun w => qE 219 461 [(3, 1), (3, 2), (3, 106), (0, x3)] (psh w.1 []) w.2) else none) else none) else none) := by
  refine Eq.trans (s_load (y := 219) (pc := 442) (nx := 443) (a := 3) (b := 1) (x := 2) rfl rfl) ?_
  refine Eq.trans (s_load (y := 219) (pc := 443) (nx := 444) (a := 3) (b := 0) (x := 1) rfl rfl) ?_
  refine Eq.trans (s_load (y := 219) (pc := 444) (nx := 445) (a := 0) (b := 3) (x := x3) rfl rfl) ?_
  refine Eq.trans (s_push (y := 219) (pc := 445) (nx := 446) (a := 0) (b := 1) rfl) ?_
  refine Eq.trans (s_add (y := 219) (pc := 446) (nx := 447) (b := 0) rfl) ?_
  refine Eq.trans (s_ald (y := 219) (pc := 447) (nx := 448) (a := 1) (b := 0) (k := 1) (n := (D (-1) 1)) (t := 0) (v := (D 1 (w32 (x3 + 1)))) rfl (mk_k1 _) rfl rfl rfl (mk_c1 _ _)) (ite_c ?_ rfl)
  refine Eq.trans (s_load (y := 219) (pc := 448) (nx := 449) (a := 3) (b := 0) (x := 1) rfl rfl) ?_
  refine Eq.trans (s_load (y := 219) (pc := 449) (nx := 450) (a := 0) (b := 3) (x := x3) rfl rfl) ?_
  refine Eq.trans (s_push (y := 219) (pc := 450) (nx := 451) (a := 0) (b := 2) rfl) ?_
  refine Eq.trans (s_add (y := 219) (pc := 451) (nx := 452) (b := 0) rfl) ?_
  refine Eq.trans (s_ald (y := 219) (pc := 452) (nx := 453) (a := 1) (b := 0) (k := 1) (n := (D (-1) 1)) (t := 0) (v := (D 1 (w32 (x3 + 2)))) rfl (mk_k1 _) rfl rfl rfl (mk_c1 _ _)) (ite_c ?_ rfl)
  refine Eq.trans (s_load (y := 219) (pc := 453) (nx := 454) (a := 3) (b := 0) (x := 1) rfl rfl) ?_
  refine Eq.trans (s_load (y := 219) (pc := 454) (nx := 455) (a := 0) (b := 3) (x := x3) rfl rfl) ?_
  refine Eq.trans (s_push (y := 219) (pc := 455) (nx := 456) (a := 0) (b := 3) rfl) ?_
  refine Eq.trans (s_add (y := 219) (pc := 456) (nx := 457) (b := 0) rfl) ?_
  refine Eq.trans (s_ald (y := 219) (pc := 457) (nx := 458) (a := 1) (b := 0) (k := 1) (n := (D (-1) 1)) (t := 0) (v := (D 1 (w32 (x3 + 3)))) rfl (mk_k1 _) rfl rfl rfl (mk_c1 _ _)) (ite_c ?_ rfl)
  exact s_call (y := 219) (pc := 458) (nx := 461) (a := 103) (b := 0) (as := [(3, 2), (0, (D 1 (w32 (x3 + 1)))), (0, (D 1 (w32 (x3 + 2)))), (0, (D 1 (w32 (x3 + 3))))]) (r := []) rfl (Nat.le_of_ble_eq_true rfl) rfl rfl (Nat.le_of_ble_eq_true rfl) (Nat.le_of_ble_eq_true rfl) (Or.inr ⟨rfl, mk_k2 _⟩)
set_option maxRecDepth 100000 in
theorem e_219_461 (D : Mem) (x3 : Int) (s0 : Int) : qE 219 461 [(3, 1), (3, 2), (3, 106), (0, x3)] [(0, s0)] (mk D) = (if 0 ≤ (w32 (x3 + 1)) ∧ (w32 (x3 + 1)) < (D (-1) 1) then (if 0 ≤ (w32 (x3 + 2)) ∧ (w32 (x3 + 2)) < (D (-1) 1) then (if 0 ≤ (w32 (x3 + 3)) ∧ (w32 (x3 + 3)) < (D (-1) 1) then ((qR 158 [(3, 106), (0, (D 1 (w32 (x3 + 1)))), (0, (D 1 (w32 (x3 + 2)))), (0, (D 1 (w32 (x3 + 3))))] (mk D)).bind fun w => qE 219 480 [(3, 1), (3, 2), (3, 106), (0, x3)] (psh w.1 [(0, s0)]) w.2) else none) else none) else none) := by
  refine Eq.trans (s_load (y := 219) (pc := 461) (nx := 462) (a := 3) (b := 2) (x := 106) rfl rfl) ?_
  refine Eq.trans (s_load (y := 219) (pc := 462) (nx := 463) (a := 3) (b := 0) (x := 1) rfl rfl) ?_
  refine Eq.trans (s_load (y := 219) (pc := 463) (nx := 464) (a := 0) (b := 3) (x := x3) rfl rfl) ?_
  refine Eq.trans (s_push (y := 219) (pc := 464) (nx := 465) (a := 0) (b := 1) rfl) ?_
  refine Eq.trans (s_add (y := 219) (pc := 465) (nx := 466) (b := 0) rfl) ?_
  refine Eq.trans (s_ald (y := 219) (pc := 466) (nx := 467) (a := 1) (b := 0) (k := 1) (n := (D (-1) 1)) (t := 0) (v := (D 1 (w32 (x3 + 1)))) rfl (mk_k1 _) rfl rfl rfl (mk_c1 _ _)) (ite_c ?_ rfl)
  refine Eq.trans (s_load (y := 219) (pc := 467) (nx := 468) (a := 3) (b := 0) (x := 1) rfl rfl) ?_
  refine Eq.trans (s_load (y := 219) (pc := 468) (nx := 469) (a := 0) (b := 3) (x := x3) rfl rfl) ?_
  refine Eq.trans (s_push (y := 219) (pc := 469) (nx := 470) (a := 0) (b := 2) rfl) ?_
  refine Eq.trans (s_add (y := 219) (pc := 470) (nx := 471) (b := 0) rfl) ?_
  refine Eq.trans (s_ald (y := 219) (pc := 471) (nx := 472) (a := 1) (b := 0) (k := 1) (n := (D (-1) 1)) (t := 0) (v := (D 1 (w32 (x3 + 2)))) rfl (mk_k1 _) rfl rfl rfl (mk_c1 _ _)) (ite_c ?_ rfl)
  refine Eq.trans (s_load (y := 219) (pc := 472) (nx := 473) (a := 3) (b := 0) (x := 1) rfl rfl) ?_
  refine Eq.trans (s_load (y := 219) (pc := 473) (nx := 474) (a := 0) (b := 3) (x := x3) rfl rfl) ?_
  refine Eq.trans (s_push (y := 219) (pc := 474) (nx := 475) (a := 0) (b := 3) rfl) ?_
  refine Eq.trans (s_add (y := 219) (pc := 475) (nx := 476) (b := 0) rfl) ?_
  refine Eq.trans (s_ald (y := 219) (pc := 476) (nx := 477) (a := 1) (b := 0) (k := 1) (n := (D (-1) 1)) (t := 0) (v := (D 1 (w32 (x3 + 3)))) rfl (mk_k1 _) rfl rfl rfl (mk_c1 _ _)) (ite_c ?_ rfl)
  exact s_call (y := 219) (pc := 477) (nx := 480) (a := 158) (b := 0) (as := [(3, 106), (0, (D 1 (w32 (x3 + 1)))), (0, (D 1 (w32 (x3 + 2)))), (0, (D 1 (w32 (x3 + 3))))]) (r := [(0, s0)]) rfl (Nat.le_of_ble_eq_true rfl) rfl rfl (Nat.le_of_ble_eq_true rfl) (Nat.le_of_ble_eq_true rfl) (Or.inr ⟨rfl, mk_k106 _⟩)
set_option maxRecDepth 100000 in
theorem e_219_480 (D : Mem) (x3 : Int) (s0 : Int) (s1 : Int) : qE 219 480 [(3, 1), (3, 2), (3, 106), (0, x3)] [(0, s1), (0, s0)] (mk D) = (if s0 = s1 then qE 219 1073 [(3, 1), (3, 2), (3, 106), (0, x3)] [] (mk D) else some ((0, 0), (mk D))) := by
  refine Eq.trans (s_iceq (y := 219) (pc := 480) (nx := 483) (b := 1073) (tg := 1073) rfl rfl) (ite_c ?_ ?_)
  · rfl
  · refine Eq.trans (s_push (y := 219) (pc := 483) (nx := 484) (a := 0) (b := 0) rfl) ?_
    exact s_retz (y := 219) (pc := 484) (nx := 485) rfl (by decide)
set_option maxRecDepth 100000 in
theorem e_219_485 (D : Mem) (x3 : Int) : qE 219 485 [(3, 1), (3, 2), (3, 106), (0, x3)] [] (mk D) = (if 0 ≤ (w32 (x3 + 1)) ∧ (w32 (x3 + 1)) < (D (-1) 1) then (if 0 ≤ (w32 (x3 + 2)) ∧ (w32 (x3 + 2)) < (D (-1) 1) then ((qR 104 [(3, 2), (0, (D 1 (w32 (x3 + 1)))), (0, (D 1 (w32 (x3 + 2))))] (mk D)).bind fun w => qE 219 499 [(3, 1), (3, 2), (3, 106), (0, x3)] (psh w.1 []) w.2) else none) else none) := by
  refine Eq.trans (s_load (y := 219) (pc := 485) (nx := 486) (a := 3) (b := 1) (x := 2) rfl rfl) ?_
  refine Eq.trans (s_load (y := 219) (pc := 486) (nx := 487) (a := 3) (b := 0) (x := 1) rfl rfl) ?_
  refine Eq.trans (s_load (y := 219) (pc := 487) (nx := 488) (a := 0) (b := 3) (x := x3) rfl rfl) ?_
  refine Eq.trans (s_push (y := 219) (pc := 488) (nx := 489) (a := 0) (b := 1) rfl) ?_
  refine Eq.trans (s_add (y := 219) (pc := 489) (nx := 490) (b := 0) rfl) ?_
  refine Eq.trans (s_ald (y := 219) (pc := 490) (nx := 491) (a := 1) (b := 0) (k := 1) (n := (D (-1) 1)) (t := 0) (v := (D 1 (w32 (x3 + 1)))) rfl (mk_k1 _) rfl rfl rfl (mk_c1 _ _)) (ite_c ?_ rfl)
  refine Eq.trans (s_load (y := 219) (pc := 491) (nx := 492) (a := 3) (b := 0) (x := 1) rfl rfl) ?_
  refine Eq.trans (s_load (y := 219) (pc := 492) (nx := 493) (a := 0) (b := 3) (x := x3) rfl rfl) ?_
  refine Eq.trans (s_push (y := 219) (pc := 493) (nx := 494) (a := 0) (b := 2) rfl) ?_
  refine Eq.trans (s_add (y := 219) (pc := 494) (nx := 495) (b := 0) rfl) ?_
  refine Eq.trans (s_ald (y := 219) (pc := 495) (nx := 496) (a := 1) (b := 0) (k := 1) (n := (D (-1) 1)) (t := 0) (v := (D 1 (w32 (x3 + 2)))) rfl (mk_k1 _) rfl rfl rfl (mk_c1 _ _)) (ite_c ?_ rfl)
  exact s_call (y := 219) (pc := 496) (nx := 499) (a := 104) (b := 0) (as := [(3, 2), (0, (D 1 (w32 (x3 + 1)))), (0, (D 1 (w32 (x3 + 2))))]) (r := []) rfl (Nat.le_of_ble_eq_true rfl) rfl rfl (Nat.le_of_ble_eq_true rfl) (Nat.le_of_ble_eq_true rfl) (Or.inr ⟨rfl, mk_k2 _⟩)
set_option maxRecDepth 100000 in
theorem e_219_499 (D : Mem) (x3 : Int) (s0 : Int) : qE 219 499 [(3, 1), (3, 2), (3, 106), (0, x3)] [(0, s0)] (mk D) = (if 0 ≤ (w32 (x3 + 1)) ∧ (w32 (x3 + 1)) < (D (-1) 1) then (if 0 ≤ (w32 (x3 + 2)) ∧ (w32 (x3 + 2)) < (D (-1) 1) then ((qR 161 [(3, 106), (0, (D 1 (w32 (x3 + 1)))), (0, (D 1 (w32 (x3 + 2))))] (mk D)).bind fun w => qE 219 513 [(3, 1), (3, 2), (3, 106), (0, x3)] (psh w.1 [(0, s0)]) w.2) else none) else none) := by
  refine Eq.trans (s_load (y := 219) (pc := 499) (nx := 500) (a := 3) (b := 2) (x := 106) rfl rfl) ?_
  refine Eq.trans (s_load (y := 219) (pc := 500) (nx := 501) (a := 3) (b := 0) (x := 1) rfl rfl) ?_
  refine Eq.trans (s_load (y := 219) (pc := 501) (nx := 502) (a := 0) (b := 3) (x := x3) rfl rfl) ?_
  refine Eq.trans (s_push (y := 219) (pc := 502) (nx := 503) (a := 0) (b := 1) rfl) ?_
  refine Eq.trans (s_add (y := 219) (pc := 503) (nx := 504) (b := 0) rfl) ?_
  refine Eq.trans (s_ald (y := 219) (pc := 504) (nx := 505) (a := 1) (b := 0) (k := 1) (n := (D (-1) 1)) (t := 0) (v := (D 1 (w32 (x3 + 1)))) rfl (mk_k1 _) rfl rfl rfl (mk_c1 _ _)) (ite_c ?_ rfl)
  refine Eq.trans (s_load (y := 219) (pc := 505) (nx := 506) (a := 3) (b := 0) (x := 1) rfl rfl) ?_
  refine Eq.trans (s_load (y := 219) (pc := 506) (nx := 507) (a := 0) (b := 3) (x := x3) rfl rfl) ?_
  refine Eq.trans (s_push (y := 219) (pc := 507) (nx := 508) (a := 0) (b := 2) rfl) ?_
  refine Eq.trans (s_add (y := 219) (pc := 508) (nx := 509) (b := 0) rfl) ?_
  refine Eq.trans (s_ald (y := 219) (pc := 509) (nx := 510) (a := 1) (b := 0) (k := 1) (n := (D (-1) 1)) (t := 0) (v := (D 1 (w32 (x3 + 2)))) rfl (mk_k1 _) rfl rfl rfl (mk_c1 _ _)) (ite_c ?_ rfl)
  exact s_call (y := 219) (pc := 510) (nx := 513) (a := 161) (b := 0) (as := [(3, 106), (0, (D 1 (w32 (x3 + 1)))), (0, (D 1 (w32 (x3 + 2))))]) (r := [(0, s0)]) rfl (Nat.le_of_ble_eq_true rfl) rfl rfl (Nat.le_of_ble_eq_true rfl) (Nat.le_of_ble_eq_true rfl) (Or.inr ⟨rfl, mk_k106 _⟩)
set_option maxRecDepth 100000 in
theorem e_219_513 (D : Mem) (x3 : Int) (s0 : Int) (s1 : Int) : qE 219 513 [(3, 1), (3, 2), (3, 106), (0, x3)] [(0, s1), (0, s0)] (mk D) = (if s0 = s1 then qE 219 1073 [(3, 1), (3, 2), (3, 106), (0, x3)] [] (mk D) else some ((0, 0), (mk D))) := by
  refine Eq.trans (s_iceq (y := 219) (pc := 513) (nx := 516) (b := 1073) (tg := 1073) rfl rfl) (ite_c ?_ ?_)
  · rfl
  · refine Eq.trans (s_push (y := 219) (pc := 516) (nx := 517) (a := 0) (b := 0) rfl) ?_
    exact s_retz (y := 219) (pc := 517) (nx := 518) rfl (by decide)
set_option maxRecDepth 100000 in
theorem e_219_518 (D : Mem) (x3 : Int) : qE 219 518 [(3, 1), (3, 2), (3, 106), (0, x3)] [] (mk D) = (if 0 ≤ (w32 (x3 + 1)) ∧ (w32 (x3 + 1)) < (D (-1) 1) then (if 0 ≤ (w32 (x3 + 2)) ∧ (w32 (x3 + 2)) < (D (-1) 1) then ((qR 105 [(3, 2), (0, (D 1 (w32 (x3 + 1)))), (0, (D 1 (w32 (x3 + 2))))] (mk D)).bind fun w => qE 219 532 [(3, 1), (3, 2), (3, 106), (0, x3)] (psh w.1 []) w.2) else none) else none) := by
  refine Eq.trans (s_load (y := 219) (pc := 518) (nx := 519) (a := 3) (b := 1) (x := 2) rfl rfl) ?_
  refine Eq.trans (s_load (y := 219) (pc := 519) (nx := 520) (a := 3) (b := 0) (x := 1) rfl rfl) ?_
  refine Eq.trans (s_load (y := 219) (pc := 520) (nx := 521) (a := 0) (b := 3) (x := x3) rfl rfl) ?_
  refine Eq.trans (s_push (y := 219) (pc := 521) (nx := 522) (a := 0) (b := 1) rfl) ?_
  refine Eq.trans (s_add (y := 219) (pc := 522) (nx := 523) (b := 0) rfl) ?_
  refine Eq.trans (s_ald (y := 219) (pc := 523) (nx := 524) (a := 1) (b := 0) (k := 1) (n := (D (-1) 1)) (t := 0) (v := (D 1 (w32 (x3 + 1)))) rfl (mk_k1 _) rfl rfl rfl (mk_c1 _ _)) (ite_c ?_ rfl)
  refine Eq.trans (s_load (y := 219) (pc := 524) (nx := 525) (a := 3) (b := 0) (x := 1) rfl rfl) ?_
  refine Eq.trans (s_load (y := 219) (pc := 525) (nx := 526) (a := 0) (b := 3) (x := x3) rfl rfl) ?_
  refine Eq.trans (s_push (y := 219) (pc := 526) (nx := 527) (a := 0) (b := 2) rfl) ?_
  refine Eq.trans (s_add (y := 219) (pc := 527) (nx := 528) (b := 0) rfl) ?_
  refine Eq.trans (s_ald (y := 219) (pc := 528) (nx := 529) (a := 1) (b := 0) (k := 1) (n := (D (-1) 1)) (t := 0) (v := (D 1 (w32 (x3 + 2)))) rfl (mk_k1 _) rfl rfl rfl (mk_c1 _ _)) (ite_c ?_ rfl)
  exact s_call (y := 219) (pc := 529) (nx := 532) (a := 105) (b := 0) (as := [(3, 2), (0, (D 1 (w32 (x3 + 1)))), (0, (D 1 (w32 (x3 + 2))))]) (r := []) rfl (Nat.le_of_ble_eq_true rfl) rfl rfl (Nat.le_of_ble_eq_true rfl) (Nat.le_of_ble_eq_true rfl) (Or.inr ⟨rfl, mk_k2 _⟩)
set_option maxRecDepth 100000 in
theorem e_219_532 (D : Mem) (x3 : Int) (s0 : Int) : qE 219 532 [(3, 1), (3, 2), (3, 106), (0, x3)] [(0, s0)] (mk D) = (if 0 ≤ (w32 (x3 + 1)) ∧ (w32 (x3 + 1)) < (D (-1) 1) then (if 0 ≤ (w32 (x3 + 2)) ∧ (w32 (x3 + 2)) < (D (-1) 1) then ((qR 162 [(3, 106), (0, (D 1 (w32 (x3 + 1)))), (0, (D 1 (w32 (x3 + 2))))] (mk D)).bind fun w => qE 219 546 [(3, 1), (3, 2), (3, 106), (0, x3)] (psh w.1 [(0, s0)]) w.2) else none) else none) := by
  refine Eq.trans (s_load (y := 219) (pc := 532) (nx := 533) (a := 3) (b := 2) (x := 106) rfl rfl) ?_
  refine Eq.trans (s_load (y := 219) (pc := 533) (nx := 534) (a := 3) (b := 0) (x := 1) rfl rfl) ?_
  refine Eq.trans (s_load (y := 219) (pc := 534) (nx := 535) (a := 0) (b := 3) (x := x3) rfl rfl) ?_
  refine Eq.trans (s_push (y := 219) (pc := 535) (nx := 536) (a := 0) (b := 1) rfl) ?_
  refine Eq.trans (s_add (y := 219) (pc := 536) (nx := 537) (b := 0) rfl) ?_
  refine Eq.trans (s_ald (y := 219) (pc := 537) (nx := 538) (a := 1) (b := 0) (k := 1) (n := (D (-1) 1)) (t := 0) (v := (D 1 (w32 (x3 + 1)))) rfl (mk_k1 _) rfl rfl rfl (mk_c1 _ _)) (ite_c ?_ rfl)
  refine Eq.trans (s_load (y := 219) (pc := 538) (nx := 539) (a := 3) (b := 0) (x := 1) rfl rfl) ?_
  refine Eq.trans (s_load (y := 219) (pc := 539) (nx := 540) (a := 0) (b := 3) (x := x3) rfl rfl) ?_
  refine Eq.trans (s_push (y := 219) (pc := 540) (nx := 541) (a := 0) (b := 2) rfl) ?_
  refine Eq.trans (s_add (y := 219) (pc := 541) (nx := 542) (b := 0) rfl) ?_
  refine Eq.trans (s_ald (y := 219) (pc := 542) (nx := 543) (a := 1) (b := 0) (k := 1) (n := (D (-1) 1)) (t := 0) (v := (D 1 (w32 (x3 + 2)))) rfl (mk_k1 _) rfl rfl rfl (mk_c1 _ _)) (ite_c ?_ rfl)
  exact s_call (y := 219) (pc := 543) (nx := 546) (a := 162) (b := 0) (as := [(3, 106), (0, (D 1 (w32 (x3 + 1)))), (0, (D 1 (w32 (x3 + 2))))]) (r := [(0, s0)]) rfl (Nat.le_of_ble_eq_true rfl) rfl rfl (Nat.le_of_ble_eq_true rfl) (Nat.le_of_ble_eq_true rfl) (Or.inr ⟨rfl, mk_k106 _⟩)
set_option maxRecDepth 100000 in
theorem e_219_546 (D : Mem) (x3 : Int) (s0 : Int) (s1 : Int) : qE 219 546 [(3, 1), (3, 2), (3, 106), (0, x3)] [(0, s1), (0, s0)] (mk D) = (if s0 = s1 then qE 219 1073 [(3, 1), (3, 2), (3, 106), (0, x3)] [] (mk D) else some ((0, 0), (mk D))) := by
  refine Eq.trans (s_iceq (y := 219) (pc := 546) (nx := 549) (b := 1073) (tg := 1073) rfl rfl) (ite_c ?_ ?_)
  · rfl
  · refine Eq.trans (s_push (y := 219) (pc := 549) (nx := 550) (a := 0) (b := 0) rfl) ?_
    exact s_retz (y := 219) (pc := 550) (nx := 551) rfl (by decide)
set_option maxRecDepth 100000 in
theorem e_219_551 (D : Mem) (x3 : Int) : qE 219 551 [(3, 1), (3, 2), (3, 106), (0, x3)] [] (mk D) = ((qR 106 [(3, 2)] (mk D)).bind fun w => qE 219 555 [(3, 1), (3, 2), (3, 106), (0, x3)] (psh w.1 []) w.2) := by
  refine Eq.trans (s_load (y := 219) (pc := 551) (nx := 552) (a := 3) (b := 1) (x := 2) rfl rfl) ?_
  exact s_call (y := 219) (pc := 552) (nx := 555) (a := 106) (b := 0) (as := [(3, 2)]) (r := []) rfl (Nat.le_of_ble_eq_true rfl) rfl rfl (Nat.le_of_ble_eq_true rfl) (Nat.le_of_ble_eq_true rfl) (Or.inr ⟨rfl, mk_k2 _⟩)
set_option maxRecDepth 100000 in
theorem e_219_555 (D : Mem) (x3 : Int) (s0 : Int) : qE 219 555 [(3, 1), (3, 2), (3, 106), (0, x3)] [(0, s0)] (mk D) = ((qR 163 [(3, 106)] (mk D)).bind fun w => qE 219 559 [(3, 1), (3, 2), (3, 106), (0, x3)] (psh w.1 [(0, s0)]) w.2) := by
  refine Eq.trans (s_load (y := 219) (pc := 555) (nx := 556) (a := 3) (b := 2) (x := 106) rfl rfl) ?_
  exact s_call (y := 219) (pc := 556) (nx := 559) (a := 163) (b := 0) (as := [(3, 106)]) (r := [(0, s0)]) rfl (Nat.le_of_ble_eq_true rfl) rfl rfl (Nat.le_of_ble_eq_true rfl) (Nat.le_of_ble_eq_true rfl) (Or.inr ⟨rfl, mk_k106 _⟩)
set_option maxRecDepth 100000 in
theorem e_219_559 (D : Mem) (x3 : Int) (s0 : Int) (s1 : Int) : qE 219 559 [(3, 1), (3, 2), (3, 106), (0, x3)] [(0, s1), (0, s0)] (mk D) = (if s0 = s1 then qE 219 1073 [(3, 1), (3, 2), (3, 106), (0, x3)] [] (mk D) else some ((0, 0), (mk D))) := by
  refine Eq.trans (s_iceq (y := 219) (pc := 559) (nx := 562) (b := 1073) (tg := 1073) rfl rfl) (ite_c ?_ ?_)
  · rfl
  · refine Eq.trans (s_push (y := 219) (pc := 562) (nx := 563) (a := 0) (b := 0) rfl) ?_
    exact s_retz (y := 219) (pc := 563) (nx := 564) rfl (by decide)
set_option maxRecDepth 100000 in
theorem e_219_564 (D : Mem) (x3 : Int) : qE 219 564 [(3, 1), (3, 2), (3, 106), (0, x3)] [] (mk D) = (if 0 ≤ (w32 (x3 + 1)) ∧ (w32 (x3 + 1)) < (D (-1) 1) then ((qR 107 [(3, 2), (0, (D 1 (w32 (x3 + 1))))] (mk D)).bind fun w => qE 219 573 [(3, 1), (3, 2), (3, 106), (0, x3)] (psh w.1 []) w.2) else none) := by
  refine Eq.trans (s_load (y := 219) (pc := 564) (nx := 565) (a := 3) (b := 1) (x := 2) rfl rfl) ?_
  refine Eq.trans (s_load (y := 219) (pc := 565) (nx := 566) (a := 3) (b := 0) (x := 1) rfl rfl) ?_
  refine Eq.trans (s_load (y := 219) (pc := 566) (nx := 567) (a := 0) (b := 3) (x := x3) rfl rfl) ?_
  refine Eq.trans (s_push (y := 219) (pc := 567) (nx := 568) (a := 0) (b := 1) rfl) ?_
  refine Eq.trans (s_add (y := 219) (pc := 568) (nx := 569) (b := 0) rfl) ?_
  refine Eq.trans (s_ald (y := 219) (pc := 569) (nx := 570) (a := 1) (b := 0) (k := 1) (n := (D (-1) 1)) (t := 0) (v := (D 1 (w32 (x3 + 1)))) rfl (mk_k1 _) rfl rfl rfl (mk_c1 _ _)) (ite_c ?_ rfl)
  exact s_call (y := 219) (pc := 570) (nx := 573) (a := 107) (b := 0) (as := [(3, 2), (0, (D 1 (w32 (x3 + 1))))]) (r := []) rfl (Nat.le_of_ble_eq_true rfl) rfl rfl (Nat.le_of_ble_eq_true rfl) (Nat.le_of_ble_eq_true rfl) (Or.inr ⟨rfl, mk_k2 _⟩)
set_option maxRecDepth 100000 in
theorem e_219_573 (D : Mem) (x3 : Int) (s0 : Int) : qE 219 573 [(3, 1), (3, 2), (3, 106), (0, x3)] [(0, s0)] (mk D) = (if 0 ≤ (w32 (x3 + 1)) ∧ (w32 (x3 + 1)) < (D (-1) 1) then ((qR 164 [(3, 106), (0, (D 1 (w32 (x3 + 1))))] (mk D)).bind fun w => qE 219 582 [(3, 1), (3, 2), (3, 106), (0, x3)] (psh w.1 [(0, s0)]) w.2) else none) := by
  refine Eq.trans (s_load (y := 219) (pc := 573) (nx := 574) (a := 3) (b := 2) (x := 106) rfl rfl) ?_
  refine Eq.trans (s_load (y := 219) (pc := 574) (nx := 575) (a := 3) (b := 0) (x := 1) rfl rfl) ?_
  refine Eq.trans (s_load (y := 219) (pc := 575) (nx := 576) (a := 0) (b := 3) (x := x3) rfl rfl) ?_
  refine Eq.trans (s_push (y := 219) (pc := 576) (nx := 577) (a := 0) (b := 1) rfl) ?_
  refine Eq.trans (s_add (y := 219) (pc := 577) (nx := 578) (b := 0) rfl) ?_
  refine Eq.trans (s_ald (y := 219) (pc := 578) (nx := 579) (a := 1) (b := 0) (k := 1) (n := (D (-1) 1)) (t := 0) (v := (D 1 (w32 (x3 + 1)))) rfl (mk_k1 _) rfl rfl rfl (mk_c1 _ _)) (ite_c ?_ rfl)
  exact s_call (y := 219) (pc := 579) (nx := 582) (a := 164) (b := 0) (as := [(3, 106), (0, (D 1 (w32 (x3 + 1))))]) (r := [(0, s0)]) rfl (Nat.le_of_ble_eq_true rfl) rfl rfl (Nat.le_of_ble_eq_true rfl) (Nat.le_of_ble_eq_true rfl) (Or.inr ⟨rfl, mk_k106 _⟩)
set_option maxRecDepth 100000 in
theorem e_219_582 (D : Mem) (x3 : Int) (s0 : Int) (s1 : Int) : qE 219 582 [(3, 1), (3, 2), (3, 106), (0, x3)] [(0, s1), (0, s0)] (mk D) = (if s0 = s1 then qE 219 1073 [(3, 1), (3, 2), (3, 106), (0, x3)] [] (mk D) else some ((0, 0), (mk D))) := by
  refine Eq.trans (s_iceq (y := 219) (pc := 582) (nx := 585) (b := 1073) (tg := 1073) rfl rfl) (ite_c ?_ ?_)
  · rfl
  · refine Eq.trans (s_push (y := 219) (pc := 585) (nx := 586) (a := 0) (b := 0) rfl) ?_
    exact s_retz (y := 219) (pc := 586) (nx := 587) rfl (by decide)
set_option maxRecDepth 100000 in
theorem e_219_587 (D : Mem) (x3 : Int) : qE 219 587 [(3, 1), (3, 2), (3, 106), (0, x3)] [] (mk D) = (if 0 ≤ (w32 (x3 + 1)) ∧ (w32 (x3 + 1)) < (D (-1) 1) then ((qR 108 [(3, 2), (0, (D 1 (w32 (x3 + 1))))] (mk D)).bind fun w => qE 219 596 [(3, 1), (3, 2), (3, 106), (0, x3)] (psh w.1 []) w.2) else none) := by
  refine Eq.trans (s_load (y := 219) (pc := 587) (nx := 588) (a := 3) (b := 1) (x := 2) rfl rfl) ?_
  refine Eq.trans (s_load (y := 219) (pc := 588) (nx := 589) (a := 3) (b := 0) (x := 1) rfl rfl) ?_
  refine Eq.trans (s_load (y := 219) (pc := 589) (nx := 590) (a := 0) (b := 3) (x := x3) rfl rfl) ?_
  refine Eq.trans (s_push (y := 219) (pc := 590) (nx := 591) (a := 0) (b := 1) rfl) ?_
  refine Eq.trans (s_add (y := 219) (pc := 591) (nx := 592) (b := 0) rfl) ?_
  refine Eq.trans (s_ald (y := 219) (pc := 592) (nx := 593) (a := 1) (b := 0) (k := 1) (n := (D (-1) 1)) (t := 0) (v := (D 1 (w32 (x3 + 1)))) rfl (mk_k1 _) rfl rfl rfl (mk_c1 _ _)) (ite_c ?_ rfl)
  exact s_call (y := 219) (pc := 593) (nx := 596) (a := 108) (b := 0) (as := [(3, 2), (0, (D 1 (w32 (x3 + 1))))]) (r := []) rfl (Nat.le_of_ble_eq_true rfl) rfl rfl (Nat.le_of_ble_eq_true rfl) (Nat.le_of_ble_eq_true rfl) (Or.inr ⟨rfl, mk_k2 _⟩)
set_option maxRecDepth 100000 in
theorem e_219_596 (D : Mem) (x3 : Int) (s0 : Int) : qE 219 596 [(3, 1), (3, 2), (3, 106), (0, x3)] [(0, s0)] (mk D) = (if 0 ≤ (w32 (x3 + 1)) ∧ (w32 (x3 + 1)) < (D (-1) 1) then ((qR 165 [(3, 106), (0, (D 1 (w32 (x3 + 1))))] (mk D)).bind fun w => qE 219 605 [(3, 1), (3, 2), (3, 106), (0, x3)] (psh w.1 [(0, s0)]) w.2) else none) := by
  refine Eq.trans (s_load (y := 219) (pc := 596) (nx := 597) (a := 3) (b := 2) (x := 106) rfl rfl) ?_
  refine Eq.trans (s_load (y := 219) (pc := 597) (nx := 598) (a := 3) (b := 0) (x := 1) rfl rfl) ?_
  refine Eq.trans (s_load (y := 219) (pc := 598) (nx := 599) (a := 0) (b := 3) (x := x3) rfl rfl) ?_
  refine Eq.trans (s_push (y := 219) (pc := 599) (nx := 600) (a := 0) (b := 1) rfl) ?_
  refine Eq.trans (s_add (y := 219) (pc := 600) (nx := 601) (b := 0) rfl) ?_
  refine Eq.trans (s_ald (y := 219) (pc := 601) (nx := 602) (a := 1) (b := 0) (k := 1) (n := (D (-1) 1)) (t := 0) (v := (D 1 (w32 (x3 + 1)))) rfl (mk_k1 _) rfl rfl rfl (mk_c1 _ _)) (ite_c ?_ rfl)
  exact s_call (y := 219) (pc := 602) (nx := 605) (a := 165) (b := 0) (as := [(3, 106), (0, (D 1 (w32 (x3 + 1))))]) (r := [(0, s0)]) rfl (Nat.le_of_ble_eq_true rfl) rfl rfl (Nat.le_of_ble_eq_true rfl) (Nat.le_of_ble_eq_true rfl) (Or.inr ⟨rfl, mk_k106 _⟩)
set_option maxRecDepth 100000 in
theorem e_219_605 (D : Mem) (x3 : Int) (s0 : Int) (s1 : Int) : qE 219 605 [(3, 1), (3, 2), (3, 106), (0, x3)] [(0, s1), (0, s0)] (mk D) = (if s0 = s1 then qE 219 1073 [(3, 1), (3, 2), (3, 106), (0, x3)] [] (mk D) else some ((0, 0), (mk D))) := by
  refine Eq.trans (s_iceq (y := 219) (pc := 605) (nx := 608) (b := 1073) (tg := 1073) rfl rfl) (ite_c ?_ ?_)
  · rfl
  · refine Eq.trans (s_push (y := 219) (pc := 608) (nx := 609) (a := 0) (b := 0) rfl) ?_
    exact s_retz (y := 219) (pc := 609) (nx := 610) rfl (by decide)
set_option maxRecDepth 100000 in
theorem e_219_610 (D : Mem) (x3 : Int) : qE 219 610 [(3, 1), (3, 2), (3, 106), (0, x3)] [] (mk D) = (if 0 ≤ (w32 (x3 + 1)) ∧ (w32 (x3 + 1)) < (D (-1) 1) then (if 0 ≤ (w32 (x3 + 2)) ∧ (w32 (x3 + 2)) < (D (-1) 1) then ((qR 109 [(3, 2), (0, (D 1 (w32 (x3 + 1)))), (0, (D 1 (w32 (x3 + 2))))] (mk D)).bind fun w => qE 219 624 [(3, 1), (3, 2), (3, 106), (0, x3)] (psh w.1 []) w.2) else none) else none) := by
  refine Eq.trans (s_load (y := 219) (pc := 610) (nx := 611) (a := 3) (b := 1) (x := 2) rfl rfl) ?_
  refine Eq.trans (s_load (y := 219) (pc := 611) (nx := 612) (a := 3) (b := 0) (x := 1) rfl rfl) ?_
  refine Eq.trans (s_load (y := 219) (pc := 612) (nx := 613) (a := 0) (b := 3) (x := x3) rfl rfl) ?_
  refine Eq.trans (s_push (y := 219) (pc := 613) (nx := 614) (a := 0) (b := 1) rfl) ?_
  refine Eq.trans (s_add (y := 219) (pc := 614) (nx := 615) (b := 0) rfl) ?_
  refine Eq.trans (s_ald (y := 219) (pc := 615) (nx := 616) (a := 1) (b := 0) (k := 1) (n := (D (-1) 1)) (t := 0) (v := (D 1 (w32 (x3 + 1)))) rfl (mk_k1 _) rfl rfl rfl (mk_c1 _ _)) (ite_c ?_ rfl)
  refine Eq.trans (s_load (y := 219) (pc := 616) (nx := 617) (a := 3) (b := 0) (x := 1) rfl rfl) ?_
  refine Eq.trans (s_load (y := 219) (pc := 617) (nx := 618) (a := 0) (b := 3) (x := x3) rfl rfl) ?_
  refine Eq.trans (s_push (y := 219) (pc := 618) (nx := 619) (a := 0) (b := 2) rfl) ?_
  refine Eq.trans (s_add (y := 219) (pc := 619) (nx := 620) (b := 0) rfl) ?_
  refine Eq.trans (s_ald (y := 219) (pc := 620) (nx := 621) (a := 1) (b := 0) (k := 1) (n := (D (-1) 1)) (t := 0) (v := (D 1 (w32 (x3 + 2)))) rfl (mk_k1 _) rfl rfl rfl (mk_c1 _ _)) (ite_c ?_ rfl)
  exact s_call (y := 219) (pc := 621) (nx := 624) (a := 109) (b := 0) (as := [(3, 2), (0, (D 1 (w32 (x3 + 1)))), (0, (D 1 (w32 (x3 + 2))))]) (r := []) rfl (Nat.le_of_ble_eq_true rfl) rfl rfl (Nat.le_of_ble_eq_true rfl) (Nat.le_of_ble_eq_true rfl) (Or.inr ⟨rfl, mk_k2 _⟩)
set_option maxRecDepth 100000 in
theorem e_219_624 (D : Mem) (x3 : Int) (s0 : Int) : qE 219 624 [(3, 1), (3, 2), (3, 106), (0, x3)] [(0, s0)] (mk D) = (if 0 ≤ (w32 (x3 + 1)) ∧ (w32 (x3 + 1)) < (D (-1) 1) then (if 0 ≤ (w32 (x3 + 2)) ∧ (w32 (x3 + 2)) < (D (-1) 1) then ((qR 166 [(3, 106), (0, (D 1 (w32 (x3 + 1)))), (0, (D 1 (w32 (x3 + 2))))] (mk D)).bind fun w => qE 219 638 [(3, 1), (3, 2), (3, 106), (0, x3)] (psh w.1 [(0, s0)]) w.2) else none) else none) := by
  refine Eq.trans (s_load (y := 219) (pc := 624) (nx := 625) (a := 3) (b := 2) (x := 106) rfl rfl) ?_
  refine Eq.trans (s_load (y := 219) (pc := 625) (nx := 626) (a := 3) (b := 0) (x := 1) rfl rfl) ?_
  refine Eq.trans (s_load (y := 219) (pc := 626) (nx := 627) (a := 0) (b := 3) (x := x3) rfl rfl) ?_
  refine Eq.trans (s_push (y := 219) (pc := 627) (nx := 628) (a := 0) (b := 1) rfl) ?_
  refine Eq.trans (s_add (y := 219) (pc := 628) (nx := 629) (b := 0) rfl) ?_
  refine Eq.trans (s_ald (y := 219) (pc := 629) (nx := 630) (a := 1) (b := 0) (k := 1) (n := (D (-1) 1)) (t := 0) (v := (D 1 (w32 (x3 + 1)))) rfl (mk_k1 _) rfl rfl rfl (mk_c1 _ _)) (ite_c ?_ rfl)
  refine Eq.trans (s_load (y := 219) (pc := 630) (nx := 631) (a := 3) (b := 0) (x := 1) rfl rfl) ?_
  refine Eq.trans (s_load (y := 219) (pc := 631) (nx := 632) (a := 0) (b := 3) (x := x3) rfl rfl) ?_
  refine Eq.trans (s_push (y := 219) (pc := 632) (nx := 633) (a := 0) (b := 2) rfl) ?_
  refine Eq.trans (s_add (y := 219) (pc := 633) (nx := 634) (b := 0) rfl) ?_
  refine Eq.trans (s_ald (y := 219) (pc := 634) (nx := 635) (a := 1) (b := 0) (k := 1) (n := (D (-1) 1)) (t := 0) (v := (D 1 (w32 (x3 + 2)))) rfl (mk_k1 _) rfl rfl rfl (mk_c1 _ _)) (ite_c ?_ rfl)
  exact s_call (y := 219) (pc := 635) (nx := 638) (a := 166) (b := 0) (as := [(3, 106), (0, (D 1 (w32 (x3 + 1)))), (0, (D 1 (w32 (x3 + 2))))]) (r := [(0, s0)]) rfl (Nat.le_of_ble_eq_true rfl) rfl rfl (Nat.le_of_ble_eq_true rfl) (Nat.le_of_ble_eq_true rfl) (Or.inr ⟨rfl, mk_k106 _⟩)
set_option maxRecDepth 100000 in
theorem e_219_638 (D : Mem) (x3 : Int) (s0 : Int) (s1 : Int) : qE 219 638 [(3, 1), (3, 2), (3, 106), (0, x3)] [(0, s1), (0, s0)] (mk D) = (if s0 = s1 then qE 219 1073 [(3, 1), (3, 2), (3, 106), (0, x3)] [] (mk D) else some ((0, 0), (mk D))) := by
  refine Eq.trans (s_iceq (y := 219) (pc := 638) (nx := 641) (b := 1073) (tg := 1073) rfl rfl) (ite_c ?_ ?_)
  · rfl
  · refine Eq.trans (s_push (y := 219) (pc := 641) (nx := 642) (a := 0) (b := 0) rfl) ?_
    exact s_retz (y := 219) (pc := 642) (nx := 643) rfl (by decide)
set_option maxRecDepth 100000 in
theorem e_219_643 (D : Mem) (x3 : Int) : qE 219 643 [(3, 1), (3, 2), (3, 106), (0, x3)] [] (mk D) = (if 0 ≤ (w32 (x3 + 1)) ∧ (w32 (x3 + 1)) < (D (-1) 1) then ((qR 110 [(3, 2), (0, (D 1 (w32 (x3 + 1))))] (mk D)).bind fun w => qE 219 652 [(3, 1), (3, 2), (3, 106), (0, x3)] (psh w.1 []) w.2) else none) := by
  refine Eq.trans (s_load (y := 219) (pc := 643) (nx := 644) (a := 3) (b := 1) (x := 2) rfl rfl) ?_
  refine Eq.trans (s_load (y := 219) (pc := 644) (nx := 645) (a := 3) (b := 0) (x := 1) rfl rfl) ?_
  refine Eq.trans (s_load (y := 219) (pc := 645) (nx := 646) (a := 0) (b := 3) (x := x3) rfl rfl) ?_
  refine Eq.trans (s_push (y := 219) (pc := 646) (nx := 647) (a := 0) (b := 1) rfl) ?_
  refine Eq.trans (s_add (y := 219) (pc := 647) (nx := 648) (b := 0) rfl) ?_
  refine Eq.trans (s_ald (y := 219) (pc := 648) (nx := 649) (a := 1) (b := 0) (k := 1) (n := (D (-1) 1)) (t := 0) (v := (D 1 (w32 (x3 + 1)))) rfl (mk_k1 _) rfl rfl rfl (mk_c1 _ _)) (ite_c ?_ rfl)
  exact s_call (y := 219) (pc := 649) (nx := 652) (a := 110) (b := 0) (as := [(3, 2), (0, (D 1 (w32 (x3 + 1))))]) (r := []) rfl (Nat.le_of_ble_eq_true rfl) rfl rfl (Nat.le_of_ble_eq_true rfl) (Nat.le_of_ble_eq_true rfl) (Or.inr ⟨rfl, mk_k2 _⟩)
set_option maxRecDepth 100000 in
theorem e_219_652 (D : Mem) (x3 : Int) (s0 : Int) : qE 219 652 [(3, 1), (3, 2), (3, 106), (0, x3)] [(0, s0)] (mk D) = (if 0 ≤ (w32 (x3 + 1)) ∧ (w32 (x3 + 1)) < (D (-1) 1) then ((qR 167 [(3, 106), (0, (D 1 (w32 (x3 + 1))))] (mk D)).bind fun w => qE 219 661 [(3, 1), (3, 2), (3, 106), (0, x3)] (psh w.1 [(0, s0)]) w.2) else none) := by
  refine Eq.trans (s_load (y := 219) (pc := 652) (nx := 653) (a := 3) (b := 2) (x := 106) rfl rfl) ?_
  refine Eq.trans (s_load (y := 219) (pc := 653) (nx := 654) (a := 3) (b := 0) (x := 1) rfl rfl) ?_
  refine Eq.trans (s_load (y := 219) (pc := 654) (nx := 655) (a := 0) (b := 3) (x := x3) rfl rfl) ?_
  refine Eq.trans (s_push (y := 219) (pc := 655) (nx := 656) (a := 0) (b := 1) rfl) ?_
  refine Eq.trans (s_add (y := 219) (pc := 656) (nx := 657) (b := 0) rfl) ?_
  refine Eq.trans (s_ald (y := 219) (pc := 657) (nx := 658) (a := 1) (b := 0) (k := 1) (n := (D (-1) 1)) (t := 0) (v := (D 1 (w32 (x3 + 1)))) rfl (mk_k1 _) rfl rfl rfl (mk_c1 _ _)) (ite_c ?_ rfl)
  exact s_call (y := 219) (pc := 658) (nx := 661) (a := 167) (b := 0) (as := [(3, 106), (0, (D 1 (w32 (x3 + 1))))]) (r := [(0, s0)]) rfl (Nat.le_of_ble_eq_true rfl) rfl rfl (Nat.le_of_ble_eq_true rfl) (Nat.le_of_ble_eq_true rfl) (Or.inr ⟨rfl, mk_k106 _⟩)
set_option maxRecDepth 100000 in
theorem e_219_661 (D : Mem) (x3 : Int) (s0 : Int) (s1 : Int) : qE 219 661 [(3, 1), (3, 2), (3, 106), (0, x3)] [(0, s1), (0, s0)] (mk D) = (if s0 = s1 then qE 219 1073 [(3, 1), (3, 2), (3, 106), (0, x3)] [] (mk D) else some ((0, 0), (mk D))) := by
  refine Eq.trans (s_iceq (y := 219) (pc := 661) (nx := 664) (b := 1073) (tg := 1073) rfl rfl) (ite_c ?_ ?_)
  · rfl
  · refine Eq.trans (s_push (y := 219) (pc := 664) (nx := 665) (a := 0) (b := 0) rfl) ?_
    exact s_retz (y := 219) (pc := 665) (nx := 666) rfl (by decide)
set_option maxRecDepth 100000 in
theorem e_219_666 (D : Mem) (x3 : Int) : qE 219 666 [(3, 1), (3, 2), (3, 106), (0, x3)] [] (mk D) = ((qR 111 [(3, 2)] (mk D)).bind fun w => qE 219 670 [(3, 1), (3, 2), (3, 106), (0, x3)] (psh w.1 []) w.2) := by
  refine Eq.trans (s_load (y := 219) (pc := 666) (nx := 667) (a := 3) (b := 1) (x := 2) rfl rfl) ?_
  exact s_call (y := 219) (pc := 667) (nx := 670) (a := 111) (b := 0) (as := [(3, 2)]) (r := []) rfl (Nat.le_of_ble_eq_true rfl) rfl rfl (Nat.le_of_ble_eq_true rfl) (Nat.le_of_ble_eq_true rfl) (Or.inr ⟨rfl, mk_k2 _⟩)
set_option maxRecDepth 100000 in
theorem e_219_670 (D : Mem) (x3 : Int) (s0 : Int) : qE 219 670 [(3, 1), (3, 2), (3, 106), (0, x3)] [(0, s0)] (mk D) = ((qR 168 [(3, 106)] (mk D)).bind fun w => qE 219 674 [(3, 1), (3, 2), (3, 106), (0, x3)] (psh w.1 [(0, s0)]) w.2) := by
  refine Eq.trans (s_load (y := 219) (pc := 670) (nx := 671) (a := 3) (b := 2) (x := 106) rfl rfl) ?_
  exact s_call (y := 219) (pc := 671) (nx := 674) (a := 168) (b := 0) (as := [(3, 106)]) (r := [(0, s0)]) rfl (Nat.le_of_ble_eq_true rfl) rfl rfl (Nat.le_of_ble_eq_true rfl) (Nat.le_of_ble_eq_true rfl) (Or.inr ⟨rfl, mk_k106 _⟩)
set_option maxRecDepth 100000 in
theorem e_219_674 (D : Mem) (x3 : Int) (s0 : Int) (s1 : Int) : qE 219 674 [(3, 1), (3, 2), (3, 106), (0, x3)] [(0, s1), (0, s0)] (mk D) = (if s0 = s1 then qE 219 1073 [(3, 1), (3, 2), (3, 106), (0, x3)] [] (mk D) else some ((0, 0), (mk D))) := by
  refine Eq.trans (s_iceq (y := 219) (pc := 674) (nx := 677) (b := 1073) (tg := 1073) rfl rfl) (ite_c ?_ ?_)
  · rfl
  · refine Eq.trans (s_push (y := 219) (pc := 677) (nx := 678) (a := 0) (b := 0) rfl) ?_
    exact s_retz (y := 219) (pc := 678) (nx := 679) rfl (by decide)
set_option maxRecDepth 100000 in
theorem e_219_679 (D : Mem) (x3 : Int) : qE 219 679 [(3, 1), (3, 2), (3, 106), (0, x3)] [] (mk D) = (if 0 ≤ (w32 (x3 + 1)) ∧ (w32 (x3 + 1)) < (D (-1) 1) then (if 0 ≤ (w32 (x3 + 2)) ∧ (w32 (x3 + 2)) < (D (-1) 1) then ((qR 112 [(3, 2), (0, (D 1 (w32 (x3 + 1)))), (0, (D 1 (w32 (x3 + 2))))] (mk D)).bind fun w => qE 219 693 [(3, 1), (3, 2), (3, 106), (0, x3)] (psh w.1 []) w.2) else none) else none) := by
  refine Eq.trans (s_load (y := 219) (pc := 679) (nx := 680) (a := 3) (b := 1) (x := 2) rfl rfl) ?_
  refine Eq.trans (s_load (y := 219) (pc := 680) (nx := 681) (a := 3) (b := 0) (x := 1) rfl rfl) ?_
  refine Eq.trans (s_load (y := 219) (pc := 681) (nx := 682) (a := 0) (b := 3) (x := x3) rfl rfl) ?_
  refine Eq.trans (s_push (y := 219) (pc := 682) (nx := 683) (a := 0) (b := 1) rfl) ?_
  refine Eq.trans (s_add (y := 219) (pc := 683) (nx := 684) (b := 0) rfl) ?_
  refine Eq.trans (s_ald (y := 219) (pc := 684) (nx := 685) (a := 1) (b := 0) (k := 1) (n := (D (-1) 1)) (t := 0) (v := (D 1 (w32 (x3 + 1)))) rfl (mk_k1 _) rfl rfl rfl (mk_c1 _ _)) (ite_c ?_ rfl)
  refine Eq.trans (s_load (y := 219) (pc := 685) (nx := 686) (a := 3) (b := 0) (x := 1) rfl rfl) ?_
  refine Eq.trans (s_load (y := 219) (pc := 686) (nx := 687) (a := 0) (b := 3) (x := x3) rfl rfl) ?_
  refine Eq.trans (s_push (y := 219) (pc := 687) (nx := 688) (a := 0) (b := 2) rfl) ?_
  refine Eq.trans (s_add (y := 219) (pc := 688) (nx := 689) (b := 0) rfl) ?_
  refine Eq.trans (s_ald (y := 219) (pc := 689) (nx := 690) (a := 1) (b := 0) (k := 1) (n := (D (-1) 1)) (t := 0) (v := (D 1 (w32 (x3 + 2)))) rfl (mk_k1 _) rfl rfl rfl (mk_c1 _ _)) (ite_c ?_ rfl)
  exact s_call (y := 219) (pc := 690) (nx := 693) (a := 112) (b := 0) (as := [(3, 2), (0, (D 1 (w32 (x3 + 1)))), (0, (D 1 (w32 (x3 + 2))))]) (r := []) rfl (Nat.le_of_ble_eq_true rfl) rfl rfl (Nat.le_of_ble_eq_true rfl) (Nat.le_of_ble_eq_true rfl) (Or.inr ⟨rfl, mk_k2 _⟩)
set_option maxRecDepth 100000 in
theorem e_219_693 (D : Mem) (x3 : Int) (s0 : Int) : qE 219 693 [(3, 1), (3, 2), (3, 106), (0, x3)] [(0, s0)] (mk D) = (if 0 ≤ (w32 (x3 + 1)) ∧ (w32 (x3 + 1)) < (D (-1) 1) then (if 0 ≤ (w32 (x3 + 2)) ∧ (w32 (x3 + 2)) < (D (-1) 1) then ((qR 180 [(3, 106), (0, (D 1 (w32 (x3 + 1)))), (0, (D 1 (w32 (x3 + 2))))] (mk D)).bind fun w => qE 219 707 [(3, 1), (3, 2), (3, 106), (0, x3)] (psh w.1 [(0, s0)]) w.2) else none) else none) := by
  refine Eq.trans (s_load (y := 219) (pc := 693) (nx := 694) (a := 3) (b := 2) (x := 106) rfl rfl) ?_
  refine Eq.trans (s_load (y := 219) (pc := 694) (nx := 695) (a := 3) (b := 0) (x := 1) rfl rfl) ?_
  refine Eq.trans (s_load (y := 219) (pc := 695) (nx := 696) (a := 0) (b := 3) (x := x3) rfl rfl) ?_
  refine Eq.trans (s_push (y := 219) (pc := 696) (nx := 697) (a := 0) (b := 1) rfl) ?_
  refine Eq.trans (s_add (y := 219) (pc := 697) (nx := 698) (b := 0) rfl) ?_
  refine Eq.trans (s_ald (y := 219) (pc := 698) (nx := 699) (a := 1) (b := 0) (k := 1) (n := (D (-1) 1)) (t := 0) (v := (D 1 (w32 (x3 + 1)))) rfl (mk_k1 _) rfl rfl rfl (mk_c1 _ _)) (ite_c ?_ rfl)
  refine Eq.trans (s_load (y := 219) (pc := 699) (nx := 700) (a := 3) (b := 0) (x := 1) rfl rfl) ?_
  refine Eq.trans (s_load (y := 219) (pc := 700) (nx := 701) (a := 0) (b := 3) (x := x3) rfl rfl) ?_
  refine Eq.trans (s_push (y := 219) (pc := 701) (nx := 702) (a := 0) (b := 2) rfl) ?_
  refine Eq.trans (s_add (y := 219) (pc := 702) (nx := 703) (b := 0) rfl) ?_
  refine Eq.trans (s_ald (y := 219) (pc := 703) (nx := 704) (a := 1) (b := 0) (k := 1) (n := (D (-1) 1)) (t := 0) (v := (D 1 (w32 (x3 + 2)))) rfl (mk_k1 _) rfl rfl rfl (mk_c1 _ _)) (ite_c ?_ rfl)
  exact s_call (y := 219) (pc := 704) (nx := 707) (a := 180) (b := 0) (as := [(3, 106), (0, (D 1 (w32 (x3 + 1)))), (0, (D 1 (w32 (x3 + 2))))]) (r := [(0, s0)]) rfl (Nat.le_of_ble_eq_true rfl) rfl rfl (Nat.le_of_ble_eq_true rfl) (Nat.le_of_ble_eq_true rfl) (Or.inr ⟨rfl, mk_k106 _⟩)
set_option maxRecDepth 100000 in
theorem e_219_707 (D : Mem) (x3 : Int) (s0 : Int) (s1 : Int) : qE 219 707 [(3, 1), (3, 2), (3, 106), (0, x3)] [(0, s1), (0, s0)] (mk D) = (if s0 = s1 then qE 219 1073 [(3, 1), (3, 2), (3, 106), (0, x3)] [] (mk D) else some ((0, 0), (mk D))) := by
  refine Eq.trans (s_iceq (y := 219) (pc := 707) (nx := 710) (b := 1073) (tg := 1073) rfl rfl) (ite_c ?_ ?_)
  · rfl
  · refine Eq.trans (s_push (y := 219) (pc := 710) (nx := 711) (a := 0) (b := 0) rfl) ?_
    exact s_retz (y := 219) (pc := 711) (nx := 712) rfl (by decide)
set_option maxRecDepth 100000 in
theorem e_219_712 (D : Mem) (x3 : Int) : qE 219 712 [(3, 1), (3, 2), (3, 106), (0, x3)] [] (mk D) = (if 0 ≤ (w32 (x3 + 1)) ∧ (w32 (x3 + 1)) < (D (-1) 1) then (if 0 ≤ (w32 (x3 + 2)) ∧ (w32 (x3 + 2)) < (D (-1) 1) then (if 0 ≤ (w32 (x3 + 3)) ∧ (w32 (x3 + 3)) < (D (-1) 1) then ((qR 113 [(3, 2), (0, (D 1 (w32 (x3 + 1)))), (0, (D 1 (w32 (x3 + 2)))), (0, (D 1 (w32 (x3 + 3))))] (mk D)).bind fun w => qE 219 731 [(3, 1), (3, 2), (3, 106), (0, x3)] (psh w.1 []) w.2) else none) else none) else none) := by
  refine Eq.trans (s_load (y := 219) (pc := 712) (nx := 713) (a := 3) (b := 1) (x := 2) rfl rfl) ?_
  refine Eq.trans (s_load (y := 219) (pc := 713) (nx := 714) (a := 3) (b := 0) (x := 1) rfl rfl) ?_
  refine Eq.trans (s_load (y := 219) (pc := 714) (nx := 715) (a := 0) (b := 3) (x := x3) rfl rfl) ?_
  refine Eq.trans (s_push (y := 219) (pc := 715) (nx := 716) (a := 0) (b := 1) rfl) ?_
  refine Eq.trans (s_add (y := 219) (pc := 716) (nx := 717) (b := 0) rfl) ?_
  refine Eq.trans (s_ald (y := 219) (pc := 717) (nx := 718) (a := 1) (b := 0) (k := 1) (n := (D (-1) 1)) (t := 0) (v := (D 1 (w32 (x3 + 1)))) rfl (mk_k1 _) rfl rfl rfl (mk_c1 _ _)) (ite_c ?_ rfl)
  refine Eq.trans (s_load (y := 219) (pc := 718) (nx := 719) (a := 3) (b := 0) (x := 1) rfl rfl) ?_
  refine Eq.trans (s_load (y := 219) (pc := 719) (nx := 720) (a := 0) (b := 3) (x := x3) rfl rfl) ?_
  refine Eq.trans (s_push (y := 219) (pc := 720) (nx := 721) (a := 0) (b := 2) rfl) ?_
  refine Eq.trans (s_add (y := 219) (pc := 721) (nx := 722) (b := 0) rfl) ?_
  refine Eq.trans (s_ald (y := 219) (pc := 722) (nx := 723) (a := 1) (b := 0) (k := 1) (n := (D (-1) 1)) (t := 0) (v := (D 1 (w32 (x3 + 2)))) rfl (mk_k1 _) rfl rfl rfl (mk_c1 _ _)) (ite_c ?_ rfl)
  refine Eq.trans (s_load (y := 219) (pc := 723) (nx := 724) (a := 3) (b := 0) (x := 1) rfl rfl) ?_
  refine Eq.trans (s_load (y := 219) (pc := 724) (nx := 725) (a := 0) (b := 3) (x := x3) rfl rfl) ?_
  refine Eq.trans (s_push (y := 219) (pc := 725) (nx := 726) (a := 0) (b := 3) rfl) ?_
  refine Eq.trans (s_add (y := 219) (pc := 726) (nx := 727) (b := 0) rfl) ?_
  refine Eq.trans (s_ald (y := 219) (pc := 727) (nx := 728) (a := 1) (b := 0) (k := 1) (n := (D (-1) 1)) (t := 0) (v := (D 1 (w32 (x3 + 3)))) rfl (mk_k1 _) rfl rfl rfl (mk_c1 _ _)) (ite_c ?_ rfl)
  exact s_call (y := 219) (pc := 728) (nx := 731) (a := 113) (b := 0) (as := [(3, 2), (0, (D 1 (w32 (x3 + 1)))), (0, (D 1 (w32 (x3 + 2)))), (0, (D 1 (w32 (x3 + 3))))]) (r := []) rfl (Nat.le_of_ble_eq_true rfl) rfl rfl (Nat.le_of_ble_eq_true rfl) (Nat.le_of_ble_eq_true rfl) (Or.inr ⟨rfl, mk_k2 _⟩)
set_option maxRecDepth 100000 in
theorem e_219_731 (D : Mem) (x3 : Int) (s0 : Int) : qE 219 731 [(3, 1), (3, 2), (3, 106), (0, x3)] [(0, s0)] (mk D) = (if 0 ≤ (w32 (x3 + 1)) ∧ (w32 (x3 + 1)) < (D (-1) 1) then (if 0 ≤ (w32 (x3 + 2)) ∧ (w32 (x3 + 2)) < (D (-1) 1) then (if 0 ≤ (w32 (x3 + 3)) ∧ (w32 (x3 + 3)) < (D (-1) 1) then ((qR 181 [(3, 106), (0, (D 1 (w32 (x3 + 1)))), (0, (D 1 (w32 (x3 + 2)))), (0, (D 1 (w32 (x3 + 3))))] (mk D)).bind fun w => qE 219 750 [(3, 1), (3, 2), (3, 106), (0, x3)] (psh w.1 [(0, s0)]) w.2) else none) else none) else none) := by
  refine Eq.trans (s_load (y := 219) (pc := 731) (nx := 732) (a := 3) (b := 2) (x := 106) rfl rfl) ?_
  refine Eq.trans (s_load (y := 219) (pc := 732) (nx := 733) (a := 3) (b := 0) (x := 1) rfl rfl) ?_
  refine Eq.trans (s_load (y := 219) (pc := 733) (nx := 734) (a := 0) (b := 3) (x := x3) rfl rfl) ?_
  refine Eq.trans (s_push (y := 219) (pc := 734) (nx := 735) (a := 0) (b := 1) rfl) ?_
  refine Eq.trans (s_add (y := 219) (pc := 735) (nx := 736) (b := 0) rfl) ?_
  refine Eq.trans (s_ald (y := 219) (pc := 736) (nx := 737) (a := 1) (b := 0) (k := 1) (n := (D (-1) 1)) (t := 0) (v := (D 1 (w32 (x3 + 1)))) rfl (mk_k1 _) rfl rfl rfl (mk_c1 _ _)) (ite_c ?_ rfl)
  refine Eq.trans (s_load (y := 219) (pc := 737) (nx := 738) (a := 3) (b := 0) (x := 1) rfl rfl) ?_
  refine Eq.trans (s_load (y := 219) (pc := 738) (nx := 739) (a := 0) (b := 3) (x := x3) rfl rfl) ?_
  refine Eq.trans (s_push (y := 219) (pc := 739) (nx := 740) (a := 0) (b := 2) rfl) ?_
  refine Eq.trans (s_add (y := 219) (pc := 740) (nx := 741) (b := 0) rfl) ?_
  refine Eq.trans (s_ald (y := 219) (pc := 741) (nx := 742) (a := 1) (b := 0) (k := 1) (n := (D (-1) 1)) (t := 0) (v := (D 1 (w32 (x3 + 2)))) rfl (mk_k1 _) rfl rfl rfl (mk_c1 _ _)) (ite_c ?_ rfl)
  refine Eq.trans (s_load (y := 219) (pc := 742) (nx := 743) (a := 3) (b := 0) (x := 1) rfl rfl) ?_
  refine Eq.trans (s_load (y := 219) (pc := 743) (nx := 744) (a := 0) (b := 3) (x := x3) rfl rfl) ?_
  refine Eq.trans (s_push (y := 219) (pc := 744) (nx := 745) (a := 0) (b := 3) rfl) ?_
  refine Eq.trans (s_add (y := 219) (pc := 745) (nx := 746) (b := 0) rfl) ?_
  refine Eq.trans (s_ald (y := 219) (pc := 746) (nx := 747) (a := 1) (b := 0) (k := 1) (n := (D (-1) 1)) (t := 0) (v := (D 1 (w32 (x3 + 3)))) rfl (mk_k1 _) rfl rfl rfl (mk_c1 _ _)) (ite_c ?_ rfl)
  exact s_call (y := 219) (pc := 747) (nx := 750) (a := 181) (b := 0) (as := [(3, 106), (0, (D 1 (w32 (x3 + 1)))), (0, (D 1 (w32 (x3 + 2)))), (0, (D 1 (w32 (x3 + 3))))]) (r := [(0, s0)]) rfl (Nat.le_of_ble_eq_true rfl) rfl rfl (Nat.le_of_ble_eq_true rfl) (Nat.le_of_ble_eq_true rfl) (Or.inr ⟨rfl, mk_k106 _⟩)
set_option maxRecDepth 100000 in
theorem e_219_750 (D : Mem) (x3 : Int) (s0 : Int) (s1 : Int) : qE 219 750 [(3, 1), (3, 2), (3, 106), (0, x3)] [(0, s1), (0, s0)] (mk D) = (if s0 = s1 then qE 219 1073 [(3, 1), (3, 2), (3, 106), (0, x3)] [] (mk D) else some ((0, 0), (mk D))) := by
  refine Eq.trans (s_iceq (y := 219) (pc := 750) (nx := 753) (b := 1073) (tg := 1073) rfl rfl) (ite_c ?_ ?_)
  · rfl
  · refine Eq.trans (s_push (y := 219) (pc := 753) (nx := 754) (a := 0) (b := 0) rfl) ?_
    exact s_retz (y := 219) (pc := 754) (nx := 755) rfl (by decide)
set_option maxRecDepth 100000 in
theorem e_219_755 (D : Mem) (x3 : Int) : qE 219 755 [(3, 1), (3, 2), (3, 106), (0, x3)] [] (mk D) = (if 0 ≤ (w32 (x3 + 1)) ∧ (w32 (x3 + 1)) < (D (-1) 1) then (if 0 ≤ (w32 (x3 + 2)) ∧ (w32 (x3 + 2)) < (D (-1) 1) then ((qR 114 [(3, 2), (0, (D 1 (w32 (x3 + 1)))), (0, (D 1 (w32 (x3 + 2))))] (mk D)).bind fun w => qE 219 769 [(3, 1), (3, 2), (3, 106), (0, x3)] (psh w.1 []) w.2) else none) else none) := by
  refine Eq.trans (s_load (y := 219) (pc := 755) (nx := 756) (a := 3) (b := 1) (x := 2) rfl rfl) ?_
  refine Eq.trans (s_load (y := 219) (pc := 756) (nx := 757) (a := 3) (b := 0) (x := 1) rfl rfl) ?_
  refine Eq.trans (s_load (y := 219) (pc := 757) (nx := 758) (a := 0) (b := 3) (x := x3) rfl rfl) ?_
  refine Eq.trans (s_push (y := 219) (pc := 758) (nx := 759) (a := 0) (b := 1) rfl) ?_
  refine Eq.trans (s_add (y := 219) (pc := 759) (nx := 760) (b := 0) rfl) ?_
  refine Eq.trans (s_ald (y := 219) (pc := 760) (nx := 761) (a := 1) (b := 0) (k := 1) (n := (D (-1) 1)) (t := 0) (v := (D 1 (w32 (x3 + 1)))) rfl (mk_k1 _) rfl rfl rfl (mk_c1 _ _)) (ite_c ?_ rfl)
  refine Eq.trans (s_load (y := 219) (pc := 761) (nx := 762) (a := 3) (b := 0) (x := 1) rfl rfl) ?_
  refine Eq.trans (s_load (y := 219) (pc := 762) (nx := 763) (a := 0) (b := 3) (x := x3) rfl rfl) ?_
  refine Eq.trans (s_push (y := 219) (pc := 763) (nx := 764) (a := 0) (b := 2) rfl) ?_
  refine Eq.trans (s_add (y := 219) (pc := 764) (nx := 765) (b := 0) rfl) ?_
  refine Eq.trans (s_ald (y := 219) (pc := 765) (nx := 766) (a := 1) (b := 0) (k := 1) (n := (D (-1) 1)) (t := 0) (v := (D 1 (w32 (x3 + 2)))) rfl (mk_k1 _) rfl rfl rfl (mk_c1 _ _)) (ite_c ?_ rfl)
  exact s_call (y := 219) (pc := 766) (nx := 769) (a := 114) (b := 0) (as := [(3, 2), (0, (D 1 (w32 (x3 + 1)))), (0, (D 1 (w32 (x3 + 2))))]) (r := []) rfl (Nat.le_of_ble_eq_true rfl) rfl rfl (Nat.le_of_ble_eq_true rfl) (Nat.le_of_ble_eq_true rfl) (Or.inr ⟨rfl, mk_k2 _⟩)
set_option maxRecDepth 100000 in
theorem e_219_769 (D : Mem) (x3 : Int) (s0 : Int) : qE 219 769 [(3, 1), (3, 2), (3, 106), (0, x3)] [(0, s0)] (mk D) = (if 0 ≤ (w32 (x3 + 1)) ∧ (w32 (x3 + 1)) < (D (-1) 1) then (if 0 ≤ (w32 (x3 + 2)) ∧ (w32 (x3 + 2)) < (D (-1) 1) then ((qR 182 [(3, 106), (0, (D 1 (w32 (x3 + 1)))), (0, (D 1 (w32 (x3 + 2))))] (mk D)).bind fun w => qE 219 783 [(3, 1), (3, 2), (3, 106), (0, x3)] (psh w.1 [(0, s0)]) w.2) else none) else none) := by
  refine Eq.trans (s_load (y := 219) (pc := 769) (nx := 770) (a := 3) (b := 2) (x := 106) rfl rfl) ?_
  refine Eq.trans (s_load (y := 219) (pc := 770) (nx := 771) (a := 3) (b := 0) (x := 1) rfl rfl) ?_
  refine Eq.trans (s_load (y := 219) (pc := 771) (nx := 772) (a := 0) (b := 3) (x := x3) rfl rfl) ?_
  refine Eq.trans (s_push (y := 219) (pc := 772) (nx := 773) (a := 0) (b := 1) rfl) ?_
  refine Eq.trans (s_add (y := 219) (pc := 773) (nx := 774) (b := 0) rfl) ?_
  refine Eq.trans (s_ald (y := 219) (pc := 774) (nx := 775) (a := 1) (b := 0) (k := 1) (n := (D (-1) 1)) (t := 0) (v := (D 1 (w32 (x3 + 1)))) rfl (mk_k1 _) rfl rfl rfl (mk_c1 _ _)) (ite_c ?_ rfl)
  refine Eq.trans (s_load (y := 219) (pc := 775) (nx := 776) (a := 3) (b := 0) (x := 1) rfl rfl) ?_
  refine Eq.trans (s_load (y := 219) (pc := 776) (nx := 777) (a := 0) (b := 3) (x := x3) rfl rfl) ?_
  refine Eq.trans (s_push (y := 219) (pc := 777) (nx := 778) (a := 0) (b := 2) rfl) ?_
  refine Eq.trans (s_add (y := 219) (pc := 778) (nx := 779) (b := 0) rfl) ?_
  refine Eq.trans (s_ald (y := 219) (pc := 779) (nx := 780) (a := 1) (b := 0) (k := 1) (n := (D (-1) 1)) (t := 0) (v := (D 1 (w32 (x3 + 2)))) rfl (mk_k1 _) rfl rfl rfl (mk_c1 _ _)) (ite_c ?_ rfl)
  exact s_call (y := 219) (pc := 780) (nx := 783) (a := 182) (b := 0) (as := [(3, 106), (0, (D 1 (w32 (x3 + 1)))), (0, (D 1 (w32 (x3 + 2))))]) (r := [(0, s0)]) rfl (Nat.le_of_ble_eq_true rfl) rfl rfl (Nat.le_of_ble_eq_true rfl) (Nat.le_of_ble_eq_true rfl) (Or.inr ⟨rfl, mk_k106 _⟩)
set_option maxRecDepth 100000 in
theorem e_219_783 (D : Mem) (x3 : Int) (s0 : Int) (s1 : Int) : qE 219 783 [(3, 1), (3, 2), (3, 106), (0, x3)] [(0, s1), (0, s0)] (mk D) = (if s0 = s1 then qE 219 1073 [(3, 1), (3, 2), (3, 106), (0, x3)] [] (mk D) else some ((0, 0), (mk D))) := by
  refine Eq.trans (s_iceq (y := 219) (pc := 783) (nx := 786) (b := 1073) (tg := 1073) rfl rfl) (ite_c ?_ ?_)
  · rfl
  · refine Eq.trans (s_push (y := 219) (pc := 786) (nx := 787) (a := 0) (b := 0) rfl) ?_
    exact s_retz (y := 219) (pc := 787) (nx := 788) rfl (by decide)
set_option maxRecDepth 100000 in
theorem e_219_788 (D : Mem) (x3 : Int) : qE 219 788 [(3, 1), (3, 2), (3, 106), (0, x3)] [] (mk D) = (if 0 ≤ (w32 (x3 + 1)) ∧ (w32 (x3 + 1)) < (D (-1) 1) then (if 0 ≤ (w32 (x3 + 2)) ∧ (w32 (x3 + 2)) < (D (-1) 1) then (if 0 ≤ (w32 (x3 + 3)) ∧ (w32 (x3 + 3)) < (D (-1) 1) then ((qR 115 [(3, 2), (0, (D 1 (w32 (x3 + 1)))), (0, (D 1 (w32 (x3 + 2)))), (0, (D 1 (w32 (x3 + 3))))] (mk D)).bind fun w => qE 219 807 [(3, 1), (3, 2), (3, 106), (0, x3)] (psh w.1 []) w.2) else none) else none) else none) := by
  refine Eq.trans (s_load (y := 219) (pc := 788) (nx := 789) (a := 3) (b := 1) (x := 2) rfl rfl) ?_
  refine Eq.trans (s_load (y := 219) (pc := 789) (nx := 790) (a := 3) (b := 0) (x := 1) rfl rfl) ?_
  refine Eq.trans (s_load (y := 219) (pc := 790) (nx := 791) (a := 0) (b := 3) (x := x3) rfl rfl) ?_
  refine Eq.trans (s_push (y := 219) (pc := 791) (nx := 792) (a := 0) (b := 1) rfl) ?_
  refine Eq.trans (s_add (y := 219) (pc := 792) (nx := 793) (b := 0) rfl) ?_
  refine Eq.trans (s_ald (y := 219) (pc := 793) (nx := 794) (a := 1) (b := 0) (k := 1) (n := (D (-1) 1)) (t := 0) (v := (D 1 (w32 (x3 + 1)))) rfl (mk_k1 _) rfl rfl rfl (mk_c1 _ _)) (ite_c ?_ rfl)
  refine Eq.trans (s_load (y := 219) (pc := 794) (nx := 795) (a := 3) (b := 0) (x := 1) rfl rfl) ?_
  refine Eq.trans (s_load (y := 219) (pc := 795) (nx := 796) (a := 0) (b := 3) (x := x3) rfl rfl) ?_
  refine Eq.trans (s_push (y := 219) (pc := 796) (nx := 797) (a := 0) (b := 2) rfl) ?_
  refine Eq.trans (s_add (y := 219) (pc := 797) (nx := 798) (b := 0) rfl) ?_
  refine Eq.trans (s_ald (y := 219) (pc := 798) (nx := 799) (a := 1) (b := 0) (k := 1) (n := (D (-1) 1)) (t := 0) (v := (D 1 (w32 (x3 + 2)))) rfl (mk_k1 _) rfl rfl rfl (mk_c1 _ _)) (ite_c ?_ rfl)
  refine Eq.trans (s_load (y := 219) (pc := 799) (nx := 800) (a := 3) (b := 0) (x := 1) rfl rfl) ?_
  refine Eq.trans (s_load (y := 219) (pc := 800) (nx := 801) (a := 0) (b := 3) (x := x3) rfl rfl) ?_
  refine Eq.trans (s_push (y := 219) (pc := 801) (nx := 802) (a := 0) (b := 3) rfl) ?_
  refine Eq.trans (s_add (y := 219) (pc := 802) (nx := 803) (b := 0) rfl) ?_
  refine Eq.trans (s_ald (y := 219) (pc := 803) (nx := 804) (a := 1) (b := 0) (k := 1) (n := (D (-1) 1)) (t := 0) (v := (D 1 (w32 (x3 + 3)))) rfl (mk_k1 _) rfl rfl rfl (mk_c1 _ _)) (ite_c ?_ rfl)
  exact s_call (y := 219) (pc := 804) (nx := 807) (a := 115) (b := 0) (as := [(3, 2), (0, (D 1 (w32 (x3 + 1)))), (0, (D 1 (w32 (x3 + 2)))), (0, (D 1 (w32 (x3 + 3))))]) (r := []) rfl (Nat.le_of_ble_eq_true rfl) rfl rfl (Nat.le_of_ble_eq_true rfl) (Nat.le_of_ble_eq_true rfl) (Or.inr ⟨rfl, mk_k2 _⟩)
set_option maxRecDepth 100000 in
theorem e_219_807 (D : Mem) (x3 : Int) (s0 : Int) : qE 219 807 [(3, 1), (3, 2), (3, 106), (0, x3)] [(0, s0)] (mk D) = (if 0 ≤ (w32 (x3 + 1)) ∧ (w32 (x3 + 1)) < (D (-1) 1) then (if 0 ≤ (w32 (x3 + 2)) ∧ (w32 (x3 + 2)) < (D (-1) 1) then (if 0 ≤ (w32 (x3 + 3)) ∧ (w32 (x3 + 3)) < (D (-1) 1) then ((qR 184 [(3, 106), (0, (D 1 (w32 (x3 + 1)))), (0, (D 1 (w32 (x3 + 2)))), (0, (D 1 (w32 (x3 + 3))))] (mk D)).bind fun w => qE 219 826 [(3, 1), (3, 2), (3, 106), (0, x3)] (psh w.1 [(0, s0)]) w.2) else none) else none) else none) := by
  refine Eq.trans (s_load (y := 219) (pc := 807) (nx := 808) (a := 3) (b := 2) (x := 106) rfl rfl) ?_
  refine Eq.trans (s_load (y := 219) (pc := 808) (nx := 809) (a := 3) (b := 0) (x := 1) rfl rfl) ?_
  refine Eq.trans (s_load (y := 219) (pc := 809) (nx := 810) (a := 0) (b := 3) (x := x3) rfl rfl) ?_
  refine Eq.trans (s_push (y := 219) (pc := 810) (nx := 811) (a := 0) (b := 1) rfl) ?_
  refine Eq.trans (s_add (y := 219) (pc := 811) (nx := 812) (b := 0) rfl) ?_
  refine Eq.trans (s_ald (y := 219) (pc := 812) (nx := 813) (a := 1) (b := 0) (k := 1) (n := (D (-1) 1)) (t := 0) (v := (D 1 (w32 (x3 + 1)))) rfl (mk_k1 _) rfl rfl rfl (mk_c1 _ _)) (ite_c ?_ rfl)
  refine Eq.trans (s_load (y := 219) (pc := 813) (nx := 814) (a := 3) (b := 0) (x := 1) rfl rfl) ?_
  refine Eq.trans (s_load (y := 219) (pc := 814) (nx := 815) (a := 0) (b := 3) (x := x3) rfl rfl) ?_
  refine Eq.trans (s_push (y := 219) (pc := 815) (nx := 816) (a := 0) (b := 2) rfl) ?_
  refine Eq.trans (s_add (y := 219) (pc := 816) (nx := 817) (b := 0) rfl) ?_
  refine Eq.trans (s_ald (y := 219) (pc := 817) (nx := 818) (a := 1) (b := 0) (k := 1) (n := (D (-1) 1)) (t := 0) (v := (D 1 (w32 (x3 + 2)))) rfl (mk_k1 _) rfl rfl rfl (mk_c1 _ _)) (ite_c ?_ rfl)
  refine Eq.trans (s_load (y := 219) (pc := 818) (nx := 819) (a := 3) (b := 0) (x := 1) rfl rfl) ?_
  refine Eq.trans (s_load (y := 219) (pc := 819) (nx := 820) (a := 0) (b := 3) (x := x3) rfl rfl) ?_
  refine Eq.trans (s_push (y := 219) (pc := 820) (nx := 821) (a := 0) (b := 3) rfl) ?_
  refine Eq.trans (s_add (y := 219) (pc := 821) (nx := 822) (b := 0) rfl) ?_
  refine Eq.trans (s_ald (y := 219) (pc := 822) (nx := 823) (a := 1) (b := 0) (k := 1) (n := (D (-1) 1)) (t := 0) (v := (D 1 (w32 (x3 + 3)))) rfl (mk_k1 _) rfl rfl rfl (mk_c1 _ _)) (ite_c ?_ rfl)
  exact s_call (y := 219) (pc := 823) (nx := 826) (a := 184) (b := 0) (as := [(3, 106), (0, (D 1 (w32 (x3 + 1)))), (0, (D 1 (w32 (x3 + 2)))), (0, (D 1 (w32 (x3 + 3))))]) (r := [(0, s0)]) rfl (Nat.le_of_ble_eq_true rfl) rfl rfl (Nat.le_of_ble_eq_true rfl) (Nat.le_of_ble_eq_true rfl) (Or.inr ⟨rfl, mk_k106 _⟩)
set_option maxRecDepth 100000 in
theorem e_219_826 (D : Mem) (x3 : Int) (s0 : Int) (s1 : Int) : qE 219 826 [(3, 1), (3, 2), (3, 106), (0, x3)] [(0, s1), (0, s0)] (mk D) = (if s0 = s1 then qE 219 1073 [(3, 1), (3, 2), (3, 106), (0, x3)] [] (mk D) else some ((0, 0), (mk D))) := by
  refine Eq.trans (s_iceq (y := 219) (pc := 826) (nx := 829) (b := 1073) (tg := 1073) rfl rfl) (ite_c ?_ ?_)
  · rfl
  · refine Eq.trans (s_push (y := 219) (pc := 829) (nx := 830) (a := 0) (b := 0) rfl) ?_
    exact s_retz (y := 219) (pc := 830) (nx := 831) rfl (by decide)
set_option maxRecDepth 100000 in
theorem e_219_831 (D : Mem) (x3 : Int) : qE 219 831 [(3, 1), (3, 2), (3, 106), (0, x3)] [] (mk D) = ((qR 116 [(3, 2)] (mk D)).bind fun w => qE 219 835 [(3, 1), (3, 2), (3, 106), (0, x3)] (psh w.1 []) w.2) := by
  refine Eq.trans (s_load (y := 219) (pc := 831) (nx := 832) (a := 3) (b := 1) (x := 2) rfl rfl) ?_
  exact s_call (y := 219) (pc := 832) (nx := 835) (a := 116) (b := 0) (as := [(3, 2)]) (r := []) rfl (Nat.le_of_ble_eq_true rfl) rfl rfl (Nat.le_of_ble_eq_true rfl) (Nat.le_of_ble_eq_true rfl) (Or.inr ⟨rfl, mk_k2 _⟩)
set_option maxRecDepth 100000 in
theorem e_219_835 (D : Mem) (x3 : Int) (s0 : Int) : qE 219 835 [(3, 1), (3, 2), (3, 106), (0, x3)] [(0, s0)] (mk D) = ((qR 189 [(3, 106)] (mk D)).bind fun w => qE 219 839 [(3, 1), (3, 2), (3, 106), (0, x3)] (psh w.1 [(0, s0)]) w.2) := by
  refine Eq.trans (s_load (y := 219) (pc := 835) (nx := 836) (a := 3) (b := 2) (x := 106) rfl rfl) ?_
  exact s_call (y := 219) (pc := 836) (nx := 839) (a := 189) (b := 0) (as := [(3, 106)]) (r := [(0, s0)]) rfl (Nat.le_of_ble_eq_true rfl) rfl rfl (Nat.le_of_ble_eq_true rfl) (Nat.le_of_ble_eq_true rfl) (Or.inr ⟨rfl, mk_k106 _⟩)
set_option maxRecDepth 100000 in
theorem e_219_839 (D : Mem) (x3 : Int) (s0 : Int) (s1 : Int) : qE 219 839 [(3, 1), (3, 2), (3, 106), (0, x3)] [(0, s1), (0, s0)] (mk D) = (if s0 = s1 then qE 219 1073 [(3, 1), (3, 2), (3, 106), (0, x3)] [] (mk D) else some ((0, 0), (mk D))) := by
  refine Eq.trans (s_iceq (y := 219) (pc := 839) (nx := 842) (b := 1073) (tg := 1073) rfl rfl) (ite_c ?_ ?_)
  · rfl
  · refine Eq.trans (s_push (y := 219) (pc := 842) (nx := 843) (a := 0) (b := 0) rfl) ?_
    exact s_retz (y := 219) (pc := 843) (nx := 844) rfl (by decide)
set_option maxRecDepth 100000 in
theorem e_219_844 (D : Mem) (x3 : Int) : qE 219 844 [(3, 1), (3, 2), (3, 106), (0, x3)] [] (mk D) = ((qR 117 [(3, 2)] (mk D)).bind fun w => qE 219 848 [(3, 1), (3, 2), (3, 106), (0, x3)] (psh w.1 []) w.2) := by
  refine Eq.trans (s_load (y := 219) (pc := 844) (nx := 845) (a := 3) (b := 1) (x := 2) rfl rfl) ?_
  exact s_call (y := 219) (pc := 845) (nx := 848) (a := 117) (b := 0) (as := [(3, 2)]) (r := []) rfl (Nat.le_of_ble_eq_true rfl) rfl rfl (Nat.le_of_ble_eq_true rfl) (Nat.le_of_ble_eq_true rfl) (Or.inr ⟨rfl, mk_k2 _⟩)
set_option maxRecDepth 100000 in
theorem e_219_848 (D : Mem) (x3 : Int) (s0 : Int) : qE 219 848 [(3, 1), (3, 2), (3, 106), (0, x3)] [(0, s0)] (mk D) = ((qR 190 [(3, 106)] (mk D)).bind fun w => qE 219 852 [(3, 1), (3, 2), (3, 106), (0, x3)] (psh w.1 [(0, s0)]) w.2) := by
  refine Eq.trans (s_load (y := 219) (pc := 848) (nx := 849) (a := 3) (b := 2) (x := 106) rfl rfl) ?_
  exact s_call (y := 219) (pc := 849) (nx := 852) (a := 190) (b := 0) (as := [(3, 106)]) (r := [(0, s0)]) rfl (Nat.le_of_ble_eq_true rfl) rfl rfl (Nat.le_of_ble_eq_true rfl) (Nat.le_of_ble_eq_true rfl) (Or.inr ⟨rfl, mk_k106 _⟩)
set_option maxRecDepth 100000 in
theorem e_219_852 (D : Mem) (x3 : Int) (s0 : Int) (s1 : Int) : qE 219 852 [(3, 1), (3, 2), (3, 106), (0, x3)] [(0, s1), (0, s0)] (mk D) = (if s0 = s1 then qE 219 1073 [(3, 1), (3, 2), (3, 106), (0, x3)] [] (mk D) else some ((0, 0), (mk D))) := by
  refine Eq.trans (s_iceq (y := 219) (pc := 852) (nx := 855) (b := 1073) (tg := 1073) rfl rfl) (ite_c ?_ ?_)
  · rfl
  · refine Eq.trans (s_push (y := 219) (pc := 855) (nx := 856) (a := 0) (b := 0) rfl) ?_
    exact s_retz (y := 219) (pc := 856) (nx := 857) rfl (by decide)
set_option maxRecDepth 100000 in
theorem e_219_857 (D : Mem) (x3 : Int) : qE 219 857 [(3, 1), (3, 2), (3, 106), (0, x3)] [] (mk D) = (if 0 ≤ (w32 (x3 + 1)) ∧ (w32 (x3 + 1)) < (D (-1) 1) then ((qR 118 [(3, 2), (0, (D 1 (w32 (x3 + 1))))] (mk D)).bind fun w => qE 219 866 [(3, 1), (3, 2), (3, 106), (0, x3)] (psh w.1 []) w.2) else none) := by
  refine Eq.trans (s_load (y := 219) (pc := 857) (nx := 858) (a := 3) (b := 1) (x := 2) rfl rfl) ?_
  refine Eq.trans (s_load (y := 219) (pc := 858) (nx := 859) (a := 3) (b := 0) (x := 1) rfl rfl) ?_
  refine Eq.trans (s_load (y := 219) (pc := 859) (nx := 860) (a := 0) (b := 3) (x := x3) rfl rfl) ?_
  refine Eq.trans (s_push (y := 219) (pc := 860) (nx := 861) (a := 0) (b := 1) rfl) ?_
  refine Eq.trans (s_add (y := 219) (pc := 861) (nx := 862) (b := 0) rfl) ?_
  refine Eq.trans (s_ald (y := 219) (pc := 862) (nx := 863) (a := 1) (b := 0) (k := 1) (n := (D (-1) 1)) (t := 0) (v := (D 1 (w32 (x3 + 1)))) rfl (mk_k1 _) rfl rfl rfl (mk_c1 _ _)) (ite_c ?_ rfl)
  exact s_call (y := 219) (pc := 863) (nx := 866) (a := 118) (b := 0) (as := [(3, 2), (0, (D 1 (w32 (x3 + 1))))]) (r := []) rfl (Nat.le_of_ble_eq_true rfl) rfl rfl (Nat.le_of_ble_eq_true rfl) (Nat.le_of_ble_eq_true rfl) (Or.inr ⟨rfl, mk_k2 _⟩)
set_option maxRecDepth 100000 in
theorem e_219_866 (D : Mem) (x3 : Int) (s0 : Int) : qE 219 866 [(3, 1), (3, 2), (3, 106), (0, x3)] [(0, s0)] (mk D) = (if 0 ≤ (w32 (x3 + 1)) ∧ (w32 (x3 + 1)) < (D (-1) 1) then ((qR 191 [(3, 106), (0, (D 1 (w32 (x3 + 1))))] (mk D)).bind fun w => qE 219 875 [(3, 1), (3, 2), (3, 106), (0, x3)] (psh w.1 [(0, s0)]) w.2) else none) := by
  refine Eq.trans (s_load (y := 219) (pc := 866) (nx := 867) (a := 3) (b := 2) (x := 106) rfl rfl) ?_
  refine Eq.trans (s_load (y := 219) (pc := 867) (nx := 868) (a := 3) (b := 0) (x := 1) rfl rfl) ?_
  refine Eq.trans (s_load (y := 219) (pc := 868) (nx := 869) (a := 0) (b := 3) (x := x3) rfl rfl) ?_
  refine Eq.trans (s_push (y := 219) (pc := 869) (nx := 870) (a := 0) (b := 1) rfl) ?_
  refine Eq.trans (s_add (y := 219) (pc := 870) (nx := 871) (b := 0) rfl) ?_
  refine Eq.trans (s_ald (y := 219) (pc := 871) (nx := 872) (a := 1) (b := 0) (k := 1) (n := (D (-1) 1)) (t := 0) (v := (D 1 (w32 (x3 + 1)))) rfl (mk_k1 _) rfl rfl rfl (mk_c1 _ _)) (ite_c ?_ rfl)
  exact s_call (y := 219) (pc := 872) (nx := 875) (a := 191) (b := 0) (as := [(3, 106), (0, (D 1 (w32 (x3 + 1))))]) (r := [(0, s0)]) rfl (Nat.le_of_ble_eq_true rfl) rfl rfl (Nat.le_of_ble_eq_true rfl) (Nat.le_of_ble_eq_true rfl) (Or.inr ⟨rfl, mk_k106 _⟩)
set_option maxRecDepth 100000 in
theorem e_219_875 (D : Mem) (x3 : Int) (s0 : Int) (s1 : Int) : qE 219 875 [(3, 1), (3, 2), (3, 106), (0, x3)] [(0, s1), (0, s0)] (mk D) = (if s0 = s1 then qE 219 1073 [(3, 1), (3, 2), (3, 106), (0, x3)] [] (mk D) else some ((0, 0), (mk D))) := by
  refine Eq.trans (s_iceq (y := 219) (pc := 875) (nx := 878) (b := 1073) (tg := 1073) rfl rfl) (ite_c ?_ ?_)
  · rfl
  · refine Eq.trans (s_push (y := 219) (pc := 878) (nx := 879) (a := 0) (b := 0) rfl) ?_
    exact s_retz (y := 219) (pc := 879) (nx := 880) rfl (by decide)
set_option maxRecDepth 100000 in
theorem e_219_880 (D : Mem) (x3 : Int) : qE 219 880 [(3, 1), (3, 2), (3, 106), (0, x3)] [] (mk D) = ((qR 119 [(3, 2)] (mk D)).bind fun w => qE 219 884 [(3, 1), (3, 2), (3, 106), (0, x3)] (psh w.1 []) w.2) := by
  refine Eq.trans (s_load (y := 219) (pc := 880) (nx := 881) (a := 3) (b := 1) (x := 2) rfl rfl) ?_
  exact s_call (y := 219) (pc := 881) (nx := 884) (a := 119) (b := 0) (as := [(3, 2)]) (r := []) rfl (Nat.le_of_ble_eq_true rfl) rfl rfl (Nat.le_of_ble_eq_true rfl) (Nat.le_of_ble_eq_true rfl) (Or.inr ⟨rfl, mk_k2 _⟩)
set_option maxRecDepth 100000 in
theorem e_219_884 (D : Mem) (x3 : Int) (s0 : Int) : qE 219 884 [(3, 1), (3, 2), (3, 106), (0, x3)] [(0, s0)] (mk D) = ((qR 192 [(3, 106)] (mk D)).bind fun w => qE 219 888 [(3, 1), (3, 2), (3, 106), (0, x3)] (psh w.1 [(0, s0)]) w.2) := by
  refine Eq.trans (s_load (y := 219) (pc := 884) (nx := 885) (a := 3) (b := 2) (x := 106) rfl rfl) ?_
  exact s_call (y := 219) (pc := 885) (nx := 888) (a := 192) (b := 0) (as := [(3, 106)]) (r := [(0, s0)]) rfl (Nat.le_of_ble_eq_true rfl) rfl rfl (Nat.le_of_ble_eq_true rfl) (Nat.le_of_ble_eq_true rfl) (Or.inr ⟨rfl, mk_k106 _⟩)
set_option maxRecDepth 100000 in
theorem e_219_888 (D : Mem) (x3 : Int) (s0 : Int) (s1 : Int) : qE 219 888 [(3, 1), (3, 2), (3, 106), (0, x3)] [(0, s1), (0, s0)] (mk D) = (if s0 = s1 then qE 219 1073 [(3, 1), (3, 2), (3, 106), (0, x3)] [] (mk D) else some ((0, 0), (mk D))) := by
  refine Eq.trans (s_iceq (y := 219) (pc := 888) (nx := 891) (b := 1073) (tg := 1073) rfl rfl) (ite_c ?_ ?_)
  · rfl
  · refine Eq.trans (s_push (y := 219) (pc := 891) (nx := 892) (a := 0) (b := 0) rfl) ?_
    exact s_retz (y := 219) (pc := 892) (nx := 893) rfl (by decide)
set_option maxRecDepth 100000 in
theorem e_219_893 (D : Mem) (x3 : Int) : qE 219 893 [(3, 1), (3, 2), (3, 106), (0, x3)] [] (mk D) = (if 0 ≤ (w32 (x3 + 1)) ∧ (w32 (x3 + 1)) < (D (-1) 1) then ((qR 120 [(3, 2), (0, (D 1 (w32 (x3 + 1))))] (mk D)).bind fun w => qE 219 902 [(3, 1), (3, 2), (3, 106), (0, x3)] (psh w.1 []) w.2) else none) := by
  refine Eq.trans (s_load (y := 219) (pc := 893) (nx := 894) (a := 3) (b := 1) (x := 2) rfl rfl) ?_
  refine Eq.trans (s_load (y := 219) (pc := 894) (nx := 895) (a := 3) (b := 0) (x := 1) rfl rfl) ?_
  refine Eq.trans (s_load (y := 219) (pc := 895) (nx := 896) (a := 0) (b := 3) (x := x3) rfl rfl) ?_
  refine Eq.trans (s_push (y := 219) (pc := 896) (nx := 897) (a := 0) (b := 1) rfl) ?_
  refine Eq.trans (s_add (y := 219) (pc := 897) (nx := 898) (b := 0) rfl) ?_
  refine Eq.trans (s_ald (y := 219) (pc := 898) (nx := 899) (a := 1) (b := 0) (k := 1) (n := (D (-1) 1)) (t := 0) (v := (D 1 (w32 (x3 + 1)))) rfl (mk_k1 _) rfl rfl rfl (mk_c1 _ _)) (ite_c ?_ rfl)
  exact s_call (y := 219) (pc := 899) (nx := 902) (a := 120) (b := 0) (as := [(3, 2), (0, (D 1 (w32 (x3 + 1))))]) (r := []) rfl (Nat.le_of_ble_eq_true rfl) rfl rfl (Nat.le_of_ble_eq_true rfl) (Nat.le_of_ble_eq_true rfl) (Or.inr ⟨rfl, mk_k2 _⟩)
set_option maxRecDepth 100000 in
theorem e_219_902 (D : Mem) (x3 : Int) (s0 : Int) : qE 219 902 [(3, 1), (3, 2), (3, 106), (0, x3)] [(0, s0)] (mk D) = (if 0 ≤ (w32 (x3 + 1)) ∧ (w32 (x3 + 1)) < (D (-1) 1) then ((qR 193 [(3, 106), (0, (D 1 (w32 (x3 + 1))))] (mk D)).bind fun w => qE 219 911 [(3, 1), (3, 2), (3, 106), (0, x3)] (psh w.1 [(0, s0)]) w.2) else none) := by
  refine Eq.trans (s_load (y := 219) (pc := 902) (nx := 903) (a := 3) (b := 2) (x := 106) rfl rfl) ?_
  refine Eq.trans (s_load (y := 219) (pc := 903) (nx := 904) (a := 3) (b := 0) (x := 1) rfl rfl) ?_
  refine Eq.trans (s_load (y := 219) (pc := 904) (nx := 905) (a := 0) (b := 3) (x := x3) rfl rfl) ?_
  refine Eq.trans (s_push (y := 219) (pc := 905) (nx := 906) (a := 0) (b := 1) rfl) ?_
  refine Eq.trans (s_add (y := 219) (pc := 906) (nx := 907) (b := 0) rfl) ?_
  refine Eq.trans (s_ald (y := 219) (pc := 907) (nx := 908) (a := 1) (b := 0) (k := 1) (n := (D (-1) 1)) (t := 0) (v := (D 1 (w32 (x3 + 1)))) rfl (mk_k1 _) rfl rfl rfl (mk_c1 _ _)) (ite_c ?_ rfl)
  exact s_call (y := 219) (pc := 908) (nx := 911) (a := 193) (b := 0) (as := [(3, 106), (0, (D 1 (w32 (x3 + 1))))]) (r := [(0, s0)]) rfl (Nat.le_of_ble_eq_true rfl) rfl rfl (Nat.le_of_ble_eq_true rfl) (Nat.le_of_ble_eq_true rfl) (Or.inr ⟨rfl, mk_k106 _⟩)
set_option maxRecDepth 100000 in
theorem e_219_911 (D : Mem) (x3 : Int) (s0 : Int) (s1 : Int) : qE 219 911 [(3, 1), (3, 2), (3, 106), (0, x3)] [(0, s1), (0, s0)] (mk D) = (if s0 = s1 then qE 219 1073 [(3, 1), (3, 2), (3, 106), (0, x3)] [] (mk D) else some ((0, 0), (mk D))) := by
  refine Eq.trans (s_iceq (y := 219) (pc := 911) (nx := 914) (b := 1073) (tg := 1073) rfl rfl) (ite_c ?_ ?_)
  · rfl
  · refine Eq.trans (s_push (y := 219) (pc := 914) (nx := 915) (a := 0) (b := 0) rfl) ?_
    exact s_retz (y := 219) (pc := 915) (nx := 916) rfl (by decide)
set_option maxRecDepth 100000 in
theorem e_219_916 (D : Mem) (x3 : Int) : qE 219 916 [(3, 1), (3, 2), (3, 106), (0, x3)] [] (mk D) = (if 0 ≤ (w32 (x3 + 1)) ∧ (w32 (x3 + 1)) < (D (-1) 1) then (if 0 ≤ (w32 (x3 + 2)) ∧ (w32 (x3 + 2)) < (D (-1) 1) then ((qR 121 [(3, 2), (0, (D 1 (w32 (x3 + 1)))), (0, (D 1 (w32 (x3 + 2))))] (mk D)).bind fun w => qE 219 930 [(3, 1), (3, 2), (3, 106), (0, x3)] (psh w.1 []) w.2) else none) else none) := by
  refine Eq.trans (s_load (y := 219) (pc := 916) (nx := 917) (a := 3) (b := 1) (x := 2) rfl rfl) ?_
  refine Eq.trans (s_load (y := 219) (pc := 917) (nx := 918) (a := 3) (b := 0) (x := 1) rfl rfl) ?_
  refine Eq.trans (s_load (y := 219) (pc := 918) (nx := 919) (a := 0) (b := 3) (x := x3) rfl rfl) ?_
  refine Eq.trans (s_push (y := 219) (pc := 919) (nx := 920) (a := 0) (b := 1) rfl) ?_
  refine Eq.trans (s_add (y := 219) (pc := 920) (nx := 921) (b := 0) rfl) ?_
  refine Eq.trans (s_ald (y := 219) (pc := 921) (nx := 922) (a := 1) (b := 0) (k := 1) (n := (D (-1) 1)) (t := 0) (v := (D 1 (w32 (x3 + 1)))) rfl (mk_k1 _) rfl rfl rfl (mk_c1 _ _)) (ite_c ?_ rfl)
  refine Eq.trans (s_load (y := 219) (pc := 922) (nx := 923) (a := 3) (b := 0) (x := 1) rfl rfl) ?_
  refine Eq.trans (s_load (y := 219) (pc := 923) (nx := 924) (a := 0) (b := 3) (x := x3) rfl rfl) ?_
  refine Eq.trans (s_push (y := 219) (pc := 924) (nx := 925) (a := 0) (b := 2) rfl) ?_
  refine Eq.trans (s_add (y := 219) (pc := 925) (nx := 926) (b := 0) rfl) ?_
  refine Eq.trans (s_ald (y := 219) (pc := 926) (nx := 927) (a := 1) (b := 0) (k := 1) (n := (D (-1) 1)) (t := 0) (v := (D 1 (w32 (x3 + 2)))) rfl (mk_k1 _) rfl rfl rfl (mk_c1 _ _)) (ite_c ?_ rfl)
  exact s_call (y := 219) (pc := 927) (nx := 930) (a := 121) (b := 0) (as := [(3, 2), (0, (D 1 (w32 (x3 + 1)))), (0, (D 1 (w32 (x3 + 2))))]) (r := []) rfl (Nat.le_of_ble_eq_true rfl) rfl rfl (Nat.le_of_ble_eq_true rfl) (Nat.le_of_ble_eq_true rfl) (Or.inr ⟨rfl, mk_k2 _⟩)
set_option maxRecDepth 100000 in
theorem e_219_930 (D : Mem) (x3 : Int) (s0 : Int) : qE 219 930 [(3, 1), (3, 2), (3, 106), (0, x3)] [(0, s0)] (mk D) = (if 0 ≤ (w32 (x3 + 1)) ∧ (w32 (x3 + 1)) < (D (-1) 1) then (if 0 ≤ (w32 (x3 + 2)) ∧ (w32 (x3 + 2)) < (D (-1) 1) then ((qR 198 [(3, 106), (0, (D 1 (w32 (x3 + 1)))), (0, (D 1 (w32 (x3 + 2))))] (mk D)).bind fun w => qE 219 944 [(3, 1), (3, 2), (3, 106), (0, x3)] (psh w.1 [(0, s0)]) w.2) else none) else none) := by
  refine Eq.trans (s_load (y := 219) (pc := 930) (nx := 931) (a := 3) (b := 2) (x := 106) rfl rfl) ?_
  refine Eq.trans (s_load (y := 219) (pc := 931) (nx := 932) (a := 3) (b := 0) (x := 1) rfl rfl) ?_
  refine Eq.trans (s_load (y := 219) (pc := 932) (nx := 933) (a := 0) (b := 3) (x := x3) rfl rfl) ?_
  refine Eq.trans (s_push (y := 219) (pc := 933) (nx := 934) (a := 0) (b := 1) rfl) ?_
  refine Eq.trans (s_add (y := 219) (pc := 934) (nx := 935) (b := 0) rfl) ?_
  refine Eq.trans (s_ald (y := 219) (pc := 935) (nx := 936) (a := 1) (b := 0) (k := 1) (n := (D (-1) 1)) (t := 0) (v := (D 1 (w32 (x3 + 1)))) rfl (mk_k1 _) rfl rfl rfl (mk_c1 _ _)) (ite_c ?_ rfl)
  refine Eq.trans (s_load (y := 219) (pc := 936) (nx := 937) (a := 3) (b := 0) (x := 1) rfl rfl) ?_
  refine Eq.trans (s_load (y := 219) (pc := 937) (nx := 938) (a := 0) (b := 3) (x := x3) rfl rfl) ?_
  refine Eq.trans (s_push (y := 219) (pc := 938) (nx := 939) (a := 0) (b := 2) rfl) ?_
  refine Eq.trans (s_add (y := 219) (pc := 939) (nx := 940) (b := 0) rfl) ?_
  refine Eq.trans (s_ald (y := 219) (pc := 940) (nx := 941) (a := 1) (b := 0) (k := 1) (n := (D (-1) 1)) (t := 0) (v := (D 1 (w32 (x3 + 2)))) rfl (mk_k1 _) rfl rfl rfl (mk_c1 _ _)) (ite_c ?_ rfl)
  exact s_call (y := 219) (pc := 941) (nx := 944) (a := 198) (b := 0) (as := [(3, 106), (0, (D 1 (w32 (x3 + 1)))), (0, (D 1 (w32 (x3 + 2))))]) (r := [(0, s0)]) rfl (Nat.le_of_ble_eq_true rfl) rfl rfl (Nat.le_of_ble_eq_true rfl) (Nat.le_of_ble_eq_true rfl) (Or.inr ⟨rfl, mk_k106 _⟩)
set_option maxRecDepth 100000 in
theorem e_219_944 (D : Mem) (x3 : Int) (s0 : Int) (s1 : Int) : qE 219 944 [(3, 1), (3, 2), (3, 106), (0, x3)] [(0, s1), (0, s0)] (mk D) = (if s0 = s1 then qE 219 1073 [(3, 1), (3, 2), (3, 106), (0, x3)] [] (mk D) else some ((0, 0), (mk D))) := by
  refine Eq.trans (s_iceq (y := 219) (pc := 944) (nx := 947) (b := 1073) (tg := 1073) rfl rfl) (ite_c ?_ ?_)
  · rfl
  · refine Eq.trans (s_push (y := 219) (pc := 947) (nx := 948) (a := 0) (b := 0) rfl) ?_
    exact s_retz (y := 219) (pc := 948) (nx := 949) rfl (by decide)
set_option maxRecDepth 100000 in
theorem e_219_949 (D : Mem) (x3 : Int) : qE 219 949 [(3, 1), (3, 2), (3, 106), (0, x3)] [] (mk D) = ((qR 122 [(3, 2)] (mk D)).bind fun w => qE 219 953 [(3, 1), (3, 2), (3, 106), (0, x3)] (psh w.1 []) w.2) := by
  refine Eq.trans (s_load (y := 219) (pc := 949) (nx := 950) (a := 3) (b := 1) (x := 2) rfl rfl) ?_
  exact s_call (y := 219) (pc := 950) (nx := 953) (a := 122) (b := 0) (as := [(3, 2)]) (r := []) rfl (Nat.le_of_ble_eq_true rfl) rfl rfl (Nat.le_of_ble_eq_true rfl) (Nat.le_of_ble_eq_true rfl) (Or.inr ⟨rfl, mk_k2 _⟩)
set_option maxRecDepth 100000 in
theorem e_219_953 (D : Mem) (x3 : Int) (s0 : Int) : qE 219 953 [(3, 1), (3, 2), (3, 106), (0, x3)] [(0, s0)] (mk D) = ((qR 201 [(3, 106)] (mk D)).bind fun w => qE 219 957 [(3, 1), (3, 2), (3, 106), (0, x3)] (psh w.1 [(0, s0)]) w.2) := by
  refine Eq.trans (s_load (y := 219) (pc := 953) (nx := 954) (a := 3) (b := 2) (x := 106) rfl rfl) ?_
  exact s_call (y := 219) (pc := 954) (nx := 957) (a := 201) (b := 0) (as := [(3, 106)]) (r := [(0, s0)]) rfl (Nat.le_of_ble_eq_true rfl) rfl rfl (Nat.le_of_ble_eq_true rfl) (Nat.le_of_ble_eq_true rfl) (Or.inr ⟨rfl, mk_k106 _⟩)
set_option maxRecDepth 100000 in
theorem e_219_957 (D : Mem) (x3 : Int) (s0 : Int) (s1 : Int) : qE 219 957 [(3, 1), (3, 2), (3, 106), (0, x3)] [(0, s1), (0, s0)] (mk D) = (if s0 = s1 then qE 219 1073 [(3, 1), (3, 2), (3, 106), (0, x3)] [] (mk D) else some ((0, 0), (mk D))) := by
  refine Eq.trans (s_iceq (y := 219) (pc := 957) (nx := 960) (b := 1073) (tg := 1073) rfl rfl) (ite_c ?_ ?_)
  · rfl
  · refine Eq.trans (s_push (y := 219) (pc := 960) (nx := 961) (a := 0) (b := 0) rfl) ?_
    exact s_retz (y := 219) (pc := 961) (nx := 962) rfl (by decide)
set_option maxRecDepth 100000 in
theorem e_219_962 (D : Mem) (x3 : Int) : qE 219 962 [(3, 1), (3, 2), (3, 106), (0, x3)] [] (mk D) = (if 0 ≤ (w32 (x3 + 1)) ∧ (w32 (x3 + 1)) < (D (-1) 1) then ((qR 123 [(3, 2), (0, (D 1 (w32 (x3 + 1))))] (mk D)).bind fun w => qE 219 971 [(3, 1), (3, 2), (3, 106), (0, x3)] (psh w.1 []) w.2) else none) := by
  refine Eq.trans (s_load (y := 219) (pc := 962) (nx := 963) (a := 3) (b := 1) (x := 2) rfl rfl) ?_
  refine Eq.trans (s_load (y := 219) (pc := 963) (nx := 964) (a := 3) (b := 0) (x := 1) rfl rfl) ?_
  refine Eq.trans (s_load (y := 219) (pc := 964) (nx := 965) (a := 0) (b := 3) (x := x3) rfl rfl) ?_
  refine Eq.trans (s_push (y := 219) (pc := 965) (nx := 966) (a := 0) (b := 1) rfl) ?_
  refine Eq.trans (s_add (y := 219) (pc := 966) (nx := 967) (b := 0) rfl) ?_
  refine Eq.trans (s_ald (y := 219) (pc := 967) (nx := 968) (a := 1) (b := 0) (k := 1) (n := (D (-1) 1)) (t := 0) (v := (D 1 (w32 (x3 + 1)))) rfl (mk_k1 _) rfl rfl rfl (mk_c1 _ _)) (ite_c ?_ rfl)
  exact s_call (y := 219) (pc := 968) (nx := 971) (a := 123) (b := 0) (as := [(3, 2), (0, (D 1 (w32 (x3 + 1))))]) (r := []) rfl (Nat.le_of_ble_eq_true rfl) rfl rfl (Nat.le_of_ble_eq_true rfl) (Nat.le_of_ble_eq_true rfl) (Or.inr ⟨rfl, mk_k2 _⟩)
set_option maxRecDepth 100000 in
theorem e_219_971 (D : Mem) (x3 : Int) (s0 : Int) : qE 219 971 [(3, 1), (3, 2), (3, 106), (0, x3)] [(0, s0)] (mk D) = (if 0 ≤ (w32 (x3 + 1)) ∧ (w32 (x3 + 1)) < (D (-1) 1) then ((qR 202 [(3, 106), (0, (D 1 (w32 (x3 + 1))))] (mk D)).bind fun w => qE 219 980 [(3, 1), (3, 2), (3, 106), (0, x3)] (psh w.1 [(0, s0)]) w.2) else none) := by
  refine Eq.trans (s_load (y := 219) (pc := 971) (nx := 972) (a := 3) (b := 2) (x := 106) rfl rfl) ?_
  refine Eq.trans (s_load (y := 219) (pc := 972) (nx := 973) (a := 3) (b := 0) (x := 1) rfl rfl) ?_
  refine Eq.trans (s_load (y := 219) (pc := 973) (nx := 974) (a := 0) (b := 3) (x := x3) rfl rfl) ?_
  refine Eq.trans (s_push (y := 219) (pc := 974) (nx := 975) (a := 0) (b := 1) rfl) ?_
  refine Eq.trans (s_add (y := 219) (pc := 975) (nx := 976) (b := 0) rfl) ?_
  refine Eq.trans (s_ald (y := 219) (pc := 976) (nx := 977) (a := 1) (b := 0) (k := 1) (n := (D (-1) 1)) (t := 0) (v := (D 1 (w32 (x3 + 1)))) rfl (mk_k1 _) rfl rfl rfl (mk_c1 _ _)) (ite_c ?_ rfl)
  exact s_call (y := 219) (pc := 977) (nx := 980) (a := 202) (b := 0) (as := [(3, 106), (0, (D 1 (w32 (x3 + 1))))]) (r := [(0, s0)]) rfl (Nat.le_of_ble_eq_true rfl) rfl rfl (Nat.le_of_ble_eq_true rfl) (Nat.le_of_ble_eq_true rfl) (Or.inr ⟨rfl, mk_k106 _⟩)
set_option maxRecDepth 100000 in
theorem e_219_980 (D : Mem) (x3 : Int) (s0 : Int) (s1 : Int) : qE 219 980 [(3, 1), (3, 2), (3, 106), (0, x3)] [(0, s1), (0, s0)] (mk D) = (if s0 = s1 then qE 219 1073 [(3, 1), (3, 2), (3, 106), (0, x3)] [] (mk D) else some ((0, 0), (mk D))) := by
  refine Eq.trans (s_iceq (y := 219) (pc := 980) (nx := 983) (b := 1073) (tg := 1073) rfl rfl) (ite_c ?_ ?_)
  · rfl
  · refine Eq.trans (s_push (y := 219) (pc := 983) (nx := 984) (a := 0) (b := 0) rfl) ?_
    exact s_retz (y := 219) (pc := 984) (nx := 985) rfl (by decide)
set_option maxRecDepth 100000 in
theorem e_219_985 (D : Mem) (x3 : Int) : qE 219 985 [(3, 1), (3, 2), (3, 106), (0, x3)] [] (mk D) = ((qR 124 [(3, 2)] (mk D)).bind fun w => qE 219 989 [(3, 1), (3, 2), (3, 106), (0, x3)] (psh w.1 []) w.2) := by
  refine Eq.trans (s_load (y := 219) (pc := 985) (nx := 986) (a := 3) (b := 1) (x := 2) rfl rfl) ?_
  exact s_call (y := 219) (pc := 986) (nx := 989) (a := 124) (b := 0) (as := [(3, 2)]) (r := []) rfl (Nat.le_of_ble_eq_true rfl) rfl rfl (Nat.le_of_ble_eq_true rfl) (Nat.le_of_ble_eq_true rfl) (Or.inr ⟨rfl, mk_k2 _⟩)
set_option maxRecDepth 100000 in
theorem e_219_989 (D : Mem) (x3 : Int) (s0 : Int) : qE 219 989 [(3, 1), (3, 2), (3, 106), (0, x3)] [(0, s0)] (mk D) = ((qR 204 [(3, 106)] (mk D)).bind fun w => qE 219 993 [(3, 1), (3, 2), (3, 106), (0, x3)] (psh w.1 [(0, s0)]) w.2) := by
  refine Eq.trans (s_load (y := 219) (pc := 989) (nx := 990) (a := 3) (b := 2) (x := 106) rfl rfl) ?_
  exact s_call (y := 219) (pc := 990) (nx := 993) (a := 204) (b := 0) (as := [(3, 106)]) (r := [(0, s0)]) rfl (Nat.le_of_ble_eq_true rfl) rfl rfl (Nat.le_of_ble_eq_true rfl) (Nat.le_of_ble_eq_true rfl) (Or.inr ⟨rfl, mk_k106 _⟩)
set_option maxRecDepth 100000 in
theorem e_219_993 (D : Mem) (x3 : Int) (s0 : Int) (s1 : Int) : qE 219 993 [(3, 1), (3, 2), (3, 106), (0, x3)] [(0, s1), (0, s0)] (mk D) = (if s0 = s1 then qE 219 1073 [(3, 1), (3, 2), (3, 106), (0, x3)] [] (mk D) else some ((0, 0), (mk D))) := by
  refine Eq.trans (s_iceq (y := 219) (pc := 993) (nx := 996) (b := 1073) (tg := 1073) rfl rfl) (ite_c ?_ ?_)
  · rfl
  · refine Eq.trans (s_push (y := 219) (pc := 996) (nx := 997) (a := 0) (b := 0) rfl) ?_
    exact s_retz (y := 219) (pc := 997) (nx := 998) rfl (by decide)
set_option maxRecDepth 100000 in
theorem e_219_998 (D : Mem) (x3 : Int) : qE 219 998 [(3, 1), (3, 2), (3, 106), (0, x3)] [] (mk D) = ((qR 125 [(3, 2)] (mk D)).bind fun w => qE 219 1002 [(3, 1), (3, 2), (3, 106), (0, x3)] (psh w.1 []) w.2) := by
  refine Eq.trans (s_load (y := 219) (pc := 998) (nx := 999) (a := 3) (b := 1) (x := 2) rfl rfl) ?_
  exact s_call (y := 219) (pc := 999) (nx := 1002) (a := 125) (b := 0) (as := [(3, 2)]) (r := []) rfl (Nat.le_of_ble_eq_true rfl) rfl rfl (Nat.le_of_ble_eq_true rfl) (Nat.le_of_ble_eq_true rfl) (Or.inr ⟨rfl, mk_k2 _⟩)
set_option maxRecDepth 100000 in
theorem e_219_1002 (D : Mem) (x3 : Int) (s0 : Int) : qE 219 1002 [(3, 1), (3, 2), (3, 106), (0, x3)] [(0, s0)] (mk D) = ((qR 207 [(3, 106)] (mk D)).bind fun w => qE 219 1006 [(3, 1), (3, 2), (3, 106), (0, x3)] (psh w.1 [(0, s0)]) w.2) := by
  refine Eq.trans (s_load (y := 219) (pc := 1002) (nx := 1003) (a := 3) (b := 2) (x := 106) rfl rfl) ?_
  exact s_call (y := 219) (pc := 1003) (nx := 1006) (a := 207) (b := 0) (as := [(3, 106)]) (r := [(0, s0)]) rfl (Nat.le_of_ble_eq_true rfl) rfl rfl (Nat.le_of_ble_eq_true rfl) (Nat.le_of_ble_eq_true rfl) (Or.inr ⟨rfl, mk_k106 _⟩)
set_option maxRecDepth 100000 in
theorem e_219_1006 (D : Mem) (x3 : Int) (s0 : Int) (s1 : Int) : qE 219 1006 [(3, 1), (3, 2), (3, 106), (0, x3)] [(0, s1), (0, s0)] (mk D) = (if s0 = s1 then qE 219 1073 [(3, 1), (3, 2), (3, 106), (0, x3)] [] (mk D) else some ((0, 0), (mk D))) := by
  refine Eq.trans (s_iceq (y := 219) (pc := 1006) (nx := 1009) (b := 1073) (tg := 1073) rfl rfl) (ite_c ?_ ?_)
  · rfl
  · refine Eq.trans (s_push (y := 219) (pc := 1009) (nx := 1010) (a := 0) (b := 0) rfl) ?_
    exact s_retz (y := 219) (pc := 1010) (nx := 1011) rfl (by decide)
set_option maxRecDepth 100000 in
theorem e_219_1011 (D : Mem) (x3 : Int) : qE 219 1011 [(3, 1), (3, 2), (3, 106), (0, x3)] [] (mk D) = ((qR 126 [(3, 2)] (mk D)).bind fun w => qE 219 1015 [(3, 1), (3, 2), (3, 106), (0, x3)] (psh w.1 []) w.2) := by
  refine Eq.trans (s_load (y := 219) (pc := 1011) (nx := 1012) (a := 3) (b := 1) (x := 2) rfl rfl) ?_
  exact s_call (y := 219) (pc := 1012) (nx := 1015) (a := 126) (b := 0) (as := [(3, 2)]) (r := []) rfl (Nat.le_of_ble_eq_true rfl) rfl rfl (Nat.le_of_ble_eq_true rfl) (Nat.le_of_ble_eq_true rfl) (Or.inr ⟨rfl, mk_k2 _⟩)
set_option maxRecDepth 100000 in
theorem e_219_1015 (D : Mem) (x3 : Int) (s0 : Int) : qE 219 1015 [(3, 1), (3, 2), (3, 106), (0, x3)] [(0, s0)] (mk D) = ((qR 209 [(3, 106)] (mk D)).bind fun w => qE 219 1019 [(3, 1), (3, 2), (3, 106), (0, x3)] (psh w.1 [(0, s0)]) w.2) := by
  refine Eq.trans (s_load (y := 219) (pc := 1015) (nx := 1016) (a := 3) (b := 2) (x := 106) rfl rfl) ?_
  exact s_call (y := 219) (pc := 1016) (nx := 1019) (a := 209) (b := 0) (as := [(3, 106)]) (r := [(0, s0)]) rfl (Nat.le_of_ble_eq_true rfl) rfl rfl (Nat.le_of_ble_eq_true rfl) (Nat.le_of_ble_eq_true rfl) (Or.inr ⟨rfl, mk_k106 _⟩)
set_option maxRecDepth 100000 in
theorem e_219_1019 (D : Mem) (x3 : Int) (s0 : Int) (s1 : Int) : qE 219 1019 [(3, 1), (3, 2), (3, 106), (0, x3)] [(0, s1), (0, s0)] (mk D) = (if s0 = s1 then qE 219 1073 [(3, 1), (3, 2), (3, 106), (0, x3)] [] (mk D) else some ((0, 0), (mk D))) := by
  refine Eq.trans (s_iceq (y := 219) (pc := 1019) (nx := 1022) (b := 1073) (tg := 1073) rfl rfl) (ite_c ?_ ?_)
  · rfl
  · refine Eq.trans (s_push (y := 219) (pc := 1022) (nx := 1023) (a := 0) (b := 0) rfl) ?_
    exact s_retz (y := 219) (pc := 1023) (nx := 1024) rfl (by decide)
set_option maxRecDepth 100000 in
theorem e_219_1024 (D : Mem) (x3 : Int) : qE 219 1024 [(3, 1), (3, 2), (3, 106), (0, x3)] [] (mk D) = ((qR 127 [(3, 2)] (mk D)).bind fun w => qE 219 1028 [(3, 1), (3, 2), (3, 106), (0, x3)] (psh w.1 []) w.2) := by
  refine Eq.trans (s_load (y := 219) (pc := 1024) (nx := 1025) (a := 3) (b := 1) (x := 2) rfl rfl) ?_
  exact s_call (y := 219) (pc := 1025) (nx := 1028) (a := 127) (b := 0) (as := [(3, 2)]) (r := []) rfl (Nat.le_of_ble_eq_true rfl) rfl rfl (Nat.le_of_ble_eq_true rfl) (Nat.le_of_ble_eq_true rfl) (Or.inr ⟨rfl, mk_k2 _⟩)
set_option maxRecDepth 100000 in
theorem e_219_1028 (D : Mem) (x3 : Int) (s0 : Int) : qE 219 1028 [(3, 1), (3, 2), (3, 106), (0, x3)] [(0, s0)] (mk D) = ((qR 213 [(3, 106)] (mk D)).bind fun w => qE 219 1032 [(3, 1), (3, 2), (3, 106), (0, x3)] (psh w.1 [(0, s0)]) w.2) := by
  refine Eq.trans (s_load (y := 219) (pc := 1028) (nx := 1029) (a := 3) (b := 2) (x := 106) rfl rfl) ?_
  exact s_call (y := 219) (pc := 1029) (nx := 1032) (a := 213) (b := 0) (as := [(3, 106)]) (r := [(0, s0)]) rfl (Nat.le_of_ble_eq_true rfl) rfl rfl (Nat.le_of_ble_eq_true rfl) (Nat.le_of_ble_eq_true rfl) (Or.inr ⟨rfl, mk_k106 _⟩)
set_option maxRecDepth 100000 in
theorem e_219_1032 (D : Mem) (x3 : Int) (s0 : Int) (s1 : Int) : qE 219 1032 [(3, 1), (3, 2), (3, 106), (0, x3)] [(0, s1), (0, s0)] (mk D) = (if s0 = s1 then qE 219 1073 [(3, 1), (3, 2), (3, 106), (0, x3)] [] (mk D) else some ((0, 0), (mk D))) := by
  refine Eq.trans (s_iceq (y := 219) (pc := 1032) (nx := 1035) (b := 1073) (tg := 1073) rfl rfl) (ite_c ?_ ?_)
  · rfl
  · refine Eq.trans (s_push (y := 219) (pc := 1035) (nx := 1036) (a := 0) (b := 0) rfl) ?_
    exact s_retz (y := 219) (pc := 1036) (nx := 1037) rfl (by decide)
set_option maxRecDepth 100000 in
theorem e_219_1037 (D : Mem) (x3 : Int) : qE 219 1037 [(3, 1), (3, 2), (3, 106), (0, x3)] [] (mk D) = (if 0 ≤ (w32 (x3 + 1)) ∧ (w32 (x3 + 1)) < (D (-1) 1) then ((qR 128 [(3, 2), (0, (D 1 (w32 (x3 + 1))))] (mk D)).bind fun w => qE 219 1046 [(3, 1), (3, 2), (3, 106), (0, x3)] (psh w.1 []) w.2) else none) := by
  refine Eq.trans (s_load (y := 219) (pc := 1037) (nx := 1038) (a := 3) (b := 1) (x := 2) rfl rfl) ?_
  refine Eq.trans (s_load (y := 219) (pc := 1038) (nx := 1039) (a := 3) (b := 0) (x := 1) rfl rfl) ?_
  refine Eq.trans (s_load (y := 219) (pc := 1039) (nx := 1040) (a := 0) (b := 3) (x := x3) rfl rfl) ?_
  refine Eq.trans (s_push (y := 219) (pc := 1040) (nx := 1041) (a := 0) (b := 1) rfl) ?_
  refine Eq.trans (s_add (y := 219) (pc := 1041) (nx := 1042) (b := 0) rfl) ?_
  refine Eq.trans (s_ald (y := 219) (pc := 1042) (nx := 1043) (a := 1) (b := 0) (k := 1) (n := (D (-1) 1)) (t := 0) (v := (D 1 (w32 (x3 + 1)))) rfl (mk_k1 _) rfl rfl rfl (mk_c1 _ _)) (ite_c ?_ rfl)
  exact s_call (y := 219) (pc := 1043) (nx := 1046) (a := 128) (b := 0) (as := [(3, 2), (0, (D 1 (w32 (x3 + 1))))]) (r := []) rfl (Nat.le_of_ble_eq_true rfl) rfl rfl (Nat.le_of_ble_eq_true rfl) (Nat.le_of_ble_eq_true rfl) (Or.inr ⟨rfl, mk_k2 _⟩)
set_option maxRecDepth 100000 in
theorem e_219_1046 (D : Mem) (x3 : Int) (s0 : Int) : qE 219 1046 [(3, 1), (3, 2), (3, 106), (0, x3)] [(0, s0)] (mk D) = (if 0 ≤ (w32 (x3 + 1)) ∧ (w32 (x3 + 1)) < (D (-1) 1) then ((qR 214 [(3, 106), (0, (D 1 (w32 (x3 + 1))))] (mk D)).bind fun w => qE 219 1055 [(3, 1), (3, 2), (3, 106), (0, x3)] (psh w.1 [(0, s0)]) w.2) else none) := by
  refine Eq.trans (s_load (y := 219) (pc := 1046) (nx := 1047) (a := 3) (b := 2) (x := 106) rfl rfl) ?_
  refine Eq.trans (s_load (y := 219) (pc := 1047) (nx := 1048) (a := 3) (b := 0) (x := 1) rfl rfl) ?_
  refine Eq.trans (s_load (y := 219) (pc := 1048) (nx := 1049) (a := 0) (b := 3) (x := x3) rfl rfl) ?_
  refine Eq.trans (s_push (y := 219) (pc := 1049) (nx := 1050) (a := 0) (b := 1) rfl) ?_
  refine Eq.trans (s_add (y := 219) (pc := 1050) (nx := 1051) (b := 0) rfl) ?_
  refine Eq.trans (s_ald (y := 219) (pc := 1051) (nx := 1052) (a := 1) (b := 0) (k := 1) (n := (D (-1) 1)) (t := 0) (v := (D 1 (w32 (x3 + 1)))) rfl (mk_k1 _) rfl rfl rfl (mk_c1 _ _)) (ite_c ?_ rfl)
  exact s_call (y := 219) (pc := 1052) (nx := 1055) (a := 214) (b := 0) (as := [(3, 106), (0, (D 1 (w32 (x3 + 1))))]) (r := [(0, s0)]) rfl (Nat.le_of_ble_eq_true rfl) rfl rfl (Nat.le_of_ble_eq_true rfl) (Nat.le_of_ble_eq_true rfl) (Or.inr ⟨rfl, mk_k106 _⟩)
set_option maxRecDepth 100000 in
theorem e_219_1055 (D : Mem) (x3 : Int) (s0 : Int) (s1 : Int) : qE 219 1055 [(3, 1), (3, 2), (3, 106), (0, x3)] [(0, s1), (0, s0)] (mk D) = (if s0 = s1 then qE 219 1073 [(3, 1), (3, 2), (3, 106), (0, x3)] [] (mk D) else some ((0, 0), (mk D))) := by
  refine Eq.trans (s_iceq (y := 219) (pc := 1055) (nx := 1058) (b := 1073) (tg := 1073) rfl rfl) (ite_c ?_ ?_)
  · rfl
  · refine Eq.trans (s_push (y := 219) (pc := 1058) (nx := 1059) (a := 0) (b := 0) rfl) ?_
    exact s_retz (y := 219) (pc := 1059) (nx := 1060) rfl (by decide)
set_option maxRecDepth 100000 in
theorem e_219_1060 (D : Mem) (x3 : Int) : qE 219 1060 [(3, 1), (3, 2), (3, 106), (0, x3)] [] (mk D) = ((qR 129 [(3, 2)] (mk D)).bind fun w => qE 219 1064 [(3, 1), (3, 2), (3, 106), (0, x3)] (psh w.1 []) w.2) := by
  refine Eq.trans (s_load (y := 219) (pc := 1060) (nx := 1061) (a := 3) (b := 1) (x := 2) rfl rfl) ?_
  exact s_call (y := 219) (pc := 1061) (nx := 1064) (a := 129) (b := 0) (as := [(3, 2)]) (r := []) rfl (Nat.le_of_ble_eq_true rfl) rfl rfl (Nat.le_of_ble_eq_true rfl) (Nat.le_of_ble_eq_true rfl) (Or.inr ⟨rfl, mk_k2 _⟩)
set_option maxRecDepth 100000 in
theorem e_219_1064 (D : Mem) (x3 : Int) (s0 : Int) : qE 219 1064 [(3, 1), (3, 2), (3, 106), (0, x3)] [(0, s0)] (mk D) = ((qR 215 [(3, 106)] (mk D)).bind fun w => qE 219 1068 [(3, 1), (3, 2), (3, 106), (0, x3)] (psh w.1 [(0, s0)]) w.2) := by
  refine Eq.trans (s_load (y := 219) (pc := 1064) (nx := 1065) (a := 3) (b := 2) (x := 106) rfl rfl) ?_
  exact s_call (y := 219) (pc := 1065) (nx := 1068) (a := 215) (b := 0) (as := [(3, 106)]) (r := [(0, s0)]) rfl (Nat.le_of_ble_eq_true rfl) rfl rfl (Nat.le_of_ble_eq_true rfl) (Nat.le_of_ble_eq_true rfl) (Or.inr ⟨rfl, mk_k106 _⟩)
set_option maxRecDepth 100000 in
theorem e_219_1068 (D : Mem) (x3 : Int) (s0 : Int) (s1 : Int) : qE 219 1068 [(3, 1), (3, 2), (3, 106), (0, x3)] [(0, s1), (0, s0)] (mk D) = (if s0 = s1 then qE 219 1073 [(3, 1), (3, 2), (3, 106), (0, x3)] [] (mk D) else some ((0, 0), (mk D))) := by
  refine Eq.trans (s_iceq (y := 219) (pc := 1068) (nx := 1071) (b := 1073) (tg := 1073) rfl rfl) (ite_c ?_ ?_)
  · rfl
  · refine Eq.trans (s_push (y := 219) (pc := 1071) (nx := 1072) (a := 0) (b := 0) rfl) ?_
    exact s_retz (y := 219) (pc := 1072) (nx := 1073) rfl (by decide)
set_option maxRecDepth 100000 in
theorem e_219_1073 (D : Mem) (x3 : Int) : qE 219 1073 [(3, 1), (3, 2), (3, 106), (0, x3)] [] (mk D) = qE 219 18 [(3, 1), (3, 2), (3, 106), (0, (w32 (x3 + 6)))] [] (mk D) := by
  refine Eq.trans (s_iinc (y := 219) (pc := 1073) (nx := 1076) (a := 3) (b := 6) (x := x3) (ls' := [(3, 1), (3, 2), (3, 106), (0, (w32 (x3 + 6)))]) rfl rfl rfl) ?_
  refine Eq.trans (s_goto (y := 219) (pc := 1076) (nx := 1079) (a := 0) (b := 18) (tg := 18) rfl rfl) ?_
  rfl
