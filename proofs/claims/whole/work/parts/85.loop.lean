/-! the law's loop -/
theorem lawcase {D : Mem} {k x : Int} {yc ym p0 p1 p2 : Nat} {as : List PV} (hC : CaseOK D k yc ym as) (hI : Inv (mk D)) (ha : okSt as) (r0 : qE 219 p0 [(3, 1), (3, 2), (3, 106), (0, x)] [] (mk D) = (qR yc ((3, 2) :: as) (mk D)).bind fun w => qE 219 p1 [(3, 1), (3, 2), (3, 106), (0, x)] (psh w.1 []) w.2) (r1 : ∀ D1 : Mem, (∀ i, D1 1 i = D 1 i) → D1 (-1) 1 = D (-1) 1 → ∀ s0, qE 219 p1 [(3, 1), (3, 2), (3, 106), (0, x)] [(0, s0)] (mk D1) = (qR ym ((3, 106) :: as) (mk D1)).bind fun w => qE 219 p2 [(3, 1), (3, 2), (3, 106), (0, x)] (psh w.1 [(0, s0)]) w.2) (r2 : ∀ (D2 : Mem) s0 s1, qE 219 p2 [(3, 1), (3, 2), (3, 106), (0, x)] [(0, s1), (0, s0)] (mk D2) = if s0 = s1 then qE 219 1073 [(3, 1), (3, 2), (3, 106), (0, x)] [] (mk D2) else some ((0, 0), mk D2)) : ∃ D2 : Mem, qE 219 p0 [(3, 1), (3, 2), (3, 106), (0, x)] [] (mk D) = qE 219 1073 [(3, 1), (3, 2), (3, 106), (0, x)] [] (mk D2) ∧ Rel D2 (k + 1) ∧ Inv (mk D2) ∧ (∀ i, D2 1 i = D 1 i) ∧ D2 (-1) 1 = D (-1) 1 := by
  obtain ⟨v, D1, D2, h1, h2, h3, h4, h5⟩ := hC
  obtain ⟨i1, s1, s2⟩ := qR_keep hI (okSt_cons.mpr ⟨⟨by decide, by show (0 : Int) ≤ 2; decide⟩, ha⟩) h1
  obtain ⟨i2, _, _⟩ := qR_keep i1 (okSt_cons.mpr ⟨⟨by decide, by show (0 : Int) ≤ 106; decide⟩, ha⟩) h2
  have e1 : ∀ i, D1 1 i = D 1 i := fun i => congrFun s1 i
  have e2 : D1 (-1) 1 = D (-1) 1 := congrFun s2 1
  refine ⟨D2, ?_, h3, i2, h4, h5 1⟩
  rw [r0, h1]
  simp only [Option.bind_some, psh_0]
  rw [r1 D1 e1 e2, h2]
  simp only [Option.bind_some, psh_0]
  rw [r2, if_pos rfl]
theorem ok0 {x : Int} (h : in32 x) : okS (0, x) := ⟨by show 0 ≤ 3; decide, h⟩
theorem sw5 (c : Int) : swG (pSw.getD 5 []) c (Int.toNat 1073) = if c = 0 then 188 else if c = 1 then 221 else if c = 2 then 254 else if c = 3 then 287 else if c = 4 then 350 else if c = 5 then 363 else if c = 6 then 386 else if c = 7 then 409 else if c = 8 then 442 else if c = 9 then 485 else if c = 10 then 518 else if c = 11 then 551 else if c = 12 then 564 else if c = 13 then 587 else if c = 14 then 610 else if c = 15 then 643 else if c = 16 then 666 else if c = 17 then 679 else if c = 18 then 712 else if c = 19 then 755 else if c = 20 then 788 else if c = 21 then 831 else if c = 22 then 844 else if c = 23 then 857 else if c = 24 then 880 else if c = 25 then 893 else if c = 26 then 916 else if c = 27 then 949 else if c = 28 then 962 else if c = 29 then 985 else if c = 30 then 998 else if c = 31 then 1011 else if c = 32 then 1024 else if c = 33 then 1037 else if c = 34 then 1060 else 1073 := rfl
theorem law_step {D : Mem} {k x : Int} (hR : Rel D k) (hk : k ≤ 1000) (hI : Inv (mk D)) (x0 : 0 ≤ x) (x1 : x + 5 < D (-1) 1) (hL : D (-1) 1 ≤ 3072) (h32 : ∀ i, in32 (D 1 i)) (c : Int) : ∃ D2 : Mem, qE 219 (swG (pSw.getD 5 []) c (Int.toNat 1073)) [(3, 1), (3, 2), (3, 106), (0, x)] [] (mk D) = qE 219 1073 [(3, 1), (3, 2), (3, 106), (0, x)] [] (mk D2) ∧ Rel D2 (k + 1) ∧ Inv (mk D2) ∧ (∀ i, D2 1 i = D 1 i) ∧ D2 (-1) 1 = D (-1) 1 := by
  have w1 : w32 (x + 1) = x + 1 := w32_id (by omega) (by omega)
  have w2 : w32 (x + 2) = x + 2 := w32_id (by omega) (by omega)
  have w3 : w32 (x + 3) = x + 3 := w32_id (by omega) (by omega)
  have w4 : w32 (x + 4) = x + 4 := w32_id (by omega) (by omega)
  have w5 : w32 (x + 5) = x + 5 := w32_id (by omega) (by omega)
  have nil : okSt [] := fun v hv => by cases hv
  rw [sw5]
  by_cases c0 : c = 0
  · rw [if_pos c0]
    exact lawcase (ca_deal hR (D 1 (x + 1)) (D 1 (x + 2))) hI (okSt_cons.mpr ⟨ok0 (h32 (x + 1)), (okSt_cons.mpr ⟨ok0 (h32 (x + 2)), nil⟩)⟩) (by rw [e_219_188, w1, w2, if_pos (show 0 ≤ x + 1 ∧ x + 1 < D (-1) 1 by omega), if_pos (show 0 ≤ x + 2 ∧ x + 2 < D (-1) 1 by omega)]) (fun D1 h1 h2 s0 => by rw [e_219_202, h2, w1, w2, if_pos (show 0 ≤ x + 1 ∧ x + 1 < D (-1) 1 by omega), if_pos (show 0 ≤ x + 2 ∧ x + 2 < D (-1) 1 by omega), h1 (x + 1), h1 (x + 2)]) (fun D2 s0 s1 => e_219_216 D2 x s0 s1)
  rw [if_neg c0]
  by_cases c1 : c = 1
  · rw [if_pos c1]
    exact lawcase (ca_letter hR (D 1 (x + 1)) (D 1 (x + 2))) hI (okSt_cons.mpr ⟨ok0 (h32 (x + 1)), (okSt_cons.mpr ⟨ok0 (h32 (x + 2)), nil⟩)⟩) (by rw [e_219_221, w1, w2, if_pos (show 0 ≤ x + 1 ∧ x + 1 < D (-1) 1 by omega), if_pos (show 0 ≤ x + 2 ∧ x + 2 < D (-1) 1 by omega)]) (fun D1 h1 h2 s0 => by rw [e_219_235, h2, w1, w2, if_pos (show 0 ≤ x + 1 ∧ x + 1 < D (-1) 1 by omega), if_pos (show 0 ≤ x + 2 ∧ x + 2 < D (-1) 1 by omega), h1 (x + 1), h1 (x + 2)]) (fun D2 s0 s1 => e_219_249 D2 x s0 s1)
  rw [if_neg c1]
  by_cases c2 : c = 2
  · rw [if_pos c2]
    exact lawcase (ca_beside hR (D 1 (x + 1)) (D 1 (x + 2))) hI (okSt_cons.mpr ⟨ok0 (h32 (x + 1)), (okSt_cons.mpr ⟨ok0 (h32 (x + 2)), nil⟩)⟩) (by rw [e_219_254, w1, w2, if_pos (show 0 ≤ x + 1 ∧ x + 1 < D (-1) 1 by omega), if_pos (show 0 ≤ x + 2 ∧ x + 2 < D (-1) 1 by omega)]) (fun D1 h1 h2 s0 => by rw [e_219_268, h2, w1, w2, if_pos (show 0 ≤ x + 1 ∧ x + 1 < D (-1) 1 by omega), if_pos (show 0 ≤ x + 2 ∧ x + 2 < D (-1) 1 by omega), h1 (x + 1), h1 (x + 2)]) (fun D2 s0 s1 => e_219_282 D2 x s0 s1)
  rw [if_neg c2]
  by_cases c3 : c = 3
  · rw [if_pos c3]
    exact lawcase (ca_spell hR (D 1 (x + 1)) (D 1 (x + 2)) (D 1 (x + 3)) (D 1 (x + 4)) (D 1 (x + 5))) hI (okSt_cons.mpr ⟨ok0 (h32 (x + 1)), (okSt_cons.mpr ⟨ok0 (h32 (x + 2)), (okSt_cons.mpr ⟨ok0 (h32 (x + 3)), (okSt_cons.mpr ⟨ok0 (h32 (x + 4)), (okSt_cons.mpr ⟨ok0 (h32 (x + 5)), nil⟩)⟩)⟩)⟩)⟩) (by rw [e_219_287, w1, w2, w3, w4, w5, if_pos (show 0 ≤ x + 1 ∧ x + 1 < D (-1) 1 by omega), if_pos (show 0 ≤ x + 2 ∧ x + 2 < D (-1) 1 by omega), if_pos (show 0 ≤ x + 3 ∧ x + 3 < D (-1) 1 by omega), if_pos (show 0 ≤ x + 4 ∧ x + 4 < D (-1) 1 by omega), if_pos (show 0 ≤ x + 5 ∧ x + 5 < D (-1) 1 by omega)]) (fun D1 h1 h2 s0 => by rw [e_219_316, h2, w1, w2, w3, w4, w5, if_pos (show 0 ≤ x + 1 ∧ x + 1 < D (-1) 1 by omega), if_pos (show 0 ≤ x + 2 ∧ x + 2 < D (-1) 1 by omega), if_pos (show 0 ≤ x + 3 ∧ x + 3 < D (-1) 1 by omega), if_pos (show 0 ≤ x + 4 ∧ x + 4 < D (-1) 1 by omega), if_pos (show 0 ≤ x + 5 ∧ x + 5 < D (-1) 1 by omega), h1 (x + 1), h1 (x + 2), h1 (x + 3), h1 (x + 4), h1 (x + 5)]) (fun D2 s0 s1 => e_219_345 D2 x s0 s1)
  rw [if_neg c3]
  by_cases c4 : c = 4
  · rw [if_pos c4]
    exact lawcase (ca_unspell hR) hI nil (by rw [e_219_350]) (fun D1 h1 h2 s0 => by rw [e_219_354]) (fun D2 s0 s1 => e_219_358 D2 x s0 s1)
  rw [if_neg c4]
  by_cases c5 : c = 5
  · rw [if_pos c5]
    exact lawcase (ca_add hR hk (D 1 (x + 1))) hI (okSt_cons.mpr ⟨ok0 (h32 (x + 1)), nil⟩) (by rw [e_219_363, w1, if_pos (show 0 ≤ x + 1 ∧ x + 1 < D (-1) 1 by omega)]) (fun D1 h1 h2 s0 => by rw [e_219_372, h2, w1, if_pos (show 0 ≤ x + 1 ∧ x + 1 < D (-1) 1 by omega), h1 (x + 1)]) (fun D2 s0 s1 => e_219_381 D2 x s0 s1)
  rw [if_neg c5]
  by_cases c6 : c = 6
  · rw [if_pos c6]
    exact lawcase (ca_drop hR (D 1 (x + 1))) hI (okSt_cons.mpr ⟨ok0 (h32 (x + 1)), nil⟩) (by rw [e_219_386, w1, if_pos (show 0 ≤ x + 1 ∧ x + 1 < D (-1) 1 by omega)]) (fun D1 h1 h2 s0 => by rw [e_219_395, h2, w1, if_pos (show 0 ≤ x + 1 ∧ x + 1 < D (-1) 1 by omega), h1 (x + 1)]) (fun D2 s0 s1 => e_219_404 D2 x s0 s1)
  rw [if_neg c6]
  by_cases c7 : c = 7
  · rw [if_pos c7]
    exact lawcase (ca_count hR (D 1 (x + 1)) (D 1 (x + 2))) hI (okSt_cons.mpr ⟨ok0 (h32 (x + 1)), (okSt_cons.mpr ⟨ok0 (h32 (x + 2)), nil⟩)⟩) (by rw [e_219_409, w1, w2, if_pos (show 0 ≤ x + 1 ∧ x + 1 < D (-1) 1 by omega), if_pos (show 0 ≤ x + 2 ∧ x + 2 < D (-1) 1 by omega)]) (fun D1 h1 h2 s0 => by rw [e_219_423, h2, w1, w2, if_pos (show 0 ≤ x + 1 ∧ x + 1 < D (-1) 1 by omega), if_pos (show 0 ≤ x + 2 ∧ x + 2 < D (-1) 1 by omega), h1 (x + 1), h1 (x + 2)]) (fun D2 s0 s1 => e_219_437 D2 x s0 s1)
  rw [if_neg c7]
  by_cases c8 : c = 8
  · rw [if_pos c8]
    exact lawcase (ca_pair hR (D 1 (x + 1)) (D 1 (x + 2)) (D 1 (x + 3))) hI (okSt_cons.mpr ⟨ok0 (h32 (x + 1)), (okSt_cons.mpr ⟨ok0 (h32 (x + 2)), (okSt_cons.mpr ⟨ok0 (h32 (x + 3)), nil⟩)⟩)⟩) (by rw [e_219_442, w1, w2, w3, if_pos (show 0 ≤ x + 1 ∧ x + 1 < D (-1) 1 by omega), if_pos (show 0 ≤ x + 2 ∧ x + 2 < D (-1) 1 by omega), if_pos (show 0 ≤ x + 3 ∧ x + 3 < D (-1) 1 by omega)]) (fun D1 h1 h2 s0 => by rw [e_219_461, h2, w1, w2, w3, if_pos (show 0 ≤ x + 1 ∧ x + 1 < D (-1) 1 by omega), if_pos (show 0 ≤ x + 2 ∧ x + 2 < D (-1) 1 by omega), if_pos (show 0 ≤ x + 3 ∧ x + 3 < D (-1) 1 by omega), h1 (x + 1), h1 (x + 2), h1 (x + 3)]) (fun D2 s0 s1 => e_219_480 D2 x s0 s1)
  rw [if_neg c8]
  by_cases c9 : c = 9
  · rw [if_pos c9]
    exact lawcase (ca_word hR (D 1 (x + 1)) (D 1 (x + 2)) (h32 _).1 (h32 _).2) hI (okSt_cons.mpr ⟨ok0 (h32 (x + 1)), (okSt_cons.mpr ⟨ok0 (h32 (x + 2)), nil⟩)⟩) (by rw [e_219_485, w1, w2, if_pos (show 0 ≤ x + 1 ∧ x + 1 < D (-1) 1 by omega), if_pos (show 0 ≤ x + 2 ∧ x + 2 < D (-1) 1 by omega)]) (fun D1 h1 h2 s0 => by rw [e_219_499, h2, w1, w2, if_pos (show 0 ≤ x + 1 ∧ x + 1 < D (-1) 1 by omega), if_pos (show 0 ≤ x + 2 ∧ x + 2 < D (-1) 1 by omega), h1 (x + 1), h1 (x + 2)]) (fun D2 s0 s1 => e_219_513 D2 x s0 s1)
  rw [if_neg c9]
  by_cases c10 : c = 10
  · rw [if_pos c10]
    exact lawcase (ca_paired hR (D 1 (x + 1)) (D 1 (x + 2))) hI (okSt_cons.mpr ⟨ok0 (h32 (x + 1)), (okSt_cons.mpr ⟨ok0 (h32 (x + 2)), nil⟩)⟩) (by rw [e_219_518, w1, w2, if_pos (show 0 ≤ x + 1 ∧ x + 1 < D (-1) 1 by omega), if_pos (show 0 ≤ x + 2 ∧ x + 2 < D (-1) 1 by omega)]) (fun D1 h1 h2 s0 => by rw [e_219_532, h2, w1, w2, if_pos (show 0 ≤ x + 1 ∧ x + 1 < D (-1) 1 by omega), if_pos (show 0 ≤ x + 2 ∧ x + 2 < D (-1) 1 by omega), h1 (x + 1), h1 (x + 2)]) (fun D2 s0 s1 => e_219_546 D2 x s0 s1)
  rw [if_neg c10]
  by_cases c11 : c = 11
  · rw [if_pos c11]
    exact lawcase (ca_find hR) hI nil (by rw [e_219_551]) (fun D1 h1 h2 s0 => by rw [e_219_555]) (fun D2 s0 s1 => e_219_559 D2 x s0 s1)
  rw [if_neg c11]
  by_cases c12 : c = 12
  · rw [if_pos c12]
    exact lawcase (ca_many hR (D 1 (x + 1))) hI (okSt_cons.mpr ⟨ok0 (h32 (x + 1)), nil⟩) (by rw [e_219_564, w1, if_pos (show 0 ≤ x + 1 ∧ x + 1 < D (-1) 1 by omega)]) (fun D1 h1 h2 s0 => by rw [e_219_573, h2, w1, if_pos (show 0 ≤ x + 1 ∧ x + 1 < D (-1) 1 by omega), h1 (x + 1)]) (fun D2 s0 s1 => e_219_582 D2 x s0 s1)
  rw [if_neg c12]
  by_cases c13 : c = 13
  · rw [if_pos c13]
    exact lawcase (ca_share hR (D 1 (x + 1))) hI (okSt_cons.mpr ⟨ok0 (h32 (x + 1)), nil⟩) (by rw [e_219_587, w1, if_pos (show 0 ≤ x + 1 ∧ x + 1 < D (-1) 1 by omega)]) (fun D1 h1 h2 s0 => by rw [e_219_596, h2, w1, if_pos (show 0 ≤ x + 1 ∧ x + 1 < D (-1) 1 by omega), h1 (x + 1)]) (fun D2 s0 s1 => e_219_605 D2 x s0 s1)
  rw [if_neg c13]
  by_cases c14 : c = 14
  · rw [if_pos c14]
    exact lawcase (ca_price hR (D 1 (x + 1)) (D 1 (x + 2))) hI (okSt_cons.mpr ⟨ok0 (h32 (x + 1)), (okSt_cons.mpr ⟨ok0 (h32 (x + 2)), nil⟩)⟩) (by rw [e_219_610, w1, w2, if_pos (show 0 ≤ x + 1 ∧ x + 1 < D (-1) 1 by omega), if_pos (show 0 ≤ x + 2 ∧ x + 2 < D (-1) 1 by omega)]) (fun D1 h1 h2 s0 => by rw [e_219_624, h2, w1, w2, if_pos (show 0 ≤ x + 1 ∧ x + 1 < D (-1) 1 by omega), if_pos (show 0 ≤ x + 2 ∧ x + 2 < D (-1) 1 by omega), h1 (x + 1), h1 (x + 2)]) (fun D2 s0 s1 => e_219_638 D2 x s0 s1)
  rw [if_neg c14]
  by_cases c15 : c = 15
  · rw [if_pos c15]
    exact lawcase (ca_press hR (D 1 (x + 1))) hI (okSt_cons.mpr ⟨ok0 (h32 (x + 1)), nil⟩) (by rw [e_219_643, w1, if_pos (show 0 ≤ x + 1 ∧ x + 1 < D (-1) 1 by omega)]) (fun D1 h1 h2 s0 => by rw [e_219_652, h2, w1, if_pos (show 0 ≤ x + 1 ∧ x + 1 < D (-1) 1 by omega), h1 (x + 1)]) (fun D2 s0 s1 => e_219_661 D2 x s0 s1)
  rw [if_neg c15]
  by_cases c16 : c = 16
  · rw [if_pos c16]
    exact lawcase (ca_back hR) hI nil (by rw [e_219_666]) (fun D1 h1 h2 s0 => by rw [e_219_670]) (fun D2 s0 s1 => e_219_674 D2 x s0 s1)
  rw [if_neg c16]
  by_cases c17 : c = 17
  · rw [if_pos c17]
    exact lawcase (ca_offers hR hk (D 1 (x + 1)) (D 1 (x + 2))) hI (okSt_cons.mpr ⟨ok0 (h32 (x + 1)), (okSt_cons.mpr ⟨ok0 (h32 (x + 2)), nil⟩)⟩) (by rw [e_219_679, w1, w2, if_pos (show 0 ≤ x + 1 ∧ x + 1 < D (-1) 1 by omega), if_pos (show 0 ≤ x + 2 ∧ x + 2 < D (-1) 1 by omega)]) (fun D1 h1 h2 s0 => by rw [e_219_693, h2, w1, w2, if_pos (show 0 ≤ x + 1 ∧ x + 1 < D (-1) 1 by omega), if_pos (show 0 ≤ x + 2 ∧ x + 2 < D (-1) 1 by omega), h1 (x + 1), h1 (x + 2)]) (fun D2 s0 s1 => e_219_707 D2 x s0 s1)
  rw [if_neg c17]
  by_cases c18 : c = 18
  · rw [if_pos c18]
    exact lawcase (ca_offer hR hk (D 1 (x + 1)) (D 1 (x + 2)) (D 1 (x + 3))) hI (okSt_cons.mpr ⟨ok0 (h32 (x + 1)), (okSt_cons.mpr ⟨ok0 (h32 (x + 2)), (okSt_cons.mpr ⟨ok0 (h32 (x + 3)), nil⟩)⟩)⟩) (by rw [e_219_712, w1, w2, w3, if_pos (show 0 ≤ x + 1 ∧ x + 1 < D (-1) 1 by omega), if_pos (show 0 ≤ x + 2 ∧ x + 2 < D (-1) 1 by omega), if_pos (show 0 ≤ x + 3 ∧ x + 3 < D (-1) 1 by omega)]) (fun D1 h1 h2 s0 => by rw [e_219_731, h2, w1, w2, w3, if_pos (show 0 ≤ x + 1 ∧ x + 1 < D (-1) 1 by omega), if_pos (show 0 ≤ x + 2 ∧ x + 2 < D (-1) 1 by omega), if_pos (show 0 ≤ x + 3 ∧ x + 3 < D (-1) 1 by omega), h1 (x + 1), h1 (x + 2), h1 (x + 3)]) (fun D2 s0 s1 => e_219_750 D2 x s0 s1)
  rw [if_neg c18]
  by_cases c19 : c = 19
  · rw [if_pos c19]
    exact lawcase (ca_priced hR hk (D 1 (x + 1)) (D 1 (x + 2))) hI (okSt_cons.mpr ⟨ok0 (h32 (x + 1)), (okSt_cons.mpr ⟨ok0 (h32 (x + 2)), nil⟩)⟩) (by rw [e_219_755, w1, w2, if_pos (show 0 ≤ x + 1 ∧ x + 1 < D (-1) 1 by omega), if_pos (show 0 ≤ x + 2 ∧ x + 2 < D (-1) 1 by omega)]) (fun D1 h1 h2 s0 => by rw [e_219_769, h2, w1, w2, if_pos (show 0 ≤ x + 1 ∧ x + 1 < D (-1) 1 by omega), if_pos (show 0 ≤ x + 2 ∧ x + 2 < D (-1) 1 by omega), h1 (x + 1), h1 (x + 2)]) (fun D2 s0 s1 => e_219_783 D2 x s0 s1)
  rw [if_neg c19]
  by_cases c20 : c = 20
  · rw [if_pos c20]
    exact lawcase (ca_take hR hk (D 1 (x + 1)) (D 1 (x + 2)) (D 1 (x + 3))) hI (okSt_cons.mpr ⟨ok0 (h32 (x + 1)), (okSt_cons.mpr ⟨ok0 (h32 (x + 2)), (okSt_cons.mpr ⟨ok0 (h32 (x + 3)), nil⟩)⟩)⟩) (by rw [e_219_788, w1, w2, w3, if_pos (show 0 ≤ x + 1 ∧ x + 1 < D (-1) 1 by omega), if_pos (show 0 ≤ x + 2 ∧ x + 2 < D (-1) 1 by omega), if_pos (show 0 ≤ x + 3 ∧ x + 3 < D (-1) 1 by omega)]) (fun D1 h1 h2 s0 => by rw [e_219_807, h2, w1, w2, w3, if_pos (show 0 ≤ x + 1 ∧ x + 1 < D (-1) 1 by omega), if_pos (show 0 ≤ x + 2 ∧ x + 2 < D (-1) 1 by omega), if_pos (show 0 ≤ x + 3 ∧ x + 3 < D (-1) 1 by omega), h1 (x + 1), h1 (x + 2), h1 (x + 3)]) (fun D2 s0 s1 => e_219_826 D2 x s0 s1)
  rw [if_neg c20]
  by_cases c21 : c = 21
  · rw [if_pos c21]
    exact lawcase (ca_third hR hk) hI nil (by rw [e_219_831]) (fun D1 h1 h2 s0 => by rw [e_219_835]) (fun D2 s0 s1 => e_219_839 D2 x s0 s1)
  rw [if_neg c21]
  by_cases c22 : c = 22
  · rw [if_pos c22]
    exact lawcase (ca_newcomer hR) hI nil (by rw [e_219_844]) (fun D1 h1 h2 s0 => by rw [e_219_848]) (fun D2 s0 s1 => e_219_852 D2 x s0 s1)
  rw [if_neg c22]
  by_cases c23 : c = 23
  · rw [if_pos c23]
    exact lawcase (ca_put hR (D 1 (x + 1))) hI (okSt_cons.mpr ⟨ok0 (h32 (x + 1)), nil⟩) (by rw [e_219_857, w1, if_pos (show 0 ≤ x + 1 ∧ x + 1 < D (-1) 1 by omega)]) (fun D1 h1 h2 s0 => by rw [e_219_866, h2, w1, if_pos (show 0 ≤ x + 1 ∧ x + 1 < D (-1) 1 by omega), h1 (x + 1)]) (fun D2 s0 s1 => e_219_875 D2 x s0 s1)
  rw [if_neg c23]
  by_cases c24 : c = 24
  · rw [if_pos c24]
    exact lawcase (ca_wipe hR) hI nil (by rw [e_219_880]) (fun D1 h1 h2 s0 => by rw [e_219_884]) (fun D2 s0 s1 => e_219_888 D2 x s0 s1)
  rw [if_neg c24]
  by_cases c25 : c = 25
  · rw [if_pos c25]
    exact lawcase (ca_text hR (D 1 (x + 1))) hI (okSt_cons.mpr ⟨ok0 (h32 (x + 1)), nil⟩) (by rw [e_219_893, w1, if_pos (show 0 ≤ x + 1 ∧ x + 1 < D (-1) 1 by omega)]) (fun D1 h1 h2 s0 => by rw [e_219_902, h2, w1, if_pos (show 0 ≤ x + 1 ∧ x + 1 < D (-1) 1 by omega), h1 (x + 1)]) (fun D2 s0 s1 => e_219_911 D2 x s0 s1)
  rw [if_neg c25]
  by_cases c26 : c = 26
  · rw [if_pos c26]
    exact lawcase (ca_cost hR hk (D 1 (x + 1)) (D 1 (x + 2))) hI (okSt_cons.mpr ⟨ok0 (h32 (x + 1)), (okSt_cons.mpr ⟨ok0 (h32 (x + 2)), nil⟩)⟩) (by rw [e_219_916, w1, w2, if_pos (show 0 ≤ x + 1 ∧ x + 1 < D (-1) 1 by omega), if_pos (show 0 ≤ x + 2 ∧ x + 2 < D (-1) 1 by omega)]) (fun D1 h1 h2 s0 => by rw [e_219_930, h2, w1, w2, if_pos (show 0 ≤ x + 1 ∧ x + 1 < D (-1) 1 by omega), if_pos (show 0 ≤ x + 2 ∧ x + 2 < D (-1) 1 by omega), h1 (x + 1), h1 (x + 2)]) (fun D2 s0 s1 => e_219_944 D2 x s0 s1)
  rw [if_neg c26]
  by_cases c27 : c = 27
  · rw [if_pos c27]
    exact lawcase (ca_fewest hR hk) hI nil (by rw [e_219_949]) (fun D1 h1 h2 s0 => by rw [e_219_953]) (fun D2 s0 s1 => e_219_957 D2 x s0 s1)
  rw [if_neg c27]
  by_cases c28 : c = 28
  · rw [if_pos c28]
    exact lawcase (ca_plan hR hk (D 1 (x + 1))) hI (okSt_cons.mpr ⟨ok0 (h32 (x + 1)), nil⟩) (by rw [e_219_962, w1, if_pos (show 0 ≤ x + 1 ∧ x + 1 < D (-1) 1 by omega)]) (fun D1 h1 h2 s0 => by rw [e_219_971, h2, w1, if_pos (show 0 ≤ x + 1 ∧ x + 1 < D (-1) 1 by omega), h1 (x + 1)]) (fun D2 s0 s1 => e_219_980 D2 x s0 s1)
  rw [if_neg c28]
  by_cases c29 : c = 29
  · rw [if_pos c29]
    exact lawcase (ca_taps hR) hI nil (by rw [e_219_985]) (fun D1 h1 h2 s0 => by rw [e_219_989]) (fun D2 s0 s1 => e_219_993 D2 x s0 s1)
  rw [if_neg c29]
  by_cases c30 : c = 30
  · rw [if_pos c30]
    exact lawcase (ca_best hR hk) hI nil (by rw [e_219_998]) (fun D1 h1 h2 s0 => by rw [e_219_1002]) (fun D2 s0 s1 => e_219_1006 D2 x s0 s1)
  rw [if_neg c30]
  by_cases c31 : c = 31
  · rw [if_pos c31]
    exact lawcase (ca_swap hR hk) hI nil (by rw [e_219_1011]) (fun D1 h1 h2 s0 => by rw [e_219_1015]) (fun D2 s0 s1 => e_219_1019 D2 x s0 s1)
  rw [if_neg c31]
  by_cases c32 : c = 32
  · rw [if_pos c32]
    exact lawcase (ca_clash hR hk) hI nil (by rw [e_219_1024]) (fun D1 h1 h2 s0 => by rw [e_219_1028]) (fun D2 s0 s1 => e_219_1032 D2 x s0 s1)
  rw [if_neg c32]
  by_cases c33 : c = 33
  · rw [if_pos c33]
    exact lawcase (ca_clashing hR hk (D 1 (x + 1)) (h32 _).1 (h32 _).2) hI (okSt_cons.mpr ⟨ok0 (h32 (x + 1)), nil⟩) (by rw [e_219_1037, w1, if_pos (show 0 ≤ x + 1 ∧ x + 1 < D (-1) 1 by omega)]) (fun D1 h1 h2 s0 => by rw [e_219_1046, h2, w1, if_pos (show 0 ≤ x + 1 ∧ x + 1 < D (-1) 1 by omega), h1 (x + 1)]) (fun D2 s0 s1 => e_219_1055 D2 x s0 s1)
  rw [if_neg c33]
  by_cases c34 : c = 34
  · rw [if_pos c34]
    exact lawcase (ca_clashes hR hk) hI nil (by rw [e_219_1060]) (fun D1 h1 h2 s0 => by rw [e_219_1064]) (fun D2 s0 s1 => e_219_1068 D2 x s0 s1)
  rw [if_neg c34]
  exact ⟨D, rfl, ⟨hR.1, RW_mono hR.2.1, hR.2.2.1, hR.2.2.2.1, RN_mono hR.2.2.2.2⟩, hI, fun _ => rfl, rfl⟩
