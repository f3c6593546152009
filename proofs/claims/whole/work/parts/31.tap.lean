/-! presses of tapping a word -/
def tapF (D : Mem) (w i : Int) : Int := posK (D 107) (D 108 (10 * w + i)) + if 0 < i ∧ D 107 (D 108 (10 * w + i - 1)) = D 107 (D 108 (10 * w + i)) then 1 else 0
def tapW (D : Mem) (w : Int) : Int := 1 + S (tapF D w) (D 109 w)
theorem tapF_bd {D : Mem} {k w i : Int} (hW : RW D k) (h0 : 0 ≤ w) (h1 : w < D 106 6) (i0 : 0 ≤ i) (i1 : i < D 109 w) : 0 ≤ tapF D w i ∧ tapF D w i ≤ 27 := by
  have hl := ((hW.2.2.1 w h0 h1).2.1 i i0 i1).2
  have := posK_bd (D 107) hl.1
  unfold tapF
  split <;> omega
theorem sp_194 {D : Mem} {k w : Int} (hW : RW D k) (h0 : 0 ≤ w) (h1 : w < D 106 6) : qR 194 [(3, 106), (0, w)] (mk D) = some ((0, tapW D w), mk D) := by
  have hn := hW.1
  have hw := hW.2.2.1 w h0 h1
  have hlen : 1 ≤ D 109 w ∧ D 109 w ≤ 10 := hw.1.2.2
  have h80 : 0 ≤ w ∧ w < 80 := by omega
  have e1 : w32 (10 * w) = 10 * w := w32_id (by omega) (by omega)
  rw [r_194]
  obtain ⟨s, e, hI⟩ := it_inv (fun i (s : Int × PV) => qE 194 4 [(3, 106), (0, w), (0, s.1), (0, i), s.2] [] (mk D)) (fun i s => s.1 = 1 + S (tapF D w) i ∧ 1 ≤ s.1 ∧ s.1 ≤ 1 + 27 * i) (show 0 ≤ D 109 w by omega) (fun i s g0 g1 hs => by
    have hb := tapF_bd hW h0 h1 g0 g1
    have hl := (hw.2.1 i g0 g1).2
    have hl' : 0 ≤ D 108 (10 * w + i) ∧ D 108 (10 * w + i) < 26 := by omega
    have hp := posK_bd (D 107) hl.1
    have e2 : w32 (10 * w + i) = 10 * w + i := w32_id (by omega) (by omega)
    have e3 : w32 (i + 1) = i + 1 := w32_id (by omega) (by omega)
    have e4 : w32 (10 * w + i - 1) = 10 * w + i - 1 := w32_id (by omega) (by omega)
    have e5 : w32 (s.1 + posK (D 107) (D 108 (10 * w + i))) = s.1 + posK (D 107) (D 108 (10 * w + i)) := w32_id (by omega) (by omega)
    have e6 : w32 (s.1 + posK (D 107) (D 108 (10 * w + i)) + 1) = s.1 + posK (D 107) (D 108 (10 * w + i)) + 1 := w32_id (by omega) (by omega)
    have e7 : w32 (s.1 + posK (D 107) (D 108 (10 * w + i)) + 0) = s.1 + posK (D 107) (D 108 (10 * w + i)) + 0 := w32_id (by omega) (by omega)
    refine ⟨(s.1 + tapF D w i, (0, D 108 (10 * w + i))), ?_, ?_, ?_⟩
    · show qE 194 4 [(3, 106), (0, w), (0, s.1), (0, i), s.2] [] (mk D) = qE 194 4 [(3, 106), (0, w), (0, s.1 + tapF D w i), (0, i + 1), (0, D 108 (10 * w + i))] [] (mk D)
      rw [e_194_4, if_pos h80, if_pos g1, e1, e2, if_pos (by omega), sp_145 D hl']
      simp only [Option.bind_some, psh_0]
      rw [e_194_34, e1, e2, e3, e4, e5, e6, e7]
      by_cases c : i ≤ 0
      · have : tapF D w i = posK (D 107) (D 108 (10 * w + i)) + 0 := by unfold tapF; rw [if_neg (by omega)]
        rw [if_pos c, this, Int.add_assoc]
      · have hq := (hw.2.1 (i - 1) (by omega) (by omega)).2
        rw [show 10 * w + (i - 1) = 10 * w + i - 1 by omega] at hq
        rw [if_neg c, if_pos (by omega), if_pos (by omega), if_pos hl']
        by_cases d : D 107 (D 108 (10 * w + i - 1)) = D 107 (D 108 (10 * w + i))
        · have : tapF D w i = posK (D 107) (D 108 (10 * w + i)) + 1 := by unfold tapF; rw [if_pos ⟨by omega, d⟩]
          rw [if_pos d, this, Int.add_assoc]
        · have : tapF D w i = posK (D 107) (D 108 (10 * w + i)) + 0 := by unfold tapF; rw [if_neg (fun q => d q.2)]
          rw [if_neg d, this, Int.add_assoc]
    · show s.1 + tapF D w i = _
      rw [S_succ _ g0, hs.1, Int.add_assoc]
    · show 1 ≤ s.1 + tapF D w i ∧ s.1 + tapF D w i ≤ 1 + 27 * (i + 1)
      omega) (s0 := (1, (9, 0))) ⟨by show (1 : Int) = _; rw [S_0]; rfl, by show (1 : Int) ≤ 1; decide, by show (1 : Int) ≤ 1 + 27 * 0; decide⟩
  refine e.trans ?_
  show qE 194 4 [(3, 106), (0, w), (0, s.1), (0, D 109 w), s.2] [] (mk D) = _
  rw [e_194_4, if_pos h80, if_neg (by omega), hI.1]
  rfl
theorem rowAtW {D : Mem} {k w i : Int} (hW : RW D k) (h0 : 0 ≤ w) (h1 : w < D 106 6) (i0 : 0 ≤ i) (i1 : i < D 109 w) : rowAt (mk D) (132 + 3 * w) i = D 108 (10 * w + i) := by
  have hn := hW.1
  obtain ⟨⟨a1, a2, a3, a4⟩, b, -⟩ := hW.2.2.1 w h0 h1
  have h5 : w < D 5 2 := by omega
  unfold rowAt
  rw [mk_rr h0 h5, mk_rf h0 (by decide), a1, if_pos ⟨i0, i1⟩, mk_ac h0]
  exact (b i i0 i1).1
theorem rowSzW {D : Mem} {k w : Int} (hW : RW D k) (h0 : 0 ≤ w) (h1 : w < D 106 6) : mk D (132 + 3 * w) 1 = D 109 w := by
  rw [mk_rf h0 (by decide)]
  exact (hW.2.2.1 w h0 h1).1.1
theorem sp_30 {D : Mem} {k w : Int} (hK : RK D) (hW : RW D k) (h0 : 0 ≤ w) (h1 : w < D 106 6) : qR 30 [(3, 3), (3, 132 + 3 * w)] (mk D) = some ((0, tapW D w), mk D) := by
  have hn := hW.1
  have hw := hW.2.2.1 w h0 h1
  have hlen : 1 ≤ D 109 w ∧ D 109 w ≤ 10 := hw.1.2.2
  have h5 : w < D 5 2 := by omega
  have hr := isRowW hW h0 h1
  have hk := mk_rk h0 h5
  obtain ⟨k1, k2⟩ := hK
  rw [r_30]
  obtain ⟨s, e, hI⟩ := it_inv (fun i (s : Int × Int × PV) => qE 30 7 [(3, 3), (3, 132 + 3 * w), (0, s.1), (0, s.2.1), (0, i), s.2.2] [] (mk D)) (fun i s => (s.1 = 1 + S (tapF D w) i ∧ 1 ≤ s.1 ∧ s.1 ≤ 1 + 27 * i) ∧ s.2.1 = if 0 < i then D 107 (D 108 (10 * w + i - 1)) else 0) (show 0 ≤ D 109 w by omega) (fun i s g0 g1 hs => by
    obtain ⟨hs, hq⟩ := hs
    have hb := tapF_bd hW h0 h1 g0 g1
    have hl := (hw.2.1 i g0 g1).2
    have hl' : 0 ≤ D 108 (10 * w + i) ∧ D 108 (10 * w + i) < 26 := by omega
    have hp := posK_bd (D 107) hl.1
    have hkk := k2 _ hl'.1 hl'.2
    have e3 : w32 (i + 1) = i + 1 := w32_id (by omega) (by omega)
    have e5 : w32 (s.1 + posK (D 107) (D 108 (10 * w + i))) = s.1 + posK (D 107) (D 108 (10 * w + i)) := w32_id (by omega) (by omega)
    have e6 : w32 (s.1 + posK (D 107) (D 108 (10 * w + i)) + 1) = s.1 + posK (D 107) (D 108 (10 * w + i)) + 1 := w32_id (by omega) (by omega)
    refine ⟨(s.1 + tapF D w i, D 107 (D 108 (10 * w + i)), (0, D 107 (D 108 (10 * w + i)))), ?_, ⟨?_, ?_⟩, ?_⟩
    · show qE 30 7 [(3, 3), (3, 132 + 3 * w), (0, s.1), (0, s.2.1), (0, i), s.2.2] [] (mk D) = qE 30 7 [(3, 3), (3, 132 + 3 * w), (0, s.1 + tapF D w i), (0, D 107 (D 108 (10 * w + i))), (0, i + 1), (0, D 107 (D 108 (10 * w + i)))] [] (mk D)
      rw [e_30_7, if_pos hk, row_size hr, rowSzW hW h0 h1]
      simp only [Option.bind_some, psh_0]
      rw [e_30_13, if_pos g1, if_pos hk, row_at hr, rowAtW hW h0 h1 g0 g1]
      simp only [Option.bind_some, psh_0]
      rw [e_30_23, sp_26, if_pos hl', k1]
      simp only [Option.bind_some, psh_0]
      rw [e_30_26, if_pos hk, row_at hr, rowAtW hW h0 h1 g0 g1]
      simp only [Option.bind_some, psh_0]
      rw [e_30_36, sp_29 D hl', k1]
      simp only [Option.bind_some, psh_0]
      rw [e_30_39, e3, e5, e6, hq]
      by_cases c : 0 < i
      · rw [if_pos c]
        by_cases d : D 107 (D 108 (10 * w + i - 1)) = D 107 (D 108 (10 * w + i))
        · have : tapF D w i = posK (D 107) (D 108 (10 * w + i)) + 1 := by unfold tapF; rw [if_pos ⟨c, d⟩]
          rw [if_pos d.symm, this, Int.add_assoc]
        · have : tapF D w i = posK (D 107) (D 108 (10 * w + i)) + 0 := by unfold tapF; rw [if_neg (fun q => d q.2)]
          rw [if_neg (fun q => d q.symm), this, Int.add_zero]
      · have : tapF D w i = posK (D 107) (D 108 (10 * w + i)) + 0 := by unfold tapF; rw [if_neg (fun q => c q.1)]
        rw [if_neg c, if_neg (by omega), this, Int.add_zero]
    · show s.1 + tapF D w i = _
      rw [S_succ _ g0, hs.1, Int.add_assoc]
    · show 1 ≤ s.1 + tapF D w i ∧ s.1 + tapF D w i ≤ 1 + 27 * (i + 1)
      omega
    · show D 107 (D 108 (10 * w + i)) = _
      rw [if_pos (by omega), show 10 * w + (i + 1) - 1 = 10 * w + i by omega]) (s0 := (1, 0, (9, 0))) ⟨⟨by show (1 : Int) = _; rw [S_0]; rfl, by show (1 : Int) ≤ 1; decide, by show (1 : Int) ≤ 1 + 27 * 0; decide⟩, by show (0 : Int) = _; rw [if_neg (by decide)]⟩
  refine e.trans ?_
  show qE 30 7 [(3, 3), (3, 132 + 3 * w), (0, s.1), (0, s.2.1), (0, D 109 w), s.2.2] [] (mk D) = _
  rw [e_30_7, if_pos hk, row_size hr, rowSzW hW h0 h1]
  simp only [Option.bind_some, psh_0]
  rw [e_30_13, if_neg (by omega), hI.1.1]
  rfl
theorem tapW_bd {D : Mem} {k w : Int} (hW : RW D k) (h0 : 0 ≤ w) (h1 : w < D 106 6) : 1 ≤ tapW D w ∧ tapW D w ≤ 271 := by
  have hlen : 1 ≤ D 109 w ∧ D 109 w ≤ 10 := (hW.2.2.1 w h0 h1).1.2.2
  have := S_bd (f := tapF D w) (a := 0) (b := 27) (show 0 ≤ D 109 w by omega) (fun j j0 j1 => tapF_bd hW h0 h1 j0 j1)
  unfold tapW
  omega
def tapT (D : Mem) (j : Int) : Int := if D 112 (D 117 j) = 0 then 0 else tapW D (D 117 j)
theorem sp_203 {D : Mem} {k : Int} (hW : RW D k) (hS : RSc D) : qR 203 [(3, 106)] (mk D) = some ((0, S (tapT D) (D 106 16)), mk D) := by
  have hn := hW.1
  obtain ⟨c1, c2, c3, c4, c5⟩ := hS
  rw [r_203]
  obtain ⟨s, e, hI⟩ := it_inv (fun i (s : Int) => qE 203 4 [(3, 106), (0, s), (0, i)] [] (mk D)) (fun i s => s = S (tapT D) i ∧ 0 ≤ s ∧ s ≤ 271 * i) c2 (fun i s g0 g1 hs => by
    have h := c5 i g0 g1
    have hb := tapW_bd hW h.1 h.2
    have gi : 0 ≤ i ∧ i < 60 := by omega
    have gw : 0 ≤ D 117 i ∧ D 117 i < 80 := by omega
    have e3 : w32 (i + 1) = i + 1 := w32_id (by omega) (by omega)
    have e4 : w32 (s + 0) = s + 0 := w32_id (by omega) (by omega)
    have e5 : w32 (s + tapW D (D 117 i)) = s + tapW D (D 117 i) := w32_id (by omega) (by omega)
    refine ⟨s + tapT D i, ?_, ?_, ?_⟩
    · show qE 203 4 [(3, 106), (0, s), (0, i)] [] (mk D) = qE 203 4 [(3, 106), (0, s + tapT D i), (0, i + 1)] [] (mk D)
      rw [e_203_4, if_pos g1, if_pos gi, if_pos gw, if_pos gi, sp_194 hW h.1 h.2]
      simp only [Option.bind_some, psh_0]
      rw [e_203_37, e3, e4, e5]
      unfold tapT
      by_cases c : D 112 (D 117 i) = 0
      · rw [if_pos c, if_pos c]
      · rw [if_neg c, if_neg c]
    · rw [S_succ _ g0, hs.1]
    · unfold tapT; split <;> omega) (s0 := 0) ⟨rfl, by decide, by decide⟩
  refine e.trans ?_
  show qE 203 4 [(3, 106), (0, s), (0, D 106 16)] [] (mk D) = _
  rw [e_203_4, if_neg (by omega), hI.1]
theorem sp_124 {D : Mem} {k : Int} (hK : RK D) (hW : RW D k) (hS : RSc D) : qR 124 [(3, 2)] (mk D) = some ((0, S (tapT D) (D 106 16)), mk D) := by
  have hn := hW.1
  obtain ⟨c1, c2, c3, c4, c5⟩ := hS
  have hr := isRow102 (D := D) (by omega) (by omega)
  rw [r_124]
  obtain ⟨s, e, hI⟩ := it_inv (fun i (s : Int × PV) => qE 124 4 [(3, 2), (0, s.1), (0, i), s.2] [] (mk D)) (fun i s => s.1 = S (tapT D) i ∧ 0 ≤ s.1 ∧ s.1 ≤ 271 * i) c2 (fun i s g0 g1 hs => by
    have h := c5 i g0 g1
    have hb := tapW_bd hW h.1 h.2
    have h5 : 0 ≤ D 117 i ∧ D 117 i < D 5 2 := by omega
    have ra : rowAt (mk D) 102 i = D 117 i := by unfold rowAt; rw [mk_102_1, if_pos (by omega), mk_102_0, mk_c103, c4]
    have e0 : ¬ (131 + 3 * D 117 i = 0) := by omega
    have t1 := (thr_cl hW h.1 h.2).1
    have e2 : mk D (131 + 3 * D 117 i) 3 = D 112 (D 117 i) := by rw [mk_wf h.1 (by decide)]; exact t1
    have e3 : w32 (i + 1) = i + 1 := w32_id (by omega) (by omega)
    have e5 : w32 (s.1 + tapW D (D 117 i)) = s.1 + tapW D (D 117 i) := w32_id (by omega) (by omega)
    refine ⟨(s.1 + tapT D i, (3, 131 + 3 * D 117 i)), ?_, ?_, ?_⟩
    · show qE 124 4 [(3, 2), (0, s.1), (0, i), s.2] [] (mk D) = qE 124 4 [(3, 2), (0, s.1 + tapT D i), (0, i + 1), (3, 131 + 3 * D 117 i)] [] (mk D)
      rw [e_124_4, row_size hr, mk_102_1, c1]
      simp only [Option.bind_some, psh_0]
      rw [e_124_12, if_pos g1, row_at hr, ra]
      simp only [Option.bind_some, psh_0]
      rw [e_124_27, sp_7 (by omega), if_pos h5]
      simp only [Option.bind_some, psh_3]
      rw [e_124_30, if_neg e0, if_pos (mk_wk h5.1 h5.2), e2, if_pos (mk_wk h5.1 h5.2), mk_wr h5.1 h5.2, sp_30 hK hW h.1 h.2]
      simp only [Option.bind_some, psh_0]
      rw [e_124_54, e3, e5]
      unfold tapT
      by_cases c : D 112 (D 117 i) = 0
      · rw [if_pos c, if_pos c, Int.add_zero]
      · rw [if_neg c, if_neg c]
    · show s.1 + tapT D i = _
      rw [S_succ _ g0, hs.1]
    · show 0 ≤ s.1 + tapT D i ∧ s.1 + tapT D i ≤ 271 * (i + 1)
      unfold tapT; split <;> omega) (s0 := (0, (9, 0))) ⟨rfl, by show (0 : Int) ≤ 0; decide, by show (0 : Int) ≤ 271 * 0; decide⟩
  refine e.trans ?_
  show qE 124 4 [(3, 2), (0, s.1), (0, D 106 16), s.2] [] (mk D) = _
  rw [e_124_4, row_size hr, mk_102_1, c1]
  simp only [Option.bind_some, psh_0]
  rw [e_124_12, if_neg (by omega), hI.1]
theorem ca_taps {D : Mem} {k : Int} (hR : Rel D k) : CaseOK D k 124 204 [] :=
  case_same hR (sp_124 hR.1 hR.2.1 hR.2.2.2.1.2.2.1) (by simp [r_204, sp_203 hR.2.1 hR.2.2.2.1.2.2.1, psh_0, e_204_4])
