/-! the reference's own search, and its own facts -/
def rfW (D : Mem) : Prop := (0 ≤ D 106 6 ∧ D 106 6 ≤ 80) ∧ (∀ w, 0 ≤ w → w < D 106 6 → D 112 w = 0 ∨ D 112 w = 1) ∧ 0 ≤ D 106 12 ∧ D 106 12 ≤ 10
theorem rfW_of {D : Mem} {k : Int} (hW : RW D k) (hS : RSa D) : rfW D := ⟨hW.1.2, fun w h0 h1 => (thr_cl hW h0 h1).2, hS.2.1, hS.2.2.1⟩
theorem rfW_congr {D E : Mem} (h : ∀ y i, (108 ≤ y ∧ y ≤ 113) ∨ y = 115 ∨ (y = 106 ∧ (i = 6 ∨ i = 8 ∨ i = 12)) → E y i = D y i) (hQ : rfW D) : rfW E := by
  unfold rfW
  rw [h 106 6 (by omega), h 106 12 (by omega), show E 112 = D 112 from funext fun i => h _ _ (by omega)]
  exact hQ
theorem mat_congr {D E : Mem} (h : ∀ y i, (108 ≤ y ∧ y ≤ 113) ∨ y = 115 ∨ (y = 106 ∧ (i = 6 ∨ i = 8 ∨ i = 12)) → E y i = D y i) (w : Int) : mat E w ↔ mat D w := by
  unfold mat ltr
  rw [h 106 12 (by omega), show E 112 = D 112 from funext fun i => h _ _ (by omega), show E 109 = D 109 from funext fun i => h _ _ (by omega), show E 108 = D 108 from funext fun i => h _ _ (by omega), show E 115 = D 115 from funext fun i => h _ _ (by omega)]
theorem sq_150s {D : Mem} {w r : Int} (hQ : rfW D) (h0 : 0 ≤ w) (h1 : w < D 106 6) (v3 v4 : PV) : (mat D w → ∃ u3 u4, qE 150 4 [(3, 106), (0, r), (0, w), v3, v4] [] (mk D) = qE 150 4 [(3, 106), (0, w), (0, w + 1), u3, u4] [] (mk D)) ∧ (¬ mat D w → ∃ u3 u4, qE 150 4 [(3, 106), (0, r), (0, w), v3, v4] [] (mk D) = qE 150 4 [(3, 106), (0, r), (0, w + 1), u3, u4] [] (mk D)) := by
  obtain ⟨hn, q2, s2, s3⟩ := hQ
  have t2 := q2 w h0 h1
  have h80 : 0 ≤ w ∧ w < 80 := by omega
  have e1 : w32 (w + 1) = w + 1 := w32_id (by omega) (by omega)
  have hi := sp_150i (D := D) (r := r) h0 h80.2 s2 s3
  have z : ∃ x, qE 150 43 [(3, 106), (0, r), (0, w), (0, 0), (0, 0)] [] (mk D) = qE 150 4 [(3, 106), (0, r), (0, w + 1), (0, 0), (0, x)] [] (mk D) := by
    refine ⟨0, ?_⟩
    rw [e_150_43]
    by_cases c : 0 < D 106 12
    · rw [if_pos c, if_pos rfl, e_150_90, if_pos rfl, e1]
    · rw [if_neg c, e_150_90, if_pos rfl, e1]
  constructor
  · intro m
    obtain ⟨x4, hi⟩ := hi.1 m.2.2
    refine ⟨(0, 1), (0, x4), ?_⟩
    rw [e_150_4, if_pos h1, if_pos h80, if_neg (by have := m.1; omega), if_pos h80, if_pos m.2.1, hi, e_150_90, if_neg (by decide), e1]
  · intro m
    rw [e_150_4, if_pos h1, if_pos h80]
    by_cases c : D 112 w = 0
    · obtain ⟨x, e⟩ := z
      exact ⟨(0, 0), (0, x), by rw [if_pos c, e]⟩
    · rw [if_neg c, if_pos h80]
      by_cases g : D 109 w = D 106 12
      · obtain ⟨x4, hi⟩ := hi.2 (fun q => m ⟨by omega, g, q⟩)
        refine ⟨(0, 0), (0, x4), ?_⟩
        rw [if_pos g, hi, e_150_90, if_pos rfl, e1]
      · obtain ⟨x, e⟩ := z
        exact ⟨(0, 0), (0, x), by rw [if_neg g, e]⟩
theorem sq_150h {D : Mem} {w : Int} (hQ : rfW D) (h0 : 0 ≤ w) (h1 : w < D 106 6) (m : mat D w) (hone : ∀ v, 0 ≤ v → v < D 106 6 → mat D v → v = w) : qR 150 [(3, 106)] (mk D) = some ((0, w), mk D) := by
  rw [r_150]
  obtain ⟨s, e, hI⟩ := it_inv (fun i (s : Int × PV × PV) => qE 150 4 [(3, 106), (0, s.1), (0, i), s.2.1, s.2.2] [] (mk D)) (fun i s => s.1 = if w < i then w else -1) (Int.le_trans h0 (Int.le_of_lt h1)) (fun i s g0 g1 hs => by
    by_cases c : i = w
    · subst c
      obtain ⟨u3, u4, e⟩ := (sq_150s (r := s.1) hQ g0 g1 s.2.1 s.2.2).1 m
      exact ⟨(i, u3, u4), e, by show i = _; rw [if_pos (by omega)]⟩
    · obtain ⟨u3, u4, e⟩ := (sq_150s (r := s.1) hQ g0 g1 s.2.1 s.2.2).2 (fun q => c (hone i g0 g1 q))
      refine ⟨(s.1, u3, u4), e, ?_⟩
      show s.1 = _
      rw [hs]
      by_cases d : w < i
      · rw [if_pos d, if_pos (by omega)]
      · rw [if_neg d, if_neg (by omega)]) (s0 := (-1, (9, 0), (9, 0))) (by show (-1 : Int) = _; rw [if_neg (by omega)])
  refine e.trans ?_
  show qE 150 4 [(3, 106), (0, s.1), (0, D 106 6), s.2.1, s.2.2] [] (mk D) = _
  rw [e_150_4, if_neg (by omega), hI, if_pos h1]
theorem sq_150n {D : Mem} (hQ : rfW D) (h : ∀ w, 0 ≤ w → w < D 106 6 → ¬ mat D w) : qR 150 [(3, 106)] (mk D) = some ((0, -1), mk D) := by
  have hn := hQ.1
  rw [r_150]
  obtain ⟨s, e, -⟩ := it_inv (fun i (s : PV × PV) => qE 150 4 [(3, 106), (0, -1), (0, i), s.1, s.2] [] (mk D)) (fun _ _ => True) hn.1 (fun i s g0 g1 _ => by
    obtain ⟨u3, u4, e⟩ := (sq_150s (r := -1) hQ g0 g1 s.1 s.2).2 (h i g0 g1)
    exact ⟨(u3, u4), e, trivial⟩) (s0 := ((9, 0), (9, 0))) trivial
  refine e.trans ?_
  show qE 150 4 [(3, 106), (0, -1), (0, D 106 6), s.1, s.2] [] (mk D) = _
  rw [e_150_4, if_neg (by omega)]
/-! add -/
theorem ca_add {D : Mem} {k : Int} (hR : Rel D k) (hk : k ≤ 1000) (c : Int) : CaseOK D k 100 154 [(0, c)] := by
  have hW := hR.2.1
  have hn := hW.1
  obtain ⟨hSa, hSb, hSc, hSe, hSf⟩ := hR.2.2.2.1
  have hSa' := hSa
  obtain ⟨t1, t2, t3, t4, t5⟩ := hSa'
  have hrow := isRow98 (D := D) (by omega) (by omega)
  have e98 : mk D 98 1 = D 106 12 := t1
  by_cases hc : 1 ≤ c ∧ c ≤ 1000000
  · by_cases z : D 106 12 = 0
    · exact case_same (v := -4) hR (by simp [r_100, sp_133, psh_0, e_100_4, row_empty hrow, e98, e_100_16, hc, z]) (by simp [r_154, sp_142, psh_0, e_154_7, hc, z])
    · rcases mat_or D with ⟨w, w0, w1, m⟩ | hno
      · have n0 : ¬ w < 0 := by omega
        exact case_same (v := -3) hR (by simp [r_100, sp_133, psh_0, e_100_4, row_empty hrow, e98, e_100_16, e_100_33, sp_9h hW hSa w0 w1 m, hc, z, n0]) (by simp [r_154, sp_142, psh_0, e_154_7, e_154_26, sp_150h hW hSa w0 w1 m, hc, z, n0])
      · by_cases full : D 106 6 = 80
        · have f5 : ¬ D 5 2 < 80 := by omega
          exact case_same (v := -2) hR (by simp [r_100, sp_133, psh_0, e_100_4, row_empty hrow, e98, e_100_16, e_100_33, e_100_46, r_5, sp_9n hW hSa hno, hc, z, f5]) (by simp [r_154, sp_142, psh_0, e_154_7, e_154_26, sp_150n hW hSa hno, hc, z, full])
        · have f5 : D 5 2 < 80 := by omega
          obtain ⟨A, q1, q2, q3, q4⟩ := ent_both hW hR.2.2.1 hSa hk (by omega) (by omega) hc.1 hc.2 hno
          have A98 : A 98 1 = D 106 12 := by rw [q3 _ _ (by omega) (by omega) (by omega) (by omega) (by omega)]; exact t1
          have rowA := isRow98 (D := A) (by omega) (by omega)
          have eA : ∀ y i, ¬ (y = 98 ∧ i = 1) → mU A 98 1 0 y i = A y i := fun y i q => mU_other q
          have hE : ∀ y i, (108 ≤ y ∧ y ≤ 113) ∨ y = 115 ∨ (y = 106 ∧ (i = 6 ∨ i = 8 ∨ i = 12)) → mU A 98 1 0 y i = D y i := fun y i q => by rw [eA y i (by omega)]; exact q3 y i (by omega) (by omega) (by omega) (by omega) (by omega)
          obtain ⟨G, g1, g2, g3, g4, g5, g6, g7, g8⟩ := q4 (mU A 98 1 0) hE
          have E6 := hE 106 6 (by omega)
          have E12 := hE 106 12 (by omega)
          have G12 : G 106 12 = D 106 12 := by rw [g8 _ _ (by omega) (by omega), eA _ _ (by omega), q3 _ _ (by omega) (by omega) (by omega) (by omega) (by omega)]
          -- the reference's run leaves the class's cells
          have hcl : ∀ y i, ¬ rfc y → ¬ (y = 98 ∧ i = 1) → mU G 106 12 0 y i = mrg A G y i := fun y i q1 q2 => by
            rw [mU_r (by unfold rfc at q1; omega), g8 y i (by unfold rfc at q1; omega) (by unfold rfc at q1; omega), eA y i q2, mrg_c _ _ q1]
          have hrf : ∀ y i, rfc y → ¬ (y = 106 ∧ i = 12) → mU G 106 12 0 y i = mrg A G y i := fun y i q1 q2 => by
            rw [mU_other q2, mrg_r _ _ q1]
          have hal : ∀ y i, ¬ (y = 98 ∧ i = 1) → ¬ (y = 106 ∧ i = 12) → mU G 106 12 0 y i = mrg A G y i := fun y i a1 a2 => by
            by_cases cr : rfc y
            · exact hrf y i cr a2
            · exact hcl y i cr a1
          have hD : ∀ y i, ¬ (7 ≤ y ∧ y ≤ 10) → y < 131 → -131 < y → y ≠ 5 → ¬ (y = 0 ∧ i = 3) → ¬ (108 ≤ y ∧ y ≤ 113) → ¬ (y = 106 ∧ (i = 6 ∨ i = 8 ∨ i = 12)) → ¬ (y = 98 ∧ i = 1) → mU G 106 12 0 y i = D y i := fun y i a1 a2 a3 a4 a5 a6 a7 a8 => by
            rw [mU_other (by omega), g8 y i a6 (by omega), eA y i a8, q3 y i a1 a2 a3 a4 a5]
          have h6 : mU G 106 12 0 106 6 = D 106 6 + 1 := by rw [mU_other (by omega)]; exact g4
          have h98 : mU G 106 12 0 98 1 = 0 := by rw [mU_other (by omega), g8 _ _ (by omega) (by omega), mU_s]
          refine ⟨D 106 6, mU A 98 1 0, mU G 106 12 0, ?_, ?_, ⟨RK_congr (fun y i q => hD y i (by omega) (by omega) (by omega) (by omega) (by omega) (by omega) (by omega) (by omega)) hR.1, RW_congr (fun y i q => hal y i (by unfold supW at q; omega) (by unfold supW at q; omega)) g2, RP_congr (fun y i q => hal y i (by unfold supP at q; omega) (by unfold supP at q; omega)) g3, ⟨?_, ?_, ?_, ?_, ?_⟩, ?_, ?_⟩, fun i => hD _ _ (by omega) (by omega) (by omega) (by omega) (by omega) (by omega) (by omega) (by omega), fun i => hD _ _ (by omega) (by omega) (by omega) (by omega) (by omega) (by omega) (by omega) (by omega)⟩
          · simp [r_100, sp_133, psh_0, e_100_4, row_empty hrow, e98, e_100_16, e_100_33, e_100_46, e_100_64, e_100_72, r_5, sp_9n hW hSa hno, hc, z, f5, q1, row_clear rowA, mu_98_1]
          · have s150 : qR 150 [(3, 106)] (mk (mU A 98 1 0)) = some ((0, -1), mk (mU A 98 1 0)) := by
              refine sq_150n (rfW_congr hE (rfW_of hW hSa)) (fun w w0 w1 m => hno w w0 (by omega) ((mat_congr hE w).1 m))
            simp [r_154, sp_142, psh_0, e_154_7, e_154_26, e_154_49, s150, hc, E12, E6, z, full, g1]
          · refine ⟨by rw [h98, mU_s], by rw [mU_s]; decide, by rw [mU_s]; decide, ?_, fun i i0 i1 => by rw [mU_s] at i1; omega⟩
            rw [show mU G 106 12 0 99 = D 99 from funext fun i => hD _ _ (by omega) (by omega) (by omega) (by omega) (by omega) (by omega) (by omega) (by omega), show mU G 106 12 0 115 = D 115 from funext fun i => hD _ _ (by omega) (by omega) (by omega) (by omega) (by omega) (by omega) (by omega) (by omega)]
            exact t4
          · exact RSb_congr (fun y i q => hD y i (by omega) (by omega) (by omega) (by omega) (by omega) (by omega) (by omega) (by omega)) hSb
          · obtain ⟨u1, u2, u3, u4, u5⟩ := hSc
            have e16 : mU G 106 12 0 106 16 = D 106 16 := hD _ _ (by omega) (by omega) (by omega) (by omega) (by omega) (by omega) (by omega) (by omega)
            have e103 : mU G 106 12 0 103 = D 103 := funext fun i => hD _ _ (by omega) (by omega) (by omega) (by omega) (by omega) (by omega) (by omega) (by omega)
            have e117 : mU G 106 12 0 117 = D 117 := funext fun i => hD _ _ (by omega) (by omega) (by omega) (by omega) (by omega) (by omega) (by omega) (by omega)
            unfold RSc
            rw [e16, e103, e117, h6, hD 102 1 (by omega) (by omega) (by omega) (by omega) (by omega) (by omega) (by omega) (by omega)]
            exact ⟨u1, u2, u3, u4, fun i i0 i1 => by have := u5 i i0 i1; omega⟩
          · exact RSe_congr (fun y i q => hD y i (by omega) (by omega) (by omega) (by omega) (by omega) (by omega) (by omega) (by omega)) hSe
          · exact RSf_congr (fun y i q => hD y i (by omega) (by omega) (by omega) (by omega) (by omega) (by omega) (by omega) (by omega)) hSf
          · have hsl := hR.2.2.2.2.1
            have : mU G 106 12 0 0 3 = A 0 3 := by rw [mU_r (by omega), g8 _ _ (by omega) (by omega), eA _ _ (by omega)]
            rw [this, h6, q2]; omega
          · have := (RN_mono hR.2.2.2.2).2
            exact RN0_congr (fun y i q => hD y i (by omega) (by omega) (by omega) (by omega) (by omega) (by omega) (by omega) (by omega)) this
  · exact case_same (v := -1) hR (by simp [r_100, sp_133, psh_0, e_100_4, hc]) (by simp [r_154, sp_142, psh_0, e_154_7, hc])
