/-! arrays filled; counts behind a word; weighing -/
theorem sp_218 {a n v : Int} (D : Mem) (ha : a ≠ 1) (hk : ∀ E : Mem, mk E (-a) 0 = 1) (hl : ∀ E : Mem, mk E (-a) 1 = n) (hu : ∀ (E : Mem) i x, mU (mk E) a i x = mk (mU E a i x)) (h0 : 0 ≤ n) (h1 : n ≤ 10000) : ∃ E, qR 218 [(3, a), (0, v)] (mk D) = some ((9, 0), mk E) ∧ (∀ i, 0 ≤ i → i < n → E a i = v) ∧ ∀ y i, y ≠ a → E y i = D y i := by
  obtain ⟨E, e, h2, h3⟩ := it_inv (fun i (E : Mem) => qE 218 5 [(3, a), (0, v), (0, i), (0, n)] [] (mk E)) (fun i E => (∀ j, 0 ≤ j → j < i → E a j = v) ∧ ∀ y j, y ≠ a → E y j = D y j) h0
    (fun i E i0 i1 ⟨h2, h3⟩ => by
      refine ⟨mU E a i v, ?_, fun j j0 j1 => ?_, fun y j hy => ?_⟩
      · show qE 218 5 [(3, a), (0, v), (0, i), (0, n)] [] (mk E) = qE 218 5 [(3, a), (0, v), (0, i + 1), (0, n)] [] (mk (mU E a i v))
        rw [e_218_5, if_pos i1, hk, hl, if_pos ⟨ha, rfl, i0, i1⟩, w32_id (by omega) (by omega), hu]
      · by_cases c : j = i
        · rw [c, mU_s]
        · rw [mU_other (by omega)]; exact h2 j j0 (by omega)
      · rw [mU_r hy]; exact h3 y j hy)
    (s0 := D) ⟨fun j j0 j1 => by omega, fun _ _ _ => rfl⟩
  refine ⟨E, ?_, h2, h3⟩
  rw [r_218, hk, hl, if_pos (by decide)]
  refine e.trans ?_
  show qE 218 5 [(3, a), (0, v), (0, n), (0, n)] [] (mk E) = _
  rw [e_218_5, if_neg (by omega)]
theorem sp_48 {D : Mem} {n : Int} {f : Int → Int → Int} (h : LPr D n f) (hn : n ≤ 80) {x : Int} (hx : x < 80) : ∃ E, qR 48 [(3, 7), (0, x), (3, 35)] (mk D) = some ((9, 0), mk E) ∧ (∀ w, 0 ≤ w → w < 80 → E 35 w = if x < 0 then 0 else f x w) ∧ ∀ y i, y ≠ 35 → E y i = D y i := by
  have h73 := h.1
  obtain ⟨F, g1, g2, g3⟩ := sp_218 (a := 35) (n := 80) (v := 0) D (by decide) mk_k35 mk_l35 mu_35 (by decide) (by decide)
  obtain ⟨⟨E, v4⟩, e, h2, h3⟩ := it_inv (fun i (s : Mem × PV) => qE 48 7 [(3, 7), (0, x), (3, 35), (0, i), s.2] [] (mk s.1)) (fun i s => (∀ w, 0 ≤ w → w < 80 → (∃ q, 0 ≤ q ∧ q < i ∧ D 8 q = x ∧ D 9 q = w ∧ s.1 35 w = D 10 q) ∨ ((∀ q, 0 ≤ q → q < i → ¬ (D 8 q = x ∧ D 9 q = w)) ∧ s.1 35 w = 0)) ∧ ∀ y j, y ≠ 35 → s.1 y j = D y j) (a := 0) (n := D 7 3) h73.1
    (fun i s i0 i1 ⟨h2, h3⟩ => by
      obtain ⟨E, v4⟩ := s
      replace h2 : ∀ w, 0 ≤ w → w < 80 → (∃ q, 0 ≤ q ∧ q < i ∧ D 8 q = x ∧ D 9 q = w ∧ E 35 w = D 10 q) ∨ ((∀ q, 0 ≤ q → q < i → ¬ (D 8 q = x ∧ D 9 q = w)) ∧ E 35 w = 0) := h2
      replace h3 : ∀ y j, y ≠ 35 → E y j = D y j := h3
      have gi : 0 ≤ i ∧ i < 150 := by omega
      have e1 : w32 (i + 1) = i + 1 := w32_id (by omega) (by omega)
      obtain ⟨u1, u2, u3, u4⟩ := h.2.1 i i0 i1
      have n9 : ¬ D 9 i < 0 := by omega
      have l9 : D 9 i < 80 := by omega
      have b9 : 0 ≤ D 9 i ∧ D 9 i < 80 := by omega
      by_cases c : D 8 i = x
      · refine ⟨(mU E 35 (D 9 i) (D 10 i), (0, D 9 i)), ?_, fun w w0 w1 => ?_, fun y j hy => ?_⟩
        · show qE 48 7 [(3, 7), (0, x), (3, 35), (0, i), v4] [] (mk E) = qE 48 7 [(3, 7), (0, x), (3, 35), (0, i + 1), (0, D 9 i)] [] (mk (mU E 35 (D 9 i) (D 10 i)))
          rw [e_48_7, h3 7 3 (by decide), if_pos i1, if_pos gi, if_pos gi, h3 8 i (by decide), h3 9 i (by decide), h3 10 i (by decide), if_pos c, if_neg n9, if_pos l9, if_pos gi, if_pos b9, e1]
        · show (∃ q, 0 ≤ q ∧ q < i + 1 ∧ D 8 q = x ∧ D 9 q = w ∧ mU E 35 (D 9 i) (D 10 i) 35 w = D 10 q) ∨ ((∀ q, 0 ≤ q → q < i + 1 → ¬ (D 8 q = x ∧ D 9 q = w)) ∧ mU E 35 (D 9 i) (D 10 i) 35 w = 0)
          by_cases cw : w = D 9 i
          · exact Or.inl ⟨i, i0, by omega, c, cw.symm, by rw [cw, mU_s]⟩
          · rw [mU_other (by omega)]
            rcases h2 w w0 w1 with ⟨q, q0, q1, q2, q3, q4⟩ | ⟨q1, q2⟩
            · exact Or.inl ⟨q, q0, by omega, q2, q3, q4⟩
            · refine Or.inr ⟨fun q q0 q3 q4 => ?_, q2⟩
              by_cases cq : q = i
              · rw [cq] at q4; exact cw q4.2.symm
              · exact q1 q q0 (by omega) q4
        · show mU E 35 (D 9 i) (D 10 i) y j = D y j
          rw [mU_r hy]; exact h3 y j hy
      · refine ⟨(E, (0, D 9 i)), ?_, fun w w0 w1 => ?_, h3⟩
        · show qE 48 7 [(3, 7), (0, x), (3, 35), (0, i), v4] [] (mk E) = qE 48 7 [(3, 7), (0, x), (3, 35), (0, i + 1), (0, D 9 i)] [] (mk E)
          rw [e_48_7, h3 7 3 (by decide), if_pos i1, if_pos gi, if_pos gi, h3 8 i (by decide), h3 9 i (by decide), if_neg c, e1]
        · rcases h2 w w0 w1 with ⟨q, q0, q1, q2, q3, q4⟩ | ⟨q1, q2⟩
          · exact Or.inl ⟨q, q0, by omega, q2, q3, q4⟩
          · refine Or.inr ⟨fun q q0 q3 q4 => ?_, q2⟩
            by_cases cq : q = i
            · rw [cq] at q4; exact c q4.1
            · exact q1 q q0 (by omega) q4)
    (s0 := (F, (9, 0))) ⟨fun w w0 w1 => Or.inr ⟨fun q q0 q1 => by omega, g2 w w0 w1⟩, g3⟩
  replace h2 : ∀ w, 0 ≤ w → w < 80 → (∃ q, 0 ≤ q ∧ q < D 7 3 ∧ D 8 q = x ∧ D 9 q = w ∧ E 35 w = D 10 q) ∨ ((∀ q, 0 ≤ q → q < D 7 3 → ¬ (D 8 q = x ∧ D 9 q = w)) ∧ E 35 w = 0) := h2
  replace h3 : ∀ y j, y ≠ 35 → E y j = D y j := h3
  refine ⟨E, ?_, fun w w0 w1 => ?_, h3⟩
  · rw [r_48, g1]
    simp only [Option.bind_some, psh_9]
    rw [e_48_5]
    refine e.trans ?_
    show qE 48 7 [(3, 7), (0, x), (3, 35), (0, D 7 3), v4] [] (mk E) = _
    rw [e_48_7, h3 7 3 (by decide), if_neg (by omega)]
  · rcases h2 w w0 w1 with ⟨q, q0, q1, q2, q3, q4⟩ | ⟨q1, q2⟩
    · obtain ⟨u1, u2, u3, u4⟩ := h.2.1 q q0 q1
      rw [if_neg (by omega), q4, ← u4, q2, q3]
    · rw [q2]
      by_cases c : x < 0
      · rw [if_pos c]
      · rw [if_neg c]; exact (h.2.2.2 x w (by omega) hx w0 w1 q1).symm
/-- the rate of word w behind x -/
def rateD (D : Mem) (w x : Int) : Int := rate (D 110 w) (if x < 0 then 0 else D 113 (80 * x + w)) (D 106 9)
theorem RP_bd {D : Mem} (h : RP D) {a b : Int} (a0 : 0 ≤ a) (a1 : a < 80) (b0 : 0 ≤ b) (b1 : b < 80) : 0 ≤ D 113 (80 * a + b) ∧ D 113 (80 * a + b) ≤ 1000000 := by
  rcases pair_or D a b with ⟨p, p0, p1, pa, pb⟩ | hno
  · obtain ⟨_, _, u3, u4⟩ := h.2.1 p p0 p1
    rw [pa, pb] at u4; omega
  · have := h.2.2.2 a b a0 a1 b0 b1 hno; omega
theorem bd_pr {D : Mem} (h : RP D) {w x : Int} (hx : x < 80) (w0 : 0 ≤ w) (w1 : w < 80) : 0 ≤ (if x < 0 then 0 else D 113 (80 * x + w)) ∧ (if x < 0 then 0 else D 113 (80 * x + w)) ≤ 1000000 := by
  by_cases c : x < 0
  · rw [if_pos c]; omega
  · rw [if_neg c]; exact RP_bd h (by omega) hx w0 w1
theorem sp_160 {D : Mem} {k w x : Int} (hR : Rel D k) (w0 : 0 ≤ w) (w1 : w < D 106 6) (hx : x < 80) : qR 160 [(3, 106), (0, w), (0, x)] (mk D) = some ((0, rateD D w x), mk D) := by
  have hn := hR.2.1.1
  obtain ⟨_, _, ⟨_, c1⟩, _⟩ := hR.2.1.2.2.1 w w0 w1
  have hp := bd_pr hR.2.2.1 hx w0 (by omega)
  obtain ⟨_, _, _, ⟨_, s0⟩, _⟩ := hR.2.2.2.1
  obtain ⟨z1, z2, z3, z4, z5, e1, e2, e3, e4, e5, e6⟩ := rt_ok (c := D 110 w) (p := if x < 0 then 0 else D 113 (80 * x + w)) (s := D 106 9) (by omega) (by omega) hp.1 hp.2 (by omega) (by omega)
  have g : 0 ≤ w ∧ w < 80 := by omega
  have main : qE 160 19 [(3, 106), (0, w), (0, x), (9, 0), (9, 0), (9, 0), (9, 0)] [(0, if x < 0 then 0 else D 113 (80 * x + w))] (mk D) = some ((0, rateD D w x), mk D) := by
    rw [e_160_19, if_pos g, e1]
    simp only [Option.bind_some, e2, e3, e4, e5, e6]
    rfl
  rw [r_160]
  by_cases c : x < 0
  · rw [if_pos c]; rw [if_pos c] at main; exact main
  · have e7 : w32 (80 * x) = 80 * x := w32_id (by omega) (by omega)
    have e8 : w32 (80 * x + w) = 80 * x + w := w32_id (by omega) (by omega)
    rw [if_neg c, e7, e8, if_pos (by omega)]; rw [if_neg c] at main; exact main
theorem sp_70 {D : Mem} {k x : Int} (hR : Rel D k) (hx : x < 80) : ∃ E, qR 70 [(3, 31), (0, x)] (mk D) = some ((9, 0), mk E) ∧ (∀ w, thr D w → E 34 w = rateD D w x) ∧ ∀ y i, y ≠ 34 → y ≠ 35 → E y i = D y i := by
  have hn := hR.2.1.1
  obtain ⟨F, g1, g2, g3⟩ := sp_48 (LP_RP hR.2.2.1) hn.2.2 hx
  obtain ⟨_, _, _, ⟨s9, s0⟩, _⟩ := hR.2.2.2.1
  obtain ⟨⟨E, v3, v4⟩, e, h2, h3⟩ := it_inv (fun i (s : Mem × PV × PV) => qE 70 17 [(3, 31), (0, x), (0, i), s.2.1, s.2.2] [] (mk s.1)) (fun i s => (∀ w, thr D w → w < i → s.1 34 w = rateD D w x) ∧ ∀ y j, y ≠ 34 → s.1 y j = F y j) (a := 0) (n := D 106 6) hn.2.1
    (fun i s i0 i1 ⟨h2, h3⟩ => by
      obtain ⟨E, v3, v4⟩ := s
      replace h2 : ∀ w, thr D w → w < i → E 34 w = rateD D w x := h2
      replace h3 : ∀ y j, y ≠ 34 → E y j = F y j := h3
      have h4 : ∀ y j, y ≠ 34 → y ≠ 35 → E y j = D y j := fun y j q1 q2 => by rw [h3 y j q1, g3 y j q2]
      have e52 : E 5 2 = D 106 6 := by rw [h4 5 2 (by decide) (by decide)]; exact hn.1
      have i5 : 0 ≤ i ∧ i < E 5 2 := by omega
      have i80 : 0 ≤ i ∧ i < 80 := by omega
      have e1 : w32 (i + 1) = i + 1 := w32_id (by omega) (by omega)
      have hg : ¬ (131 + 3 * i = 0) := by omega
      have hk := mk_wk i5.1 i5.2
      obtain ⟨t1, t2⟩ := thr_cl hR.2.1 i0 i1
      have e3 : mk E (131 + 3 * i) 3 = D 112 i := by rw [mk_wf i0 (by decide), h4 _ _ (by omega) (by omega)]; exact t1
      obtain ⟨_, _, ⟨c0, c1⟩, _⟩ := hR.2.1.2.2.1 i i0 i1
      have e4 : mk E (131 + 3 * i) 1 = D 110 i := by rw [mk_wf i0 (by decide), h4 _ _ (by omega) (by omega)]; exact c0
      have e5 : E 31 10 = D 106 9 := by rw [h4 _ _ (by decide) (by decide)]; exact s9
      have e6 : E 35 i = if x < 0 then 0 else D 113 (80 * x + i) := by rw [h3 _ _ (by decide), g2 i i0 i80.2]
      have st : ∀ v3 v4, qE 70 17 [(3, 31), (0, x), (0, i), v3, v4] [] (mk E) = qE 70 42 [(3, 31), (0, x), (0, i), v3, v4] [(3, 131 + 3 * i)] (mk E) := fun v3 v4 => by
        rw [e_70_17, r_1]
        simp only [Option.bind_some, psh_0]
        rw [e_70_25, if_pos i5.2, if_pos i80.2, sp_7 (by omega) i, if_pos i5]
        simp only [Option.bind_some, psh_3]
      rcases t2 with t2 | t2
      · refine ⟨(E, (3, 131 + 3 * i), v4), ?_, fun w hw w1 => ?_, h3⟩
        · show qE 70 17 [(3, 31), (0, x), (0, i), v3, v4] [] (mk E) = qE 70 17 [(3, 31), (0, x), (0, i + 1), (3, 131 + 3 * i), v4] [] (mk E)
          rw [st, e_70_42, if_neg hg, if_pos hk, e3, if_pos t2, e1]
        · show E 34 w = rateD D w x
          by_cases c : w = i
          · have := hw.2.2; rw [c] at this; omega
          · exact h2 w hw (by omega)
      · have hp := bd_pr hR.2.2.1 hx i0 i80.2
        obtain ⟨z1, z2, z3, z4, z5, q1, q2, q3, q4, q5, q6⟩ := rt_ok (c := D 110 i) (p := if x < 0 then 0 else D 113 (80 * x + i)) (s := D 106 9) (by omega) (by omega) hp.1 hp.2 (by omega) (by omega)
        refine ⟨(mU E 34 i (rateD D i x), (3, 131 + 3 * i), (2, z4)), ?_, fun w hw w1 => ?_, fun y j hy => ?_⟩
        · show qE 70 17 [(3, 31), (0, x), (0, i), v3, v4] [] (mk E) = qE 70 17 [(3, 31), (0, x), (0, i + 1), (3, 131 + 3 * i), (2, z4)] [] (mk (mU E 34 i (rateD D i x)))
          rw [st, e_70_42, if_neg hg, if_pos hk, e3, if_neg (by omega), e4, e5, e6, q1]
          simp only [Option.bind_some, if_pos hk, if_pos i80, q2, q3, q4, q5, q6, e1]
          rfl
        · show mU E 34 i (rateD D i x) 34 w = rateD D w x
          by_cases c : w = i
          · rw [c, mU_s]
          · rw [mU_other (by omega)]; exact h2 w hw (by omega)
        · show mU E 34 i (rateD D i x) y j = F y j
          rw [mU_r hy]; exact h3 y j hy)
    (s0 := (F, (9, 0), (9, 0))) ⟨fun w hw w1 => by have := hw.1; omega, fun _ _ _ => rfl⟩
  replace h2 : ∀ w, thr D w → w < D 106 6 → E 34 w = rateD D w x := h2
  replace h3 : ∀ y j, y ≠ 34 → E y j = F y j := h3
  refine ⟨E, ?_, fun w hw => h2 w hw hw.2.1, fun y i q1 q2 => by rw [h3 y i q1, g3 y i q2]⟩
  have e52 : E 5 2 = D 106 6 := by rw [h3 5 2 (by decide), g3 5 2 (by decide)]; exact hn.1
  rw [r_70, r_4]
  simp only [Option.bind_some, psh_3]
  rw [e_70_7, g1]
  simp only [Option.bind_some, psh_9]
  rw [e_70_15]
  refine e.trans ?_
  show qE 70 17 [(3, 31), (0, x), (0, D 106 6), v3, v4] [] (mk E) = _
  rw [e_70_17, r_1]
  simp only [Option.bind_some, psh_0]
  rw [e_70_25, if_neg (by omega)]
/-- the last word of the text, if it is there -/
def lat (D : Mem) : Int := if 0 < D 106 16 ∧ D 112 (D 117 (D 106 16 - 1)) = 1 then D 117 (D 106 16 - 1) else -1
theorem lat_bd {D : Mem} {k : Int} (hR : Rel D k) : -1 ≤ lat D ∧ lat D < D 106 6 ∧ (lat D < 0 → lat D = -1) ∧ (0 ≤ lat D → thr D (lat D)) := by
  have hn := hR.2.1.1
  obtain ⟨_, _, ⟨_, _, _, _, c5⟩, _⟩ := hR.2.2.2.1
  unfold lat
  by_cases h : 0 < D 106 16 ∧ D 112 (D 117 (D 106 16 - 1)) = 1
  · rw [if_pos h]
    have := c5 (D 106 16 - 1) (by omega) (by omega)
    exact ⟨by omega, this.2, fun q => by omega, fun q => ⟨this.1, this.2, h.2⟩⟩
  · rw [if_neg h]; exact ⟨by omega, by omega, fun _ => rfl, fun q => by omega⟩
theorem sp_159 {D : Mem} {k : Int} (hR : Rel D k) : qR 159 [(3, 106)] (mk D) = some ((0, lat D), mk D) := by
  have hn := hR.2.1.1
  obtain ⟨_, _, ⟨_, s0, s1, _, c5⟩, _⟩ := hR.2.2.2.1
  have e1 : w32 (D 106 16 - 1) = D 106 16 - 1 := w32_id (by omega) (by omega)
  unfold lat
  rw [r_159, e1]
  by_cases h : D 106 16 ≤ 0
  · rw [if_pos h, if_neg (by omega)]
  · have := c5 (D 106 16 - 1) (by omega) (by omega)
    obtain ⟨t1, t2⟩ := thr_cl hR.2.1 this.1 this.2
    rw [if_neg h, if_pos (by omega), if_pos (by omega)]
    rcases t2 with t | t
    · rw [if_pos t, if_neg (by omega)]
    · rw [if_neg (by omega), if_pos (by omega), if_pos ⟨by omega, t⟩]
theorem sp_136 {D : Mem} {k : Int} (hR : Rel D k) : qR 136 [(3, 2)] (mk D) = some ((0, lat D), mk D) := by
  have hn := hR.2.1.1
  obtain ⟨_, _, ⟨c1, s0, s1, c4, c5⟩, _⟩ := hR.2.2.2.1
  have hrow := isRow102 (D := D) (by omega) (by omega)
  have e1 : w32 (D 106 16 - 1) = D 106 16 - 1 := w32_id (by omega) (by omega)
  have e0 : mk D 102 1 = D 106 16 := c1
  rw [r_136, row_size hrow, e0]
  simp only [Option.bind_some, psh_0]
  rw [e_136_11, e1, row_at hrow]
  simp only [Option.bind_some, psh_0]
  have er : rowAt (mk D) 102 (D 106 16 - 1) = if 0 < D 106 16 then D 117 (D 106 16 - 1) else -1 := by
    unfold rowAt
    rw [e0]
    by_cases h : 0 < D 106 16
    · rw [if_pos h, if_pos (by omega), ← c4]; rfl
    · rw [if_neg h, if_neg (by omega)]
  rw [er, e_136_16]
  unfold lat
  by_cases h : 0 < D 106 16
  · have := c5 (D 106 16 - 1) (by omega) (by omega)
    obtain ⟨t1, t2⟩ := thr_cl hR.2.1 this.1 this.2
    rw [if_pos h]
    rcases t2 with t | t
    · rw [(sp_8 hR.2.1 _).2 (fun q => by have := q.2.2; omega)]
      simp only [Option.bind_some, psh_0]
      rw [e_136_25, if_pos rfl, if_neg (by omega)]
    · rw [(sp_8 hR.2.1 _).1 ⟨this.1, this.2, t⟩]
      simp only [Option.bind_some, psh_0]
      rw [e_136_25, if_neg (by decide), if_pos ⟨h, t⟩]
  · rw [if_neg h, (sp_8 hR.2.1 _).2 (fun q => by have := q.1; omega)]
    simp only [Option.bind_some, psh_0]
    rw [e_136_25, if_pos rfl, if_neg (by omega)]
theorem lat_sim {D E : Mem} (h : Sim D E) : lat E = lat D := by
  unfold lat
  rw [h 106 16 (by unfold scr; omega), h 117 _ (by unfold scr; omega), h 112 _ (by unfold scr; omega)]
theorem rate_sim {D E : Mem} (h : Sim D E) (w x : Int) : rateD E w x = rateD D w x := by
  unfold rateD
  rw [h 110 w (by unfold scr; omega), h 113 _ (by unfold scr; omega), h 106 9 (by unfold scr; omega)]
theorem thr_sim {D E : Mem} (h : Sim D E) (w : Int) : thr E w ↔ thr D w := by
  unfold thr
  rw [h 106 6 (by unfold scr; omega), h 112 _ (by unfold scr; omega)]
