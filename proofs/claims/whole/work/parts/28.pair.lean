/-! count, paired -/
theorem sp_42h {D : Mem} (hR : RP D) {a b p : Int} (h0 : 0 ≤ p) (h1 : p < D 7 3) (ha : D 8 p = a) (hb : D 9 p = b) : qR 42 [(3, 7), (0, a), (0, b)] (mk D) = some ((0, p), mk D) := by
  obtain ⟨n, _, u, _⟩ := hR
  have hp : 0 ≤ p ∧ p < 150 := by omega
  rw [r_42, it_up (fun i => qE 42 2 [(3, 7), (0, a), (0, b), (0, i)] [] (mk D)) h0 (fun i g0 g1 => ?_)]
  · show qE 42 2 [(3, 7), (0, a), (0, b), (0, p)] [] (mk D) = _
    rw [e_42_2, if_pos h1, if_pos hp, if_pos ha, if_pos hp, if_pos hb]
  · have gi : 0 ≤ i ∧ i < 150 := by omega
    have gl : i < D 7 3 := by omega
    have e1 : w32 (i + 1) = i + 1 := w32_id (by omega) (by omega)
    have hu := u i p g0 g1 h1
    show qE 42 2 [(3, 7), (0, a), (0, b), (0, i)] [] (mk D) = qE 42 2 [(3, 7), (0, a), (0, b), (0, i + 1)] [] (mk D)
    rw [e_42_2, if_pos gl, if_pos gi, if_pos gi, e1]
    by_cases c : D 8 i = a
    · rw [if_pos c, if_neg (fun q => hu ⟨by omega, by omega⟩)]
    · rw [if_neg c]
theorem sp_42n {D : Mem} (hR : RP D) {a b : Int} (h : ∀ p, 0 ≤ p → p < D 7 3 → ¬ (D 8 p = a ∧ D 9 p = b)) : qR 42 [(3, 7), (0, a), (0, b)] (mk D) = some ((0, -1), mk D) := by
  obtain ⟨n, _, u, _⟩ := hR
  rw [r_42, it_up (fun i => qE 42 2 [(3, 7), (0, a), (0, b), (0, i)] [] (mk D)) n.1 (fun i g0 g1 => ?_)]
  · have hn : ¬ (D 7 3 < D 7 3) := by omega
    show qE 42 2 [(3, 7), (0, a), (0, b), (0, D 7 3)] [] (mk D) = _
    rw [e_42_2, if_neg hn]
  · have gi : 0 ≤ i ∧ i < 150 := by omega
    have e1 : w32 (i + 1) = i + 1 := w32_id (by omega) (by omega)
    have hu := h i g0 g1
    show qE 42 2 [(3, 7), (0, a), (0, b), (0, i)] [] (mk D) = qE 42 2 [(3, 7), (0, a), (0, b), (0, i + 1)] [] (mk D)
    rw [e_42_2, if_pos g1, if_pos gi, if_pos gi, e1]
    by_cases c : D 8 i = a
    · rw [if_pos c, if_neg (fun q => hu ⟨c, q⟩)]
    · rw [if_neg c]
theorem pair_or (D : Mem) (a b : Int) : (∃ p, 0 ≤ p ∧ p < D 7 3 ∧ D 8 p = a ∧ D 9 p = b) ∨ ∀ p, 0 ≤ p → p < D 7 3 → ¬ (D 8 p = a ∧ D 9 p = b) := by
  by_cases h : ∃ p, 0 ≤ p ∧ p < D 7 3 ∧ D 8 p = a ∧ D 9 p = b
  · exact Or.inl h
  · exact Or.inr fun p h0 h1 q => h ⟨p, h0, h1, q.1, q.2⟩
theorem sp_43 {D : Mem} (hR : RP D) {a b : Int} (a0 : 0 ≤ a) (a1 : a < 80) (b0 : 0 ≤ b) (b1 : b < 80) : qR 43 [(3, 7), (0, a), (0, b)] (mk D) = some ((0, D 113 (80 * a + b)), mk D) := by
  rcases pair_or D a b with ⟨p, h0, h1, ha, hb⟩ | h
  · have hp : 0 ≤ p ∧ p < 150 := by have := hR.1; omega
    have hn : ¬ p < 0 := by omega
    have := (hR.2.1 p h0 h1).2.2.2
    rw [ha, hb] at this
    rw [r_43, sp_42h hR h0 h1 ha hb]
    simp only [Option.bind_some, psh_0, e_43_6, if_neg hn, if_pos hp, this]
  · have := hR.2.2.2 a b a0 a1 b0 b1 h
    rw [r_43, sp_42n hR h]
    simp [psh_0, e_43_6, this]
theorem ca_paired {D : Mem} {k : Int} (hR : Rel D k) (a b : Int) : CaseOK D k 105 162 [(0, a), (0, b)] := by
  have hn := hR.2.1.1
  have m1 := sp_143 hn.2.1 hn.2.2 a
  have m2 := sp_143 hn.2.1 hn.2.2 b
  by_cases h : 0 ≤ a ∧ a < D 106 6
  · have h5 : 0 ≤ a ∧ a < D 5 2 := by omega
    by_cases g : 0 ≤ b ∧ b < D 106 6
    · have g5 : 0 ≤ b ∧ b < D 5 2 := by omega
      have e1 : w32 (80 * a) = 80 * a := w32_id (by omega) (by omega)
      have e2 : w32 (80 * a + b) = 80 * a + b := w32_id (by omega) (by omega)
      have e3 : 0 ≤ 80 * a + b ∧ 80 * a + b < 6400 := by omega
      refine case_same (v := D 113 (80 * a + b)) hR ?_ ?_
      · simp [r_105, sp_6, psh_0, psh_3, e_105_8, e_105_19, r_4, e_105_31, e_105_36, h5, g5, sp_43 hR.2.2.1 h.1 (by omega) g.1 (by omega)]
      · simp [r_162, m1, m2, psh_0, e_162_5, e_162_13, h, g, e1, e2, e3]
    · have g5 : ¬ (0 ≤ b ∧ b < D 5 2) := by omega
      exact case_same (v := -1) hR (by simp [r_105, sp_6, psh_0, e_105_8, e_105_19, h5, g5]) (by simp [r_162, m1, m2, psh_0, e_162_5, e_162_13, h, g])
  · have h5 : ¬ (0 ≤ a ∧ a < D 5 2) := by omega
    exact case_same (v := -1) hR (by simp [r_105, sp_6, psh_0, e_105_8, h5]) (by simp [r_162, m1, psh_0, e_162_5, h])
theorem ca_count {D : Mem} {k : Int} (hR : Rel D k) (w x : Int) : CaseOK D k 102 156 [(0, w), (0, x)] := by
  have hW := hR.2.1
  have hn := hW.1
  have m1 := sp_143 hn.2.1 hn.2.2 w
  by_cases h : 0 ≤ w ∧ w < D 106 6
  · have h5 : 0 ≤ w ∧ w < D 5 2 := by omega
    have h80 : 0 ≤ w ∧ w < 80 := by omega
    obtain ⟨t1, t2⟩ := thr_cl hW h.1 h.2
    have e0 : ¬ (131 + 3 * w = 0) := by omega
    have e2 := mk_wk h5.1 h5.2
    have e3 : mk D (131 + 3 * w) 3 = D 112 w := by rw [mk_wf h.1 (by decide)]; exact t1
    have s7 := sp_7 (D := D) (by omega) w
    rw [if_pos h5] at s7
    by_cases c : 1 ≤ x ∧ x ≤ 1000000
    · by_cases t : D 112 w = 0
      · exact case_same (v := -4) hR (by simp [r_102, s7, psh_3, psh_0, e_102_8, e_102_17, sp_133, e0, e2, e3, c, t]) (by simp [r_156, m1, psh_0, e_156_5, e_156_15, sp_142, h, h80, c, t])
      · have e4 := mu_wf (D := D) (w := w) (i := 1) (v := x) h.1 (by decide)
        refine ⟨1, mU D (131 + 3 * w) 1 x, mU (mU D (131 + 3 * w) 1 x) 110 w x, ?_, ?_, ?_, fun i => ?_, fun i => ?_⟩
        · simp [r_102, s7, psh_3, psh_0, e_102_8, e_102_17, sp_133, e0, e2, e3, c, t, e4, e_102_37]
        · have q1 : mU D (131 + 3 * w) 1 x 106 6 = D 106 6 := mU_r (by omega)
          have q2 : mU D (131 + 3 * w) 1 x 112 w = D 112 w := mU_r (by omega)
          have m2 := sp_143 (D := mU D (131 + 3 * w) 1 x) (by rw [q1]; omega) (by rw [q1]; omega) w
          rw [q1] at m2
          simp [r_156, m2, psh_0, e_156_5, e_156_15, sp_142, h, h80, c, q2, t]
        · have hf : ∀ y i, ¬ (y = 131 + 3 * w ∧ i = 1) → ¬ (y = 110 ∧ i = w) → mU (mU D (131 + 3 * w) 1 x) 110 w x y i = D y i := fun y i q1 q2 => by rw [mU_other q2, mU_other q1]
          refine ⟨RK_congr (fun y i q => hf y i (by omega) (by omega)) hR.1, RW_mono ?_, RP_congr (fun y i q => hf y i (by unfold supP at q; omega) (by unfold supP at q; omega)) hR.2.2.1, RS_congr (fun y i q => hf y i (by unfold supS at q; omega) (by unfold supS at q; omega)) hR.2.2.2.1, RN_mono (RN_congr (fun y i q => hf y i (by unfold supN at q; omega) (by unfold supN at q; omega)) hR.2.2.2.2)⟩
          generalize hE : mU (mU D (131 + 3 * w) 1 x) 110 w x = E at hf
          have z1 : E (131 + 3 * w) 1 = x := by rw [← hE, mU_r (by omega), mU_s]
          have z2 : E 110 w = x := by rw [← hE, mU_s]
          have r112 : E 112 = D 112 := funext fun i => hf 112 i (by omega) (by omega)
          have r109 : E 109 = D 109 := funext fun i => hf 109 i (by omega) (by omega)
          have r108 : E 108 = D 108 := funext fun i => hf 108 i (by omega) (by omega)
          have r111 : E 111 = D 111 := funext fun i => hf 111 i (by omega) (by omega)
          have f6 : E 106 6 = D 106 6 := hf 106 6 (by omega) (by omega)
          have f8 : E 106 8 = D 106 8 := hf 106 8 (by omega) (by omega)
          obtain ⟨w1, w2, w3, w4, w5⟩ := hW
          refine ⟨?_, ?_, fun v g0 g1 => ?_, ?_, fun u v g0 g1 g2 g3 g4 => ?_⟩
          · rw [hf 5 2 (by omega) (by omega), f6]; exact w1
          · rw [hf 5 4 (by omega) (by omega), f8]; exact w2
          · rw [f6] at g1
            obtain ⟨v1, v2, v3, v4, v5⟩ := w3 v g0 g1
            unfold wordOK
            rw [r109, r108, r111, r112, f8, hf (132 + 3 * v) 1 (by omega) (by omega), hf (-(133 + 3 * v)) 1 (by omega) (by omega), hf (131 + 3 * v) 2 (by omega) (by omega), hf (131 + 3 * v) 3 (by omega) (by omega)]
            refine ⟨v1, fun i j0 j1 => ?_, ?_, v4, v5⟩
            · rw [hf (133 + 3 * v) i (by omega) (by omega)]; exact v2 i j0 j1
            · by_cases e : v = w
              · subst e; rw [z1, z2]; exact ⟨rfl, c⟩
              · rw [hf (131 + 3 * v) 1 (by omega) (by omega), hf 110 v (by omega) (by omega)]; exact v3
          · rw [hf 5 3 (by omega) (by omega), r112, f6]; exact w4
          · rw [f6] at g2
            rw [r112] at g3 g4
            have := w5 u v g0 g1 g2 g3 g4
            unfold sameW at this ⊢
            rw [r109, r108]; exact this
        · rw [mU_r (by omega), mU_r (by omega)]
        · rw [mU_r (by omega), mU_r (by omega)]
    · exact case_same (v := -1) hR (by simp [r_102, s7, psh_3, psh_0, e_102_8, e_102_17, sp_133, e0, c]) (by simp [r_156, m1, psh_0, e_156_5, e_156_15, sp_142, h, c])
  · have h5 : ¬ (0 ≤ w ∧ w < D 5 2) := by omega
    have s7 := sp_7 (D := D) (by omega) w
    rw [if_neg h5] at s7
    exact case_same (v := -1) hR (by simp [r_102, s7, psh_3, e_102_8]) (by simp [r_156, m1, psh_0, e_156_5, h])
