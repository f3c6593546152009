/-! word -/
theorem sp_137 {D : Mem} {k w : Int} (hR : Rel D k) (ht : thr D w) : ∃ E, qR 137 [(3, 2), (0, w)] (mk D) = some ((0, rateD D w (lat D)), mk E) ∧ Sim D E := by
  have hn := hR.2.1.1
  have hl := lat_bd hR
  obtain ⟨E, q1, q2, q3⟩ := sp_70 hR (x := lat D) (by omega)
  refine ⟨E, ?_, fun y i hy => q3 y i (by unfold scr at hy; omega) (by unfold scr at hy; omega)⟩
  have t0 := ht.1
  have t1 := ht.2.1
  rw [r_137, sp_136 hR]
  simp only [Option.bind_some, psh_0]
  rw [e_137_8, q1]
  simp only [Option.bind_some, psh_9]
  rw [e_137_11, r_71, if_neg (by omega), if_pos (by omega), if_pos (by omega), q2 w ht]
  simp only [Option.bind_some, psh_0]
  rw [e_137_19]
theorem ca_word {D : Mem} {k : Int} (hR : Rel D k) (w x : Int) (x0 : -2147483648 ≤ x) (x1 : x < 2147483648) : CaseOK D k 104 161 [(0, w), (0, x)] := by
  have hW := hR.2.1
  have hn := hW.1
  have m1 := sp_143 hn.2.1 hn.2.2 w
  by_cases h : 0 ≤ w ∧ w < D 106 6
  · have h5 : 0 ≤ w ∧ w < D 5 2 := by omega
    have h80 : 0 ≤ w ∧ w < 80 := by omega
    obtain ⟨⟨v1, v2, v3⟩, v4, ⟨v5, v6⟩, ⟨v7, v8⟩, v9, v10⟩ := hW.2.2.1 w h.1 h.2
    have hrow := isRowW hW h.1 h.2
    have e0 : ¬ (131 + 3 * w = 0) := by omega
    have e2 := mk_wk h5.1 h5.2
    have e3 := mk_wr h5.1 h5.2
    have e4 := mk_rk h5.1 h5.2
    have s7 := sp_7 (D := D) (by omega) w
    rw [if_pos h5] at s7
    have hsw : swG (pSw.getD 1 []) x (Int.toNat 100) = if x = 0 then 52 else if x = 1 then 60 else if x = 2 then 65 else if x = 3 then 70 else if x = 4 then 83 else 100 := rfl
    have hsm : swG (pSw.getD 3 []) x (Int.toNat 143) = if x = 0 then 84 else if x = 1 then 91 else if x = 2 then 98 else if x = 3 then 105 else if x = 4 then 120 else 143 := rfl
    have c1 : qR 104 [(3, 2), (0, w), (0, x)] (mk D) = qE 104 (if x = 0 then 52 else if x = 1 then 60 else if x = 2 then 65 else if x = 3 then 70 else if x = 4 then 83 else 100) [(3, 2), (0, w), (0, x), (3, 131 + 3 * w)] [] (mk D) := by
      rw [r_104, s7]
      simp only [Option.bind_some, psh_3]
      rw [e_104_8, if_neg e0, hsw]
    have c2 : ∀ E : Mem, E 106 6 = D 106 6 → x < 10 → qR 161 [(3, 106), (0, w), (0, x)] (mk E) = qE 161 (if x = 0 then 84 else if x = 1 then 91 else if x = 2 then 98 else if x = 3 then 105 else if x = 4 then 120 else 143) [(3, 106), (0, w), (0, x)] [] (mk E) := fun E hE c => by
      rw [r_161, sp_143 (by omega) (by omega), hE, if_pos h]
      simp only [Option.bind_some, psh_0]
      rw [e_161_5, if_neg (by decide), if_pos c, hsm]
    by_cases a0 : x = 0
    · refine case_same (v := D 109 w) hR ?_ ?_
      · rw [c1, if_pos a0, e_104_52, if_pos e2, e3, if_pos e4, row_size hrow, rowSzW hW h.1 h.2]
        simp only [Option.bind_some, psh_0, e_104_59]
      · rw [c2 D rfl (by omega), if_pos a0, e_161_84, if_pos h80]
    by_cases a1 : x = 1
    · refine case_same (v := D 110 w) hR ?_ ?_
      · rw [c1, if_neg a0, if_pos a1, e_104_60, if_pos e2, mk_wf h.1 (by decide), v5]
      · rw [c2 D rfl (by omega), if_neg a0, if_pos a1, e_161_91, if_pos h80]
    by_cases a2 : x = 2
    · refine case_same (v := D 111 w) hR ?_ ?_
      · rw [c1, if_neg a0, if_neg a1, if_pos a2, e_104_65, if_pos e2, mk_wf h.1 (by decide), v7]
      · rw [c2 D rfl (by omega), if_neg a0, if_neg a1, if_pos a2, e_161_98, if_pos h80]
    by_cases a3 : x = 3
    · refine case_same (v := if D 112 w = 0 then 0 else 1) hR ?_ ?_
      · rw [c1, if_neg a0, if_neg a1, if_neg a2, if_pos a3, e_104_70, if_pos e2, mk_wf h.1 (by decide), v9]
        split <;> rfl
      · rw [c2 D rfl (by omega), if_neg a0, if_neg a1, if_neg a2, if_pos a3, e_161_105, if_pos h80]
        split <;> rfl
    by_cases a4 : x = 4
    · rcases v10 with t | t
      · refine case_same (v := 0) hR ?_ ?_
        · rw [c1, if_neg a0, if_neg a1, if_neg a2, if_neg a3, if_pos a4, e_104_83, if_pos e2, mk_wf h.1 (by decide), v9, if_pos t]
        · rw [c2 D rfl (by omega), if_neg a0, if_neg a1, if_neg a2, if_neg a3, if_pos a4, e_161_120, if_pos h80, if_pos t]
      · obtain ⟨E, q1, q2⟩ := sp_137 hR (w := w) ⟨h.1, h.2, t⟩
        have hRE := Rel_sim hR q2
        have hl := lat_bd hRE
        have e6 := q2 106 6 (by unfold scr; omega)
        refine case_sim (v := rateD D w (lat D)) (D1 := E) (D2 := E) hR ?_ ?_ q2 (Sim.rfl' E)
        · rw [c1, if_neg a0, if_neg a1, if_neg a2, if_neg a3, if_pos a4, e_104_83, if_pos e2, mk_wf h.1 (by decide), v9, if_neg (by omega), q1]
          simp only [Option.bind_some, psh_0, e_104_95]
        · rw [c2 E e6 (by omega), if_neg a0, if_neg a1, if_neg a2, if_neg a3, if_pos a4, e_161_120, if_pos h80, q2 112 w (by unfold scr; omega), if_neg (by omega), sp_159 hRE]
          simp only [Option.bind_some, psh_0]
          rw [e_161_135, sp_160 hRE h.1 (by omega) (by omega)]
          simp only [Option.bind_some, psh_0, e_161_138]
          rw [rate_sim q2, lat_sim q2]
    by_cases c : x < 10
    · refine case_same (v := -1) hR ?_ ?_
      · rw [c1, if_neg a0, if_neg a1, if_neg a2, if_neg a3, if_neg a4, e_104_100, if_pos c, e_104_121]
      · rw [c2 D rfl c, if_neg a0, if_neg a1, if_neg a2, if_neg a3, if_neg a4, e_161_143]
    · have f1 : w32 (x - 10) = x - 10 := w32_id (by omega) (by omega)
      have cl : qR 104 [(3, 2), (0, w), (0, x)] (mk D) = some ((0, rowAt (mk D) (132 + 3 * w) (x - 10)), mk D) := by
        rw [c1, if_neg a0, if_neg a1, if_neg a2, if_neg a3, if_neg a4, e_104_100, if_neg c, if_pos e2, e3, if_pos e4, f1, row_at hrow]
        simp only [Option.bind_some, psh_0, e_104_121]
      have mo : qR 161 [(3, 106), (0, w), (0, x)] (mk D) = if x - 10 < D 109 w then (if 0 ≤ w32 (w32 (w32 (10 * w) + x) - 10) ∧ w32 (w32 (w32 (10 * w) + x) - 10) < 800 then some ((0, D 108 (w32 (w32 (w32 (10 * w) + x) - 10))), mk D) else none) else some ((0, -1), mk D) := by
        rw [r_161, m1, if_pos h]
        simp only [Option.bind_some, psh_0]
        rw [e_161_5, if_neg (by decide), if_neg c, if_pos h80, f1]
      by_cases d : x - 10 < D 109 w
      · have g1 : w32 (10 * w) = 10 * w := w32_id (by omega) (by omega)
        have g2 : w32 (10 * w + x) = 10 * w + x := w32_id (by omega) (by omega)
        have g3 : w32 (10 * w + x - 10) = 10 * w + x - 10 := w32_id (by omega) (by omega)
        refine case_same (v := D 108 (10 * w + (x - 10))) hR ?_ ?_
        · rw [cl, rowAtW hW h.1 h.2 (by omega) d]
        · rw [mo, if_pos d, g1, g2, g3, if_pos (by omega), show 10 * w + x - 10 = 10 * w + (x - 10) by omega]
      · refine case_same (v := -1) hR ?_ ?_
        · rw [cl]; unfold rowAt; rw [rowSzW hW h.1 h.2, if_neg (by omega)]
        · rw [mo, if_neg d]
  · have h5 : ¬ (0 ≤ w ∧ w < D 5 2) := by omega
    have s7 := sp_7 (D := D) (by omega) w
    rw [if_neg h5] at s7
    exact case_same (v := -1) hR (by simp [r_104, s7, psh_3, e_104_8]) (by simp [r_161, m1, psh_0, e_161_5, h])
