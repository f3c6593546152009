/-! the book's plain questions; put, letter -/
theorem sp_6 (D : Mem) (w : Int) : qR 6 [(3, 5), (0, w)] (mk D) = some ((0, if 0 ≤ w ∧ w < D 5 2 then 1 else 0), mk D) := by
  rw [r_6]
  by_cases c1 : w < 0
  · rw [if_pos c1, if_neg (by omega)]
  · by_cases c2 : w < D 5 2
    · rw [if_neg c1, if_pos c2, if_pos (by omega)]
    · rw [if_neg c1, if_neg c2, if_neg (by omega)]
theorem sp_7 {D : Mem} (h : D 5 2 ≤ 80) (w : Int) : qR 7 [(3, 5), (0, w)] (mk D) = some ((3, if 0 ≤ w ∧ w < D 5 2 then 131 + 3 * w else 0), mk D) := by
  rw [r_7]
  by_cases c1 : w < 0
  · rw [if_pos c1, if_neg (by omega)]
  · by_cases c2 : w < D 5 2
    · rw [if_neg c1, if_pos c2, if_pos (by omega), mk_words (by omega) c2, if_pos (by omega)]
    · rw [if_neg c1, if_neg c2, if_neg (by omega)]
/-- word w is there -/
def thr (D : Mem) (w : Int) : Prop := 0 ≤ w ∧ w < D 106 6 ∧ D 112 w = 1
theorem thr_cl {D : Mem} {k w : Int} (hR : RW D k) (h0 : 0 ≤ w) (h1 : w < D 106 6) : D (131 + 3 * w) 3 = D 112 w ∧ (D 112 w = 0 ∨ D 112 w = 1) := (hR.2.2.1 w h0 h1).2.2.2.2
theorem sp_8 {D : Mem} {k : Int} (hR : RW D k) (w : Int) : (thr D w → qR 8 [(3, 5), (0, w)] (mk D) = some ((0, 1), mk D)) ∧ (¬ thr D w → qR 8 [(3, 5), (0, w)] (mk D) = some ((0, 0), mk D)) := by
  have hn := hR.1
  by_cases c : 0 ≤ w ∧ w < D 5 2
  · obtain ⟨t1, t2⟩ := thr_cl hR c.1 (by omega)
    have e1 : ¬ (131 + 3 * w = 0) := by omega
    have e2 := mk_wk c.1 c.2
    have e3 : mk D (131 + 3 * w) 3 = D 112 w := by rw [mk_wf c.1 (by decide)]; exact t1
    have main : qR 8 [(3, 5), (0, w)] (mk D) = if D 112 w = 0 then some ((0, 0), mk D) else some ((0, 1), mk D) := by
      rw [r_8, sp_7 (by omega), if_pos c]
      simp only [Option.bind_some, psh_3, e_8_5, if_neg e1, e2, e3, if_true]
    rw [main]
    constructor
    · intro h; rw [if_neg (by have := h.2.2; omega)]
    · intro h; rw [if_pos (by rcases t2 with t | t; exact t; exact absurd ⟨c.1, by omega, t⟩ h)]
  · have main : qR 8 [(3, 5), (0, w)] (mk D) = some ((0, 0), mk D) := by
      rw [r_8, sp_7 (by omega), if_neg c]
      simp only [Option.bind_some, psh_3, e_8_5, if_true]
    exact ⟨fun h => absurd ⟨h.1, by have := h.2.1; omega⟩ c, fun _ => main⟩
theorem sp_143 {D : Mem} (h0 : 0 ≤ D 106 6) (h1 : D 106 6 ≤ 80) (w : Int) : qR 143 [(3, 106), (0, w)] (mk D) = some ((0, if 0 ≤ w ∧ w < D 106 6 then 1 else 0), mk D) := by
  rw [r_143, sp_142, w32_id (by omega) (by omega)]
  by_cases c : 0 ≤ w ∧ w < D 106 6
  · have c' : 0 ≤ w ∧ w ≤ D 106 6 - 1 := by omega
    simp [psh_0, e_143_11, c, c']
  · have c' : ¬ (0 ≤ w ∧ w ≤ D 106 6 - 1) := by omega
    simp [psh_0, e_143_11, c, c']
theorem ca_put {D : Mem} {k : Int} (hR : Rel D k) (w : Int) : CaseOK D k 118 191 [(0, w)] := by
  obtain ⟨a, b, ⟨c1, c2, c3, c4, c5⟩, d, f⟩ := hR.2.2.2.1
  have hW := hR.2.1
  have hn := hW.1
  have hrow := isRow102 (D := D) (by omega) (by omega)
  have hm := sp_143 hn.2.1 hn.2.2 w
  by_cases h : 0 ≤ w ∧ w < D 106 6
  · have h5 : 0 ≤ w ∧ w < D 5 2 := by omega
    have h80 : 0 ≤ w ∧ w < 80 := by omega
    obtain ⟨t1, t2⟩ := thr_cl hW h.1 h.2
    by_cases ht : thr D w
    · have t3 : ¬ D 112 w = 0 := by have := ht.2.2; omega
      have h8 := (sp_8 hW w).1 ht
      by_cases hl : D 106 16 = 60
      · have hl' : ¬ (D 102 1 < 60) := by omega
        refine case_same (v := -2) hR ?_ ?_
        · simp [r_118, sp_6, psh_0, e_118_8, e_118_21, e_118_34, h8, row_full hrow, mk_102_1, h5, hl']
        · simp [r_191, hm, psh_0, e_191_5, h, h80, t3, hl]
      · have hl' : D 102 1 < 60 := by omega
        have hl2 : D 106 16 < 60 := by omega
        have e1 : w32 (D 106 16 + 1) = D 106 16 + 1 := w32_id (by omega) (by omega)
        have p1 : psh102 D w 102 1 = D 106 16 + 1 := by unfold psh102; rw [mU_s, c1]
        have hrow2 : isRow (mk (psh102 D w)) 102 60 := isRow102 (by rw [p1]; omega) (by rw [p1]; omega)
        have q1 : psh102 D w 106 16 = D 106 16 := by unfold psh102; rw [mU_r (by decide), mU_r (by decide)]
        have q2 : psh102 D w 106 6 = D 106 6 := by unfold psh102; rw [mU_r (by decide), mU_r (by decide)]
        have q3 : psh102 D w 112 w = D 112 w := by unfold psh102; rw [mU_r (by decide), mU_r (by decide)]
        have hm2 := sp_143 (D := psh102 D w) (by rw [q2]; omega) (by rw [q2]; omega) w
        rw [q2] at hm2
        refine ⟨D 106 16 + 1, psh102 D w, mU (mU (psh102 D w) 117 (D 106 16) w) 106 16 (D 106 16 + 1), ?_, ?_, ?_, fun i => ?_, fun i => ?_⟩
        · simp [r_118, sp_6, psh_0, psh_9, e_118_8, e_118_21, e_118_34, e_118_48, e_118_55, h8, row_full hrow, mk_102_1, h5, hl', row_push hrow (by rw [mk_102_1]; exact hl'), rp102, row_size hrow2, p1]
        · have e2 : mU (psh102 D w) 117 (D 106 16) w 106 16 = D 106 16 := by rw [mU_r (by decide)]; exact q1
          have e3 : ∀ v, mU (mU (psh102 D w) 117 (D 106 16) w) 106 16 v 106 16 = v := fun v => mU_s
          simp [r_191, hm2, psh_0, e_191_5, h, h80, q1, q3, t3, hl, hl2, c2, e2, e1, e3]
        · have hf : ∀ y i, y ≠ 103 → ¬ (y = 102 ∧ i = 1) → y ≠ 117 → ¬ (y = 106 ∧ i = 16) → mU (mU (psh102 D w) 117 (D 106 16) w) 106 16 (D 106 16 + 1) y i = D y i := fun y i q1 q2 q3 q4 => by unfold psh102; rw [mU_other q4, mU_r q3, mU_other q2, mU_r q1]
          refine Rel_S hR (fun y i q1 q2 => hf y i (by omega) (by omega) (by omega) (by omega)) ⟨RSa_congr (fun y i q => hf y i (by omega) (by omega) (by omega) (by omega)) a, RSb_congr (fun y i q => hf y i (by omega) (by omega) (by omega) (by omega)) b, ?_, RSe_congr (fun y i q => hf y i (by omega) (by omega) (by omega) (by omega)) d, RSf_congr (fun y i q => hf y i (by omega) (by omega) (by omega) (by omega)) f⟩
          have z1 : mU (mU (psh102 D w) 117 (D 106 16) w) 106 16 (D 106 16 + 1) 106 16 = D 106 16 + 1 := mU_s
          have z2 : mU (mU (psh102 D w) 117 (D 106 16) w) 106 16 (D 106 16 + 1) 102 1 = D 106 16 + 1 := by rw [mU_r (by decide), mU_r (by decide)]; exact p1
          have z5 : mU (mU (psh102 D w) 117 (D 106 16) w) 106 16 (D 106 16 + 1) 106 6 = D 106 6 := hf 106 6 (by decide) (by decide) (by decide) (by decide)
          have z3 : ∀ i, mU (mU (psh102 D w) 117 (D 106 16) w) 106 16 (D 106 16 + 1) 103 i = if i = D 106 16 then w else D 117 i := fun i => by
            rw [mU_r (by decide), mU_r (by decide)]
            unfold psh102
            rw [mU_r (by decide), c1, ← c4]
            unfold mU
            simp
          have z4 : ∀ i, mU (mU (psh102 D w) 117 (D 106 16) w) 106 16 (D 106 16 + 1) 117 i = if i = D 106 16 then w else D 117 i := fun i => by
            rw [mU_r (by decide)]
            unfold psh102
            by_cases e : i = D 106 16
            · subst e; rw [mU_s, if_pos rfl]
            · rw [mU_c e, mU_r (by decide), mU_r (by decide), if_neg e]
          unfold RSc
          rw [z1, z2, z5]
          refine ⟨rfl, by omega, by omega, funext fun i => by rw [z3, z4], fun i g1 g2 => ?_⟩
          rw [z4]
          by_cases e : i = D 106 16
          · rw [if_pos e]; exact h
          · rw [if_neg e]; exact c5 i g1 (by omega)
        · unfold psh102; rw [mU_r (by decide), mU_r (by decide), mU_r (by decide), mU_r (by decide)]
        · unfold psh102; rw [mU_r (by decide), mU_r (by decide), mU_r (by decide), mU_r (by decide)]
    · have t3 : D 112 w = 0 := by
        rcases t2 with t | t
        · exact t
        · exact absurd ⟨h.1, h.2, t⟩ ht
      have h8 := (sp_8 hW w).2 ht
      exact case_same (v := -4) hR (by simp [r_118, sp_6, psh_0, e_118_8, e_118_21, h8, h5]) (by simp [r_191, hm, psh_0, e_191_5, h, h80, t3])
  · have h5 : ¬ (0 ≤ w ∧ w < D 5 2) := by omega
    exact case_same (v := -1) hR (by simp [r_118, sp_6, psh_0, e_118_8, h5]) (by simp [r_191, hm, psh_0, e_191_5, h])
theorem ca_letter {D : Mem} {k : Int} (hR : Rel D k) (l x : Int) : CaseOK D k 96 146 [(0, l), (0, x)] := by
  obtain ⟨k1, k2⟩ := hR.1
  have hsw : ∀ v, swG (pSw.getD 0 []) v (Int.toNat 54) = if v = 0 then 36 else if v = 1 then 45 else 54 := fun v => rfl
  have e4 : ∀ s, qE 96 4 [(3, 2), (0, l), (0, x)] [(0, s)] (mk D) = (if s = 0 then some ((0, (-1)), (mk D)) else qE 96 (if x = 0 then 36 else if x = 1 then 45 else 54) [(3, 2), (0, l), (0, x)] [] (mk D)) := fun s => by rw [e_96_4, hsw]
  by_cases h : 0 ≤ l ∧ l < 26
  · have h' : 0 ≤ l ∧ l ≤ 25 := by omega
    by_cases c0 : x = 0
    · subst c0
      exact case_same (v := D 107 l) hR (by simp [r_96, sp_130, psh_0, e4, h, e_96_36, sp_26, e_96_44, k1]) (by simp [r_146, sp_142, psh_0, e_146_7, e_146_16, e_146_39, h, h'])
    · by_cases c1 : x = 1
      · subst c1
        exact case_same (v := posK (D 107) l) hR (by simp [r_96, sp_130, psh_0, e4, h, e_96_45, sp_29 D h, e_96_53, k1]) (by simp [r_146, sp_142, psh_0, e_146_7, e_146_16, e_146_39, h', sp_145 D h])
      · have c2 : ¬ (0 ≤ x ∧ x ≤ 1) := by omega
        exact case_same (v := -1) hR (by simp [r_96, sp_130, psh_0, e4, h, c0, c1, e_96_54]) (by simp [r_146, sp_142, psh_0, e_146_7, e_146_16, h', c2])
  · have h' : ¬ (0 ≤ l ∧ l ≤ 25) := by omega
    exact case_same (v := -1) hR (by simp [r_96, sp_130, psh_0, e4, h]) (by simp [r_146, sp_142, psh_0, e_146_7, h'])
