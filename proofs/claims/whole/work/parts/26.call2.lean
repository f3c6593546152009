/-! the calls on the three rows, share and price -/
theorem isRow98 {D : Mem} (h0 : 0 ≤ D 98 1) (h1 : D 98 1 ≤ 10) : isRow (mk D) 98 10 := ⟨rfl, rfl, rfl, ⟨h0, h1, by decide⟩, by decide, by rw [mk_98_0]; decide, by rw [mk_98_0]; decide⟩
theorem isRow100 {D : Mem} (h0 : 0 ≤ D 100 1) (h1 : D 100 1 ≤ 12) : isRow (mk D) 100 12 := ⟨rfl, rfl, rfl, ⟨h0, h1, by decide⟩, by decide, by rw [mk_100_0]; decide, by rw [mk_100_0]; decide⟩
theorem isRow102 {D : Mem} (h0 : 0 ≤ D 102 1) (h1 : D 102 1 ≤ 60) : isRow (mk D) 102 60 := ⟨rfl, rfl, rfl, ⟨h0, h1, by decide⟩, by decide, by rw [mk_102_0]; decide, by rw [mk_102_0]; decide⟩
def psh98 (D : Mem) (x : Int) : Mem := mU (mU D 99 (D 98 1) x) 98 1 (D 98 1 + 1)
def psh100 (D : Mem) (x : Int) : Mem := mU (mU D 101 (D 100 1) x) 100 1 (D 100 1 + 1)
def psh102 (D : Mem) (x : Int) : Mem := mU (mU D 103 (D 102 1) x) 102 1 (D 102 1 + 1)
theorem rp98 (D : Mem) (x : Int) : rowPush (mk D) 98 x = mk (psh98 D x) := by
  unfold rowPush psh98
  rw [mk_98_0, mk_98_1, mu_99, mu_98_1]
theorem rp100 (D : Mem) (x : Int) : rowPush (mk D) 100 x = mk (psh100 D x) := by
  unfold rowPush psh100
  rw [mk_100_0, mk_100_1, mu_101, mu_100_1]
theorem rp102 (D : Mem) (x : Int) : rowPush (mk D) 102 x = mk (psh102 D x) := by
  unfold rowPush psh102
  rw [mk_102_0, mk_102_1, mu_103, mu_102_1]
/-- RS by its parts, when other parts of the relation stay -/
theorem Rel_S {D E : Mem} {k : Int} (hR : Rel D k) (h : ∀ a i, ¬ scr a i → ¬ ((98 ≤ a ∧ a ≤ 103) ∨ (114 ≤ a ∧ a ≤ 117) ∨ a = 38 ∨ (a = 31 ∧ i = 10) ∨ (a = 106 ∧ (i = 9 ∨ i = 12 ∨ i = 14 ∨ i = 16))) → E a i = D a i) (hS : RS E) : Rel E (k + 1) := by
  obtain ⟨h1, h2, h3, h4, h5⟩ := hR
  exact ⟨RK_congr (fun a i q => h a i (by unfold scr; omega) (by omega)) h1, RW_mono (RW_congr (fun a i q => h a i (by unfold scr; unfold supW at q; omega) (by unfold supW at q; omega)) h2), RP_congr (fun a i q => h a i (by unfold scr; unfold supP at q; omega) (by unfold supP at q; omega)) h3, hS, RN_mono (RN_congr (fun a i q => h a i (by unfold scr; unfold supN at q; omega) (by unfold supN at q; omega)) h5)⟩
theorem ca_unspell {D : Mem} {k : Int} (hR : Rel D k) : CaseOK D k 99 149 [] := by
  obtain ⟨⟨a1, a2, a3, a4, a5⟩, b, c, d, f⟩ := hR.2.2.2.1
  refine ⟨D 98 1, mU D 98 1 0, mU (mU D 98 1 0) 106 12 0, ?_, ?_, ?_, fun i => ?_, fun i => ?_⟩
  · rw [r_99, row_clear (isRow98 (by omega) (by omega)), mk_98_1, mu_98_1]
    simp [psh_0, e_99_7]
  · rw [r_149, mU_r (by decide), a1]
  · have hf : ∀ x i, ¬ (x = 98 ∧ i = 1) → ¬ (x = 106 ∧ i = 12) → mU (mU D 98 1 0) 106 12 0 x i = D x i := fun x i q1 q2 => by rw [mU_other q2, mU_other q1]
    refine Rel_S hR (fun x i q1 q2 => hf x i (by omega) (by omega)) ⟨?_, RSb_congr (fun x i q => hf x i (by omega) (by omega)) b, RSc_congr (fun x i q => hf x i (by omega) (by omega)) c, RSe_congr (fun x i q => hf x i (by omega) (by omega)) d, RSf_congr (fun x i q => hf x i (by omega) (by omega)) f⟩
    have e1 : mU (mU D 98 1 0) 106 12 0 106 12 = 0 := mU_s
    have e2 : mU (mU D 98 1 0) 106 12 0 98 1 = 0 := by rw [mU_r (by decide), mU_s]
    unfold RSa
    rw [e1, e2, mU_row (by decide), mU_row (by decide), mU_row (by decide), mU_row (by decide)]
    exact ⟨rfl, Int.le_refl _, by decide, a4, fun i h1 h2 => by omega⟩
  · rw [mU_r (by decide), mU_r (by decide)]
  · rw [mU_r (by decide), mU_r (by decide)]
theorem ca_wipe {D : Mem} {k : Int} (hR : Rel D k) : CaseOK D k 119 192 [] := by
  obtain ⟨a, b, ⟨c1, c2, c3, c4, c5⟩, d, f⟩ := hR.2.2.2.1
  refine ⟨D 102 1, mU D 102 1 0, mU (mU D 102 1 0) 106 16 0, ?_, ?_, ?_, fun i => ?_, fun i => ?_⟩
  · rw [r_119, row_clear (isRow102 (by omega) (by omega)), mk_102_1, mu_102_1]
    simp [psh_0, e_119_7]
  · rw [r_192, mU_r (by decide), c1]
  · have hf : ∀ x i, ¬ (x = 102 ∧ i = 1) → ¬ (x = 106 ∧ i = 16) → mU (mU D 102 1 0) 106 16 0 x i = D x i := fun x i q1 q2 => by rw [mU_other q2, mU_other q1]
    refine Rel_S hR (fun x i q1 q2 => hf x i (by omega) (by omega)) ⟨RSa_congr (fun x i q => hf x i (by omega) (by omega)) a, RSb_congr (fun x i q => hf x i (by omega) (by omega)) b, ?_, RSe_congr (fun x i q => hf x i (by omega) (by omega)) d, RSf_congr (fun x i q => hf x i (by omega) (by omega)) f⟩
    have e1 : mU (mU D 102 1 0) 106 16 0 106 16 = 0 := mU_s
    have e2 : mU (mU D 102 1 0) 106 16 0 102 1 = 0 := by rw [mU_r (by decide), mU_s]
    unfold RSc
    rw [e1, e2, mU_row (by decide), mU_row (by decide), mU_row (by decide), mU_row (by decide)]
    exact ⟨rfl, Int.le_refl _, by decide, c4, fun i h1 h2 => by omega⟩
  · rw [mU_r (by decide), mU_r (by decide)]
  · rw [mU_r (by decide), mU_r (by decide)]
theorem ca_text {D : Mem} {k : Int} (hR : Rel D k) (i : Int) : CaseOK D k 120 193 [(0, i)] := by
  obtain ⟨a, b, ⟨c1, c2, c3, c4, c5⟩, d, f⟩ := hR.2.2.2.1
  have e1 : w32 (D 106 16 - 1) = D 106 16 - 1 := w32_id (by omega) (by omega)
  have hrow := row_at (isRow102 (D := D) (by omega) (by omega)) i
  by_cases h : 0 ≤ i ∧ i < D 106 16
  · have h2 : 0 ≤ i ∧ i ≤ D 106 16 - 1 := by omega
    have h3 : i < 60 := by omega
    refine case_same (v := D 117 i) hR ?_ ?_
    · rw [r_120, hrow]
      simp [psh_0, e_120_8, rowAt, mk_102_1, mk_102_0, mk_c103, c1, h, c4]
    · simp [r_193, sp_142, psh_0, e_193_11, e1, h, h2, h3]
  · have h2 : ¬ (0 ≤ i ∧ i ≤ D 106 16 - 1) := by omega
    refine case_same (v := -1) hR ?_ ?_
    · rw [r_120, hrow]
      simp [psh_0, e_120_8, rowAt, mk_102_1, c1, h]
    · simp [r_193, sp_142, psh_0, e_193_11, e1, h2]
theorem ca_press {D : Mem} {k : Int} (hR : Rel D k) (x : Int) : CaseOK D k 110 167 [(0, x)] := by
  obtain ⟨a, ⟨b1, b2, b3, b4, b5⟩, c, d, f⟩ := hR.2.2.2.1
  have hrow := isRow100 (D := D) (by omega) (by omega)
  by_cases h : 1 ≤ x ∧ x ≤ 9
  · by_cases hl : D 106 14 = 12
    · have hl' : ¬ (D 100 1 < 12) := by omega
      refine case_same (v := -2) hR ?_ ?_
      · simp [r_110, sp_131, psh_0, e_110_4, e_110_16, row_full hrow, mk_100_1, h, hl']
      · simp [r_167, sp_142, psh_0, e_167_7, h, hl]
    · have hl' : D 100 1 < 12 := by omega
      have hl2 : D 106 14 < 12 := by omega
      have e1 : w32 (D 106 14 + 1) = D 106 14 + 1 := w32_id (by omega) (by omega)
      have p1 : psh100 D x 100 1 = D 106 14 + 1 := by unfold psh100; rw [mU_s, b1]
      have hrow2 : isRow (mk (psh100 D x)) 100 12 := isRow100 (by rw [p1]; omega) (by rw [p1]; omega)
      have q1 : psh100 D x 106 14 = D 106 14 := by unfold psh100; rw [mU_r (by decide), mU_r (by decide)]
      refine ⟨D 106 14 + 1, psh100 D x, mU (mU (psh100 D x) 116 (D 106 14) x) 106 14 (D 106 14 + 1), ?_, ?_, ?_, fun i => ?_, fun i => ?_⟩
      · simp [r_110, sp_131, psh_0, psh_9, e_110_4, e_110_16, e_110_30, e_110_37, row_full hrow, mk_100_1, h, hl', row_push hrow (by rw [mk_100_1]; exact hl'), rp100, row_size hrow2, p1]
      · have e2 : mU (psh100 D x) 116 (D 106 14) x 106 14 = D 106 14 := by rw [mU_r (by decide)]; exact q1
        have e3 : ∀ v, mU (mU (psh100 D x) 116 (D 106 14) x) 106 14 v 106 14 = v := fun v => mU_s
        simp [r_167, sp_142, psh_0, e_167_7, h, q1, hl, hl2, b2, e2, e1, e3]
      · have hf : ∀ y i, y ≠ 101 → ¬ (y = 100 ∧ i = 1) → y ≠ 116 → ¬ (y = 106 ∧ i = 14) → mU (mU (psh100 D x) 116 (D 106 14) x) 106 14 (D 106 14 + 1) y i = D y i := fun y i q1 q2 q3 q4 => by unfold psh100; rw [mU_other q4, mU_r q3, mU_other q2, mU_r q1]
        refine Rel_S hR (fun y i q1 q2 => hf y i (by omega) (by omega) (by omega) (by omega)) ⟨RSa_congr (fun y i q => hf y i (by omega) (by omega) (by omega) (by omega)) a, ?_, RSc_congr (fun y i q => hf y i (by omega) (by omega) (by omega) (by omega)) c, RSe_congr (fun y i q => hf y i (by omega) (by omega) (by omega) (by omega)) d, RSf_congr (fun y i q => hf y i (by omega) (by omega) (by omega) (by omega)) f⟩
        have z1 : mU (mU (psh100 D x) 116 (D 106 14) x) 106 14 (D 106 14 + 1) 106 14 = D 106 14 + 1 := mU_s
        have z2 : mU (mU (psh100 D x) 116 (D 106 14) x) 106 14 (D 106 14 + 1) 100 1 = D 106 14 + 1 := by rw [mU_r (by decide), mU_r (by decide)]; exact p1
        have z3 : ∀ i, mU (mU (psh100 D x) 116 (D 106 14) x) 106 14 (D 106 14 + 1) 101 i = if i = D 106 14 then x else D 116 i := fun i => by
          rw [mU_r (by decide), mU_r (by decide)]
          unfold psh100
          rw [mU_r (by decide), b1, ← b4]
          unfold mU
          simp
        have z4 : ∀ i, mU (mU (psh100 D x) 116 (D 106 14) x) 106 14 (D 106 14 + 1) 116 i = if i = D 106 14 then x else D 116 i := fun i => by
          rw [mU_r (by decide)]
          unfold psh100
          by_cases e : i = D 106 14
          · subst e; rw [mU_s, if_pos rfl]
          · rw [mU_c e, mU_r (by decide), mU_r (by decide), if_neg e]
        unfold RSb
        rw [z1, z2]
        refine ⟨rfl, by omega, by omega, funext fun i => by rw [z3, z4], fun i g1 g2 => ?_⟩
        rw [z4]
        by_cases e : i = D 106 14
        · rw [if_pos e]; exact h
        · rw [if_neg e]; exact b5 i g1 (by omega)
      · unfold psh100; rw [mU_r (by decide), mU_r (by decide), mU_r (by decide), mU_r (by decide)]
      · unfold psh100; rw [mU_r (by decide), mU_r (by decide), mU_r (by decide), mU_r (by decide)]
  · exact case_same (v := -1) hR (by simp [r_110, sp_131, psh_0, e_110_4, h]) (by simp [r_167, sp_142, psh_0, e_167_7, h])
theorem ca_back {D : Mem} {k : Int} (hR : Rel D k) : CaseOK D k 111 168 [] := by
  obtain ⟨a, ⟨b1, b2, b3, b4, b5⟩, c, d, f⟩ := hR.2.2.2.1
  have hrow := isRow100 (D := D) (by omega) (by omega)
  by_cases h : D 106 14 = 0
  · have h' : D 100 1 = 0 := by omega
    exact case_same (v := -4) hR (by simp [r_111, row_empty hrow, mk_100_1, psh_0, e_111_7, h']) (by simp [r_168, h])
  · have h' : ¬ D 100 1 = 0 := by omega
    have e1 : w32 (D 106 14 - 1) = D 106 14 - 1 := w32_id (by omega) (by omega)
    have p1 : mU D 100 1 (D 106 14 - 1) 100 1 = D 106 14 - 1 := mU_s
    have hrow2 : isRow (mk (mU D 100 1 (D 106 14 - 1))) 100 12 := isRow100 (by rw [p1]; omega) (by rw [p1]; omega)
    have q1 : mU D 100 1 (D 106 14 - 1) 106 14 = D 106 14 := mU_r (by decide)
    refine ⟨D 106 14 - 1, mU D 100 1 (D 106 14 - 1), mU (mU D 100 1 (D 106 14 - 1)) 106 14 (D 106 14 - 1), ?_, ?_, ?_, fun i => ?_, fun i => ?_⟩
    · simp [r_111, row_empty hrow, mk_100_1, psh_0, psh_9, e_111_7, e_111_20, e_111_27, h', row_pop hrow (by rw [mk_100_1]; omega), mu_100_1, b1, row_size hrow2, p1]
      simp [h]
    · rw [r_168, q1, if_neg h, e1, mU_s]
    · have hf : ∀ y i, ¬ (y = 100 ∧ i = 1) → ¬ (y = 106 ∧ i = 14) → mU (mU D 100 1 (D 106 14 - 1)) 106 14 (D 106 14 - 1) y i = D y i := fun y i q1 q2 => by rw [mU_other q2, mU_other q1]
      refine Rel_S hR (fun y i q1 q2 => hf y i (by omega) (by omega)) ⟨RSa_congr (fun y i q => hf y i (by omega) (by omega)) a, ?_, RSc_congr (fun y i q => hf y i (by omega) (by omega)) c, RSe_congr (fun y i q => hf y i (by omega) (by omega)) d, RSf_congr (fun y i q => hf y i (by omega) (by omega)) f⟩
      have z1 : mU (mU D 100 1 (D 106 14 - 1)) 106 14 (D 106 14 - 1) 106 14 = D 106 14 - 1 := mU_s
      have z2 : mU (mU D 100 1 (D 106 14 - 1)) 106 14 (D 106 14 - 1) 100 1 = D 106 14 - 1 := by rw [mU_r (by decide), mU_s]
      unfold RSb
      rw [z1, z2, mU_row (by decide), mU_row (by decide), mU_row (by decide), mU_row (by decide)]
      exact ⟨rfl, by omega, by omega, b4, fun i g1 g2 => b5 i g1 (by omega)⟩
    · rw [mU_r (by decide), mU_r (by decide)]
    · rw [mU_r (by decide), mU_r (by decide)]
theorem ca_share {D : Mem} {k : Int} (hR : Rel D k) (x : Int) : CaseOK D k 108 165 [(0, x)] := by
  obtain ⟨a, b, c, d, f⟩ := hR.2.2.2.1
  by_cases h : 0 ≤ x ∧ x ≤ 100
  · have h0 : ¬ x < 0 := by omega
    refine ⟨1, mU D 31 10 x, mU (mU D 31 10 x) 106 9 x, by simp [r_108, h0, h.2, r_67, psh_9, e_108_20], by simp [r_165, sp_142, psh_0, e_165_7, h], ?_, fun i => ?_, fun i => ?_⟩
    · have hf : ∀ y i, ¬ (y = 31 ∧ i = 10) → ¬ (y = 106 ∧ i = 9) → mU (mU D 31 10 x) 106 9 x y i = D y i := fun y i q1 q2 => by rw [mU_other q2, mU_other q1]
      refine Rel_S hR (fun y i q1 q2 => hf y i (by omega) (by omega)) ⟨RSa_congr (fun y i q => hf y i (by omega) (by omega)) a, RSb_congr (fun y i q => hf y i (by omega) (by omega)) b, RSc_congr (fun y i q => hf y i (by omega) (by omega)) c, ?_, RSf_congr (fun y i q => hf y i (by omega) (by omega)) f⟩
      unfold RSe
      rw [mU_s, mU_r (by decide), mU_s]
      exact ⟨rfl, h.1, h.2⟩
    · rw [mU_r (by decide), mU_r (by decide)]
    · rw [mU_r (by decide), mU_r (by decide)]
  · refine case_same (v := -1) hR ?_ (by simp [r_165, sp_142, psh_0, e_165_7, h])
    rw [r_108]
    by_cases h0 : x < 0
    · rw [if_pos h0]
    · rw [if_neg h0, if_neg (by omega)]
theorem ca_price {D : Mem} {k : Int} (hR : Rel D k) (s x : Int) : CaseOK D k 109 166 [(0, s), (0, x)] := by
  obtain ⟨a, b, c, d, f1, f2⟩ := hR.2.2.2.1
  by_cases hs : 0 ≤ s ∧ s < 3
  · have hs' : 0 ≤ s ∧ s ≤ 2 := by omega
    have hs0 : ¬ s < 0 := by omega
    by_cases h : 0 ≤ x ∧ x ≤ 100000
    · have h0 : ¬ x < 0 := by omega
      refine ⟨1, mU D 38 s x, mU (mU D 38 s x) 114 s x, by simp [r_109, hs0, hs.2, h0, h.2, r_68, hs, psh_9, e_109_30], by simp [r_166, sp_142, psh_0, e_166_6, e_166_16, h, hs, hs'], ?_, fun i => ?_, fun i => ?_⟩
      · have hf : ∀ y i, y ≠ 38 → y ≠ 114 → mU (mU D 38 s x) 114 s x y i = D y i := fun y i q1 q2 => by rw [mU_r q2, mU_r q1]
        refine Rel_S hR (fun y i q1 q2 => hf y i (by omega) (by omega)) ⟨RSa_congr (fun y i q => hf y i (by omega) (by omega)) a, RSb_congr (fun y i q => hf y i (by omega) (by omega)) b, RSc_congr (fun y i q => hf y i (by omega) (by omega)) c, RSe_congr (fun y i q => hf y i (by omega) (by omega)) d, ?_, fun i g1 g2 => ?_⟩
        · funext i
          rw [mU_r (by decide)]
          unfold mU
          simp [f1]
        · by_cases e : i = s
          · subst e; rw [mU_s]; exact h
          · rw [mU_c e, mU_r (by decide)]; exact f2 i g1 g2
      · rw [mU_r (by decide), mU_r (by decide)]
      · rw [mU_r (by decide), mU_r (by decide)]
    · refine case_same (v := -1) hR ?_ (by simp [r_166, sp_142, psh_0, e_166_6, e_166_16, h, hs'])
      rw [r_109, if_neg hs0, if_pos hs.2]
      by_cases h0 : x < 0
      · rw [if_pos h0]
      · rw [if_neg h0, if_neg (by omega)]
  · have hs' : ¬ (0 ≤ s ∧ s ≤ 2) := by omega
    refine case_same (v := -1) hR ?_ (by simp [r_166, sp_142, psh_0, e_166_6, hs'])
    rw [r_109]
    by_cases h0 : s < 0
    · rw [if_pos h0]
    · rw [if_neg h0, if_neg (by omega)]
