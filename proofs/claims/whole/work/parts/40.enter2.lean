/-! a word enters the book -/
theorem mk_pos (D : Mem) {b : Int} (j : Int) (h : 131 ≤ b) : mk D b j = if j = 0 ∧ (b - 131) % 3 ≠ 2 ∧ b < 131 + 3 * D 5 2 then b + 1 else D b j := by
  unfold mk mkC
  rw [if_neg (by omega), if_pos h]
theorem mk_ng0 (D : Mem) {b : Int} (h : b ≤ -131) : mk D b 0 = if -b < 131 + 3 * D 5 2 then (if (-b - 131) % 3 = 0 then 18 else if (-b - 131) % 3 = 1 then 15 else 1) else 0 := by
  unfold mk mkK
  rw [if_pos (by omega), if_pos rfl, if_neg (by omega)]
theorem mk_ng (D : Mem) {b j : Int} (h : b ≤ -131) (hj : j ≠ 0) : mk D b j = D b j := by
  unfold mk mkL
  rw [if_pos (by omega), if_neg hj]
  by_cases c : j = 1
  · rw [if_pos c, if_pos (by omega), Int.neg_neg, c]
  · rw [if_neg c]
theorem mk_mid {E D : Mem} {b : Int} (j : Int) (h0 : b ≠ 0) (h6 : b ≠ 6) (h1 : -131 < b) (h2 : b < 131) (h : ∀ j, E b j = D b j) : mk E b j = mk D b j := by
  have c1 : ¬ 131 ≤ b := by omega
  unfold mk mkK mkL mkC
  by_cases c : b < 0
  · have c2 : -b < 131 := by omega
    simp only [if_pos c, if_pos c2, Int.neg_neg, h]
  · simp only [if_neg c, if_neg c1, if_neg h0, if_neg h6]
    cases rT b j with
    | none => simp only [h]
    | some v => rfl
/-- behind the entry of a word -/
def entE (D : Mem) (cnt : Int) : Mem := fun b j =>
  if b = 131 + 3 * D 5 2 then (if j = 2 then D 5 4 + 1 else if j = 1 then cnt else if j = 0 then 132 + 3 * D 5 2 else if j = 3 then 1 else 0) else
  if b = 132 + 3 * D 5 2 then (if j = 0 then 133 + 3 * D 5 2 else if j = 1 then D 98 1 else 0) else
  if b = 133 + 3 * D 5 2 then (if 0 ≤ j ∧ j < D 98 1 then D 99 j else 0) else
  if b = -(131 + 3 * D 5 2) then (if j = 0 then 18 else if j = 1 then 4 else 0) else
  if b = -(132 + 3 * D 5 2) then (if j = 0 then 15 else if j = 1 then 2 else 0) else
  if b = -(133 + 3 * D 5 2) then (if j = 0 then 1 else if j = 1 then D 98 1 else 0) else
  if b = 0 ∧ j = 3 then D 0 3 + 6 + D 98 1 else
  if b = 5 ∧ j = 2 then D 5 2 + 1 else if b = 5 ∧ j = 3 then D 5 3 + 1 else if b = 5 ∧ j = 4 then D 5 4 + 1 else D b j
theorem entE_a (D : Mem) (c j : Int) : entE D c (131 + 3 * D 5 2) j = if j = 2 then D 5 4 + 1 else if j = 1 then c else if j = 0 then 132 + 3 * D 5 2 else if j = 3 then 1 else 0 := by
  unfold entE; rw [if_pos rfl]
theorem entE_b (D : Mem) (c j : Int) : entE D c (132 + 3 * D 5 2) j = if j = 0 then 133 + 3 * D 5 2 else if j = 1 then D 98 1 else 0 := by
  unfold entE; rw [if_neg (by omega), if_pos rfl]
theorem entE_c (D : Mem) (c j : Int) : entE D c (133 + 3 * D 5 2) j = if 0 ≤ j ∧ j < D 98 1 then D 99 j else 0 := by
  unfold entE; rw [if_neg (by omega), if_neg (by omega), if_pos rfl]
theorem entE_na {D : Mem} (h : 0 ≤ D 5 2) (c j : Int) : entE D c (-(131 + 3 * D 5 2)) j = if j = 0 then 18 else if j = 1 then 4 else 0 := by
  unfold entE; rw [if_neg (by omega), if_neg (by omega), if_neg (by omega), if_pos rfl]
theorem entE_nb {D : Mem} (h : 0 ≤ D 5 2) (c j : Int) : entE D c (-(132 + 3 * D 5 2)) j = if j = 0 then 15 else if j = 1 then 2 else 0 := by
  unfold entE; rw [if_neg (by omega), if_neg (by omega), if_neg (by omega), if_neg (by omega), if_pos rfl]
theorem entE_nc {D : Mem} (h : 0 ≤ D 5 2) (c j : Int) : entE D c (-(133 + 3 * D 5 2)) j = if j = 0 then 1 else if j = 1 then D 98 1 else 0 := by
  unfold entE; rw [if_neg (by omega), if_neg (by omega), if_neg (by omega), if_neg (by omega), if_neg (by omega), if_pos rfl]
theorem entE_0 {D : Mem} (h : 0 ≤ D 5 2) (c : Int) : entE D c 0 3 = D 0 3 + 6 + D 98 1 := by
  unfold entE; rw [if_neg (by omega), if_neg (by omega), if_neg (by omega), if_neg (by omega), if_neg (by omega), if_neg (by omega), if_pos ⟨rfl, rfl⟩]
theorem entE_52 {D : Mem} (h : 0 ≤ D 5 2) (c : Int) : entE D c 5 2 = D 5 2 + 1 := by
  unfold entE; rw [if_neg (by omega), if_neg (by omega), if_neg (by omega), if_neg (by omega), if_neg (by omega), if_neg (by omega), if_neg (by omega), if_pos ⟨rfl, rfl⟩]
theorem entE_53 {D : Mem} (h : 0 ≤ D 5 2) (c : Int) : entE D c 5 3 = D 5 3 + 1 := by
  unfold entE; rw [if_neg (by omega), if_neg (by omega), if_neg (by omega), if_neg (by omega), if_neg (by omega), if_neg (by omega), if_neg (by omega), if_neg (by omega), if_pos ⟨rfl, rfl⟩]
theorem entE_54 {D : Mem} (h : 0 ≤ D 5 2) (c : Int) : entE D c 5 4 = D 5 4 + 1 := by
  unfold entE; rw [if_neg (by omega), if_neg (by omega), if_neg (by omega), if_neg (by omega), if_neg (by omega), if_neg (by omega), if_neg (by omega), if_neg (by omega), if_neg (by omega), if_pos ⟨rfl, rfl⟩]
theorem entE_o {D : Mem} (c : Int) {b j : Int} (h1 : ¬ (131 + 3 * D 5 2 ≤ b ∧ b ≤ 133 + 3 * D 5 2)) (h2 : ¬ (131 + 3 * D 5 2 ≤ -b ∧ -b ≤ 133 + 3 * D 5 2)) (h3 : ¬ (b = 0 ∧ j = 3)) (h4 : ¬ (b = 5 ∧ 2 ≤ j ∧ j ≤ 4)) : entE D c b j = D b j := by
  unfold entE; rw [if_neg (by omega), if_neg (by omega), if_neg (by omega), if_neg (by omega), if_neg (by omega), if_neg (by omega), if_neg (by omega), if_neg (by omega), if_neg (by omega), if_neg (by omega)]
theorem sp_10m {D D1 : Mem} {c : Int} (h0 : 0 ≤ D 5 2) (hD : D1 = mU D 5 4 (D 5 4 + 1)) : mU (mU (mU (wM (mk D1) (131 + 3 * D 5 2) (fun j => if j = 2 then D 5 4 + 1 else if j = 1 then c else if j = 0 then 131 + 3 * D 5 2 + 1 else if j = 3 then 1 else 0) (131 + 3 * D 5 2 + 2) (D 98 1) (fun j => if 0 ≤ j ∧ j < D 98 1 then D 99 j else 0) (D 98 1) 3) 6 (D 5 2) (131 + 3 * D 5 2)) 5 2 (D 5 2 + 1)) 5 3 (D 5 3 + 1) = mk (entE D c) := by
  have n52 := entE_52 h0 c
  have ha : 131 ≤ 131 + 3 * D 5 2 := by omega
  have o1 : ∀ b j, ¬ (b = 5 ∧ j = 4) → D1 b j = D b j := fun b j q => by rw [hD, mU_other q]
  refine ext7 (a := 131 + 3 * D 5 2) (fun j => ?_) (fun j => ?_) (fun j => ?_) (fun j => ?_) (fun j => ?_) (fun j => ?_) (fun j => ?_) (fun b j hb => ?_)
  · rw [mU_r (by omega), mU_r (by omega), mU_r (by omega), wM_a, mk_pos _ _ (by omega), n52, entE_a]
    by_cases cj : j = 0
    · subst cj
      rw [if_pos (show (0 : Int) = 0 ∧ (131 + 3 * D 5 2 - 131) % 3 ≠ 2 ∧ 131 + 3 * D 5 2 < 131 + 3 * (D 5 2 + 1) from ⟨rfl, by omega, by omega⟩)]
      rfl
    · rw [if_neg (show ¬ (j = 0 ∧ (131 + 3 * D 5 2 - 131) % 3 ≠ 2 ∧ 131 + 3 * D 5 2 < 131 + 3 * (D 5 2 + 1)) from fun q => cj q.1)]
      simp only [if_neg cj]
  · rw [mU_r (by omega), mU_r (by omega), mU_r (by omega), wM_b _ _ _ _ _ _ _ _ _ (by decide), mk_pos _ _ (by omega), n52, show 131 + 3 * D 5 2 + 1 = 132 + 3 * D 5 2 by omega, entE_b]
    by_cases cj : j = 0
    · subst cj
      rw [if_pos (show (0 : Int) = 0 ∧ (132 + 3 * D 5 2 - 131) % 3 ≠ 2 ∧ 132 + 3 * D 5 2 < 131 + 3 * (D 5 2 + 1) from ⟨rfl, by omega, by omega⟩)]
      show 131 + 3 * D 5 2 + 2 = 132 + 3 * D 5 2 + 1
      omega
    · rw [if_neg (show ¬ (j = 0 ∧ (132 + 3 * D 5 2 - 131) % 3 ≠ 2 ∧ 132 + 3 * D 5 2 < 131 + 3 * (D 5 2 + 1)) from fun q => cj q.1)]
      simp only [if_neg cj]
  · rw [mU_r (by omega), mU_r (by omega), mU_r (by omega), wM_c _ _ _ _ _ _ _ _ _ (by decide), mk_pos _ _ (by omega), if_neg (show ¬ (j = 0 ∧ (131 + 3 * D 5 2 + 2 - 131) % 3 ≠ 2 ∧ _) from fun q => absurd q.2.1 (by omega)), show 131 + 3 * D 5 2 + 2 = 133 + 3 * D 5 2 by omega, entE_c]
  · rw [mU_r (by omega), mU_r (by omega), mU_r (by omega), wM_na _ _ _ _ _ _ _ _ _ ha]
    by_cases cj : j = 0
    · rw [if_pos cj, cj, mk_ng0 _ (by omega), n52, if_pos (by omega), if_pos (by omega)]
    · rw [mk_ng _ (by omega) cj, entE_na h0]
  · rw [mU_r (by omega), mU_r (by omega), mU_r (by omega), wM_nb _ _ _ _ _ _ _ _ _ ha, if_pos (by decide : (1 : Int) < 3), show 131 + 3 * D 5 2 + 1 = 132 + 3 * D 5 2 by omega]
    by_cases cj : j = 0
    · rw [if_pos cj, cj, mk_ng0 _ (by omega), n52, if_pos (by omega), if_neg (by omega), if_pos (by omega)]
    · rw [mk_ng _ (by omega) cj, entE_nb h0]
  · rw [mU_r (by omega), mU_r (by omega), mU_r (by omega), wM_nd _ _ _ _ _ _ _ _ _ ha, if_pos (by decide : (2 : Int) < 3), show 131 + 3 * D 5 2 + 2 = 133 + 3 * D 5 2 by omega]
    by_cases cj : j = 0
    · rw [if_pos cj, cj, mk_ng0 _ (by omega), n52, if_pos (by omega), if_neg (by omega), if_neg (by omega)]
    · rw [mk_ng _ (by omega) cj, entE_nc h0]
  · rw [mU_r (by omega), mU_r (by omega), mU_r (by omega), wM_0 _ _ _ _ _ _ _ _ _ ha, if_pos (by decide : (1 : Int) < 3), if_pos (by decide : (2 : Int) < 3)]
    have e0 : ∀ (E : Mem) j, mk E 0 j = if j = 2 then 131 + 3 * E 5 2 else E 0 j := fun E j => rfl
    rw [e0 D1 3, e0 D1 j, e0 (entE D c) j, n52, if_neg (by decide : ¬ (3 : Int) = 2)]
    by_cases c2 : j = 2
    · simp only [if_pos c2]; omega
    · simp only [if_neg c2]
      by_cases c3 : j = 3
      · rw [if_pos c3, c3, entE_0 h0, o1 _ _ (by omega)]; omega
      · rw [if_neg c3, entE_o c (by omega) (by omega) (by omega) (by omega), o1 _ _ (by omega)]
  · by_cases c5 : b = 5
    · have e5 : ∀ (E : Mem) j, mk E 5 j = if j = 0 then 6 else if j = 1 then 7 else E 5 j := fun E j => by
        by_cases q0 : j = 0
        · rw [if_pos q0, q0]; rfl
        · by_cases q1 : j = 1
          · rw [if_neg q0, if_pos q1, q1]; rfl
          · rw [if_neg q0, if_neg q1]
            show (match rT 5 j with | some r => r | none => E 5 j) = _
            have : rT 5 j = none := by
              show (if j = 0 then some 6 else if j = 1 then some 7 else none) = (none : Option Int)
              rw [if_neg q0, if_neg q1]
            rw [this]
      rw [c5, e5]
      by_cases c3 : j = 3
      · rw [c3, mU_s, if_neg (by decide), if_neg (by decide), entE_53 h0]
      · rw [mU_other (by omega)]
        by_cases c2 : j = 2
        · rw [c2, mU_s, if_neg (by decide), if_neg (by decide), n52]
        · rw [mU_other (by omega), mU_r (by decide), wM_e _ _ _ _ _ _ _ _ _ (by omega), e5]
          by_cases q0 : j = 0
          · rw [if_pos q0, if_pos q0]
          · by_cases q1 : j = 1
            · rw [if_neg q0, if_pos q1, if_neg q0, if_pos q1]
            · rw [if_neg q0, if_neg q1, if_neg q0, if_neg q1]
              by_cases c4 : j = 4
              · rw [c4, entE_54 h0, hD, mU_s]
              · rw [entE_o c (by omega) (by omega) (by omega) (by omega), o1 _ _ (by omega)]
    · rw [mU_r c5, mU_r c5]
      by_cases c6 : b = 6
      · have e6 : ∀ (E : Mem) j, mk E 6 j = if 0 ≤ j ∧ j < E 5 2 then 131 + 3 * j else 0 := fun E j => rfl
        rw [c6, e6, n52]
        by_cases cn : j = D 5 2
        · rw [cn, mU_s, if_pos (by omega)]
        · rw [mU_other (by omega), wM_e _ _ _ _ _ _ _ _ _ (by omega), e6, o1 _ _ (by omega)]
          by_cases cc : 0 ≤ j ∧ j < D 5 2
          · rw [if_pos cc, if_pos (by omega)]
          · rw [if_neg cc, if_neg (by omega)]
      · rw [mU_r c6, wM_e _ _ _ _ _ _ _ _ _ hb]
        by_cases m1 : -131 < b ∧ b < 131
        · exact mk_mid j (by omega) c6 m1.1 m1.2 (fun j => by rw [entE_o c (by omega) (by omega) (by omega) (by omega), o1 _ _ (by omega)])
        · have eo : ∀ j, entE D c b j = D1 b j := fun j => by rw [entE_o c (by omega) (by omega) (by omega) (by omega), o1 _ _ (by omega)]
          by_cases m2 : 131 ≤ b
          · rw [mk_pos _ _ m2, mk_pos _ _ m2, eo, n52, o1 5 2 (by omega)]
            by_cases cc : j = 0 ∧ (b - 131) % 3 ≠ 2 ∧ b < 131 + 3 * D 5 2
            · rw [if_pos cc, if_pos ⟨cc.1, cc.2.1, by omega⟩]
            · rw [if_neg cc, if_neg (fun q => cc ⟨q.1, q.2.1, by omega⟩)]
          · have m3 : b ≤ -131 := by omega
            by_cases cj : j = 0
            · rw [cj, mk_ng0 _ m3, mk_ng0 _ m3, n52, o1 5 2 (by omega)]
              by_cases cc : -b < 131 + 3 * D 5 2
              · simp only [if_pos cc, if_pos (show -b < 131 + 3 * (D 5 2 + 1) by omega)]
              · simp only [if_neg cc, if_neg (show ¬ -b < 131 + 3 * (D 5 2 + 1) by omega)]
            · rw [mk_ng _ m3 cj, mk_ng _ m3 cj, eo]
theorem sp_10e {D : Mem} {c : Int} (h0 : 0 ≤ D 5 2) (h1 : D 5 2 < 80) (h2 : 0 ≤ D 5 4 ∧ D 5 4 < 1000000) (h3 : 0 ≤ D 5 3 ∧ D 5 3 < 1000000) (h4 : 0 ≤ D 98 1) (h5 : D 98 1 ≤ 10) : qE 10 28 [(3, 5), (3, 98), (0, c)] [] (mk D) = some ((0, D 5 2), mk (entE D c)) := by
  obtain ⟨D1, hD⟩ : ∃ D1, D1 = mU D 5 4 (D 5 4 + 1) := ⟨_, rfl⟩
  have o1 : ∀ b j, ¬ (b = 5 ∧ j = 4) → D1 b j = D b j := fun b j q => by rw [hD, mU_other q]
  have ha : 131 ≤ 131 + 3 * D 5 2 := by omega
  have k5 : ∀ E : Mem, mk E (-5) 0 = 10 := fun E => rfl
  have m54 : mk D 5 4 = D 5 4 := rfl
  have e1 : w32 (D 5 4 + 1) = D 5 4 + 1 := w32_id (by omega) (by omega)
  have e2 : mk D1 0 2 = 131 + 3 * D 5 2 := by show 131 + 3 * D1 5 2 = _; rw [o1 _ _ (by omega)]
  have m1 : mk D1 5 2 = D 5 2 := by show D1 5 2 = _; rw [o1 _ _ (by omega)]
  have m0 : mk D1 5 0 = 6 := rfl
  have row := isRow98 (D := D1) (by rw [o1 _ _ (by omega)]; exact h4) (by rw [o1 _ _ (by omega)]; exact h5)
  have p98 : mk D1 98 1 = D 98 1 := by show D1 98 1 = _; rw [o1 _ _ (by omega)]
  have p99 : ∀ j, mk D1 99 j = D 99 j := fun j => by show D1 99 j = _; rw [o1 _ _ (by omega)]
  have n54 : mNew (mk D1) 18 4 5 4 = D 5 4 + 1 := by rw [mN_e e2 _ (by omega)]; show D1 5 4 = _; rw [hD, mU_s]
  have s93 := sp_93 (μ := mk D1) (cnt := c) (clk := D 5 4 + 1) e2 ha row rfl p98
  simp only [p99] at s93
  rw [e_10_28, k5, if_pos rfl, if_pos rfl, m54, e1, mu_5_4, ← hD, k5, if_pos rfl, if_pos rfl, e2, mN_e e2 _ (by omega), k5, if_pos rfl, mN_n e2 (by omega), if_pos rfl, if_pos rfl, n54, s93]
  simp only [Option.bind_some, psh_9]
  rw [m1, m0, e_10_59]
  have rd : ∀ f g s t b j, b ≠ 0 → -131 < b → b < 131 → wM (mk D1) (131 + 3 * D 5 2) f (131 + 3 * D 5 2 + 2) s g s t b j = mk D1 b j := fun f g s t b j a1 a2 a3 => wM_o _ _ _ _ _ _ _ _ ha a1 a2 a3
  have r6 : ∀ f g s t j, wM (mk D1) (131 + 3 * D 5 2) f (131 + 3 * D 5 2 + 2) s g s t (-6) j = mk D1 (-6) j := fun f g s t j => rd f g s t (-6) j (by decide) (by decide) (by decide)
  have r5 : ∀ f g s t j, wM (mk D1) (131 + 3 * D 5 2) f (131 + 3 * D 5 2 + 2) s g s t 5 j = mk D1 5 j := fun f g s t j => rd f g s t 5 j (by decide) (by decide) (by decide)
  have rn5 : ∀ f g s t j, wM (mk D1) (131 + 3 * D 5 2) f (131 + 3 * D 5 2 + 2) s g s t (-5) j = mk D1 (-5) j := fun f g s t j => rd f g s t (-5) j (by decide) (by decide) (by decide)
  have c0 : (6 : Int) ≠ 1 ∧ aPut (wM (mk D1) (131 + 3 * D 5 2) (fun j => if j = 2 then D 5 4 + 1 else if j = 1 then c else if j = 0 then 131 + 3 * D 5 2 + 1 else if j = 3 then 1 else 0) (131 + 3 * D 5 2 + 2) (D 98 1) (fun j => if 0 ≤ j ∧ j < D 98 1 then D 99 j else 0) (D 98 1) 3) 3 (mk D1 (-6) 0) (3, 131 + 3 * D 5 2) = true ∧ 0 ≤ D 5 2 ∧ D 5 2 < mk D1 (-6) 1 := by
    refine ⟨by decide, ?_, h0, h1⟩
    have k6 : mk D1 (-6) 0 = 4 := rfl
    simp only [aPut, k6, wM_ka _ _ _ _ _ _ _ _ ha]
    decide
  rw [r6, r6, if_pos c0]
  have u5 : ∀ (M : Mem) i v j, mU M 5 i v (-5) j = M (-5) j := fun M i v j => mU_r (by decide)
  have u6 : ∀ (M : Mem) i v j, mU M 6 i v (-5) j = M (-5) j := fun M i v j => mU_r (by decide)
  have w6 : ∀ (M : Mem) i v j, mU M 6 i v 5 j = M 5 j := fun M i v j => mU_r (by decide)
  have w52 : ∀ (M : Mem) v, mU M 5 2 v 5 3 = M 5 3 := fun M v => mU_other (by decide)
  have w53 : ∀ (M : Mem) v, mU M 5 3 v 5 2 = M 5 2 := fun M v => mU_other (by decide)
  have s52 : ∀ (M : Mem) v, mU M 5 2 v 5 2 = v := fun M v => mU_s
  have m3 : mk D1 5 3 = D 5 3 := by show D1 5 3 = _; rw [o1 _ _ (by omega)]
  have f1 : w32 (D 5 2 + 1) = D 5 2 + 1 := w32_id (by omega) (by omega)
  have f2 : w32 (D 5 3 + 1) = D 5 3 + 1 := w32_id (by omega) (by omega)
  have f3 : w32 (D 5 2 + 1 - 1) = D 5 2 := by rw [w32_id (by omega) (by omega)]; omega
  simp only [u5, u6, w6, w52, w53, s52, rn5, r5, k5, m1, m3, f1, f2, f3, if_true]
  rw [sp_10m h0 hD]
