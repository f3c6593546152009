/-! spell -/
theorem told_or (a : Int → Int) : ∃ n, 0 ≤ n ∧ n ≤ 5 ∧ (∀ i, 0 ≤ i → i < n → 0 ≤ a i ∧ a i < 26) ∧ (n = 5 ∨ (n < 5 ∧ a n = -1) ∨ (n < 5 ∧ a n ≠ -1 ∧ ¬ (0 ≤ a n ∧ a n < 26))) := by
  have key : ∀ m, 0 ≤ m → m ≤ 5 → (∀ i, 0 ≤ i → i < m → 0 ≤ a i ∧ a i < 26) ∨ ∃ n, 0 ≤ n ∧ n < m ∧ (∀ i, 0 ≤ i → i < n → 0 ≤ a i ∧ a i < 26) ∧ ¬ (0 ≤ a n ∧ a n < 26) :=
    i_up (fun _ => Or.inl fun i h0 h1 => by omega) (fun m hm ih h5 => by
      rcases ih (by omega) with g | ⟨n, n0, n1, g1, g2⟩
      · by_cases c : 0 ≤ a m ∧ a m < 26
        · exact Or.inl fun i h0 h1 => by
            by_cases e : i = m
            · subst e; exact c
            · exact g i h0 (by omega)
        · exact Or.inr ⟨m, hm, by omega, g, c⟩
      · exact Or.inr ⟨n, n0, by omega, g1, g2⟩)
  rcases key 5 (by omega) (by omega) with g | ⟨n, n0, n1, g1, g2⟩
  · exact ⟨5, by omega, by omega, g, Or.inl rfl⟩
  · refine ⟨n, n0, by omega, g1, Or.inr ?_⟩
    by_cases e : a n = -1
    · exact Or.inl ⟨n1, e⟩
    · exact Or.inr ⟨n1, e, g2⟩
theorem sp_98a {D : Mem} {n : Int} (h0 : 0 ≤ n) (h5 : n ≤ 5) (hg : ∀ i, 0 ≤ i → i < n → 0 ≤ D 104 i ∧ D 104 i < 26) (x1 x2 x3 x4 x5 : Int) : qE 98 40 [(3, 2), (0, x1), (0, x2), (0, x3), (0, x4), (0, x5), (0, 0), (9, 0)] [] (mk D) = qE 98 40 [(3, 2), (0, x1), (0, x2), (0, x3), (0, x4), (0, x5), (0, n), (9, 0)] [] (mk D) :=
  it_up (fun i => qE 98 40 [(3, 2), (0, x1), (0, x2), (0, x3), (0, x4), (0, x5), (0, i), (9, 0)] [] (mk D)) h0 (fun i g0 g1 => by
    have gi : 0 ≤ i ∧ i < 5 := by omega
    have g := hg i g0 g1
    have e1 : w32 (i + 1) = i + 1 := w32_id (by omega) (by omega)
    show qE 98 40 [(3, 2), (0, x1), (0, x2), (0, x3), (0, x4), (0, x5), (0, i), (9, 0)] [] (mk D) = qE 98 40 [(3, 2), (0, x1), (0, x2), (0, x3), (0, x4), (0, x5), (0, i + 1), (9, 0)] [] (mk D)
    rw [e_98_40, if_pos gi.2, if_pos gi, if_neg (by omega), if_pos gi, sp_130, if_pos g]
    simp only [Option.bind_some, psh_0]
    rw [e_98_71, if_neg (by decide), e1])
theorem sp_148a {D : Mem} {n : Int} (h0 : 0 ≤ n) (h5 : n ≤ 5) (hg : ∀ i, 0 ≤ i → i < n → 0 ≤ D 122 i ∧ D 122 i < 26) (x1 x2 x3 x4 x5 : Int) : qE 148 40 [(3, 106), (0, x1), (0, x2), (0, x3), (0, x4), (0, x5), (0, 0), (9, 0)] [] (mk D) = qE 148 40 [(3, 106), (0, x1), (0, x2), (0, x3), (0, x4), (0, x5), (0, n), (9, 0)] [] (mk D) :=
  it_up (fun i => qE 148 40 [(3, 106), (0, x1), (0, x2), (0, x3), (0, x4), (0, x5), (0, i), (9, 0)] [] (mk D)) h0 (fun i g0 g1 => by
    have gi : 0 ≤ i ∧ i < 5 := by omega
    have g := hg i g0 g1
    have g' : 0 ≤ D 122 i ∧ D 122 i ≤ 25 := by omega
    have e1 : w32 (i + 1) = i + 1 := w32_id (by omega) (by omega)
    show qE 148 40 [(3, 106), (0, x1), (0, x2), (0, x3), (0, x4), (0, x5), (0, i), (9, 0)] [] (mk D) = qE 148 40 [(3, 106), (0, x1), (0, x2), (0, x3), (0, x4), (0, x5), (0, i + 1), (9, 0)] [] (mk D)
    rw [e_148_40, if_pos gi.2, if_pos gi, if_neg (by omega), if_pos gi, sp_142, if_pos g']
    simp only [Option.bind_some, psh_0]
    rw [e_148_70, if_neg (by decide), e1])
def spI (r c z : Int) (t : Int) (D : Mem) (i : Int) (s : Mem) : Prop := s r c = D r c + i ∧ (∀ j, s z j = if D r c ≤ j ∧ j < D r c + i then D t (j - D r c) else D z j) ∧ ∀ y j, y ≠ z → ¬ (y = r ∧ j = c) → s y j = D y j
theorem sp_98b {D : Mem} {n : Int} (h0 : 0 ≤ n) (h5 : n ≤ 5) (d0 : 0 ≤ D 98 1) (hd : D 98 1 + n ≤ 10) (x1 x2 x3 x4 x5 : Int) : ∃ s, qE 98 103 [(3, 2), (0, x1), (0, x2), (0, x3), (0, x4), (0, x5), (0, n), (0, 0)] [] (mk D) = some ((0, D 98 1 + n), mk s) ∧ spI 98 1 99 104 D n s := by
  obtain ⟨s, e, hI⟩ := it_inv (fun i (s : Mem) => qE 98 103 [(3, 2), (0, x1), (0, x2), (0, x3), (0, x4), (0, x5), (0, n), (0, i)] [] (mk s)) (spI 98 1 99 104 D) h0 (fun i s g0 g1 hs => by
    obtain ⟨a, b, c⟩ := hs
    have gi : 0 ≤ i ∧ i < 5 := by omega
    have e1 : w32 (i + 1) = i + 1 := w32_id (by omega) (by omega)
    have hrow := isRow98 (D := s) (by omega) (by omega)
    refine ⟨psh98 s (s 104 i), ?_, ?_⟩
    · show qE 98 103 [(3, 2), (0, x1), (0, x2), (0, x3), (0, x4), (0, x5), (0, n), (0, i)] [] (mk s) = qE 98 103 [(3, 2), (0, x1), (0, x2), (0, x3), (0, x4), (0, x5), (0, n), (0, i + 1)] [] (mk (psh98 s (s 104 i)))
      rw [e_98_103, if_pos g1, if_pos gi, row_push hrow (by rw [mk_98_1]; omega), rp98]
      simp only [Option.bind_some, psh_9]
      rw [e_98_124, e1]
    · refine ⟨?_, fun j => ?_, fun y j q1 q2 => ?_⟩
      · unfold psh98; rw [mU_s]; omega
      · unfold psh98
        rw [mU_r (by decide)]
        by_cases e : j = s 98 1
        · subst e; rw [mU_s, if_pos (by omega), c 104 i (by decide) (by omega)]; congr 1; omega
        · rw [mU_c e, b j]
          by_cases f : D 98 1 ≤ j ∧ j < D 98 1 + i
          · rw [if_pos f, if_pos (by omega)]
          · rw [if_neg f, if_neg (by omega)]
      · unfold psh98; rw [mU_other q2, mU_r q1]; exact c y j q1 q2) (s0 := D) ⟨by omega, fun j => by rw [if_neg (by omega)], fun _ _ _ _ => rfl⟩
  have hrow := isRow98 (D := s) (by have := hI.1; omega) (by have := hI.1; omega)
  refine ⟨s, e.trans ?_, hI⟩
  show qE 98 103 [(3, 2), (0, x1), (0, x2), (0, x3), (0, x4), (0, x5), (0, n), (0, n)] [] (mk s) = _
  rw [e_98_103, if_neg (by omega), row_size hrow]
  simp only [Option.bind_some, psh_0]
  rw [e_98_137, mk_98_1, hI.1]
theorem sp_148b {D : Mem} {n : Int} (h0 : 0 ≤ n) (h5 : n ≤ 5) (d0 : 0 ≤ D 106 12) (hd : D 106 12 + n ≤ 10) (x1 x2 x3 x4 x5 : Int) : ∃ s, qE 148 99 [(3, 106), (0, x1), (0, x2), (0, x3), (0, x4), (0, x5), (0, n), (0, 0)] [] (mk D) = some ((0, D 106 12 + n), mk s) ∧ spI 106 12 115 122 D n s := by
  obtain ⟨s, e, hI⟩ := it_inv (fun i (s : Mem) => qE 148 99 [(3, 106), (0, x1), (0, x2), (0, x3), (0, x4), (0, x5), (0, n), (0, i)] [] (mk s)) (spI 106 12 115 122 D) h0 (fun i s g0 g1 hs => by
    obtain ⟨a, b, c⟩ := hs
    have gi : 0 ≤ i ∧ i < 5 := by omega
    have e1 : w32 (i + 1) = i + 1 := w32_id (by omega) (by omega)
    have e2 : w32 (s 106 12 + 1) = s 106 12 + 1 := w32_id (by omega) (by omega)
    have e3 : mU s 115 (s 106 12) (s 122 i) 106 12 = s 106 12 := mU_r (by decide)
    refine ⟨mU (mU s 115 (s 106 12) (s 122 i)) 106 12 (s 106 12 + 1), ?_, ?_⟩
    · show qE 148 99 [(3, 106), (0, x1), (0, x2), (0, x3), (0, x4), (0, x5), (0, n), (0, i)] [] (mk s) = qE 148 99 [(3, 106), (0, x1), (0, x2), (0, x3), (0, x4), (0, x5), (0, n), (0, i + 1)] [] (mk (mU (mU s 115 (s 106 12) (s 122 i)) 106 12 (s 106 12 + 1)))
      rw [e_148_99, if_pos g1, if_pos gi, if_pos (by omega), e1, e3, e2]
    · refine ⟨?_, fun j => ?_, fun y j q1 q2 => ?_⟩
      · rw [mU_s]; omega
      · rw [mU_r (by decide)]
        by_cases e : j = s 106 12
        · subst e; rw [mU_s, if_pos (by omega), c 122 i (by decide) (by omega)]; congr 1; omega
        · rw [mU_c e, b j]
          by_cases f : D 106 12 ≤ j ∧ j < D 106 12 + i
          · rw [if_pos f, if_pos (by omega)]
          · rw [if_neg f, if_neg (by omega)]
      · rw [mU_other q2, mU_r q1]; exact c y j q1 q2) (s0 := D) ⟨by omega, fun j => by rw [if_neg (by omega)], fun _ _ _ _ => rfl⟩
  refine ⟨s, e.trans ?_, hI⟩
  show qE 148 99 [(3, 106), (0, x1), (0, x2), (0, x3), (0, x4), (0, x5), (0, n), (0, n)] [] (mk s) = _
  rw [e_148_99, if_neg (by omega), hI.1]
