/-! spell -/
theorem told_or (a : Int → Int) : ∃ n, 0 ≤ n ∧ n ≤ 5 ∧ (∀ i, 0 ≤ i → i < n → 0 ≤ a i ∧ a i < 26) ∧ (n = 5 ∨ (n < 5 ∧ a n = -1) ∨ (n < 5 ∧ a n ≠ -1 ∧ ¬ (0 ≤ a n ∧ a n < 26))) := by
  have key : ∀ m, 0 ≤ m → m ≤ 5 → (∀ i, 0 ≤ i → i < m → 0 ≤ a i ∧ a i < 26) ∨ ∃ n, 0 ≤ n ∧ n < m ∧ (∀ i, 0 ≤ i → i < n → 0 ≤ a i ∧ a i < 26) ∧ ¬ (0 ≤ a n ∧ a n < 26) :=
    i_up (fun _ => Or.inl fun i h0 h1 => by omega) (fun m hm ih h5 => by
      rcases ih (by omega) with g | ⟨n, n0, n1, g1, g2⟩
      · by_cases c : 0 ≤ a m ∧ a m < 26
        · exact Or.inl fun i h0 h1 => by
            by_cases e : i = m
            · subst e; exact c
            · exact g i h0 (by omega)
        · exact Or.inr ⟨m, hm, by omega, g, c⟩
      · exact Or.inr ⟨n, n0, by omega, g1, g2⟩)
  rcases key 5 (by omega) (by omega) with g | ⟨n, n0, n1, g1, g2⟩
  · exact ⟨5, by omega, by omega, g, Or.inl rfl⟩
  · refine ⟨n, n0, by omega, g1, Or.inr ?_⟩
    by_cases e : a n = -1
    · exact Or.inl ⟨n1, e⟩
    · exact Or.inr ⟨n1, e, g2⟩
theorem sp_98a {D : Mem} {n : Int} (h0 : 0 ≤ n) (h5 : n ≤ 5) (hg : ∀ i, 0 ≤ i → i < n → 0 ≤ D 104 i ∧ D 104 i < 26) (x1 x2 x3 x4 x5 : Int) : qE 98 40 [(3, 2), (0, x1), (0, x2), (0, x3), (0, x4), (0, x5), (0, 0), (9, 0)] [] (mk D) = qE 98 40 [(3, 2), (0, x1), (0, x2), (0, x3), (0, x4), (0, x5), (0, n), (9, 0)] [] (mk D) :=
  it_up (fun i => qE 98 40 [(3, 2), (0, x1), (0, x2), (0, x3), (0, x4), (0, x5), (0, i), (9, 0)] [] (mk D)) h0 (fun i g0 g1 => by
    have gi : 0 ≤ i ∧ i < 5 := by omega
    have g := hg i g0 g1
    have e1 : w32 (i + 1) = i + 1 := w32_id (by omega) (by omega)
    show qE 98 40 [(3, 2), (0, x1), (0, x2), (0, x3), (0, x4), (0, x5), (0, i), (9, 0)] [] (mk D) = qE 98 40 [(3, 2), (0, x1), (0, x2), (0, x3), (0, x4), (0, x5), (0, i + 1), (9, 0)] [] (mk D)
    rw [e_98_40, if_pos gi.2, if_pos gi, if_neg (by omega), if_pos gi, sp_130, if_pos g]
    simp only [Option.bind_some, psh_0]
    rw [e_98_71, if_neg (by decide), e1])
theorem sp_148a {D : Mem} {n : Int} (h0 : 0 ≤ n) (h5 : n ≤ 5) (hg : ∀ i, 0 ≤ i → i < n → 0 ≤ D 122 i ∧ D 122 i < 26) (x1 x2 x3 x4 x5 : Int) : qE 148 40 [(3, 106), (0, x1), (0, x2), (0, x3), (0, x4), (0, x5), (0, 0), (9, 0)] [] (mk D) = qE 148 40 [(3, 106), (0, x1), (0, x2), (0, x3), (0, x4), (0, x5), (0, n), (9, 0)] [] (mk D) :=
  it_up (fun i => qE 148 40 [(3, 106), (0, x1), (0, x2), (0, x3), (0, x4), (0, x5), (0, i), (9, 0)] [] (mk D)) h0 (fun i g0 g1 => by
    have gi : 0 ≤ i ∧ i < 5 := by omega
    have g := hg i g0 g1
    have g' : 0 ≤ D 122 i ∧ D 122 i ≤ 25 := by omega
    have e1 : w32 (i + 1) = i + 1 := w32_id (by omega) (by omega)
    show qE 148 40 [(3, 106), (0, x1), (0, x2), (0, x3), (0, x4), (0, x5), (0, i), (9, 0)] [] (mk D) = qE 148 40 [(3, 106), (0, x1), (0, x2), (0, x3), (0, x4), (0, x5), (0, i + 1), (9, 0)] [] (mk D)
    rw [e_148_40, if_pos gi.2, if_pos gi, if_neg (by omega), if_pos gi, sp_142, if_pos g']
    simp only [Option.bind_some, psh_0]
    rw [e_148_70, if_neg (by decide), e1])
def spI (r c z : Int) (t : Int) (D : Mem) (i : Int) (s : Mem) : Prop := s r c = D r c + i ∧ (∀ j, s z j = if D r c ≤ j ∧ j < D r c + i then D t (j - D r c) else D z j) ∧ ∀ y j, y ≠ z → ¬ (y = r ∧ j = c) → s y j = D y j
theorem sp_98b {D : Mem} {n : Int} (h0 : 0 ≤ n) (h5 : n ≤ 5) (d0 : 0 ≤ D 98 1) (hd : D 98 1 + n ≤ 10) (x1 x2 x3 x4 x5 : Int) : ∃ s, qE 98 103 [(3, 2), (0, x1), (0, x2), (0, x3), (0, x4), (0, x5), (0, n), (0, 0)] [] (mk D) = some ((0, D 98 1 + n), mk s) ∧ spI 98 1 99 104 D n s := by
  obtain ⟨s, e, hI⟩ := it_inv (fun i (s : Mem) => qE 98 103 [(3, 2), (0, x1), (0, x2), (0, x3), (0, x4), (0, x5), (0, n), (0, i)] [] (mk s)) (spI 98 1 99 104 D) h0 (fun i s g0 g1 hs => by
    obtain ⟨a, b, c⟩ := hs
    have gi : 0 ≤ i ∧ i < 5 := by omega
    have e1 : w32 (i + 1) = i + 1 := w32_id (by omega) (by omega)
    have hrow := isRow98 (D := s) (by omega) (by omega)
    refine ⟨psh98 s (s 104 i), ?_, ?_⟩
    · show qE 98 103 [(3, 2), (0, x1), (0, x2), (0, x3), (0, x4), (0, x5), (0, n), (0, i)] [] (mk s) = qE 98 103 [(3, 2), (0, x1), (0, x2), (0, x3), (0, x4), (0, x5), (0, n), (0, i + 1)] [] (mk (psh98 s (s 104 i)))
      rw [e_98_103, if_pos g1, if_pos gi, row_push hrow (by rw [mk_98_1]; omega), rp98]
      simp only [Option.bind_some, psh_9]
      rw [e_98_124, e1]
    · refine ⟨?_, fun j => ?_, fun y j q1 q2 => ?_⟩
      · unfold psh98; rw [mU_s]; omega
      · unfold psh98
        rw [mU_r (by decide)]
        by_cases e : j = s 98 1
        · subst e; rw [mU_s, if_pos (by omega), c 104 i (by decide) (by omega)]; congr 1; omega
        · rw [mU_c e, b j]
          by_cases f : D 98 1 ≤ j ∧ j < D 98 1 + i
          · rw [if_pos f, if_pos (by omega)]
          · rw [if_neg f, if_neg (by omega)]
      · unfold psh98; rw [mU_other q2, mU_r q1]; exact c y j q1 q2) (s0 := D) ⟨by omega, fun j => by rw [if_neg (by omega)], fun _ _ _ _ => rfl⟩
  have hrow := isRow98 (D := s) (by have := hI.1; omega) (by have := hI.1; omega)
  refine ⟨s, e.trans ?_, hI⟩
  show qE 98 103 [(3, 2), (0, x1), (0, x2), (0, x3), (0, x4), (0, x5), (0, n), (0, n)] [] (mk s) = _
  rw [e_98_103, if_neg (by omega), row_size hrow]
  simp only [Option.bind_some, psh_0]
  rw [e_98_137, mk_98_1, hI.1]
theorem sp_148b {D : Mem} {n : Int} (h0 : 0 ≤ n) (h5 : n ≤ 5) (d0 : 0 ≤ D 106 12) (hd : D 106 12 + n ≤ 10) (x1 x2 x3 x4 x5 : Int) : ∃ s, qE 148 99 [(3, 106), (0, x1), (0, x2), (0, x3), (0, x4), (0, x5), (0, n), (0, 0)] [] (mk D) = some ((0, D 106 12 + n), mk s) ∧ spI 106 12 115 122 D n s := by
  obtain ⟨s, e, hI⟩ := it_inv (fun i (s : Mem) => qE 148 99 [(3, 106), (0, x1), (0, x2), (0, x3), (0, x4), (0, x5), (0, n), (0, i)] [] (mk s)) (spI 106 12 115 122 D) h0 (fun i s g0 g1 hs => by
    obtain ⟨a, b, c⟩ := hs
    have gi : 0 ≤ i ∧ i < 5 := by omega
    have e1 : w32 (i + 1) = i + 1 := w32_id (by omega) (by omega)
    have e2 : w32 (s 106 12 + 1) = s 106 12 + 1 := w32_id (by omega) (by omega)
    have e3 : mU s 115 (s 106 12) (s 122 i) 106 12 = s 106 12 := mU_r (by decide)
    refine ⟨mU (mU s 115 (s 106 12) (s 122 i)) 106 12 (s 106 12 + 1), ?_, ?_⟩
    · show qE 148 99 [(3, 106), (0, x1), (0, x2), (0, x3), (0, x4), (0, x5), (0, n), (0, i)] [] (mk s) = qE 148 99 [(3, 106), (0, x1), (0, x2), (0, x3), (0, x4), (0, x5), (0, n), (0, i + 1)] [] (mk (mU (mU s 115 (s 106 12) (s 122 i)) 106 12 (s 106 12 + 1)))
      rw [e_148_99, if_pos g1, if_pos gi, if_pos (by omega), e1, e3, e2]
    · refine ⟨?_, fun j => ?_, fun y j q1 q2 => ?_⟩
      · rw [mU_s]; omega
      · rw [mU_r (by decide)]
        by_cases e : j = s 106 12
        · subst e; rw [mU_s, if_pos (by omega), c 122 i (by decide) (by omega)]; congr 1; omega
        · rw [mU_c e, b j]
          by_cases f : D 106 12 ≤ j ∧ j < D 106 12 + i
          · rw [if_pos f, if_pos (by omega)]
          · rw [if_neg f, if_neg (by omega)]
      · rw [mU_other q2, mU_r q1]; exact c y j q1 q2) (s0 := D) ⟨by omega, fun j => by rw [if_neg (by omega)], fun _ _ _ _ => rfl⟩
  refine ⟨s, e.trans ?_, hI⟩
  show qE 148 99 [(3, 106), (0, x1), (0, x2), (0, x3), (0, x4), (0, x5), (0, n), (0, n)] [] (mk s) = _
  rw [e_148_99, if_neg (by omega), hI.1]
def tel (t : Int) (D : Mem) (x1 x2 x3 x4 x5 : Int) : Mem := mU (mU (mU (mU (mU D t (0 : Int) x1) t (1 : Int) x2) t (2 : Int) x3) t (3 : Int) x4) t (4 : Int) x5
theorem tel_o {t y : Int} (h : y ≠ t) (D : Mem) (x1 x2 x3 x4 x5 i : Int) : tel t D x1 x2 x3 x4 x5 y i = D y i := by
  unfold tel
  rw [mU_r h, mU_r h, mU_r h, mU_r h, mU_r h]
theorem tel_eq {i : Int} (h0 : 0 ≤ i) (h5 : i < 5) (t u : Int) (D E : Mem) (x1 x2 x3 x4 x5 : Int) : tel t D x1 x2 x3 x4 x5 t i = tel u E x1 x2 x3 x4 x5 u i := by
  have : i = 0 ∨ i = 1 ∨ i = 2 ∨ i = 3 ∨ i = 4 := by omega
  rcases this with e | e | e | e | e <;> subst e <;> simp [tel, mU]
theorem ca_spell {D : Mem} {k : Int} (hR : Rel D k) (x1 x2 x3 x4 x5 : Int) : CaseOK D k 98 148 [(0, x1), (0, x2), (0, x3), (0, x4), (0, x5)] := by
  obtain ⟨⟨a1, a2, a3, a4, a5⟩, b, c, d, f⟩ := hR.2.2.2.1
  have s1 : Sim D (tel 104 D x1 x2 x3 x4 x5) := fun y i q => tel_o (fun e => q (by unfold scr; omega)) D x1 x2 x3 x4 x5 i
  have c1 : qR 98 [(3, 2), (0, x1), (0, x2), (0, x3), (0, x4), (0, x5)] (mk D) = qE 98 40 [(3, 2), (0, x1), (0, x2), (0, x3), (0, x4), (0, x5), (0, 0), (9, 0)] [] (mk (tel 104 D x1 x2 x3 x4 x5)) := by
    rw [r_98, if_pos (by decide), if_pos (by decide), if_pos (by decide), if_pos (by decide), if_pos (by decide)]
    rfl
  have c2 : ∀ E, qR 148 [(3, 106), (0, x1), (0, x2), (0, x3), (0, x4), (0, x5)] (mk E) = qE 148 40 [(3, 106), (0, x1), (0, x2), (0, x3), (0, x4), (0, x5), (0, 0), (9, 0)] [] (mk (tel 122 E x1 x2 x3 x4 x5)) := fun E => by
    rw [r_148, if_pos (by decide), if_pos (by decide), if_pos (by decide), if_pos (by decide), if_pos (by decide)]
    rfl
  generalize hA : tel 104 D x1 x2 x3 x4 x5 = A at s1 c1
  have at_ : ∀ E i, 0 ≤ i → i < 5 → tel 122 E x1 x2 x3 x4 x5 122 i = A 104 i := fun E i h0 h5 => by rw [← hA]; exact tel_eq h0 h5 122 104 E D x1 x2 x3 x4 x5
  have hAo : ∀ y i, y ≠ 104 → A y i = D y i := fun y i q => by rw [← hA]; exact tel_o q D x1 x2 x3 x4 x5 i
  obtain ⟨n, n0, n5, hg, hn⟩ := told_or (A 104)
  have hg2 : ∀ E i, 0 ≤ i → i < n → 0 ≤ tel 122 E x1 x2 x3 x4 x5 122 i ∧ tel 122 E x1 x2 x3 x4 x5 122 i < 26 := fun E i h0 h1 => by rw [at_ E i h0 (by omega)]; exact hg i h0 h1
  by_cases bad : n < 5 ∧ A 104 n ≠ -1 ∧ ¬ (0 ≤ A 104 n ∧ A 104 n < 26)
  · have e1 : tel 122 A x1 x2 x3 x4 x5 122 n = A 104 n := at_ A n n0 bad.1
    refine case_sim (v := -1) hR (D1 := A) (D2 := tel 122 A x1 x2 x3 x4 x5) ?_ ?_ s1 (fun y i q => tel_o (fun e => q (by unfold scr; omega)) A x1 x2 x3 x4 x5 i)
    · rw [c1, sp_98a n0 n5 hg, e_98_40, if_pos bad.1, if_pos ⟨n0, bad.1⟩, if_neg bad.2.1, if_pos ⟨n0, bad.1⟩, sp_130, if_neg bad.2.2]
      simp only [Option.bind_some, psh_0]
      rw [e_98_71, if_pos rfl]
    · rw [c2, sp_148a n0 n5 (hg2 A), e_148_40, if_pos bad.1, if_pos ⟨n0, bad.1⟩, e1, if_neg bad.2.1, if_pos ⟨n0, bad.1⟩, sp_142, if_neg (by have := bad.2.2; omega)]
      simp only [Option.bind_some, psh_0]
      rw [e_148_70, if_pos rfl]
  · have hn' : n = 5 ∨ (n < 5 ∧ A 104 n = -1) := by
      rcases hn with e | e | e
      · exact Or.inl e
      · exact Or.inr e
      · exact absurd e bad
    have l1 : A 98 1 = D 106 12 := by rw [hAo 98 1 (by decide), a1]
    have hrow := isRow98 (D := A) (by omega) (by omega)
    have e0 : w32 (D 106 12 + n) = D 106 12 + n := w32_id (by omega) (by omega)
    have p1 : qR 98 [(3, 2), (0, x1), (0, x2), (0, x3), (0, x4), (0, x5)] (mk D) = qE 98 89 [(3, 2), (0, x1), (0, x2), (0, x3), (0, x4), (0, x5), (0, n), (9, 0)] [(0, D 106 12)] (mk A) := by
      rw [c1, sp_98a n0 n5 hg, e_98_40]
      rcases hn' with e | ⟨e, e'⟩
      · rw [if_neg (by omega), row_size hrow, mk_98_1, l1]; rfl
      · rw [if_pos e, if_pos ⟨n0, e⟩, if_pos e', row_size hrow, mk_98_1, l1]; rfl
    have p2 : ∀ E, qR 148 [(3, 106), (0, x1), (0, x2), (0, x3), (0, x4), (0, x5)] (mk E) = qE 148 81 [(3, 106), (0, x1), (0, x2), (0, x3), (0, x4), (0, x5), (0, n), (9, 0)] [] (mk (tel 122 E x1 x2 x3 x4 x5)) := fun E => by
      rw [c2, sp_148a n0 n5 (hg2 E), e_148_40]
      rcases hn' with e | ⟨e, e'⟩
      · rw [if_neg (by omega)]
      · rw [if_pos e, if_pos ⟨n0, e⟩, at_ E n n0 e, if_pos e']
    by_cases room : D 106 12 + n ≤ 10
    · obtain ⟨s, r1, i1, i2, i3⟩ := sp_98b (D := A) n0 n5 (by omega) (by omega) x1 x2 x3 x4 x5
      have t1 : tel 122 s x1 x2 x3 x4 x5 106 12 = D 106 12 := by rw [tel_o (by decide), i3 106 12 (by decide) (by decide), hAo 106 12 (by decide)]
      obtain ⟨z, r2, j1, j2, j3⟩ := sp_148b (D := tel 122 s x1 x2 x3 x4 x5) n0 n5 (by omega) (by omega) x1 x2 x3 x4 x5
      rw [t1] at r2 j1 j2
      rw [l1] at r1 i1 i2
      have zf : ∀ y i, y ≠ 104 → y ≠ 122 → y ≠ 99 → y ≠ 115 → ¬ (y = 98 ∧ i = 1) → ¬ (y = 106 ∧ i = 12) → z y i = D y i := fun y i q1 q2 q3 q4 q5 q6 => by
        rw [j3 y i q4 q6, tel_o q2, i3 y i q3 q5, hAo y i q1]
      refine ⟨D 106 12 + n, s, z, ?_, ?_, ?_, fun i => ?_, fun i => ?_⟩
      · show qR 98 [(3, 2), (0, x1), (0, x2), (0, x3), (0, x4), (0, x5)] (mk D) = _
        rw [p1, e_98_89, e0, if_pos room, r1]
      · show qR 148 [(3, 106), (0, x1), (0, x2), (0, x3), (0, x4), (0, x5)] (mk s) = _
        rw [p2, e_148_81, t1, e0, if_pos room, r2]
      · refine Rel_S hR (fun y i q1 q2 => zf y i (fun e => q1 (by unfold scr; omega)) (fun e => q1 (by unfold scr; omega)) (by omega) (by omega) (by omega) (by omega)) ⟨?_, RSb_congr (fun y i q => zf y i (by omega) (by omega) (by omega) (by omega) (by omega) (by omega)) b, RSc_congr (fun y i q => zf y i (by omega) (by omega) (by omega) (by omega) (by omega) (by omega)) c, RSe_congr (fun y i q => zf y i (by omega) (by omega) (by omega) (by omega) (by omega) (by omega)) d, RSf_congr (fun y i q => zf y i (by omega) (by omega) (by omega) (by omega) (by omega) (by omega)) f⟩
        have z98 : z 98 1 = D 106 12 + n := by rw [j3 98 1 (by decide) (by decide), tel_o (by decide), i1]
        have z99 : ∀ i, z 99 i = if D 106 12 ≤ i ∧ i < D 106 12 + n then A 104 (i - D 106 12) else D 115 i := fun i => by
          rw [j3 99 i (by decide) (by omega), tel_o (by decide), i2, hAo 99 i (by decide), a4]
        have z115 : ∀ i, z 115 i = if D 106 12 ≤ i ∧ i < D 106 12 + n then A 104 (i - D 106 12) else D 115 i := fun i => by
          rw [j2]
          by_cases g : D 106 12 ≤ i ∧ i < D 106 12 + n
          · rw [if_pos g, if_pos g, at_ s _ (by omega) (by omega)]
          · rw [if_neg g, if_neg g, tel_o (by decide), i3 115 i (by decide) (by omega), hAo 115 i (by decide)]
        unfold RSa
        rw [z98, j1]
        refine ⟨rfl, by omega, by omega, funext fun i => by rw [z99, z115], fun i g0 g1 => ?_⟩
        rw [z115]
        by_cases g : D 106 12 ≤ i ∧ i < D 106 12 + n
        · rw [if_pos g]; have := hg (i - D 106 12) (by omega) (by omega); omega
        · rw [if_neg g]; exact a5 i g0 (by omega)
      · exact zf 1 i (by decide) (by decide) (by decide) (by decide) (by omega) (by omega)
      · exact zf (-1) i (by decide) (by decide) (by decide) (by decide) (by omega) (by omega)
    · have t1 : tel 122 A x1 x2 x3 x4 x5 106 12 = D 106 12 := by rw [tel_o (by decide), hAo 106 12 (by decide)]
      refine case_sim (v := -2) hR (D1 := A) (D2 := tel 122 A x1 x2 x3 x4 x5) ?_ ?_ s1 (fun y i q => tel_o (fun e => q (by unfold scr; omega)) A x1 x2 x3 x4 x5 i)
      · show qR 98 [(3, 2), (0, x1), (0, x2), (0, x3), (0, x4), (0, x5)] (mk D) = _
        rw [p1, e_98_89, e0, if_neg room]
      · show qR 148 [(3, 106), (0, x1), (0, x2), (0, x3), (0, x4), (0, x5)] (mk A) = _
        rw [p2, e_148_81, t1, e0, if_neg room]
