/-! many: sums -/
theorem sp_152 {D : Mem} {k : Int} (hW : RW D k) : qR 152 [(3, 106)] (mk D) = some ((0, S (D 112) (D 106 6)), mk D) := by
  have hn := hW.1
  rw [r_152]
  obtain ⟨s, e, hI⟩ := it_inv (fun i (s : Int) => qE 152 4 [(3, 106), (0, s), (0, i)] [] (mk D)) (fun i s => s = S (D 112) i ∧ 0 ≤ s ∧ s ≤ i) hn.2.1 (fun i s g0 g1 hs => by
    have t2 := (thr_cl hW g0 g1).2
    have e3 : w32 (i + 1) = i + 1 := w32_id (by omega) (by omega)
    have e4 : w32 (s + 0) = s + 0 := w32_id (by omega) (by omega)
    have e5 : w32 (s + 1) = s + 1 := w32_id (by omega) (by omega)
    refine ⟨s + D 112 i, ?_, ?_, by omega⟩
    · show qE 152 4 [(3, 106), (0, s), (0, i)] [] (mk D) = qE 152 4 [(3, 106), (0, s + D 112 i), (0, i + 1)] [] (mk D)
      rw [e_152_4, if_pos g1, if_pos (by omega), e3, e4, e5]
      rcases t2 with t | t
      · rw [if_pos t, t]
      · rw [if_neg (by omega), t]
    · rw [S_succ _ g0, hs.1]) (s0 := 0) ⟨rfl, by decide, by decide⟩
  refine e.trans ?_
  show qE 152 4 [(3, 106), (0, s), (0, D 106 6)] [] (mk D) = _
  rw [e_152_4, if_neg (by omega), hI.1]
theorem sp_34 (D : Mem) : qR 34 [(3, 11)] (mk D) = some ((0, S (fun n => if 0 < D 13 n then 1 else 0) 8), mk D) := by
  rw [r_34]
  obtain ⟨s, e, hI⟩ := it_inv (fun i (s : Int) => qE 34 4 [(3, 11), (0, s), (0, i)] [] (mk D)) (fun i s => s = S (fun n => if 0 < D 13 n then 1 else 0) i ∧ 0 ≤ s ∧ s ≤ i) (show (0 : Int) ≤ 8 by decide) (fun i s g0 g1 hs => by
    have e3 : w32 (i + 1) = i + 1 := w32_id (by omega) (by omega)
    have e5 : w32 (s + 1) = s + 1 := w32_id (by omega) (by omega)
    refine ⟨s + (if 0 < D 13 i then 1 else 0), ?_, ?_, by split <;> omega⟩
    · show qE 34 4 [(3, 11), (0, s), (0, i)] [] (mk D) = qE 34 4 [(3, 11), (0, s + (if 0 < D 13 i then 1 else 0)), (0, i + 1)] [] (mk D)
      rw [e_34_4, if_pos g1, if_pos (by omega), e3, e5]
      by_cases c : 0 < D 13 i
      · rw [if_neg (by omega), if_pos c]
      · rw [if_pos (by omega), if_neg c, Int.add_zero]
    · rw [S_succ _ g0, hs.1]) (s0 := 0) ⟨rfl, by decide, by decide⟩
  refine e.trans ?_
  show qE 34 4 [(3, 11), (0, s), (0, 8)] [] (mk D) = _
  rw [e_34_4, if_neg (by decide), hI.1]
theorem sp_157 (D : Mem) : qR 157 [(3, 106)] (mk D) = some ((0, S (fun n => if 0 < D 113 n then 1 else 0) 6400), mk D) := by
  rw [r_157]
  obtain ⟨s, e, hI⟩ := it_inv (fun i (s : Int) => qE 157 4 [(3, 106), (0, s), (0, i)] [] (mk D)) (fun i s => s = S (fun n => if 0 < D 113 n then 1 else 0) i ∧ 0 ≤ s ∧ s ≤ i) (show (0 : Int) ≤ 6400 by decide) (fun i s g0 g1 hs => by
    have e3 : w32 (i + 1) = i + 1 := w32_id (by omega) (by omega)
    have e4 : w32 (s + 0) = s + 0 := w32_id (by omega) (by omega)
    have e5 : w32 (s + 1) = s + 1 := w32_id (by omega) (by omega)
    refine ⟨s + (if 0 < D 113 i then 1 else 0), ?_, ?_, by split <;> omega⟩
    · show qE 157 4 [(3, 106), (0, s), (0, i)] [] (mk D) = qE 157 4 [(3, 106), (0, s + (if 0 < D 113 i then 1 else 0)), (0, i + 1)] [] (mk D)
      rw [e_157_4, if_pos g1, if_pos (by omega), e3, e4, e5]
      by_cases c : 0 < D 113 i
      · rw [if_neg (by omega), if_pos c]
      · rw [if_pos (by omega), if_neg c]
    · rw [S_succ _ g0, hs.1]) (s0 := 0) ⟨rfl, by decide, by decide⟩
  refine e.trans ?_
  show qE 157 4 [(3, 106), (0, s), (0, 6400)] [] (mk D) = _
  rw [e_157_4, if_neg (by decide), hI.1]
theorem pairs_sum {D : Mem} (h6 : D 106 6 ≤ 80) (hP : RP D) : S (fun n => if 0 < D 113 n then 1 else 0) 6400 = D 7 3 := by
  have inner : ∀ n, 0 ≤ n → n < 6400 → (if 0 < D 113 n then (1 : Int) else 0) = S (fun p => if 80 * D 8 p + D 9 p = n then 1 else 0) (D 7 3) := fun n n0 n1 => by
    have en : 80 * (n / 80) + n % 80 = n := by omega
    rcases pair_or D (n / 80) (n % 80) with ⟨p, p0, p1, pa, pb⟩ | h
    · have hp := hP.2.1 p p0 p1
      have e : D 113 n = D 10 p := by have := hp.2.2.2; rw [pa, pb, en] at this; exact this
      rw [S_one p0 p1 (fun q q0 q1 qn => if_neg (fun c => ?_)), if_pos (by omega), if_pos (by omega)]
      have hq := hP.2.1 q q0 q1
      have u1 : D 8 q = D 8 p ∧ D 9 q = D 9 p := by omega
      by_cases l : q < p
      · exact hP.2.2.1 q p q0 l p1 u1
      · exact hP.2.2.1 p q p0 (by omega) q1 ⟨u1.1.symm, u1.2.symm⟩
    · have e := hP.2.2.2 (n / 80) (n % 80) (by omega) (by omega) (by omega) (by omega) h
      rw [en] at e
      rw [if_neg (by omega), S_zero (fun q q0 q1 => if_neg (fun c => ?_))]
      have hq := hP.2.1 q q0 q1
      exact h q q0 q1 (by omega)
  rw [S_congr inner, S_swap (fun n p => if 80 * D 8 p + D 9 p = n then 1 else 0) 6400 (D 7 3)]
  rw [S_congr (g := fun _ => 1) (fun p p0 p1 => ?_)]
  · have := S_bd (f := fun _ => 1) (a := 1) (b := 1) hP.1.1 (fun _ _ _ => by decide)
    omega
  · have hp := hP.2.1 p p0 p1
    rw [S_one (i := 80 * D 8 p + D 9 p) (by omega) (by omega) (fun j _ _ jn => if_neg (fun c => jn c.symm)), if_pos rfl]
theorem ca_many {D : Mem} {k : Int} (hR : Rel D k) (x : Int) : CaseOK D k 107 164 [(0, x)] := by
  obtain ⟨a, b, c, d, f⟩ := hR.2.2.2.1
  have hW := hR.2.1
  have hn := hW.1
  have h2 := hW.2.1
  have h3 := hW.2.2.2.1.1
  have r98 := isRow98 (D := D) (by have := a.1; have := a.2.1; omega) (by have := a.1; have := a.2.2.1; omega)
  have r100 := isRow100 (D := D) (by have := b.1; have := b.2.1; omega) (by have := b.1; have := b.2.2.1; omega)
  have r102 := isRow102 (D := D) (by have := c.1; have := c.2.1; omega) (by have := c.1; have := c.2.2.1; omega)
  have s1 : ∀ v, swG (pSw.getD 2 []) v (Int.toNat 127) = if v = 0 then 52 else if v = 1 then 60 else if v = 2 then 68 else if v = 3 then 79 else if v = 4 then 87 else if v = 5 then 95 else if v = 6 then 103 else if v = 7 then 111 else if v = 8 then 119 else 127 := fun v => rfl
  have s2 : ∀ v, swG (pSw.getD 4 []) v (Int.toNat 97) = if v = 0 then 52 else if v = 1 then 57 else if v = 2 then 62 else if v = 3 then 67 else if v = 4 then 72 else if v = 5 then 77 else if v = 6 then 82 else if v = 7 then 87 else if v = 8 then 92 else 97 := fun v => rfl
  have t1 := r_107 D x
  have t2 := r_164 D x
  rw [s1] at t1
  rw [s2] at t2
  by_cases h : 0 ≤ x ∧ x ≤ 8
  · have : x = 0 ∨ x = 1 ∨ x = 2 ∨ x = 3 ∨ x = 4 ∨ x = 5 ∨ x = 6 ∨ x = 7 ∨ x = 8 := by omega
    rcases this with e | e | e | e | e | e | e | e | e <;> subst e
    · exact case_same (v := D 106 6) hR (by rw [t1]; simp [e_107_52, r_1, psh_0, e_107_59, hn.1]) (by rw [t2]; simp [e_164_52])
    · exact case_same (v := S (D 112) (D 106 6)) hR (by rw [t1]; simp [e_107_60, r_2, psh_0, e_107_67, h3]) (by rw [t2]; simp [e_164_57, sp_152 hW, psh_0, e_164_61])
    · exact case_same (v := D 7 3) hR (by rw [t1]; simp [e_107_68, r_4, psh_3, psh_0, e_107_75, r_41, e_107_78]) (by rw [t2]; simp [e_164_62, sp_157, pairs_sum hn.2.2 hR.2.2.1, psh_0, e_164_66])
    · exact case_same (v := D 106 12) hR (by rw [t1]; simp [e_107_79, row_size r98, mk_98_1, psh_0, e_107_86, a.1]) (by rw [t2]; simp [e_164_67])
    · exact case_same (v := D 106 14) hR (by rw [t1]; simp [e_107_87, row_size r100, mk_100_1, psh_0, e_107_94, b.1]) (by rw [t2]; simp [e_164_72])
    · exact case_same (v := D 106 16) hR (by rw [t1]; simp [e_107_95, row_size r102, mk_102_1, psh_0, e_107_102, c.1]) (by rw [t2]; simp [e_164_77])
    · exact case_same (v := D 106 21) hR (by rw [t1]; simp [e_107_103, sp_34, hR.2.2.2.2.2.2.1.2.2, psh_0, e_107_110]) (by rw [t2]; simp [e_164_82])
    · exact case_same (v := D 106 8) hR (by rw [t1]; simp [e_107_111, r_3, psh_0, e_107_118, h2.1]) (by rw [t2]; simp [e_164_87])
    · exact case_same (v := D 106 9) hR (by rw [t1]; simp [e_107_119, r_66, psh_0, e_107_126, d.1]) (by rw [t2]; simp [e_164_92])
  · refine case_same (v := -1) hR ?_ ?_
    · show qR 107 [(3, 2), (0, x)] (mk D) = _
      rw [t1, if_neg (by omega), if_neg (by omega), if_neg (by omega), if_neg (by omega), if_neg (by omega), if_neg (by omega), if_neg (by omega), if_neg (by omega), if_neg (by omega), e_107_127]
    · show qR 164 [(3, 106), (0, x)] (mk D) = _
      rw [t2, if_neg (by omega), if_neg (by omega), if_neg (by omega), if_neg (by omega), if_neg (by omega), if_neg (by omega), if_neg (by omega), if_neg (by omega), if_neg (by omega), e_164_97]
