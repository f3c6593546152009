/-! many: sums -/
theorem sp_152 {D : Mem} {k : Int} (hW : RW D k) : qR 152 [(3, 106)] (mk D) = some ((0, S (D 112) (D 106 6)), mk D) := by
  have hn := hW.1
  rw [r_152]
  obtain ⟨s, e, hI⟩ := it_inv (fun i (s : Int) => qE 152 4 [(3, 106), (0, s), (0, i)] [] (mk D)) (fun i s => s = S (D 112) i ∧ 0 ≤ s ∧ s ≤ i) hn.2.1 (fun i s g0 g1 hs => by
    have t2 := (thr_cl hW g0 g1).2
    have e3 : w32 (i + 1) = i + 1 := w32_id (by omega) (by omega)
    have e4 : w32 (s + 0) = s + 0 := w32_id (by omega) (by omega)
    have e5 : w32 (s + 1) = s + 1 := w32_id (by omega) (by omega)
    refine ⟨s + D 112 i, ?_, ?_, by omega⟩
    · show qE 152 4 [(3, 106), (0, s), (0, i)] [] (mk D) = qE 152 4 [(3, 106), (0, s + D 112 i), (0, i + 1)] [] (mk D)
      rw [e_152_4, if_pos g1, if_pos (by omega), e3, e4, e5]
      rcases t2 with t | t
      · rw [if_pos t, t]
      · rw [if_neg (by omega), t]
    · rw [S_succ _ g0, hs.1]) (s0 := 0) ⟨rfl, by decide, by decide⟩
  refine e.trans ?_
  show qE 152 4 [(3, 106), (0, s), (0, D 106 6)] [] (mk D) = _
  rw [e_152_4, if_neg (by omega), hI.1]
theorem sp_34 (D : Mem) : qR 34 [(3, 11)] (mk D) = some ((0, S (fun n => if 0 < D 13 n then 1 else 0) 8), mk D) := by
  rw [r_34]
  obtain ⟨s, e, hI⟩ := it_inv (fun i (s : Int) => qE 34 4 [(3, 11), (0, s), (0, i)] [] (mk D)) (fun i s => s = S (fun n => if 0 < D 13 n then 1 else 0) i ∧ 0 ≤ s ∧ s ≤ i) (show (0 : Int) ≤ 8 by decide) (fun i s g0 g1 hs => by
    have e3 : w32 (i + 1) = i + 1 := w32_id (by omega) (by omega)
    have e5 : w32 (s + 1) = s + 1 := w32_id (by omega) (by omega)
    refine ⟨s + (if 0 < D 13 i then 1 else 0), ?_, ?_, by split <;> omega⟩
    · show qE 34 4 [(3, 11), (0, s), (0, i)] [] (mk D) = qE 34 4 [(3, 11), (0, s + (if 0 < D 13 i then 1 else 0)), (0, i + 1)] [] (mk D)
      rw [e_34_4, if_pos g1, if_pos (by omega), e3, e5]
      by_cases c : 0 < D 13 i
      · rw [if_neg (by omega), if_pos c]
      · rw [if_pos (by omega), if_neg c, Int.add_zero]
    · rw [S_succ _ g0, hs.1]) (s0 := 0) ⟨rfl, by decide, by decide⟩
  refine e.trans ?_
  show qE 34 4 [(3, 11), (0, s), (0, 8)] [] (mk D) = _
  rw [e_34_4, if_neg (by decide), hI.1]
theorem sp_157 (D : Mem) : qR 157 [(3, 106)] (mk D) = some ((0, S (fun n => if 0 < D 113 n then 1 else 0) 6400), mk D) := by
  rw [r_157]
  obtain ⟨s, e, hI⟩ := it_inv (fun i (s : Int) => qE 157 4 [(3, 106), (0, s), (0, i)] [] (mk D)) (fun i s => s = S (fun n => if 0 < D 113 n then 1 else 0) i ∧ 0 ≤ s ∧ s ≤ i) (show (0 : Int) ≤ 6400 by decide) (fun i s g0 g1 hs => by
    have e3 : w32 (i + 1) = i + 1 := w32_id (by omega) (by omega)
    have e4 : w32 (s + 0) = s + 0 := w32_id (by omega) (by omega)
    have e5 : w32 (s + 1) = s + 1 := w32_id (by omega) (by omega)
    refine ⟨s + (if 0 < D 113 i then 1 else 0), ?_, ?_, by split <;> omega⟩
    · show qE 157 4 [(3, 106), (0, s), (0, i)] [] (mk D) = qE 157 4 [(3, 106), (0, s + (if 0 < D 113 i then 1 else 0)), (0, i + 1)] [] (mk D)
      rw [e_157_4, if_pos g1, if_pos (by omega), e3, e4, e5]
      by_cases c : 0 < D 113 i
      · rw [if_neg (by omega), if_pos c]
      · rw [if_pos (by omega), if_neg c]
    · rw [S_succ _ g0, hs.1]) (s0 := 0) ⟨rfl, by decide, by decide⟩
  refine e.trans ?_
  show qE 157 4 [(3, 106), (0, s), (0, 6400)] [] (mk D) = _
  rw [e_157_4, if_neg (by decide), hI.1]
theorem pairs_sum {D : Mem} (h6 : D 106 6 ≤ 80) (hP : RP D) : S (fun n => if 0 < D 113 n then 1 else 0) 6400 = D 7 3 := by
  have inner : ∀ n, 0 ≤ n → n < 6400 → (if 0 < D 113 n then (1 : Int) else 0) = S (fun p => if 80 * D 8 p + D 9 p = n then 1 else 0) (D 7 3) := fun n n0 n1 => by
    have en : 80 * (n / 80) + n % 80 = n := by omega
    rcases pair_or D (n / 80) (n % 80) with ⟨p, p0, p1, pa, pb⟩ | h
    · have hp := hP.2.1 p p0 p1
      have e : D 113 n = D 10 p := by have := hp.2.2.2; rw [pa, pb, en] at this; exact this
      rw [S_one p0 p1 (fun q q0 q1 qn => if_neg (fun c => ?_)), if_pos (by omega), if_pos (by omega)]
      have hq := hP.2.1 q q0 q1
      have u1 : D 8 q = D 8 p ∧ D 9 q = D 9 p := by omega
      by_cases l : q < p
      · exact hP.2.2.1 q p q0 l p1 u1
      · exact hP.2.2.1 p q p0 (by omega) q1 ⟨u1.1.symm, u1.2.symm⟩
    · have e := hP.2.2.2 (n / 80) (n % 80) (by omega) (by omega) (by omega) (by omega) h
      rw [en] at e
      rw [if_neg (by omega), S_zero (fun q q0 q1 => if_neg (fun c => ?_))]
      have hq := hP.2.1 q q0 q1
      exact h q q0 q1 (by omega)
  rw [S_congr inner, S_swap (fun n p => if 80 * D 8 p + D 9 p = n then 1 else 0) 6400 (D 7 3)]
  rw [S_congr (g := fun _ => 1) (fun p p0 p1 => ?_)]
  · have := S_bd (f := fun _ => 1) (a := 1) (b := 1) hP.1.1 (fun _ _ _ => by decide)
    omega
  · have hp := hP.2.1 p p0 p1
    rw [S_one (i := 80 * D 8 p + D 9 p) (by omega) (by omega) (fun j _ _ jn => if_neg (fun c => jn c.symm)), if_pos rfl]
