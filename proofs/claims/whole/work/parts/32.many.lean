/-! many: sums -/
theorem sp_152 {D : Mem} {k : Int} (hW : RW D k) : qR 152 [(3, 106)] (mk D) = some ((0, S (D 112) (D 106 6)), mk D) := by
  have hn := hW.1
  rw [r_152]
  obtain ⟨s, e, hI⟩ := it_inv (fun i (s : Int) => qE 152 4 [(3, 106), (0, s), (0, i)] [] (mk D)) (fun i s => s = S (D 112) i ∧ 0 ≤ s ∧ s ≤ i) hn.2.1 (fun i s g0 g1 hs => by
    have t2 := (thr_cl hW g0 g1).2
    have e3 : w32 (i + 1) = i + 1 := w32_id (by omega) (by omega)
    have e4 : w32 (s + 0) = s + 0 := w32_id (by omega) (by omega)
    have e5 : w32 (s + 1) = s + 1 := w32_id (by omega) (by omega)
    refine ⟨s + D 112 i, ?_, ?_, by omega⟩
    · show qE 152 4 [(3, 106), (0, s), (0, i)] [] (mk D) = qE 152 4 [(3, 106), (0, s + D 112 i), (0, i + 1)] [] (mk D)
      rw [e_152_4, if_pos g1, if_pos (by omega), e3, e4, e5]
      rcases t2 with t | t
      · rw [if_pos t, t]
      · rw [if_neg (by omega), t]
    · rw [S_succ _ g0, hs.1]) (s0 := 0) ⟨rfl, by decide, by decide⟩
  refine e.trans ?_
  show qE 152 4 [(3, 106), (0, s), (0, D 106 6)] [] (mk D) = _
  rw [e_152_4, if_neg (by omega), hI.1]
theorem sp_34 (D : Mem) : qR 34 [(3, 11)] (mk D) = some ((0, S (fun n => if 0 < D 13 n then 1 else 0) 8), mk D) := by
  rw [r_34]
  obtain ⟨s, e, hI⟩ := it_inv (fun i (s : Int) => qE 34 4 [(3, 11), (0, s), (0, i)] [] (mk D)) (fun i s => s = S (fun n => if 0 < D 13 n then 1 else 0) i ∧ 0 ≤ s ∧ s ≤ i) (show (0 : Int) ≤ 8 by decide) (fun i s g0 g1 hs => by
    have e3 : w32 (i + 1) = i + 1 := w32_id (by omega) (by omega)
    have e5 : w32 (s + 1) = s + 1 := w32_id (by omega) (by omega)
    refine ⟨s + (if 0 < D 13 i then 1 else 0), ?_, ?_, by split <;> omega⟩
    · show qE 34 4 [(3, 11), (0, s), (0, i)] [] (mk D) = qE 34 4 [(3, 11), (0, s + (if 0 < D 13 i then 1 else 0)), (0, i + 1)] [] (mk D)
      rw [e_34_4, if_pos g1, if_pos (by omega), e3, e5]
      by_cases c : 0 < D 13 i
      · rw [if_neg (by omega), if_pos c]
      · rw [if_pos (by omega), if_neg c, Int.add_zero]
    · rw [S_succ _ g0, hs.1]) (s0 := 0) ⟨rfl, by decide, by decide⟩
  refine e.trans ?_
  show qE 34 4 [(3, 11), (0, s), (0, 8)] [] (mk D) = _
  rw [e_34_4, if_neg (by decide), hI.1]
theorem sp_157 (D : Mem) : qR 157 [(3, 106)] (mk D) = some ((0, S (fun n => if 0 < D 113 n then 1 else 0) 6400), mk D) := by
  rw [r_157]
  obtain ⟨s, e, hI⟩ := it_inv (fun i (s : Int) => qE 157 4 [(3, 106), (0, s), (0, i)] [] (mk D)) (fun i s => s = S (fun n => if 0 < D 113 n then 1 else 0) i ∧ 0 ≤ s ∧ s ≤ i) (show (0 : Int) ≤ 6400 by decide) (fun i s g0 g1 hs => by
    have e3 : w32 (i + 1) = i + 1 := w32_id (by omega) (by omega)
    have e4 : w32 (s + 0) = s + 0 := w32_id (by omega) (by omega)
    have e5 : w32 (s + 1) = s + 1 := w32_id (by omega) (by omega)
    refine ⟨s + (if 0 < D 113 i then 1 else 0), ?_, ?_, by split <;> omega⟩
    · show qE 157 4 [(3, 106), (0, s), (0, i)] [] (mk D) = qE 157 4 [(3, 106), (0, s + (if 0 < D 113 i then 1 else 0)), (0, i + 1)] [] (mk D)
      rw [e_157_4, if_pos g1, if_pos (by omega), e3, e4, e5]
      by_cases c : 0 < D 113 i
      · rw [if_neg (by omega), if_pos c]
      · rw [if_pos (by omega), if_neg c]
    · rw [S_succ _ g0, hs.1]) (s0 := 0) ⟨rfl, by decide, by decide⟩
  refine e.trans ?_
  show qE 157 4 [(3, 106), (0, s), (0, 6400)] [] (mk D) = _
  rw [e_157_4, if_neg (by decide), hI.1]
