/-! newcomers: the runs -/
theorem sp_38 (D : Mem) : ∃ p, qR 38 [(3, 11)] (mk D) = some ((0, p), mk D) ∧ 0 ≤ p ∧ p < 8 ∧ ∀ n, 0 ≤ n → n < 8 → D 14 p ≤ D 14 n := by
  obtain ⟨p, e, h0, h1, h2⟩ := it_inv (fun i (p : Int) => qE 38 4 [(3, 11), (0, p), (0, i)] [] (mk D)) (fun i p => 0 ≤ p ∧ p < i ∧ ∀ n, 0 ≤ n → n < i → D 14 p ≤ D 14 n) (a := 1) (n := 8) (by decide)
    (fun i p i0 i1 ⟨h0, h1, h2⟩ => by
      have e1 : w32 (i + 1) = i + 1 := w32_id (by omega) (by omega)
      by_cases c : D 14 i < D 14 p
      · refine ⟨i, ?_, by omega, by omega, fun n n0 n1 => ?_⟩
        · show qE 38 4 [(3, 11), (0, p), (0, i)] [] (mk D) = qE 38 4 [(3, 11), (0, i), (0, i + 1)] [] (mk D)
          rw [e_38_4, if_pos i1, if_pos (by omega), if_pos (by omega), if_pos c, e1]
        · by_cases q : n = i
          · rw [q]; omega
          · have := h2 n n0 (by omega); omega
      · refine ⟨p, ?_, by omega, by omega, fun n n0 n1 => ?_⟩
        · show qE 38 4 [(3, 11), (0, p), (0, i)] [] (mk D) = qE 38 4 [(3, 11), (0, p), (0, i + 1)] [] (mk D)
          rw [e_38_4, if_pos i1, if_pos (by omega), if_pos (by omega), if_neg c, e1]
        · by_cases q : n = i
          · rw [q]; omega
          · exact h2 n n0 (by omega))
    (s0 := 0) ⟨by decide, by decide, fun n n0 n1 => by rw [show n = 0 by omega]; omega⟩
  refine ⟨p, ?_, h0, h1, h2⟩
  rw [r_38]
  refine e.trans ?_
  show qE 38 4 [(3, 11), (0, p), (0, 8)] [] (mk D) = _
  rw [e_38_4, if_neg (by decide)]
theorem sp_39h {D : Mem} {k n : Int} (hN : RN0 D k) (hS : RSa D) (n0 : 0 ≤ n) (n1 : n < 8) (m : nm D n) : qR 39 [(3, 11), (3, 98)] (mk D) = some ((9, 0), mk (mU (mU D 13 n 0) 14 n 0)) := by
  have g1 : ¬ n < 0 := by omega
  have g3 : 0 ≤ n ∧ n < 8 := by omega
  simp [r_39, sp_35h hN hS n0 n1 m, psh_0, e_39_5, g1, g3]
/-- slot n counted once more -/
def incE (D : Mem) (n : Int) : Mem := mU (mU (mU D 13 n (D 13 n + 1)) 11 3 (D 11 3 + 1)) 14 n (D 11 3 + 1)
theorem sp_37e {D : Mem} {n : Int} (n0 : 0 ≤ n) (n1 : n < 8) (t : 0 ≤ D 13 n ∧ D 13 n < 1000) (s : 0 ≤ D 11 3 ∧ D 11 3 < 1000000) : qE 37 41 [(3, 11), (3, 98), (0, n)] [] (mk D) = some ((0, D 13 n + 1), mk (incE D n)) := by
  have e1 : w32 (D 13 n + 1) = D 13 n + 1 := w32_id (by omega) (by omega)
  have e2 : w32 (D 11 3 + 1) = D 11 3 + 1 := w32_id (by omega) (by omega)
  have g3 : 0 ≤ n ∧ n < 8 := by omega
  have a1 : ∀ v, mU D 13 n v 11 3 = D 11 3 := fun v => mU_r (by decide)
  have a2 : ∀ (E : Mem) v, mU E 11 3 v 11 3 = v := fun E v => mU_s
  have a3 : ∀ (E : Mem) v, mU E 14 n v 13 n = E 13 n := fun E v => mU_r (by decide)
  have a4 : ∀ (E : Mem) v, mU E 11 3 v 13 n = E 13 n := fun E v => mU_r (by decide)
  have a5 : ∀ v, mU D 13 n v 13 n = v := fun v => mU_s
  rw [e_37_41]
  simp only [if_pos g3, a1, a2, a3, a4, a5, e1, e2]
  rfl
/-- slot n's row becomes the letters spelt -/
def cpN (D : Mem) (n s : Int) : Mem := fun b j => if b = 15 + 2 * n ∧ j = 1 then s else if b = 16 + 2 * n ∧ 0 ≤ j ∧ j < s then D 99 j else D b j
theorem cpN_mk {D : Mem} {n s : Int} (n0 : 0 ≤ n) (n1 : n < 8) : cpR (mk D) (15 + 2 * n) 98 s = mk (cpN D n s) := by
  have e1 : mk D (15 + 2 * n) 0 = 16 + 2 * n := by rw [mk_nrow D n0 n1, if_pos rfl]
  have h52 : cpN D n s 5 2 = D 5 2 := by unfold cpN; rw [if_neg (by omega), if_neg (by omega)]
  funext b j
  unfold cpR
  rw [e1, mk_98_0, mk_c99]
  by_cases c1 : b = 15 + 2 * n
  · rw [c1, mk_nrow _ n0 n1, mk_nrow _ n0 n1]
    by_cases c2 : j = 1
    · rw [if_pos ⟨rfl, c2⟩, c2, if_neg (by decide)]; unfold cpN; rw [if_pos ⟨rfl, rfl⟩]
    · rw [if_neg (fun q => c2 q.2), if_neg (by omega)]
      by_cases c3 : j = 0
      · rw [if_pos c3, if_pos c3]
      · rw [if_neg c3, if_neg c3]; unfold cpN; rw [if_neg (fun q => c2 q.2), if_neg (by omega)]
  · rw [if_neg (fun q => c1 q.1)]
    by_cases c2 : b = 16 + 2 * n
    · rw [c2, mk_nlet _ n0 n1, mk_nlet _ n0 n1]
      unfold cpN
      rw [if_neg (show ¬ (16 + 2 * n = 15 + 2 * n ∧ j = 1) by omega)]
    · rw [if_neg (fun q => c2 q.1)]
      exact (mk_cell j (fun j => by unfold cpN; rw [if_neg (fun q => c1 q.1), if_neg (fun q => c2 q.1)]) h52).symm
theorem sp_37n {D : Mem} {k : Int} (hN : RN0 D k) (hk : k ≤ 1000) (hS : RSa D) (h : ∀ n, 0 ≤ n → n < 8 → ¬ nm D n) : ∃ p E, qR 37 [(3, 11), (3, 98)] (mk D) = some ((0, 1), mk E) ∧ (0 ≤ p ∧ p < 8 ∧ ∀ n, 0 ≤ n → n < 8 → D 14 p ≤ D 14 n) ∧ E 13 p = 1 ∧ E 14 p = D 106 22 + 1 ∧ E 11 3 = D 106 22 + 1 ∧ E (15 + 2 * p) 1 = D 106 12 ∧ (∀ i, 0 ≤ i → i < D 106 12 → E (16 + 2 * p) i = D 115 i) ∧ ∀ y i, ¬ (y = 13 ∧ i = p) → ¬ (y = 14 ∧ i = p) → ¬ (y = 11 ∧ i = 3) → y ≠ 15 + 2 * p → y ≠ 16 + 2 * p → E y i = D y i := by
  obtain ⟨p, q1, q2, q3, q4⟩ := sp_38 D
  have hS' := hS
  obtain ⟨s1, s2, s3, s4, -⟩ := hS
  have r1 := hN.1
  have g8 : 0 ≤ p ∧ p < 8 := ⟨q2, q3⟩
  obtain ⟨D1, hD1⟩ : ∃ D1, D1 = mU D 13 p 0 := ⟨_, rfl⟩
  have o1 : ∀ y i, ¬ (y = 13 ∧ i = p) → D1 y i = D y i := fun y i q => by rw [hD1, mU_other q]
  have e12 : mk D1 12 p = 15 + 2 * p := by rw [mk_c12, if_pos g8]
  have hz := (hN.2.2.1 p q2 q3).1
  have hr : isRow (mk D1) (15 + 2 * p) 10 := isRowN q2 q3 (by rw [o1 _ _ (by omega)]; exact hz)
  have h98 := isRow98 (D := D1) (by rw [o1 _ _ (by omega)]; omega) (by rw [o1 _ _ (by omega)]; omega)
  have r0 : mk D1 (15 + 2 * p) 0 = 16 + 2 * p := by rw [mk_nrow _ q2 q3, if_pos rfl]
  have z1 : mk D1 98 1 = D 106 12 := by show D1 98 1 = _; rw [o1 _ _ (by omega)]; exact s1
  have bl : qR 62 [(3, 15 + 2 * p), (3, 98)] (mk D1) = some ((9, 0), mk (cpN D1 p (D 106 12))) := by
    rw [row_become hr h98 (by omega) (by rw [r0, mk_98_0]; omega) (by rw [r0]; omega) (by rw [mk_98_0]; omega) (by rw [z1]; omega), z1, cpN_mk q2 q3]
  obtain ⟨D2, hD2⟩ : ∃ D2, D2 = cpN D1 p (D 106 12) := ⟨_, rfl⟩
  have o2 : ∀ y i, y ≠ 15 + 2 * p → y ≠ 16 + 2 * p → D2 y i = D1 y i := fun y i a b => by rw [hD2]; unfold cpN; rw [if_neg (fun q => a q.1), if_neg (fun q => b q.1)]
  have t13 : D2 13 p = 0 := by rw [o2 _ _ (by omega) (by omega), hD1, mU_s]
  have t11 : D2 11 3 = D 106 22 := by rw [o2 _ _ (by omega) (by omega), o1 _ _ (by omega)]; exact r1.1
  have fin := sp_37e (D := D2) q2 q3 (by omega) (by omega)
  rw [t13] at fin
  refine ⟨p, incE D2 p, ?_, ⟨q2, q3, q4⟩, ?_, ?_, ?_, ?_, fun i i0 i1 => ?_, fun y i a1 a2 a3 a4 a5 => ?_⟩
  · rw [r_37, sp_35n hN hS' h]
    simp only [Option.bind_some, psh_0]
    rw [e_37_5, if_pos (by decide), q1]
    simp only [Option.bind_some, psh_0]
    rw [e_37_14, if_pos g8, if_pos g8, ← hD1, e12, if_neg (by omega), if_pos g8, if_pos hr.1, bl, ← hD2]
    simp only [Option.bind_some, psh_9]
    rw [fin]
    rfl
  · unfold incE; rw [mU_r (by decide), mU_r (by decide), mU_s, t13]; rfl
  · unfold incE; rw [mU_s, t11]
  · unfold incE; rw [mU_r (by decide), mU_s, t11]
  · unfold incE; rw [mU_r (by omega), mU_r (by omega), mU_r (by omega), hD2]; unfold cpN; rw [if_pos ⟨rfl, rfl⟩]
  · unfold incE; rw [mU_r (by omega), mU_r (by omega), mU_r (by omega), hD2]; unfold cpN; rw [if_neg (by omega), if_pos ⟨rfl, i0, i1⟩, o1 _ _ (by omega), s4]
  · unfold incE; rw [mU_other a2, mU_other a3, mU_other a1, o2 _ _ a4 a5, o1 _ _ a1]
/-- behind moveComer(c, d) -/
theorem sq_186 {D : Mem} {c d : Int} (c0 : 0 ≤ c) (c1 : c < 8) (d0 : 0 ≤ d) (d1 : d < 8) : ∃ E, qR 186 [(3, 106), (0, c), (0, d)] (mk D) = some ((9, 0), mk E) ∧ E 119 c = D 119 d ∧ E 120 c = D 120 d ∧ E 121 c = D 121 d ∧ (∀ i, 0 ≤ i → i < 10 → E 118 (10 * c + i) = D 118 (10 * d + i)) ∧ (∀ y i, ¬ (119 ≤ y ∧ y ≤ 121 ∧ i = c) → ¬ (y = 118 ∧ 10 * c ≤ i ∧ i < 10 * c + 10) → E y i = D y i) := by
  have f1 : w32 (10 * c) = 10 * c := w32_id (by omega) (by omega)
  have f2 : w32 (10 * d) = 10 * d := w32_id (by omega) (by omega)
  obtain ⟨E, e, h2, h3⟩ := it_inv (fun i (E : Mem) => qE 186 2 [(3, 106), (0, c), (0, d), (0, i)] [] (mk E)) (fun i E => (∀ j, 0 ≤ j → j < i → E 118 (10 * c + j) = D 118 (10 * d + j)) ∧ (∀ y j, ¬ (y = 118 ∧ 10 * c ≤ j ∧ j < 10 * c + i) → E y j = D y j)) (a := 0) (n := 10) (by decide)
    (fun i E i0 i1 ⟨h2, h3⟩ => by
      have e1 : w32 (i + 1) = i + 1 := w32_id (by omega) (by omega)
      have e2 : w32 (10 * c + i) = 10 * c + i := w32_id (by omega) (by omega)
      have e3 : w32 (10 * d + i) = 10 * d + i := w32_id (by omega) (by omega)
      have rd : E 118 (10 * d + i) = D 118 (10 * d + i) := by
        by_cases q : c = d
        · exact h3 _ _ (by omega)
        · exact h3 _ _ (by omega)
      refine ⟨mU E 118 (10 * c + i) (D 118 (10 * d + i)), ?_, fun j j0 j1 => ?_, fun y j hy => ?_⟩
      · show qE 186 2 [(3, 106), (0, c), (0, d), (0, i)] [] (mk E) = qE 186 2 [(3, 106), (0, c), (0, d), (0, i + 1)] [] (mk _)
        rw [e_186_2, if_pos i1, f1, f2, e2, e3, if_pos (by omega), if_pos (by omega), e1, rd]
      · by_cases q : j = i
        · rw [q, mU_s]
        · rw [mU_other (by omega)]; exact h2 j j0 (by omega)
      · rw [mU_other (by omega)]; exact h3 y j (by omega))
    (s0 := D) ⟨fun j j0 j1 => by omega, fun _ _ _ => rfl⟩
  have gc : 0 ≤ c ∧ c < 8 := ⟨c0, c1⟩
  have gd : 0 ≤ d ∧ d < 8 := ⟨d0, d1⟩
  have a1 : ∀ (F : Mem) v i, mU F 119 c v 120 i = F 120 i := fun F v i => mU_r (by decide)
  have a2 : ∀ (F : Mem) v i, mU F 119 c v 121 i = F 121 i := fun F v i => mU_r (by decide)
  have a3 : ∀ (F : Mem) v i, mU F 120 c v 121 i = F 121 i := fun F v i => mU_r (by decide)
  refine ⟨mU (mU (mU E 119 c (D 119 d)) 120 c (D 120 d)) 121 c (D 121 d), ?_, ?_, ?_, mU_s, fun i i0 i1 => ?_, fun y i q1 q2 => ?_⟩
  · rw [r_186]
    refine e.trans ?_
    show qE 186 2 [(3, 106), (0, c), (0, d), (0, 10)] [] (mk E) = _
    rw [e_186_2, if_neg (by decide)]
    simp only [if_pos gc, if_pos gd, a1, a2, a3, h3 119 d (by omega), h3 120 d (by omega), h3 121 d (by omega)]
  · rw [mU_r (by decide), mU_r (by decide), mU_s]
  · rw [mU_r (by decide), mU_s]
  · rw [mU_r (by decide), mU_r (by decide), mU_r (by decide)]; exact h2 i i0 i1
  · rw [mU_other (by omega), mU_other (by omega), mU_other (by omega)]; exact h3 y i (by omega)
theorem sq_187 {D : Mem} {c m : Int} (hm : D 106 21 = m) (m1 : m ≤ 8) (c0 : 0 ≤ c) (c1 : c < m) : ∃ E, qR 187 [(3, 106), (0, c)] (mk D) = some ((9, 0), mk E) ∧ E 106 21 = m - 1 ∧ (∀ d, 0 ≤ d → d < m - 1 → E 119 d = D 119 (if d = c then m - 1 else d) ∧ E 120 d = D 120 (if d = c then m - 1 else d) ∧ E 121 d = D 121 (if d = c then m - 1 else d) ∧ ∀ i, 0 ≤ i → i < 10 → E 118 (10 * d + i) = D 118 (10 * (if d = c then m - 1 else d) + i)) ∧ ∀ y i, ¬ (118 ≤ y ∧ y ≤ 121) → ¬ (y = 106 ∧ i = 21) → E y i = D y i := by
  have e1 : w32 (m - 1) = m - 1 := w32_id (by omega) (by omega)
  have s21 : ∀ v, mU D 106 21 v 106 21 = v := fun v => mU_s
  obtain ⟨E, g1, g2, g3, g4, g5, g6⟩ := sq_186 (D := mU D 106 21 (m - 1)) (c := c) (d := m - 1) c0 (by omega) (by omega) (by omega)
  have o : ∀ y i, ¬ (y = 106 ∧ i = 21) → mU D 106 21 (m - 1) y i = D y i := fun y i q => mU_other q
  refine ⟨E, ?_, ?_, fun d d0 d1 => ?_, fun y i q1 q2 => ?_⟩
  · rw [r_187, hm, e1, s21, g1]
    simp only [Option.bind_some, psh_9, e_187_19]
  · rw [g6 _ _ (by omega) (by omega), mU_s]
  · by_cases q : d = c
    · simp only [if_pos q]
      rw [q]
      refine ⟨by rw [g2, o _ _ (by omega)], by rw [g3, o _ _ (by omega)], by rw [g4, o _ _ (by omega)], fun i i0 i1 => by rw [g5 i i0 i1, o _ _ (by omega)]⟩
    · simp only [if_neg q]
      refine ⟨by rw [g6 _ _ (by omega) (by omega), o _ _ (by omega)], by rw [g6 _ _ (by omega) (by omega), o _ _ (by omega)], by rw [g6 _ _ (by omega) (by omega), o _ _ (by omega)], fun i i0 i1 => by rw [g6 _ _ (by omega) (by omega), o _ _ (by omega)]⟩
  · rw [g6 _ _ (by omega) (by omega), o _ _ q2]
/-- appending: m newcomers, fewer than eight -/
theorem sq_188e {D : Mem} {m s : Int} (hm : D 106 21 = m) (m0 : 0 ≤ m) (m1 : m < 8) (hs : D 106 12 = s) (s0 : 0 ≤ s) (s1 : s ≤ 10) (v1 v2 : PV) : ∃ E, qE 188 53 [(3, 106), v1, v2] [] (mk D) = some ((9, 0), mk E) ∧ E 106 21 = m + 1 ∧ E 119 m = s ∧ E 120 m = 0 ∧ (∀ i, 0 ≤ i → i < s → E 118 (10 * m + i) = D 115 i) ∧ ∀ y i, ¬ (y = 118 ∧ 10 * m ≤ i) → ¬ (y = 119 ∧ i = m) → ¬ (y = 120 ∧ i = m) → ¬ (y = 106 ∧ i = 21) → E y i = D y i := by
  have f1 : w32 (10 * m) = 10 * m := w32_id (by omega) (by omega)
  obtain ⟨E, e, h2, h3⟩ := it_inv (fun i (E : Mem) => qE 188 55 [(3, 106), (0, i), v2] [] (mk E)) (fun i E => (∀ j, 0 ≤ j → j < i → E 118 (10 * m + j) = D 115 j) ∧ (∀ y j, ¬ (y = 118 ∧ 10 * m ≤ j) → E y j = D y j)) (a := 0) (n := s) s0
    (fun i E i0 i1 ⟨h2, h3⟩ => by
      have e1 : w32 (i + 1) = i + 1 := w32_id (by omega) (by omega)
      have e2 : w32 (10 * m + i) = 10 * m + i := w32_id (by omega) (by omega)
      refine ⟨mU E 118 (10 * m + i) (D 115 i), ?_, fun j j0 j1 => ?_, fun y j hy => ?_⟩
      · show qE 188 55 [(3, 106), (0, i), v2] [] (mk E) = qE 188 55 [(3, 106), (0, i + 1), v2] [] (mk _)
        rw [e_188_55, h3 106 12 (by omega), hs, if_pos i1, if_pos (by omega), h3 106 21 (by omega), hm, f1, e2, if_pos (by omega), e1, h3 115 i (by omega)]
      · by_cases q : j = i
        · rw [q, mU_s]
        · rw [mU_other (by omega)]; exact h2 j j0 (by omega)
      · rw [mU_other (by omega)]; exact h3 y j hy)
    (s0 := D) ⟨fun j j0 j1 => by omega, fun _ _ _ => rfl⟩
  have E21 : E 106 21 = m := by rw [h3 _ _ (by omega)]; exact hm
  have E12 : E 106 12 = s := by rw [h3 _ _ (by omega)]; exact hs
  have g8 : 0 ≤ m ∧ m < 8 := ⟨m0, m1⟩
  have a1 : ∀ (F : Mem) i v j, mU F 119 i v 106 j = F 106 j := fun F i v j => mU_r (by decide)
  have a2 : ∀ (F : Mem) i v j, mU F 120 i v 106 j = F 106 j := fun F i v j => mU_r (by decide)
  have e1 : w32 (m + 1) = m + 1 := w32_id (by omega) (by omega)
  refine ⟨mU (mU (mU E 119 m s) 120 m 0) 106 21 (m + 1), ?_, mU_s, ?_, ?_, fun i i0 i1 => ?_, fun y i q1 q2 q3 q4 => ?_⟩
  · rw [e_188_53]
    refine e.trans ?_
    show qE 188 55 [(3, 106), (0, s), v2] [] (mk E) = _
    rw [e_188_55, E12, if_neg (by omega)]
    simp only [E21, a1, a2, if_pos g8, e1]
  · rw [mU_r (by decide), mU_r (by decide), mU_s]
  · rw [mU_r (by decide), mU_s]
  · rw [mU_r (by decide), mU_r (by decide), mU_r (by decide)]; exact h2 i i0 i1
  · rw [mU_other q4, mU_other q3, mU_other q2]; exact h3 y i q1
/-- the oldest of eight goes -/
theorem sq_188o {D : Mem} (hm : D 106 21 = 8) : ∃ c x, qR 188 [(3, 106)] (mk D) = ((qR 187 [(3, 106), (0, c)] (mk D)).bind fun w => qE 188 53 [(3, 106), (0, c), (0, x)] (psh w.1 []) w.2) ∧ 0 ≤ c ∧ c < 8 ∧ ∀ d, 0 ≤ d → d < 8 → D 121 c ≤ D 121 d := by
  obtain ⟨p, e, h0, h1, h2⟩ := it_inv (fun i (p : Int) => qE 188 13 [(3, 106), (0, p), (0, i)] [] (mk D)) (fun i p => 0 ≤ p ∧ p < i ∧ ∀ n, 0 ≤ n → n < i → D 121 p ≤ D 121 n) (a := 1) (n := 8) (by decide)
    (fun i p i0 i1 ⟨h0, h1, h2⟩ => by
      have e1 : w32 (i + 1) = i + 1 := w32_id (by omega) (by omega)
      by_cases c : D 121 i < D 121 p
      · refine ⟨i, ?_, by omega, by omega, fun n n0 n1 => ?_⟩
        · show qE 188 13 [(3, 106), (0, p), (0, i)] [] (mk D) = qE 188 13 [(3, 106), (0, i), (0, i + 1)] [] (mk D)
          rw [e_188_13, hm, if_pos i1, if_pos (by omega), if_pos (by omega), if_pos c, e1]
        · by_cases q : n = i
          · rw [q]; omega
          · have := h2 n n0 (by omega); omega
      · refine ⟨p, ?_, by omega, by omega, fun n n0 n1 => ?_⟩
        · show qE 188 13 [(3, 106), (0, p), (0, i)] [] (mk D) = qE 188 13 [(3, 106), (0, p), (0, i + 1)] [] (mk D)
          rw [e_188_13, hm, if_pos i1, if_pos (by omega), if_pos (by omega), if_neg c, e1]
        · by_cases q : n = i
          · rw [q]; omega
          · exact h2 n n0 (by omega))
    (s0 := 0) ⟨by decide, by decide, fun n n0 n1 => by rw [show n = 0 by omega]; omega⟩
  refine ⟨p, 8, ?_, h0, h1, h2⟩
  rw [r_188, hm, if_pos rfl]
  refine e.trans ?_
  show qE 188 13 [(3, 106), (0, p), (0, 8)] [] (mk D) = _
  rw [e_188_13, hm, if_neg (by decide)]
/-- the last steps of third -/
theorem sq_189e {D : Mem} {c x t q : Int} (c0 : 0 ≤ c) (c1 : c < 8) (ht : D 120 c = t) (t0 : 0 ≤ t) (t1 : t < 1000) (hq : D 106 22 = q) (q0 : 0 ≤ q) (q1 : q < 1000000) : qE 189 121 [(3, 106), (0, x), (0, c)] [] (mk D) = some ((0, 100 + (t + 1)), mk (mU (mU (mU (mU D 120 c (t + 1)) 106 22 (q + 1)) 121 c (q + 1)) 106 12 0)) := by
  have e1 : w32 (t + 1) = t + 1 := w32_id (by omega) (by omega)
  have e2 : w32 (q + 1) = q + 1 := w32_id (by omega) (by omega)
  have e3 : w32 (100 + (t + 1)) = 100 + (t + 1) := w32_id (by omega) (by omega)
  have g3 : 0 ≤ c ∧ c < 8 := ⟨c0, c1⟩
  have a1 : ∀ v, mU D 120 c v 106 22 = D 106 22 := fun v => mU_r (by decide)
  have a2 : ∀ (E : Mem) v, mU E 106 22 v 106 22 = v := fun E v => mU_s
  have a3 : ∀ (E : Mem) v, mU E 106 12 v 120 c = E 120 c := fun E v => mU_r (by decide)
  have a4 : ∀ (E : Mem) v, mU E 121 c v 120 c = E 120 c := fun E v => mU_r (by decide)
  have a5 : ∀ (E : Mem) v, mU E 106 22 v 120 c = E 120 c := fun E v => mU_r (by decide)
  have a6 : ∀ v, mU D 120 c v 120 c = v := fun v => mU_s
  rw [e_189_121]
  simp only [if_pos g3, a1, a2, a3, a4, a5, a6, ht, hq, e1, e2, e3]
