/-! find -/
theorem isRowW {D : Mem} {k w : Int} (hW : RW D k) (h0 : 0 ≤ w) (h1 : w < D 106 6) : isRow (mk D) (132 + 3 * w) (D 109 w) := by
  have hn := hW.1
  obtain ⟨⟨a1, a2, a3, a4⟩, -⟩ := hW.2.2.1 w h0 h1
  have h5 : w < D 5 2 := by omega
  have e := mk_rr h0 h5
  refine ⟨mk_rk h0 h5, by rw [e]; exact mk_ak h0 h5, by rw [e, mk_al h0]; exact a2, ?_, by omega, by rw [e]; omega, by rw [e]; omega⟩
  rw [mk_rf h0 (by decide)]
  omega
/-- word w is there and has the letters spelt -/
def ltr (D : Mem) (w : Int) : Prop := D 109 w = D 106 12 ∧ ∀ i, 0 ≤ i → i < D 106 12 → D 108 (10 * w + i) = D 115 i
def mat (D : Mem) (w : Int) : Prop := D 112 w = 1 ∧ ltr D w
theorem ltr_row {D : Mem} {k w : Int} (hW : RW D k) (hS : RSa D) (h0 : 0 ≤ w) (h1 : w < D 106 6) : rowEq (mk D) (132 + 3 * w) 98 ↔ ltr D w := by
  have hn := hW.1
  obtain ⟨⟨a1, a2, a3, a4⟩, b, -⟩ := hW.2.2.1 w h0 h1
  obtain ⟨s1, s2, s3, s4, -⟩ := hS
  have h5 : w < D 5 2 := by omega
  unfold rowEq ltr
  rw [mk_rr h0 h5, mk_rf h0 (by decide), mk_98_1, mk_98_0, a1, s1]
  constructor
  · rintro ⟨e, g⟩
    refine ⟨e, fun i i0 i1 => ?_⟩
    have := g i i0 (by omega)
    rw [mk_ac h0, mk_c99, s4, (b i i0 (by omega)).1] at this
    exact this
  · rintro ⟨e, g⟩
    refine ⟨e, fun i i0 i1 => ?_⟩
    rw [mk_ac h0, mk_c99, s4, (b i i0 i1).1]
    exact g i i0 (by omega)
theorem sp_9s {D : Mem} {k w : Int} (hW : RW D k) (hS : RSa D) (h0 : 0 ≤ w) (h1 : w < D 106 6) (v : PV) : (mat D w → qE 9 2 [(3, 5), (3, 98), (0, w), v] [] (mk D) = some ((0, w), mk D)) ∧ (¬ mat D w → ∃ v', qE 9 2 [(3, 5), (3, 98), (0, w), v] [] (mk D) = qE 9 2 [(3, 5), (3, 98), (0, w + 1), v'] [] (mk D)) := by
  have hn := hW.1
  obtain ⟨t1, t2⟩ := thr_cl hW h0 h1
  have h5 : w < D 5 2 := by omega
  have h80 : 0 ≤ w ∧ w < 80 := by omega
  have e0 : ¬ (131 + 3 * w = 0) := by omega
  have e1 : w32 (w + 1) = w + 1 := w32_id (by omega) (by omega)
  have e3 : mk D (131 + 3 * w) 3 = D 112 w := by rw [mk_wf h0 (by decide)]; exact t1
  have hr := isRowW hW h0 h1
  have h98 := isRow98 (D := D) (by have := hS.1; have := hS.2.1; omega) (by have := hS.1; have := hS.2.2.1; omega)
  have lk := row_like hr h98
  rw [e_9_2, if_pos h5, if_pos h80, mk_words h0 h5, if_neg e0, if_pos (mk_wk h0 h5), e3, if_pos (mk_wk h0 h5), mk_wr h0 h5, if_pos (mk_rk h0 h5), e1]
  constructor
  · intro m
    rw [if_neg (by have := m.1; omega), lk.1 ((ltr_row hW hS h0 h1).2 m.2)]
    simp only [Option.bind_some, psh_0]
    rw [e_9_36, if_neg (by decide)]
  · intro m
    refine ⟨(3, 131 + 3 * w), ?_⟩
    by_cases c : D 112 w = 0
    · rw [if_pos c]
    · rw [if_neg c, lk.2 (fun q => m ⟨by omega, (ltr_row hW hS h0 h1).1 q⟩)]
      simp only [Option.bind_some, psh_0]
      rw [e_9_36, if_pos rfl, e1]
theorem mat_one {D : Mem} {k v w : Int} (hW : RW D k) (v0 : 0 ≤ v) (v1 : v < D 106 6) (w0 : 0 ≤ w) (w1 : w < D 106 6) (mv : mat D v) (mw : mat D w) : v = w := by
  have h : ∀ a b, mat D a → mat D b → sameW D a b := fun a b ma mb => ⟨by rw [ma.2.1, mb.2.1], fun i i0 i1 => by rw [ma.2.1] at i1; rw [ma.2.2 i i0 i1, mb.2.2 i i0 i1]⟩
  rcases Int.lt_trichotomy v w with c | c | c
  · exact absurd (h v w mv mw) (hW.2.2.2.2 v w v0 c w1 mv.1 mw.1)
  · exact c
  · exact absurd (h w v mw mv) (hW.2.2.2.2 w v w0 c v1 mw.1 mv.1)
theorem mat_or (D : Mem) : (∃ w, 0 ≤ w ∧ w < D 106 6 ∧ mat D w) ∨ ∀ w, 0 ≤ w → w < D 106 6 → ¬ mat D w := by
  by_cases h : ∃ w, 0 ≤ w ∧ w < D 106 6 ∧ mat D w
  · exact Or.inl h
  · exact Or.inr fun w h0 h1 q => h ⟨w, h0, h1, q⟩
theorem sp_9h {D : Mem} {k w : Int} (hW : RW D k) (hS : RSa D) (h0 : 0 ≤ w) (h1 : w < D 106 6) (m : mat D w) : qR 9 [(3, 5), (3, 98)] (mk D) = some ((0, w), mk D) := by
  rw [r_9]
  obtain ⟨v, e, -⟩ := it_inv (fun i (v : PV) => qE 9 2 [(3, 5), (3, 98), (0, i), v] [] (mk D)) (fun _ _ => True) h0 (fun i v g0 g1 _ => by
    obtain ⟨v', e⟩ := (sp_9s hW hS g0 (by omega) v).2 (fun q => by have := mat_one hW g0 (by omega) h0 h1 q m; omega)
    exact ⟨v', e, trivial⟩) (s0 := ((9, 0) : PV)) trivial
  exact e.trans ((sp_9s hW hS h0 h1 v).1 m)
theorem sp_9n {D : Mem} {k : Int} (hW : RW D k) (hS : RSa D) (h : ∀ w, 0 ≤ w → w < D 106 6 → ¬ mat D w) : qR 9 [(3, 5), (3, 98)] (mk D) = some ((0, -1), mk D) := by
  have hn := hW.1
  rw [r_9]
  obtain ⟨v, e, -⟩ := it_inv (fun i (v : PV) => qE 9 2 [(3, 5), (3, 98), (0, i), v] [] (mk D)) (fun _ _ => True) hn.2.1 (fun i v g0 g1 _ => by
    obtain ⟨v', e⟩ := (sp_9s hW hS g0 g1 v).2 (h i g0 g1)
    exact ⟨v', e, trivial⟩) (s0 := ((9, 0) : PV)) trivial
  refine e.trans ?_
  show qE 9 2 [(3, 5), (3, 98), (0, D 106 6), v] [] (mk D) = _
  rw [e_9_2, if_neg (by omega)]
theorem first_not {n : Int} (P : Int → Prop) (h : ¬ ∀ i, 0 ≤ i → i < n → P i) : ∃ p, 0 ≤ p ∧ p < n ∧ ¬ P p ∧ ∀ i, 0 ≤ i → i < p → P i := by
  have key : ∀ m, 0 ≤ m → m ≤ n → (∀ i, 0 ≤ i → i < m → P i) ∨ ∃ p, 0 ≤ p ∧ p < n ∧ ¬ P p ∧ ∀ i, 0 ≤ i → i < p → P i :=
    i_up (fun _ => Or.inl fun i h0 h1 => by omega) (fun m hm ih h5 => by
      rcases ih (by omega) with g | g
      · by_cases c : P m
        · exact Or.inl fun i h0 h1 => by
            by_cases e : i = m
            · subst e; exact c
            · exact g i h0 (by omega)
        · exact Or.inr ⟨m, hm, by omega, c, g⟩
      · exact Or.inr g)
  by_cases hn : 0 ≤ n
  · rcases key n hn (by omega) with g | g
    · exact absurd g h
    · exact g
  · exact absurd (fun i h0 h1 => by omega) h
theorem sp_150i {D : Mem} {w r : Int} (h0 : 0 ≤ w) (h1 : w < 80) (s0 : 0 ≤ D 106 12) (s1 : D 106 12 ≤ 10) : ((∀ i, 0 ≤ i → i < D 106 12 → D 108 (10 * w + i) = D 115 i) → ∃ x4, qE 150 43 [(3, 106), (0, r), (0, w), (0, 1), (0, 0)] [] (mk D) = qE 150 90 [(3, 106), (0, r), (0, w), (0, 1), (0, x4)] [] (mk D)) ∧ ((¬ ∀ i, 0 ≤ i → i < D 106 12 → D 108 (10 * w + i) = D 115 i) → ∃ x4, qE 150 43 [(3, 106), (0, r), (0, w), (0, 1), (0, 0)] [] (mk D) = qE 150 90 [(3, 106), (0, r), (0, w), (0, 0), (0, x4)] [] (mk D)) := by
  have st : ∀ i, 0 ≤ i → i < D 106 12 → qE 150 43 [(3, 106), (0, r), (0, w), (0, 1), (0, i)] [] (mk D) = if D 108 (10 * w + i) = D 115 i then qE 150 43 [(3, 106), (0, r), (0, w), (0, 1), (0, i + 1)] [] (mk D) else qE 150 43 [(3, 106), (0, r), (0, w), (0, 0), (0, i + 1)] [] (mk D) := fun i i0 i1 => by
    have e1 : w32 (10 * w) = 10 * w := w32_id (by omega) (by omega)
    have e2 : w32 (10 * w + i) = 10 * w + i := w32_id (by omega) (by omega)
    have e3 : w32 (i + 1) = i + 1 := w32_id (by omega) (by omega)
    rw [e_150_43, if_pos i1, if_neg (by decide), e1, e2, e3, if_pos (by omega), if_pos (by omega)]
  refine ⟨fun h => ?_, fun h => ?_⟩
  · refine ⟨D 106 12, ?_⟩
    refine (it_up (fun i => qE 150 43 [(3, 106), (0, r), (0, w), (0, 1), (0, i)] [] (mk D)) s0 (fun i i0 i1 => ?_)).trans ?_
    · show qE 150 43 [(3, 106), (0, r), (0, w), (0, 1), (0, i)] [] (mk D) = qE 150 43 [(3, 106), (0, r), (0, w), (0, 1), (0, i + 1)] [] (mk D)
      rw [st i i0 i1, if_pos (h i i0 i1)]
    · show qE 150 43 [(3, 106), (0, r), (0, w), (0, 1), (0, D 106 12)] [] (mk D) = _
      rw [e_150_43, if_neg (by omega)]
  · obtain ⟨p, p0, p1, p2, p3⟩ := first_not (fun i => D 108 (10 * w + i) = D 115 i) h
    refine ⟨p + 1, ?_⟩
    refine (it_up (fun i => qE 150 43 [(3, 106), (0, r), (0, w), (0, 1), (0, i)] [] (mk D)) p0 (fun i i0 i1 => ?_)).trans ?_
    · show qE 150 43 [(3, 106), (0, r), (0, w), (0, 1), (0, i)] [] (mk D) = qE 150 43 [(3, 106), (0, r), (0, w), (0, 1), (0, i + 1)] [] (mk D)
      rw [st i i0 (by omega), if_pos (p3 i i0 i1)]
    · show qE 150 43 [(3, 106), (0, r), (0, w), (0, 1), (0, p)] [] (mk D) = _
      rw [st p p0 p1, if_neg p2, e_150_43]
      by_cases c : p + 1 < D 106 12
      · rw [if_pos c, if_pos rfl]
      · rw [if_neg c]
theorem sp_150s {D : Mem} {k w r : Int} (hW : RW D k) (hS : RSa D) (h0 : 0 ≤ w) (h1 : w < D 106 6) (v3 v4 : PV) : (mat D w → ∃ u3 u4, qE 150 4 [(3, 106), (0, r), (0, w), v3, v4] [] (mk D) = qE 150 4 [(3, 106), (0, w), (0, w + 1), u3, u4] [] (mk D)) ∧ (¬ mat D w → ∃ u3 u4, qE 150 4 [(3, 106), (0, r), (0, w), v3, v4] [] (mk D) = qE 150 4 [(3, 106), (0, r), (0, w + 1), u3, u4] [] (mk D)) := by
  have hn := hW.1
  obtain ⟨s1, s2, s3, -⟩ := hS
  obtain ⟨t1, t2⟩ := thr_cl hW h0 h1
  have h80 : 0 ≤ w ∧ w < 80 := by omega
  have e1 : w32 (w + 1) = w + 1 := w32_id (by omega) (by omega)
  have hl := (hW.2.2.1 w h0 h1).1.2.2.1
  have hi := sp_150i (D := D) (r := r) h0 h80.2 s2 s3
  have z : ∃ x, qE 150 43 [(3, 106), (0, r), (0, w), (0, 0), (0, 0)] [] (mk D) = qE 150 4 [(3, 106), (0, r), (0, w + 1), (0, 0), (0, x)] [] (mk D) := by
    refine ⟨0, ?_⟩
    rw [e_150_43]
    by_cases c : 0 < D 106 12
    · rw [if_pos c, if_pos rfl, e_150_90, if_pos rfl, e1]
    · rw [if_neg c, e_150_90, if_pos rfl, e1]
  constructor
  · intro m
    obtain ⟨x4, hi⟩ := hi.1 m.2.2
    refine ⟨(0, 1), (0, x4), ?_⟩
    rw [e_150_4, if_pos h1, if_pos h80, if_neg (by have := m.1; omega), if_pos h80, if_pos m.2.1, hi, e_150_90, if_neg (by decide), e1]
  · intro m
    rw [e_150_4, if_pos h1, if_pos h80]
    by_cases c : D 112 w = 0
    · obtain ⟨x, e⟩ := z
      exact ⟨(0, 0), (0, x), by rw [if_pos c, e]⟩
    · rw [if_neg c, if_pos h80]
      by_cases g : D 109 w = D 106 12
      · obtain ⟨x4, hi⟩ := hi.2 (fun q => m ⟨by omega, g, q⟩)
        refine ⟨(0, 0), (0, x4), ?_⟩
        rw [if_pos g, hi, e_150_90, if_pos rfl, e1]
      · obtain ⟨x, e⟩ := z
        exact ⟨(0, 0), (0, x), by rw [if_neg g, e]⟩
theorem sp_150h {D : Mem} {k w : Int} (hW : RW D k) (hS : RSa D) (h0 : 0 ≤ w) (h1 : w < D 106 6) (m : mat D w) : qR 150 [(3, 106)] (mk D) = some ((0, w), mk D) := by
  rw [r_150]
  obtain ⟨s, e, hI⟩ := it_inv (fun i (s : Int × PV × PV) => qE 150 4 [(3, 106), (0, s.1), (0, i), s.2.1, s.2.2] [] (mk D)) (fun i s => s.1 = if w < i then w else -1) (Int.le_trans h0 (Int.le_of_lt h1)) (fun i s g0 g1 hs => by
    by_cases c : i = w
    · subst c
      obtain ⟨u3, u4, e⟩ := (sp_150s (r := s.1) hW hS g0 g1 s.2.1 s.2.2).1 m
      exact ⟨(i, u3, u4), e, by show i = _; rw [if_pos (by omega)]⟩
    · obtain ⟨u3, u4, e⟩ := (sp_150s (r := s.1) hW hS g0 g1 s.2.1 s.2.2).2 (fun q => c (mat_one hW g0 g1 h0 h1 q m))
      refine ⟨(s.1, u3, u4), e, ?_⟩
      show s.1 = _
      rw [hs]
      by_cases d : w < i
      · rw [if_pos d, if_pos (by omega)]
      · rw [if_neg d, if_neg (by omega)]) (s0 := (-1, (9, 0), (9, 0))) (by show (-1 : Int) = _; rw [if_neg (by omega)])
  refine e.trans ?_
  show qE 150 4 [(3, 106), (0, s.1), (0, D 106 6), s.2.1, s.2.2] [] (mk D) = _
  rw [e_150_4, if_neg (by omega), hI, if_pos h1]
theorem sp_150n {D : Mem} {k : Int} (hW : RW D k) (hS : RSa D) (h : ∀ w, 0 ≤ w → w < D 106 6 → ¬ mat D w) : qR 150 [(3, 106)] (mk D) = some ((0, -1), mk D) := by
  have hn := hW.1
  rw [r_150]
  obtain ⟨s, e, -⟩ := it_inv (fun i (s : PV × PV) => qE 150 4 [(3, 106), (0, -1), (0, i), s.1, s.2] [] (mk D)) (fun _ _ => True) hn.2.1 (fun i s g0 g1 _ => by
    obtain ⟨u3, u4, e⟩ := (sp_150s (r := -1) hW hS g0 g1 s.1 s.2).2 (h i g0 g1)
    exact ⟨(u3, u4), e, trivial⟩) (s0 := ((9, 0), (9, 0))) trivial
  refine e.trans ?_
  show qE 150 4 [(3, 106), (0, -1), (0, D 106 6), s.1, s.2] [] (mk D) = _
  rw [e_150_4, if_neg (by omega)]
theorem ca_find {D : Mem} {k : Int} (hR : Rel D k) : CaseOK D k 106 163 [] := by
  have hW := hR.2.1
  have hS := hR.2.2.2.1.1
  rcases mat_or D with ⟨w, h0, h1, m⟩ | h
  · exact case_same (v := w) hR (by simp [r_106, sp_9h hW hS h0 h1 m, psh_0, e_106_11]) (by simp [r_163, sp_150h hW hS h0 h1 m, psh_0, e_163_4])
  · exact case_same (v := -1) hR (by simp [r_106, sp_9n hW hS h, psh_0, e_106_11]) (by simp [r_163, sp_150n hW hS h, psh_0, e_163_4])
