/-! find -/
theorem isRowW {D : Mem} {k w : Int} (hW : RW D k) (h0 : 0 ≤ w) (h1 : w < D 106 6) : isRow (mk D) (132 + 3 * w) (D 109 w) := by
  have hn := hW.1
  obtain ⟨⟨a1, a2, a3, a4⟩, -⟩ := hW.2.2.1 w h0 h1
  have h5 : w < D 5 2 := by omega
  have e := mk_rr h0 h5
  refine ⟨mk_rk h0 h5, by rw [e]; exact mk_ak h0 h5, by rw [e, mk_al h0]; exact a2, ?_, by omega, by rw [e]; omega, by rw [e]; omega⟩
  rw [mk_rf h0 (by decide)]
  omega
/-- word w is there and has the letters spelt -/
def ltr (D : Mem) (w : Int) : Prop := D 109 w = D 106 12 ∧ ∀ i, 0 ≤ i → i < D 106 12 → D 108 (10 * w + i) = D 115 i
def mat (D : Mem) (w : Int) : Prop := D 112 w = 1 ∧ ltr D w
theorem ltr_row {D : Mem} {k w : Int} (hW : RW D k) (hS : RSa D) (h0 : 0 ≤ w) (h1 : w < D 106 6) : rowEq (mk D) (132 + 3 * w) 98 ↔ ltr D w := by
  have hn := hW.1
  obtain ⟨⟨a1, a2, a3, a4⟩, b, -⟩ := hW.2.2.1 w h0 h1
  obtain ⟨s1, s2, s3, s4, -⟩ := hS
  have h5 : w < D 5 2 := by omega
  unfold rowEq ltr
  rw [mk_rr h0 h5, mk_rf h0 (by decide), mk_98_1, mk_98_0, a1, s1]
  constructor
  · rintro ⟨e, g⟩
    refine ⟨e, fun i i0 i1 => ?_⟩
    have := g i i0 (by omega)
    rw [mk_ac h0, mk_c99, s4, (b i i0 (by omega)).1] at this
    exact this
  · rintro ⟨e, g⟩
    refine ⟨e, fun i i0 i1 => ?_⟩
    rw [mk_ac h0, mk_c99, s4, (b i i0 i1).1]
    exact g i i0 (by omega)
theorem sp_9s {D : Mem} {k w : Int} (hW : RW D k) (hS : RSa D) (h0 : 0 ≤ w) (h1 : w < D 106 6) (v : PV) : (mat D w → qE 9 2 [(3, 5), (3, 98), (0, w), v] [] (mk D) = some ((0, w), mk D)) ∧ (¬ mat D w → ∃ v', qE 9 2 [(3, 5), (3, 98), (0, w), v] [] (mk D) = qE 9 2 [(3, 5), (3, 98), (0, w + 1), v'] [] (mk D)) := by
  have hn := hW.1
  obtain ⟨t1, t2⟩ := thr_cl hW h0 h1
  have h5 : w < D 5 2 := by omega
  have h80 : 0 ≤ w ∧ w < 80 := by omega
  have e0 : ¬ (131 + 3 * w = 0) := by omega
  have e1 : w32 (w + 1) = w + 1 := w32_id (by omega) (by omega)
  have e3 : mk D (131 + 3 * w) 3 = D 112 w := by rw [mk_wf h0 (by decide)]; exact t1
  have hr := isRowW hW h0 h1
  have h98 := isRow98 (D := D) (by have := hS.1; have := hS.2.1; omega) (by have := hS.1; have := hS.2.2.1; omega)
  have lk := row_like hr h98
  rw [e_9_2, if_pos h5, if_pos h80, mk_words h0 h5, if_neg e0, if_pos (mk_wk h0 h5), e3, if_pos (mk_wk h0 h5), mk_wr h0 h5, if_pos (mk_rk h0 h5), e1]
  constructor
  · intro m
    rw [if_neg (by have := m.1; omega), lk.1 ((ltr_row hW hS h0 h1).2 m.2)]
    simp only [Option.bind_some, psh_0]
    rw [e_9_36, if_neg (by decide)]
  · intro m
    refine ⟨(3, 131 + 3 * w), ?_⟩
    by_cases c : D 112 w = 0
    · rw [if_pos c]
    · rw [if_neg c, lk.2 (fun q => m ⟨by omega, (ltr_row hW hS h0 h1).1 q⟩)]
      simp only [Option.bind_some, psh_0]
      rw [e_9_36, if_pos rfl, e1]
theorem mat_one {D : Mem} {k v w : Int} (hW : RW D k) (v0 : 0 ≤ v) (v1 : v < D 106 6) (w0 : 0 ≤ w) (w1 : w < D 106 6) (mv : mat D v) (mw : mat D w) : v = w := by
  have h : ∀ a b, mat D a → mat D b → sameW D a b := fun a b ma mb => ⟨by rw [ma.2.1, mb.2.1], fun i i0 i1 => by rw [ma.2.1] at i1; rw [ma.2.2 i i0 i1, mb.2.2 i i0 i1]⟩
  rcases Int.lt_trichotomy v w with c | c | c
  · exact absurd (h v w mv mw) (hW.2.2.2.2 v w v0 c w1 mv.1 mw.1)
  · exact c
  · exact absurd (h w v mw mv) (hW.2.2.2.2 w v w0 c v1 mw.1 mv.1)
theorem mat_or (D : Mem) : (∃ w, 0 ≤ w ∧ w < D 106 6 ∧ mat D w) ∨ ∀ w, 0 ≤ w → w < D 106 6 → ¬ mat D w := by
  by_cases h : ∃ w, 0 ≤ w ∧ w < D 106 6 ∧ mat D w
  · exact Or.inl h
  · exact Or.inr fun w h0 h1 q => h ⟨w, h0, h1, q⟩
theorem sp_9h {D : Mem} {k w : Int} (hW : RW D k) (hS : RSa D) (h0 : 0 ≤ w) (h1 : w < D 106 6) (m : mat D w) : qR 9 [(3, 5), (3, 98)] (mk D) = some ((0, w), mk D) := by
  rw [r_9]
  obtain ⟨v, e, -⟩ := it_inv (fun i (v : PV) => qE 9 2 [(3, 5), (3, 98), (0, i), v] [] (mk D)) (fun _ _ => True) h0 (fun i v g0 g1 _ => by
    obtain ⟨v', e⟩ := (sp_9s hW hS g0 (by omega) v).2 (fun q => by have := mat_one hW g0 (by omega) h0 h1 q m; omega)
    exact ⟨v', e, trivial⟩) (s0 := ((9, 0) : PV)) trivial
  exact e.trans ((sp_9s hW hS h0 h1 v).1 m)
theorem sp_9n {D : Mem} {k : Int} (hW : RW D k) (hS : RSa D) (h : ∀ w, 0 ≤ w → w < D 106 6 → ¬ mat D w) : qR 9 [(3, 5), (3, 98)] (mk D) = some ((0, -1), mk D) := by
  have hn := hW.1
  rw [r_9]
  obtain ⟨v, e, -⟩ := it_inv (fun i (v : PV) => qE 9 2 [(3, 5), (3, 98), (0, i), v] [] (mk D)) (fun _ _ => True) hn.2.1 (fun i v g0 g1 _ => by
    obtain ⟨v', e⟩ := (sp_9s hW hS g0 g1 v).2 (h i g0 g1)
    exact ⟨v', e, trivial⟩) (s0 := ((9, 0) : PV)) trivial
  refine e.trans ?_
  show qE 9 2 [(3, 5), (3, 98), (0, D 106 6), v] [] (mk D) = _
  rw [e_9_2, if_neg (by omega)]
