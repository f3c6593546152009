/-! newcomers -/
theorem mk_cell {E D : Mem} {b : Int} (j : Int) (h : ∀ j, E b j = D b j) (h5 : E 5 2 = D 5 2) : mk E b j = mk D b j := by
  unfold mk mkK mkL mkC
  rw [h5]
  by_cases c : b < 0
  · simp only [if_pos c, Int.neg_neg, h]
  · simp only [if_neg c, h]
    by_cases c0 : b = 0
    · subst c0; simp only [h]
    · simp only [if_neg c0]
theorem mk_nrow (D : Mem) {n : Int} (n0 : 0 ≤ n) (n1 : n < 8) (j : Int) : mk D (15 + 2 * n) j = if j = 0 then 16 + 2 * n else D (15 + 2 * n) j := by
  have hc : n = 0 ∨ n = 1 ∨ n = 2 ∨ n = 3 ∨ n = 4 ∨ n = 5 ∨ n = 6 ∨ n = 7 := by omega
  by_cases c : j = 0
  · rw [if_pos c, c]
    rcases hc with rfl | rfl | rfl | rfl | rfl | rfl | rfl | rfl <;> rfl
  · rw [if_neg c]
    have hr : ∀ a, rT a j = none → (0 < a ∧ a < 131 ∧ a ≠ 6 ∧ a ≠ 12 ∧ a ≠ 46 ∧ a ≠ 73 ∧ a ≠ 85) → mk D a j = D a j := fun a h1 h2 => by
      unfold mk mkC
      rw [if_neg (by omega), if_neg (by omega), if_neg (by omega), if_neg (by omega), if_neg (by omega), if_neg (by omega), if_neg (by omega), if_neg (by omega), h1]
    have z : ∀ a : Int, (if j = 0 then some a else none) = (none : Option Int) := fun a => if_neg c
    rcases hc with rfl | rfl | rfl | rfl | rfl | rfl | rfl | rfl
    · exact hr 15 (z 16) (by decide)
    · exact hr 17 (z 18) (by decide)
    · exact hr 19 (z 20) (by decide)
    · exact hr 21 (z 22) (by decide)
    · exact hr 23 (z 24) (by decide)
    · exact hr 25 (z 26) (by decide)
    · exact hr 27 (z 28) (by decide)
    · exact hr 29 (z 30) (by decide)
theorem mk_nlet (D : Mem) {n : Int} (n0 : 0 ≤ n) (n1 : n < 8) (j : Int) : mk D (16 + 2 * n) j = D (16 + 2 * n) j := by
  have hc : n = 0 ∨ n = 1 ∨ n = 2 ∨ n = 3 ∨ n = 4 ∨ n = 5 ∨ n = 6 ∨ n = 7 := by omega
  rcases hc with rfl | rfl | rfl | rfl | rfl | rfl | rfl | rfl <;> rfl
theorem isRowN {D : Mem} {n : Int} (n0 : 0 ≤ n) (n1 : n < 8) (h : 0 ≤ D (15 + 2 * n) 1 ∧ D (15 + 2 * n) 1 ≤ 10) : isRow (mk D) (15 + 2 * n) 10 := by
  have e1 : mk D (15 + 2 * n) 0 = 16 + 2 * n := by rw [mk_nrow D n0 n1, if_pos rfl]
  have e2 : mk D (15 + 2 * n) 1 = D (15 + 2 * n) 1 := by rw [mk_nrow D n0 n1, if_neg (by decide)]
  have hc : n = 0 ∨ n = 1 ∨ n = 2 ∨ n = 3 ∨ n = 4 ∨ n = 5 ∨ n = 6 ∨ n = 7 := by omega
  have e3 : mk D (-(15 + 2 * n)) 0 = 15 ∧ mk D (-(16 + 2 * n)) 0 = 1 ∧ mk D (-(16 + 2 * n)) 1 = 10 := by
    rcases hc with rfl | rfl | rfl | rfl | rfl | rfl | rfl | rfl <;> exact ⟨rfl, rfl, rfl⟩
  unfold isRow
  rw [e1, e2]
  exact ⟨e3.1, e3.2.1, e3.2.2, ⟨h.1, h.2, by decide⟩, by omega, by omega, by omega⟩
/-- slot n has the letters spelt -/
def nm (D : Mem) (n : Int) : Prop := 0 < D 13 n ∧ D (15 + 2 * n) 1 = D 106 12 ∧ ∀ i, 0 ≤ i → i < D 106 12 → D (16 + 2 * n) i = D 115 i
/-- the reference's newcomer c has the letters spelt -/
def cm (D : Mem) (c : Int) : Prop := D 119 c = D 106 12 ∧ ∀ i, 0 ≤ i → i < D 106 12 → D 118 (10 * c + i) = D 115 i
theorem nm_cm {D : Mem} {n c : Int} (h : ncEq D n c) (hn : 0 < D 13 n) : nm D n ↔ cm D c := by
  obtain ⟨h1, h2, h3, h4⟩ := h
  constructor
  · rintro ⟨a, b, d⟩
    refine ⟨by omega, fun i i0 i1 => ?_⟩
    rw [← h4 i i0 (by omega)]; exact d i i0 i1
  · rintro ⟨b, d⟩
    refine ⟨hn, by omega, fun i i0 i1 => ?_⟩
    rw [h4 i i0 (by omega)]; exact d i i0 i1
theorem cm_one {D : Mem} {k c d : Int} (h : RN0 D k) (c0 : 0 ≤ c) (c1 : c < D 106 21) (d0 : 0 ≤ d) (d1 : d < D 106 21) (hc : cm D c) (hd : cm D d) : c = d := by
  obtain ⟨_, _, _, _, r5, _⟩ := h
  have aux : ∀ c d, 0 ≤ c → c < d → d < D 106 21 → cm D c → cm D d → False := fun c d c0 cd d1 hc hd => by
    refine (r5 c d c0 cd d1).2 ⟨by rw [hc.1, hd.1], fun i i0 i1 => ?_⟩
    have : i < D 106 12 := by have := hc.1; omega
    rw [hc.2 i i0 this, hd.2 i i0 this]
  apply Classical.byContradiction
  intro ne
  by_cases q : c < d
  · exact aux c d c0 q d1 hc hd
  · exact aux d c d0 (by omega) c1 hd hc
theorem st_one {D : Mem} {k m n : Int} (h : RN0 D k) (m0 : 0 ≤ m) (m1 : m < 8) (n0 : 0 ≤ n) (n1 : n < 8) (hm : 0 < D 13 m) (hn : 0 < D 13 n) (e : D 14 m = D 14 n) : m = n := by
  obtain ⟨_, _, _, _, _, r6⟩ := h
  apply Classical.byContradiction
  intro ne
  by_cases q : m < n
  · exact r6 m n m0 q n1 hm hn e
  · exact r6 n m n0 (by omega) m1 hn hm e.symm
theorem slot_c {D : Mem} {k n : Int} (h : RN0 D k) (n0 : 0 ≤ n) (n1 : n < 8) (hn : 0 < D 13 n) : (D 13 n = 1 ∨ D 13 n = 2) ∧ 1 ≤ D 14 n ∧ D 14 n ≤ D 106 22 ∧ ∃ c, 0 ≤ c ∧ c < D 106 21 ∧ ncEq D n c := by
  obtain ⟨_, _, r3, _⟩ := h
  rcases (r3 n n0 n1).2 with q | q
  · omega
  · exact q
theorem nm_one {D : Mem} {k m n : Int} (h : RN0 D k) (m0 : 0 ≤ m) (m1 : m < 8) (n0 : 0 ≤ n) (n1 : n < 8) (hm : nm D m) (hn : nm D n) : m = n := by
  obtain ⟨_, _, _, c, c0, c1, ec⟩ := slot_c h m0 m1 hm.1
  obtain ⟨_, _, _, d, d0, d1, ed⟩ := slot_c h n0 n1 hn.1
  have := cm_one h c0 c1 d0 d1 ((nm_cm ec hm.1).1 hm) ((nm_cm ed hn.1).1 hn)
  subst this
  exact st_one h m0 m1 n0 n1 hm.1 hn.1 (by rw [ec.1, ed.1])
theorem nm_or (D : Mem) : (∃ n, 0 ≤ n ∧ n < 8 ∧ nm D n) ∨ ∀ n, 0 ≤ n → n < 8 → ¬ nm D n := by
  by_cases h : ∃ n, 0 ≤ n ∧ n < 8 ∧ nm D n
  · exact Or.inl h
  · exact Or.inr fun p h0 h1 q => h ⟨p, h0, h1, q⟩
theorem nm_row {D : Mem} {n : Int} (hS : RSa D) (n0 : 0 ≤ n) (n1 : n < 8) (hn : 0 < D 13 n) : rowEq (mk D) (15 + 2 * n) 98 ↔ nm D n := by
  obtain ⟨s1, s2, s3, s4, -⟩ := hS
  have e1 : mk D (15 + 2 * n) 0 = 16 + 2 * n := by rw [mk_nrow D n0 n1, if_pos rfl]
  have e2 : mk D (15 + 2 * n) 1 = D (15 + 2 * n) 1 := by rw [mk_nrow D n0 n1, if_neg (by decide)]
  unfold rowEq nm
  rw [e1, e2, mk_98_1, mk_98_0, s1]
  constructor
  · rintro ⟨e, g⟩
    refine ⟨hn, e, fun i i0 i1 => ?_⟩
    have := g i i0 (by omega)
    rw [mk_nlet D n0 n1, mk_c99, s4] at this
    exact this
  · rintro ⟨_, e, g⟩
    refine ⟨e, fun i i0 i1 => ?_⟩
    rw [mk_nlet D n0 n1, mk_c99, s4]
    exact g i i0 (by omega)
theorem sp_35s {D : Mem} {k n : Int} (hN : RN0 D k) (hS : RSa D) (n0 : 0 ≤ n) (n1 : n < 8) (v : PV) : (nm D n → qE 35 2 [(3, 11), (3, 98), (0, n), v] [] (mk D) = some ((0, n), mk D)) ∧ (¬ nm D n → ∃ v', qE 35 2 [(3, 11), (3, 98), (0, n), v] [] (mk D) = qE 35 2 [(3, 11), (3, 98), (0, n + 1), v'] [] (mk D)) := by
  have e1 : w32 (n + 1) = n + 1 := w32_id (by omega) (by omega)
  have g8 : 0 ≤ n ∧ n < 8 := ⟨n0, n1⟩
  have hz := (hN.2.2.1 n n0 n1).1
  have hr := isRowN n0 n1 hz
  have h98 := isRow98 (D := D) (by have := hS.1; have := hS.2.1; omega) (by have := hS.1; have := hS.2.2.1; omega)
  have lk := row_like hr h98
  have e12 : mk D 12 n = 15 + 2 * n := by rw [mk_c12, if_pos g8]
  rw [e_35_2, if_pos n1, if_pos g8, if_pos g8, e12, if_neg (by omega : ¬ 15 + 2 * n = 0), if_pos hr.1, e1]
  constructor
  · intro m
    rw [if_neg (by have := m.1; omega), lk.1 ((nm_row hS n0 n1 m.1).2 m)]
    simp only [Option.bind_some, psh_0]
    rw [e_35_33, if_neg (by decide)]
  · intro m
    refine ⟨(3, 15 + 2 * n), ?_⟩
    by_cases c : D 13 n ≤ 0
    · rw [if_pos c]
    · rw [if_neg c, lk.2 (fun q => m ((nm_row hS n0 n1 (by omega)).1 q))]
      simp only [Option.bind_some, psh_0]
      rw [e_35_33, if_pos rfl, e1]
theorem sp_35h {D : Mem} {k n : Int} (hN : RN0 D k) (hS : RSa D) (n0 : 0 ≤ n) (n1 : n < 8) (m : nm D n) : qR 35 [(3, 11), (3, 98)] (mk D) = some ((0, n), mk D) := by
  rw [r_35]
  obtain ⟨v, e, -⟩ := it_inv (fun i (s : PV) => qE 35 2 [(3, 11), (3, 98), (0, i), s] [] (mk D)) (fun _ _ => True) n0 (fun i s g0 g1 _ => by
    obtain ⟨v', e⟩ := (sp_35s hN hS g0 (by omega) s).2 (fun q => by have := nm_one hN g0 (by omega) n0 n1 q m; omega)
    exact ⟨v', e, trivial⟩) (s0 := (9, 0)) trivial
  exact e.trans ((sp_35s hN hS n0 n1 v).1 m)
theorem sp_35n {D : Mem} {k : Int} (hN : RN0 D k) (hS : RSa D) (h : ∀ n, 0 ≤ n → n < 8 → ¬ nm D n) : qR 35 [(3, 11), (3, 98)] (mk D) = some ((0, -1), mk D) := by
  rw [r_35]
  obtain ⟨v, e, -⟩ := it_inv (fun i (s : PV) => qE 35 2 [(3, 11), (3, 98), (0, i), s] [] (mk D)) (fun _ _ => True) (show (0 : Int) ≤ 8 by decide) (fun i s g0 g1 _ => by
    obtain ⟨v', e⟩ := (sp_35s hN hS g0 (by omega) s).2 (h i g0 g1)
    exact ⟨v', e, trivial⟩) (s0 := (9, 0)) trivial
  refine e.trans ?_
  show qE 35 2 [(3, 11), (3, 98), (0, 8), v] [] (mk D) = _
  rw [e_35_2, if_neg (by decide)]
/-- the reference's own facts of its newcomers -/
def rfN (D : Mem) : Prop := (0 ≤ D 106 21 ∧ D 106 21 ≤ 8) ∧ 0 ≤ D 106 12 ∧ D 106 12 ≤ 10
theorem sq_185i {D : Mem} {c r : Int} (hQ : rfN D) (c0 : 0 ≤ c) (c1 : c < 8) : ((∀ i, 0 ≤ i → i < D 106 12 → D 118 (10 * c + i) = D 115 i) → ∃ x4, qE 185 34 [(3, 106), (0, r), (0, c), (0, 1), (0, 0)] [] (mk D) = qE 185 81 [(3, 106), (0, r), (0, c), (0, 1), (0, x4)] [] (mk D)) ∧ ((¬ ∀ i, 0 ≤ i → i < D 106 12 → D 118 (10 * c + i) = D 115 i) → ∃ x4, qE 185 34 [(3, 106), (0, r), (0, c), (0, 1), (0, 0)] [] (mk D) = qE 185 81 [(3, 106), (0, r), (0, c), (0, 0), (0, x4)] [] (mk D)) := by
  obtain ⟨_, s0, s1⟩ := hQ
  have e2 : w32 (10 * c) = 10 * c := w32_id (by omega) (by omega)
  have step : ∀ i, 0 ≤ i → i < D 106 12 → D 118 (10 * c + i) = D 115 i → qE 185 34 [(3, 106), (0, r), (0, c), (0, 1), (0, i)] [] (mk D) = qE 185 34 [(3, 106), (0, r), (0, c), (0, 1), (0, i + 1)] [] (mk D) := fun i i0 i1 h => by
    have e1 : w32 (i + 1) = i + 1 := w32_id (by omega) (by omega)
    have e3 : w32 (10 * c + i) = 10 * c + i := w32_id (by omega) (by omega)
    rw [e_185_34, if_pos i1, if_neg (by decide), e2, e3, if_pos (by omega), if_pos (by omega), if_pos h, e1]
  constructor
  · intro h
    refine ⟨D 106 12, ?_⟩
    rw [it_up (fun i => qE 185 34 [(3, 106), (0, r), (0, c), (0, 1), (0, i)] [] (mk D)) s0 (fun i i0 i1 => step i i0 i1 (h i i0 i1))]
    show qE 185 34 [(3, 106), (0, r), (0, c), (0, 1), (0, D 106 12)] [] (mk D) = _
    rw [e_185_34, if_neg (by omega)]
  · intro h
    obtain ⟨p, p0, p1, p2, p3⟩ := first_not _ h
    have e1 : w32 (p + 1) = p + 1 := w32_id (by omega) (by omega)
    have e3 : w32 (10 * c + p) = 10 * c + p := w32_id (by omega) (by omega)
    refine ⟨p + 1, ?_⟩
    rw [it_up (fun i => qE 185 34 [(3, 106), (0, r), (0, c), (0, 1), (0, i)] [] (mk D)) p0 (fun i i0 i1 => step i i0 (by omega) (p3 i i0 i1))]
    show qE 185 34 [(3, 106), (0, r), (0, c), (0, 1), (0, p)] [] (mk D) = _
    rw [e_185_34, if_pos p1, if_neg (by decide), e2, e3, if_pos (by omega), if_pos (by omega), if_neg p2, e1, e_185_34]
    by_cases c : p + 1 < D 106 12
    · rw [if_pos c, if_pos rfl]
    · rw [if_neg c]
theorem sq_185s {D : Mem} {c r : Int} (hQ : rfN D) (c0 : 0 ≤ c) (c1 : c < D 106 21) (v3 v4 : PV) : (cm D c → ∃ u3 u4, qE 185 4 [(3, 106), (0, r), (0, c), v3, v4] [] (mk D) = qE 185 4 [(3, 106), (0, c), (0, c + 1), u3, u4] [] (mk D)) ∧ (¬ cm D c → ∃ u3 u4, qE 185 4 [(3, 106), (0, r), (0, c), v3, v4] [] (mk D) = qE 185 4 [(3, 106), (0, r), (0, c + 1), u3, u4] [] (mk D)) := by
  have hQ' := hQ
  obtain ⟨hn, s0, s1⟩ := hQ
  have e1 : w32 (c + 1) = c + 1 := w32_id (by omega) (by omega)
  have g8 : 0 ≤ c ∧ c < 8 := by omega
  have hi := sq_185i (r := r) hQ' c0 g8.2
  constructor
  · intro m
    obtain ⟨x4, hi⟩ := hi.1 m.2
    refine ⟨(0, 1), (0, x4), ?_⟩
    rw [e_185_4, if_pos c1, if_pos g8, if_pos m.1, hi, e_185_81, if_neg (by decide), e1]
  · intro m
    rw [e_185_4, if_pos c1, if_pos g8]
    by_cases g : D 119 c = D 106 12
    · obtain ⟨x4, hi⟩ := hi.2 (fun q => m ⟨g, q⟩)
      refine ⟨(0, 0), (0, x4), ?_⟩
      rw [if_pos g, hi, e_185_81, if_pos rfl, e1]
    · refine ⟨(0, 0), (0, 0), ?_⟩
      rw [if_neg g, e_185_34]
      by_cases z : 0 < D 106 12
      · rw [if_pos z, if_pos rfl, e_185_81, if_pos rfl, e1]
      · rw [if_neg z, e_185_81, if_pos rfl, e1]
theorem sq_185h {D : Mem} {c : Int} (hQ : rfN D) (c0 : 0 ≤ c) (c1 : c < D 106 21) (m : cm D c) (hone : ∀ d, 0 ≤ d → d < D 106 21 → cm D d → d = c) : qR 185 [(3, 106)] (mk D) = some ((0, c), mk D) := by
  rw [r_185]
  obtain ⟨s, e, hI⟩ := it_inv (fun i (s : Int × PV × PV) => qE 185 4 [(3, 106), (0, s.1), (0, i), s.2.1, s.2.2] [] (mk D)) (fun i s => s.1 = if c < i then c else -1) (Int.le_trans c0 (Int.le_of_lt c1)) (fun i s g0 g1 hs => by
    by_cases q : i = c
    · subst q
      obtain ⟨u3, u4, e⟩ := (sq_185s (r := s.1) hQ g0 g1 s.2.1 s.2.2).1 m
      exact ⟨(i, u3, u4), e, by show i = _; rw [if_pos (by omega)]⟩
    · obtain ⟨u3, u4, e⟩ := (sq_185s (r := s.1) hQ g0 g1 s.2.1 s.2.2).2 (fun z => q (hone i g0 g1 z))
      refine ⟨(s.1, u3, u4), e, ?_⟩
      show s.1 = _
      rw [hs]
      by_cases d : c < i
      · rw [if_pos d, if_pos (by omega)]
      · rw [if_neg d, if_neg (by omega)]) (s0 := (-1, (9, 0), (9, 0))) (by show (-1 : Int) = _; rw [if_neg (by omega)])
  refine e.trans ?_
  show qE 185 4 [(3, 106), (0, s.1), (0, D 106 21), s.2.1, s.2.2] [] (mk D) = _
  rw [e_185_4, if_neg (by omega), hI, if_pos c1]
theorem sq_185n {D : Mem} (hQ : rfN D) (h : ∀ c, 0 ≤ c → c < D 106 21 → ¬ cm D c) : qR 185 [(3, 106)] (mk D) = some ((0, -1), mk D) := by
  rw [r_185]
  obtain ⟨s, e, -⟩ := it_inv (fun i (s : PV × PV) => qE 185 4 [(3, 106), (0, -1), (0, i), s.1, s.2] [] (mk D)) (fun _ _ => True) hQ.1.1 (fun i s g0 g1 _ => by
    obtain ⟨u3, u4, e⟩ := (sq_185s (r := -1) hQ g0 g1 s.1 s.2).2 (h i g0 g1)
    exact ⟨(u3, u4), e, trivial⟩) (s0 := ((9, 0), (9, 0))) trivial
  refine e.trans ?_
  show qE 185 4 [(3, 106), (0, -1), (0, D 106 21), s.1, s.2] [] (mk D) = _
  rw [e_185_4, if_neg (by omega)]
theorem rfN_of {D : Mem} {k : Int} (hN : RN0 D k) (hS : RSa D) : rfN D := ⟨⟨hN.2.1.1, hN.2.1.2.1⟩, hS.2.1, hS.2.2.1⟩
theorem no_cm {D : Mem} {k : Int} (hN : RN0 D k) (h : ∀ n, 0 ≤ n → n < 8 → ¬ nm D n) : ∀ c, 0 ≤ c → c < D 106 21 → ¬ cm D c := fun c c0 c1 q => by
  obtain ⟨_, n, n0, n1, hn, e⟩ := hN.2.2.2.1 c c0 c1
  exact h n n0 n1 ((nm_cm e hn).2 q)
theorem ca_newcomer {D : Mem} {k : Int} (hR : Rel D k) : CaseOK D k 117 190 [] := by
  have hN := hR.2.2.2.2.2
  have hS := hR.2.2.2.1.1
  rcases nm_or D with ⟨n, n0, n1, m⟩ | h
  · obtain ⟨_, _, _, c, c0, c1, ec⟩ := slot_c hN n0 n1 m.1
    have mc := (nm_cm ec m.1).1 m
    have hm := hN.2.1
    have g1 : ¬ n < 0 := by omega
    have g2 : ¬ c < 0 := by omega
    have g3 : 0 ≤ n ∧ n < 8 := by omega
    have g4 : 0 ≤ c ∧ c < 8 := by omega
    exact case_same (v := D 13 n) hR (by simp [r_117, r_36, sp_35h hN hS n0 n1 m, psh_0, e_36_5, e_117_11, g1, g3]) (by simp [r_190, sq_185h (rfN_of hN hS) c0 c1 mc (fun d d0 d1 q => cm_one hN d0 d1 c0 c1 q mc), psh_0, e_190_4, g2, g4, ec.2.1])
  · exact case_same (v := 0) hR (by simp [r_117, r_36, sp_35n hN hS h, psh_0, e_36_5, e_117_11]) (by simp [r_190, sq_185n (rfN_of hN hS) (no_cm hN h), psh_0, e_190_4])
