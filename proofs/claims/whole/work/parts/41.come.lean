/-! the longest unused one goes; a word comes -/
def lu (D : Mem) (r : Int) : Prop := thr D r ∧ ∀ v, thr D v → D 111 r < D 111 v ∨ (D 111 r = D 111 v ∧ r ≤ v)
theorem lu_one {D : Mem} {r s : Int} (h : lu D r) (g : lu D s) : r = s := by
  have a := h.2 s g.1
  have b := g.2 r h.1
  omega
theorem lu_step {D : Mem} {i r : Int} (ht : ∀ v, 0 ≤ v → v < D 106 6 → D 112 v = 0 ∨ D 112 v = 1) (i0 : 0 ≤ i) (i1 : i < D 106 6) (h : (r = -1 ∧ ∀ v, thr D v → ¬ v < i) ∨ (thr D r ∧ r < i ∧ ∀ v, thr D v → v < i → D 111 r < D 111 v ∨ (D 111 r = D 111 v ∧ r ≤ v))) :
    (D 112 i = 0 → (r = -1 ∧ ∀ v, thr D v → ¬ v < i + 1) ∨ (thr D r ∧ r < i + 1 ∧ ∀ v, thr D v → v < i + 1 → D 111 r < D 111 v ∨ (D 111 r = D 111 v ∧ r ≤ v))) ∧
    (D 112 i = 1 → (r = -1 ∨ D 111 i < D 111 r) → (i = -1 ∧ ∀ v, thr D v → ¬ v < i + 1) ∨ (thr D i ∧ i < i + 1 ∧ ∀ v, thr D v → v < i + 1 → D 111 i < D 111 v ∨ (D 111 i = D 111 v ∧ i ≤ v))) ∧
    (D 112 i = 1 → ¬ (r = -1 ∨ D 111 i < D 111 r) → (r = -1 ∧ ∀ v, thr D v → ¬ v < i + 1) ∨ (thr D r ∧ r < i + 1 ∧ ∀ v, thr D v → v < i + 1 → D 111 r < D 111 v ∨ (D 111 r = D 111 v ∧ r ≤ v))) := by
  refine ⟨fun z => ?_, fun z c => Or.inr ⟨⟨i0, i1, z⟩, by omega, fun v hv v1 => ?_⟩, fun z c => ?_⟩
  · rcases h with ⟨h1, h2⟩ | ⟨h1, h2, h3⟩
    · refine Or.inl ⟨h1, fun v hv v1 => ?_⟩
      by_cases e : v = i
      · have := hv.2.2; rw [e] at this; omega
      · exact h2 v hv (by omega)
    · refine Or.inr ⟨h1, by omega, fun v hv v1 => ?_⟩
      by_cases e : v = i
      · have := hv.2.2; rw [e] at this; omega
      · exact h3 v hv (by omega)
  · by_cases e : v = i
    · rw [e]; exact Or.inr ⟨rfl, by omega⟩
    · rcases h with ⟨h1, h2⟩ | ⟨h1, h2, h3⟩
      · exact absurd (by omega) (h2 v hv)
      · have := h3 v hv (by omega)
        have := h1.1
        omega
  · rcases h with ⟨h1, h2⟩ | ⟨h1, h2, h3⟩
    · exact absurd (Or.inl h1) c
    · refine Or.inr ⟨h1, by omega, fun v hv v1 => ?_⟩
      by_cases e : v = i
      · rw [e]; omega
      · exact h3 v hv (by omega)
theorem lu_end {D : Mem} {r : Int} (hs : ∃ v, thr D v) (h : (r = -1 ∧ ∀ v, thr D v → ¬ v < D 106 6) ∨ (thr D r ∧ r < D 106 6 ∧ ∀ v, thr D v → v < D 106 6 → D 111 r < D 111 v ∨ (D 111 r = D 111 v ∧ r ≤ v))) : lu D r := by
  rcases h with ⟨h1, h2⟩ | ⟨h1, h2, h3⟩
  · obtain ⟨v, hv⟩ := hs
    exact absurd hv.2.1 (h2 v hv)
  · exact ⟨h1, fun v hv => h3 v hv hv.2.1⟩
theorem sp_11 {D : Mem} {k : Int} (hW : RW D k) (hk : k ≤ 1000) (hs : ∃ v, thr D v) : ∃ r, qR 11 [(3, 5)] (mk D) = some ((0, r), mk D) ∧ lu D r := by
  have hn := hW.1
  obtain ⟨⟨r, u, v4⟩, e, hI, hu⟩ := it_inv (fun i (s : Int × Int × PV) => qE 11 7 [(3, 5), (0, s.1), (0, s.2.1), (0, i), s.2.2] [] (mk D)) (fun i s => ((s.1 = -1 ∧ ∀ v, thr D v → ¬ v < i) ∨ (thr D s.1 ∧ s.1 < i ∧ ∀ v, thr D v → v < i → D 111 s.1 < D 111 v ∨ (D 111 s.1 = D 111 v ∧ s.1 ≤ v))) ∧ s.2.1 = if s.1 < 0 then 2147483647 else D 111 s.1) (a := 0) (n := D 106 6) hn.2.1
    (fun i s i0 i1 ⟨hI, hu⟩ => by
      obtain ⟨r, u, v4⟩ := s
      replace hI : (r = -1 ∧ ∀ v, thr D v → ¬ v < i) ∨ (thr D r ∧ r < i ∧ ∀ v, thr D v → v < i → D 111 r < D 111 v ∨ (D 111 r = D 111 v ∧ r ≤ v)) := hI
      replace hu : u = if r < 0 then 2147483647 else D 111 r := hu
      have i5 : 0 ≤ i ∧ i < D 5 2 := by omega
      have i80 : 0 ≤ i ∧ i < 80 := by omega
      have e1 : w32 (i + 1) = i + 1 := w32_id (by omega) (by omega)
      have hg : ¬ (131 + 3 * i = 0) := by omega
      have hkd := mk_wk i5.1 i5.2
      have hw6 := mk_words i5.1 i5.2
      obtain ⟨t1, t2⟩ := thr_cl hW i0 i1
      obtain ⟨_, _, _, ⟨u1, u2⟩, _⟩ := hW.2.2.1 i i0 i1
      have h8 := hW.2.1
      have e3 : mk D (131 + 3 * i) 3 = D 112 i := by rw [mk_wf i0 (by decide)]; exact t1
      have e4 : mk D (131 + 3 * i) 2 = D 111 i := by rw [mk_wf i0 (by decide)]; exact u1
      obtain ⟨L0, L1, L2⟩ := lu_step (fun v a b => (thr_cl hW a b).2) i0 i1 hI
      rcases t2 with t2 | t2
      · refine ⟨(r, u, (3, 131 + 3 * i)), ?_, L0 t2, hu⟩
        show qE 11 7 [(3, 5), (0, r), (0, u), (0, i), v4] [] (mk D) = qE 11 7 [(3, 5), (0, r), (0, u), (0, i + 1), (3, 131 + 3 * i)] [] (mk D)
        rw [e_11_7, if_pos i5.2, if_pos i80, hw6, if_neg hg, if_pos hkd, e3, if_pos t2, e1]
      · by_cases c : r = -1 ∨ D 111 i < D 111 r
        · refine ⟨(i, D 111 i, (3, 131 + 3 * i)), ?_, L1 t2 c, (if_neg (by show ¬ i < 0; omega)).symm⟩
          show qE 11 7 [(3, 5), (0, r), (0, u), (0, i), v4] [] (mk D) = qE 11 7 [(3, 5), (0, i), (0, D 111 i), (0, i + 1), (3, 131 + 3 * i)] [] (mk D)
          have cu : D 111 i < u := by
            rw [hu]
            by_cases cr : r < 0
            · rw [if_pos cr]; omega
            · rw [if_neg cr]; omega
          rw [e_11_7, if_pos i5.2, if_pos i80, hw6, if_neg hg, if_pos hkd, e3, if_neg (by omega), if_pos hkd, e4, if_pos cu, if_pos hkd, e1]
        · refine ⟨(r, u, (3, 131 + 3 * i)), ?_, L2 t2 c, hu⟩
          show qE 11 7 [(3, 5), (0, r), (0, u), (0, i), v4] [] (mk D) = qE 11 7 [(3, 5), (0, r), (0, u), (0, i + 1), (3, 131 + 3 * i)] [] (mk D)
          have r0 : ¬ r < 0 := by
            rcases hI with q | q
            · exact absurd (Or.inl q.1) c
            · have := q.1.1; omega
          have cu : ¬ D 111 i < u := by
            rw [hu, if_neg r0]; exact fun q => c (Or.inr q)
          rw [e_11_7, if_pos i5.2, if_pos i80, hw6, if_neg hg, if_pos hkd, e3, if_neg (by omega), if_pos hkd, e4, if_neg cu, e1])
    (s0 := (-1, 2147483647, (9, 0))) ⟨Or.inl ⟨rfl, fun v hv => by have := hv.1; omega⟩, rfl⟩
  refine ⟨r, ?_, lu_end hs hI⟩
  rw [r_11]
  refine e.trans ?_
  show qE 11 7 [(3, 5), (0, r), (0, u), (0, D 106 6), v4] [] (mk D) = _
  rw [e_11_7, if_neg (by omega)]
theorem some_thr {D : Mem} {k : Int} (hW : RW D k) (h : 0 < D 5 3) : ∃ v, thr D v := by
  apply Classical.byContradiction
  intro hno
  have := S_zero (f := D 112) (n := D 106 6) (fun j j0 j1 => by
    rcases (thr_cl hW j0 j1).2 with t | t
    · exact t
    · exact absurd ⟨j, j0, j1, t⟩ hno)
  have := hW.2.2.2.1.1
  omega
theorem sp_10 {D : Mem} {k n : Int} {f : Int → Int → Int} (hW : RW D k) (hL : LPr D n f) (hn8 : n ≤ 80) (hk : k ≤ 1000) (hS : RSa D) (hlt : D 106 6 < 80) (c : Int) : ∃ C, qR 10 [(3, 5), (3, 98), (0, c)] (mk D) = some ((0, D 106 6), mk (entE C c)) ∧ C 5 2 = D 106 6 ∧ ((D 5 3 < 40 ∧ C = D) ∨ (D 5 3 = 40 ∧ ∃ r, lu D r ∧ LPr C n (fun a b => if a = r ∨ b = r then 0 else f a b) ∧ C (131 + 3 * r) 3 = 0 ∧ C 5 3 = D 5 3 - 1 ∧ ∀ y i, ¬ (7 ≤ y ∧ y ≤ 10) → ¬ (y = 131 + 3 * r ∧ i = 3) → ¬ (y = 5 ∧ i = 3) → C y i = D y i)) := by
  have hn := hW.1
  have h4 := hW.2.1
  obtain ⟨h53, h40⟩ := hW.2.2.2.1
  obtain ⟨s1, s2, s3, s4, s5⟩ := hS
  have b53 := S_01 (f := D 112) (n := D 106 6) hn.2.1 (fun j j0 j1 => by have := (thr_cl hW j0 j1).2; omega)
  have k5 : ∀ E : Mem, mk E (-5) 0 = 10 := fun E => rfl
  have m2 : mk D 5 2 = D 5 2 := rfl
  have m3 : mk D 5 3 = D 5 3 := rfl
  by_cases cc : D 5 3 < 40
  · refine ⟨D, ?_, hn.1, Or.inl ⟨cc, rfl⟩⟩
    rw [r_10, k5, if_pos rfl, m2, if_pos (by omega), if_pos rfl, m3, if_pos cc, sp_10e (by omega) (by omega) (by omega) (by omega) (by omega) (by omega), hn.1]
  · have e40 : D 5 3 = 40 := by omega
    obtain ⟨r, q1, q2⟩ := sp_11 hW hk (some_thr hW (by omega))
    obtain ⟨C, p1, p2, p3, p4, p5⟩ := sp_12 hW hL hn8 q2.1
    have f2 : C 5 2 = D 5 2 := p5 _ _ (by omega) (by have := q2.1.1; omega) (by omega)
    have f4 : C 5 4 = D 5 4 := p5 _ _ (by omega) (by have := q2.1.1; omega) (by omega)
    have f98 : C 98 1 = D 98 1 := p5 _ _ (by omega) (by have := q2.1.1; omega) (by omega)
    refine ⟨C, ?_, by omega, Or.inr ⟨e40, r, q2, p2, p3, p4, p5⟩⟩
    rw [r_10, k5, if_pos rfl, m2, if_pos (by omega), if_pos rfl, m3, if_neg cc, if_pos rfl, q1]
    simp only [Option.bind_some, psh_0]
    rw [e_10_25, k5, if_pos rfl, p1]
    simp only [Option.bind_some, psh_9]
    rw [sp_10e (by omega) (by omega) (by omega) (by omega) (by omega) (by omega), f2, hn.1]
/-- the reference's own view of its words -/
def sameR (D E : Mem) : Prop := E 106 6 = D 106 6 ∧ E 112 = D 112 ∧ E 111 = D 111 ∧ E 106 8 = D 106 8 ∧ E 106 12 = D 106 12 ∧ E 115 = D 115
theorem sr_152 {D E : Mem} {k : Int} (hW : RW D k) (hE : sameR D E) : qR 152 [(3, 106)] (mk E) = some ((0, S (D 112) (D 106 6)), mk E) := by
  have hn := hW.1
  obtain ⟨E6, E112, _⟩ := hE
  rw [r_152]
  obtain ⟨s, e, hI⟩ := it_inv (fun i (s : Int) => qE 152 4 [(3, 106), (0, s), (0, i)] [] (mk E)) (fun i s => s = S (D 112) i ∧ 0 ≤ s ∧ s ≤ i) hn.2.1 (fun i s g0 g1 hs => by
    have t2 := (thr_cl hW g0 g1).2
    have e3 : w32 (i + 1) = i + 1 := w32_id (by omega) (by omega)
    have e4 : w32 (s + 0) = s + 0 := w32_id (by omega) (by omega)
    have e5 : w32 (s + 1) = s + 1 := w32_id (by omega) (by omega)
    refine ⟨s + D 112 i, ?_, ?_, by omega⟩
    · show qE 152 4 [(3, 106), (0, s), (0, i)] [] (mk E) = qE 152 4 [(3, 106), (0, s + D 112 i), (0, i + 1)] [] (mk E)
      rw [e_152_4, E6, E112, if_pos g1, if_pos (by omega), e3, e4, e5]
      rcases t2 with t | t
      · rw [if_pos t, t]
      · rw [if_neg (by omega), t]
    · rw [S_succ _ g0, hs.1]) (s0 := 0) ⟨rfl, by decide, by decide⟩
  refine e.trans ?_
  show qE 152 4 [(3, 106), (0, s), (0, D 106 6)] [] (mk E) = _
  rw [e_152_4, E6, if_neg (by omega), hI.1]
theorem sr_153l {D E : Mem} {k : Int} (hW : RW D k) (hE : sameR D E) (hs : ∃ v, thr D v) (c : Int) : ∃ r, lu D r ∧ qE 153 13 [(3, 106), (0, c), (0, -1), (0, 0)] [] (mk E) = (qR 151 [(3, 106), (0, r)] (mk E)).bind fun w => qE 153 66 [(3, 106), (0, c), (0, r), (0, D 106 6)] (psh w.1 []) w.2 := by
  have hn := hW.1
  obtain ⟨E6, E112, E111, _⟩ := hE
  obtain ⟨r, e, hI⟩ := it_inv (fun i (r : Int) => qE 153 13 [(3, 106), (0, c), (0, r), (0, i)] [] (mk E)) (fun i r => (r = -1 ∧ ∀ v, thr D v → ¬ v < i) ∨ (thr D r ∧ r < i ∧ ∀ v, thr D v → v < i → D 111 r < D 111 v ∨ (D 111 r = D 111 v ∧ r ≤ v))) (a := 0) (n := D 106 6) hn.2.1
    (fun i r i0 i1 hI => by
      have i80 : 0 ≤ i ∧ i < 80 := by omega
      have e1 : w32 (i + 1) = i + 1 := w32_id (by omega) (by omega)
      have t2 := (thr_cl hW i0 i1).2
      obtain ⟨L0, L1, L2⟩ := lu_step (fun v a b => (thr_cl hW a b).2) i0 i1 hI
      rcases t2 with t2 | t2
      · refine ⟨r, ?_, L0 t2⟩
        show qE 153 13 [(3, 106), (0, c), (0, r), (0, i)] [] (mk E) = qE 153 13 [(3, 106), (0, c), (0, r), (0, i + 1)] [] (mk E)
        rw [e_153_13, E6, E112, if_pos i1, if_pos i80, if_pos t2, e1]
      · by_cases c1 : r < 0
        · refine ⟨i, ?_, L1 t2 (Or.inl (by rcases hI with q | q; exact q.1; have := q.1.1; omega))⟩
          show qE 153 13 [(3, 106), (0, c), (0, r), (0, i)] [] (mk E) = qE 153 13 [(3, 106), (0, c), (0, i), (0, i + 1)] [] (mk E)
          rw [e_153_13, E6, E112, if_pos i1, if_pos i80, if_neg (by omega), if_pos c1, e1]
        · have r80 : 0 ≤ r ∧ r < 80 := by
            rcases hI with q | q
            · have := q.1; omega
            · have := q.2.1; omega
          by_cases c2 : D 111 i < D 111 r
          · refine ⟨i, ?_, L1 t2 (Or.inr c2)⟩
            show qE 153 13 [(3, 106), (0, c), (0, r), (0, i)] [] (mk E) = qE 153 13 [(3, 106), (0, c), (0, i), (0, i + 1)] [] (mk E)
            rw [e_153_13, E6, E112, E111, if_pos i1, if_pos i80, if_neg (by omega), if_neg c1, if_pos i80, if_pos r80, if_pos c2, e1]
          · refine ⟨r, ?_, L2 t2 (by omega)⟩
            show qE 153 13 [(3, 106), (0, c), (0, r), (0, i)] [] (mk E) = qE 153 13 [(3, 106), (0, c), (0, r), (0, i + 1)] [] (mk E)
            rw [e_153_13, E6, E112, E111, if_pos i1, if_pos i80, if_neg (by omega), if_neg c1, if_pos i80, if_pos r80, if_neg c2, e1])
    (s0 := -1) (Or.inl ⟨rfl, fun v hv => by have := hv.1; omega⟩)
  refine ⟨r, lu_end hs hI, e.trans ?_⟩
  show qE 153 13 [(3, 106), (0, c), (0, r), (0, D 106 6)] [] (mk E) = _
  rw [e_153_13, E6, if_neg (by omega)]
theorem sr_153e {F : Mem} {n s k : Int} (hn : F 106 6 = n) (n0 : 0 ≤ n) (n1 : n < 80) (hs : F 106 12 = s) (s0 : 0 ≤ s) (s1 : s ≤ 10) (hk : F 106 8 = k) (k0 : 0 ≤ k) (k1 : k < 1000000) (c : Int) (v2 v3 : PV) : ∃ G, qE 153 66 [(3, 106), (0, c), v2, v3] [] (mk F) = some ((0, n), mk G) ∧ G 109 n = s ∧ G 110 n = c ∧ G 111 n = k + 1 ∧ G 112 n = 1 ∧ G 106 6 = n + 1 ∧ G 106 8 = k + 1 ∧ (∀ i, 0 ≤ i → i < s → G 108 (10 * n + i) = F 115 i) ∧ ∀ y i, ¬ (109 ≤ y ∧ y ≤ 112 ∧ i = n) → ¬ (y = 106 ∧ (i = 6 ∨ i = 8)) → ¬ (y = 108 ∧ 10 * n ≤ i) → G y i = F y i := by
  obtain ⟨H, e, h2, h3⟩ := it_inv (fun i (E : Mem) => qE 153 68 [(3, 106), (0, c), (0, i), v3] [] (mk E)) (fun i E => (∀ j, 0 ≤ j → j < i → E 108 (10 * n + j) = F 115 j) ∧ ∀ y j, ¬ (y = 108 ∧ 10 * n ≤ j) → E y j = F y j) (a := 0) (n := s) s0
    (fun i E i0 i1 ⟨h2, h3⟩ => by
      have e1 : w32 (i + 1) = i + 1 := w32_id (by omega) (by omega)
      have e2 : w32 (10 * n) = 10 * n := w32_id (by omega) (by omega)
      have e3 : w32 (10 * n + i) = 10 * n + i := w32_id (by omega) (by omega)
      refine ⟨mU E 108 (10 * n + i) (F 115 i), ?_, fun j j0 j1 => ?_, fun y j hy => ?_⟩
      · show qE 153 68 [(3, 106), (0, c), (0, i), v3] [] (mk E) = qE 153 68 [(3, 106), (0, c), (0, i + 1), v3] [] (mk (mU E 108 (10 * n + i) (F 115 i)))
        rw [e_153_68, h3 106 12 (by omega), hs, if_pos i1, if_pos (by omega), h3 106 6 (by omega), hn, e2, e3, if_pos (by omega), e1, h3 115 i (by omega)]
      · by_cases cj : j = i
        · rw [cj, mU_s]
        · rw [mU_other (by omega)]; exact h2 j j0 (by omega)
      · rw [mU_other (by omega)]; exact h3 y j hy)
    (s0 := F) ⟨fun j j0 j1 => by omega, fun _ _ _ => rfl⟩
  have H6 : H 106 6 = n := by rw [h3 _ _ (by omega)]; exact hn
  have H8 : H 106 8 = k := by rw [h3 _ _ (by omega)]; exact hk
  have H12 : H 106 12 = s := by rw [h3 _ _ (by omega)]; exact hs
  have a1 : ∀ (E : Mem) i v j, mU E 109 i v 106 j = E 106 j := fun E i v j => mU_r (by decide)
  have a2 : ∀ (E : Mem) i v j, mU E 110 i v 106 j = E 106 j := fun E i v j => mU_r (by decide)
  have a3 : ∀ (E : Mem) i v j, mU E 111 i v 106 j = E 106 j := fun E i v j => mU_r (by decide)
  have a4 : ∀ (E : Mem) i v j, mU E 112 i v 106 j = E 106 j := fun E i v j => mU_r (by decide)
  have a5 : ∀ (E : Mem) v, mU E 106 8 v 106 6 = E 106 6 := fun E v => mU_other (by decide)
  have a6 : ∀ (E : Mem) v, mU E 106 8 v 106 8 = v := fun E v => mU_s
  have a7 : ∀ (E : Mem) v, mU E 106 6 v 106 6 = v := fun E v => mU_s
  have f1 : w32 (n + 1) = n + 1 := w32_id (by omega) (by omega)
  have f2 : w32 (k + 1) = k + 1 := w32_id (by omega) (by omega)
  have f3 : w32 (n + 1 - 1) = n := by rw [w32_id (by omega) (by omega)]; omega
  have g80 : 0 ≤ n ∧ n < 80 := ⟨n0, n1⟩
  refine ⟨mU (mU (mU (mU (mU (mU H 109 n s) 110 n c) 106 8 (k + 1)) 111 n (k + 1)) 112 n 1) 106 6 (n + 1), ?_, ?_, ?_, ?_, ?_, mU_s, ?_, fun i i0 i1 => ?_, fun y i q1 q2 q3 => ?_⟩
  · rw [e_153_66]
    refine e.trans ?_
    show qE 153 68 [(3, 106), (0, c), (0, s), v3] [] (mk H) = _
    rw [e_153_68, H12, if_neg (by omega)]
    simp only [a1, a2, a3, a4, a5, a6, a7, H6, H8, f1, f2, f3, if_pos g80]
  · rw [mU_r (by decide), mU_r (by decide), mU_r (by decide), mU_r (by decide), mU_r (by decide), mU_s]
  · rw [mU_r (by decide), mU_r (by decide), mU_r (by decide), mU_r (by decide), mU_s]
  · rw [mU_r (by decide), mU_r (by decide), mU_s]
  · rw [mU_r (by decide), mU_s]
  · rw [mU_other (by decide), mU_r (by decide), mU_r (by decide), mU_s]
  · rw [mU_r (by decide), mU_r (by decide), mU_r (by decide), mU_r (by decide), mU_r (by decide), mU_r (by decide)]; exact h2 i i0 i1
  · rw [mU_other (by omega), mU_other (by omega), mU_other (by omega), mU_other (by omega), mU_other (by omega), mU_other (by omega)]; exact h3 y i q3
