/-! the price that a word asks of a row of keys -/
noncomputable def askF (pr : Int → Int) (f : Int → Int) (m : Int) (g : Int → Int) (n kind limit : Int) : Int :=
  if kind = 3 then @ite Int (0 < m ∧ pre f m g n) (Classical.propDecidable _) 0 (-1)
  else @ite Int (m = n ∧ ∀ i, 0 ≤ i → i < m → f i = g i) (Classical.propDecidable _) 0
    (@ite Int (slB f m g n) (Classical.propDecidable _) (if pr 0 ≤ limit then pr 0 else -1)
      (@ite Int (slL f m g n) (Classical.propDecidable _) (if pr 1 ≤ limit then pr 1 else -1)
        (@ite Int (slT f m g n) (Classical.propDecidable _) (if pr 2 ≤ limit then pr 2 else -1) (-1))))
theorem slB_cg {f f' g g' : Int → Int} {m n : Int} (hf : ∀ i, 0 ≤ i → i < m → f i = f' i) (hg : ∀ i, 0 ≤ i → i < n → g i = g' i) (h : slB f m g n) : slB f' m g' n := by
  obtain ⟨e, p, p0, p1, p2, p3⟩ := h
  refine ⟨e, p, p0, p1, by rw [← hf p p0 p1, ← hg p p0 (by omega)]; exact p2, fun i i0 i1 ne => ?_⟩
  rw [← hf i i0 i1, ← hg i i0 (by omega)]; exact p3 i i0 i1 ne
theorem slL_cg {f f' g g' : Int → Int} {m n : Int} (hf : ∀ i, 0 ≤ i → i < m → f i = f' i) (hg : ∀ i, 0 ≤ i → i < n → g i = g' i) (h : slL f m g n) : slL f' m g' n := by
  obtain ⟨e, d, d0, d1, d2⟩ := h
  refine ⟨e, d, d0, d1, fun i i0 i1 => ?_⟩
  rw [← hf i i0 i1, d2 i i0 i1]
  unfold dropI
  by_cases q : i < d
  · rw [if_pos q, if_pos q]; exact hg i i0 (by omega)
  · rw [if_neg q, if_neg q]; exact hg (i + 1) (by omega) (by omega)
theorem slT_cg {f f' g g' : Int → Int} {m n : Int} (hf : ∀ i, 0 ≤ i → i < m → f i = f' i) (hg : ∀ i, 0 ≤ i → i < n → g i = g' i) (h : slT f m g n) : slT f' m g' n := by
  obtain ⟨e, d, d0, d1, d2, d3⟩ := h
  refine ⟨e, d, d0, d1, by rw [← hf d (by omega) d1, ← hf (d - 1) (by omega) (by omega)]; exact d2, fun i i0 i1 => ?_⟩
  rw [← hg i i0 i1, ← d3 i i0 i1]
  unfold dropI
  by_cases q : i < d
  · rw [if_pos q, if_pos q]; exact (hf i i0 (by omega)).symm
  · rw [if_neg q, if_neg q]; exact (hf (i + 1) (by omega) (by omega)).symm
theorem askF_ge {pr f g : Int → Int} {m n kind limit : Int} (hp : ∀ i, 0 ≤ i → i < 3 → 0 ≤ pr i ∧ pr i ≤ 100000) : -1 ≤ askF pr f m g n kind limit ∧ askF pr f m g n kind limit ≤ 100000 := by
  have h0 := hp 0 (by decide) (by decide)
  have h1 := hp 1 (by decide) (by decide)
  have h2 := hp 2 (by decide) (by decide)
  unfold askF
  repeat' split
  all_goals omega
theorem kf3 (D : Mem) (w : Int) : kf D w 3 = kf D w 1 ∧ kn D w 3 = kn D w 1 := by
  unfold kf kn; rw [if_neg (by decide), if_neg (by decide), if_neg (by decide), if_neg (by decide)]; exact ⟨rfl, rfl⟩
theorem sq_177 {D : Mem} {w kind limit m : Int} {f : Int → Int} (hR : rOK D) (w0 : 0 ≤ w) (w1 : w < D 106 6) (ht : D 112 w = 1) (hk : kind = 1 ∨ kind = 2 ∨ kind = 3) (hm : D 106 27 = m) (m0 : 0 ≤ m) (m1 : m ≤ 12) (hf : ∀ i, 0 ≤ i → i < m → D 124 i = f i) (hok : keysOK f m) : ∃ E, qR 177 [(3, 106), (0, w), (0, kind), (0, limit)] (mk D) = some ((0, askF (D 114) f m (kf D w kind) (kn D w kind) kind limit), mk E) ∧ ∀ y i, y ≠ 123 → ¬ (y = 106 ∧ i = 25) → E y i = D y i := by
  have hn := hR.1
  have hp := hR.2.2.2.2.2.2.2.1
  have g80 : 0 ≤ w ∧ w < 80 := by omega
  obtain ⟨E, e1, e2, e3, e4⟩ := sq_169 hR w0 w1 (if kind = 3 then 1 else kind)
  have kk : kf D w (if kind = 3 then 1 else kind) = kf D w kind ∧ kn D w (if kind = 3 then 1 else kind) = kn D w kind := by
    by_cases c : kind = 3
    · rw [if_pos c, c]; exact ⟨(kf3 D w).1.symm, (kf3 D w).2.symm⟩
    · rw [if_neg c]; exact ⟨rfl, rfl⟩
  rw [kk.2] at e2 e3
  rw [kk.1] at e3
  obtain ⟨gok, n0, n1⟩ := kf_ok hR w0 w1 kind
  obtain ⟨g, hg⟩ : ∃ g, g = kf D w kind := ⟨_, rfl⟩
  obtain ⟨n, hn'⟩ : ∃ n, n = kn D w kind := ⟨_, rfl⟩
  rw [← hg] at e3 gok
  rw [← hn'] at e2 e3 gok n0 n1
  rw [← hg, ← hn']
  have E27 : E 106 27 = m := by rw [e4 _ _ (by decide) (by omega)]; exact hm
  have E124 : ∀ i, 0 ≤ i → i < m → E 124 i = f i := fun i i0 i1 => by rw [e4 _ _ (by decide) (by omega)]; exact hf i i0 i1
  have fok : keysOK (E 124) m := fun i i0 i1 => by rw [E124 i i0 i1]; exact hok i i0 i1
  have gok' : keysOK (E 123) n := fun i i0 i1 => by rw [e3 i i0 i1]; exact gok i i0 i1
  have E114 : ∀ i, E 114 i = D 114 i := fun i => e4 _ _ (by decide) (by omega)
  have hd : qR 173 [(3, 106), (0, w), (0, kind)] (mk D) = qE 173 15 [(3, 106), (0, w), (0, kind)] [] (mk E) := by
    rw [r_173]
    by_cases c : kind = 3
    · rw [if_pos c]; rw [if_pos c] at e1; rw [e1]; simp only [Option.bind_some, psh_9]
    · rw [if_neg c]; rw [if_neg c] at e1; rw [e1]; simp only [Option.bind_some, psh_9]
  have h177 : ∀ v, qE 173 15 [(3, 106), (0, w), (0, kind)] [] (mk E) = some ((0, v), mk E) → qR 177 [(3, 106), (0, w), (0, kind), (0, limit)] (mk D) = qE 177 17 [(3, 106), (0, w), (0, kind), (0, limit), (9, 0), (9, 0), (9, 0)] [(0, v)] (mk E) := fun v hv => by
    rw [r_177, if_pos g80, if_neg (by omega), hd, hv]
    simp only [Option.bind_some, psh_0]
  have lk : ∀ k, k = m → m ≤ n → ((∀ i, 0 ≤ i → i < m → f i = g i) → qR 172 [(3, 106), (0, 0), (0, 0), (0, k)] (mk E) = some ((0, 1), mk E)) ∧ ((¬ ∀ i, 0 ≤ i → i < m → f i = g i) → qR 172 [(3, 106), (0, 0), (0, 0), (0, k)] (mk E) = some ((0, 0), mk E)) := fun k hk mn => by
    subst hk
    have eqv : (∀ t, 0 ≤ t → t < k → E 124 (0 + t) = E 123 (0 + t)) ↔ ∀ i, 0 ≤ i → i < k → f i = g i := by
      constructor
      · intro h i i0 i1
        have := h i i0 i1
        rw [Int.zero_add, E124 i i0 i1, e3 i i0 (by omega)] at this
        exact this
      · intro h i i0 i1
        rw [Int.zero_add, E124 i i0 i1, e3 i i0 (by omega)]
        exact h i i0 i1
    have := sq_172 E (a := 0) (b := 0) (n := k) (by omega) (by omega) (by omega) (by omega) (by omega) (by omega)
    exact ⟨fun h => this.1 (eqv.2 h), fun h => this.2 (fun q => h (eqv.1 q))⟩
  refine ⟨E, ?_, e4⟩
  by_cases c3 : kind = 3
  · unfold askF
    rw [if_pos c3]
    have main : ∀ v, qE 173 15 [(3, 106), (0, w), (0, kind)] [] (mk E) = some ((0, v), mk E) → qR 177 [(3, 106), (0, w), (0, kind), (0, limit)] (mk D) = if v = 0 then some ((0, -1), mk E) else some ((0, 0), mk E) := fun v hv => by
      rw [h177 v hv, e_177_17, if_pos c3]
    by_cases z : 0 < m
    · by_cases mn : m ≤ n
      · by_cases h : ∀ i, 0 ≤ i → i < m → f i = g i
        · rw [if_pos ⟨z, mn, h⟩, main 1 ?_, if_neg (by decide)]
          rw [e_173_15, if_pos c3, E27, if_neg (by omega), e2, if_pos mn, (lk m rfl mn).1 h]
          simp only [Option.bind_some, psh_0]
          rw [e_173_48, if_neg (by decide)]
        · rw [if_neg (fun q => h q.2.2), main 0 ?_, if_pos rfl]
          rw [e_173_15, if_pos c3, E27, if_neg (by omega), e2, if_pos mn, (lk m rfl mn).2 h]
          simp only [Option.bind_some, psh_0]
          rw [e_173_48, if_pos rfl]
      · rw [if_neg (fun q => mn q.2.1), main 0 ?_, if_pos rfl]
        rw [e_173_15, if_pos c3, E27, if_neg (by omega), e2, if_neg mn]
    · rw [if_neg (fun q => z q.1), main 0 ?_, if_pos rfl]
      rw [e_173_15, if_pos c3, E27, if_pos (by omega)]
  · unfold askF
    rw [if_neg c3]
    by_cases he : m = n ∧ ∀ i, 0 ≤ i → i < m → f i = g i
    · rw [if_pos he, h177 1 ?_, e_177_17, if_neg (by decide)]
      rw [e_173_15, if_neg c3, E27, e2, if_pos he.1, (lk m rfl (by omega)).1 he.2]
      simp only [Option.bind_some, psh_0]
      rw [e_173_78, if_neg (by decide)]
    · have m0' : qE 173 15 [(3, 106), (0, w), (0, kind)] [] (mk E) = some ((0, 0), mk E) := by
        rw [e_173_15, if_neg c3, E27, e2]
        by_cases q : m = n
        · rw [if_pos q, (lk m rfl (by omega)).2 (fun z => he ⟨q, z⟩)]
          simp only [Option.bind_some, psh_0]
          rw [e_173_78, if_pos rfl]
        · rw [if_neg q]
      rw [if_neg he, h177 0 m0', e_177_17, if_pos rfl, if_neg c3]
      have B := sq_174 (D := E) E27 e2 fok gok' m0 n1
      have L := sq_175 (D := E) E27 e2 m0 m1 (by omega) n1
      have T := sq_176 (D := E) E27 e2 m0 m1 (by omega) n1
      have cB : slB (E 124) m (E 123) n ↔ slB f m g n := ⟨slB_cg E124 e3, slB_cg (fun i i0 i1 => (E124 i i0 i1).symm) (fun i i0 i1 => (e3 i i0 i1).symm)⟩
      have cL : slL (E 124) m (E 123) n ↔ slL f m g n := ⟨slL_cg E124 e3, slL_cg (fun i i0 i1 => (E124 i i0 i1).symm) (fun i i0 i1 => (e3 i i0 i1).symm)⟩
      have cT : slT (E 124) m (E 123) n ↔ slT f m g n := ⟨slT_cg E124 e3, slT_cg (fun i i0 i1 => (E124 i i0 i1).symm) (fun i i0 i1 => (e3 i i0 i1).symm)⟩
      -- one slip's turn: what is found so far is x
      have no : ∀ (s x : Int) (v6 : PV), 0 ≤ s → s < 3 → qE 177 70 [(3, 106), (0, w), (0, kind), (0, limit), (0, x), (0, s), v6] [(0, 0)] (mk E) = qE 177 35 [(3, 106), (0, w), (0, kind), (0, limit), (0, x), (0, s + 1), (0, 0)] [] (mk E) := fun s x v6 s0 s1 => by
        rw [e_177_70, if_pos rfl, w32_id (by omega) (by omega)]
      have ye : ∀ (s : Int) (v6 : PV), 0 ≤ s → s < 3 → qE 177 70 [(3, 106), (0, w), (0, kind), (0, limit), (0, -1), (0, s), v6] [(0, 1)] (mk E) = qE 177 35 [(3, 106), (0, w), (0, kind), (0, limit), (0, if D 114 s ≤ limit then D 114 s else -1), (0, s + 1), (0, 1)] [] (mk E) := fun s v6 s0 s1 => by
        rw [e_177_70, if_neg (by decide), if_pos ⟨s0, s1⟩, E114, w32_id (by omega) (by omega)]
        by_cases q : D 114 s ≤ limit
        · rw [if_pos q, if_pos q, if_pos (by decide), if_pos ⟨s0, s1⟩]
        · rw [if_neg q, if_neg q]
      have h35 : ∀ (x s : Int) (v6 : PV), (s = 0 → ∀ v, qR 174 [(3, 106)] (mk E) = some ((0, v), mk E) → qE 177 35 [(3, 106), (0, w), (0, kind), (0, limit), (0, x), (0, s), v6] [] (mk E) = qE 177 70 [(3, 106), (0, w), (0, kind), (0, limit), (0, x), (0, s), v6] [(0, v)] (mk E)) ∧ (s = 1 → ∀ v, qR 175 [(3, 106)] (mk E) = some ((0, v), mk E) → qE 177 35 [(3, 106), (0, w), (0, kind), (0, limit), (0, x), (0, s), v6] [] (mk E) = qE 177 70 [(3, 106), (0, w), (0, kind), (0, limit), (0, x), (0, s), v6] [(0, v)] (mk E)) ∧ (s = 2 → ∀ v, qR 176 [(3, 106)] (mk E) = some ((0, v), mk E) → qE 177 35 [(3, 106), (0, w), (0, kind), (0, limit), (0, x), (0, s), v6] [] (mk E) = qE 177 70 [(3, 106), (0, w), (0, kind), (0, limit), (0, x), (0, s), v6] [(0, v)] (mk E)) := fun x s v6 => by
        refine ⟨fun hs v hv => ?_, fun hs v hv => ?_, fun hs v hv => ?_⟩
        · rw [e_177_35, if_pos (by omega), if_pos hs, hv]
          simp only [Option.bind_some, psh_0]
          rw [e_177_50]
        · rw [e_177_35, if_pos (by omega), if_neg (by omega), if_pos hs, hv]
          simp only [Option.bind_some, psh_0]
          rw [e_177_63]
        · rw [e_177_35, if_pos (by omega), if_neg (by omega), if_neg (by omega), hv]
          simp only [Option.bind_some, psh_0]
      have fin : ∀ (x : Int) (v6 : PV), qE 177 35 [(3, 106), (0, w), (0, kind), (0, limit), (0, x), (0, 3), v6] [] (mk E) = some ((0, x), mk E) := fun x v6 => by rw [e_177_35, if_neg (by decide)]
      by_cases hB : slB f m g n
      · have nL : ¬ slL f m g n := fun q => by have := hB.1; have := q.1; omega
        have nT : ¬ slT f m g n := fun q => by have := hB.1; have := q.1; omega
        rw [if_pos hB, (h35 _ 0 _).1 rfl 1 (B.1 (cB.2 hB)), ye 0 _ (by decide) (by decide), show (0 : Int) + 1 = 1 from rfl, (h35 _ 1 _).2.1 rfl 0 (L.2 (fun q => nL (cL.1 q))), no 1 _ _ (by decide) (by decide), show (1 : Int) + 1 = 2 from rfl, (h35 _ 2 _).2.2 rfl 0 (T.2 (fun q => nT (cT.1 q))), no 2 _ _ (by decide) (by decide), show (2 : Int) + 1 = 3 from rfl, fin]
      · rw [if_neg hB, (h35 _ 0 _).1 rfl 0 (B.2 (fun q => hB (cB.1 q))), no 0 _ _ (by decide) (by decide), show (0 : Int) + 1 = 1 from rfl]
        by_cases hL : slL f m g n
        · have nT : ¬ slT f m g n := fun q => by have := hL.1; have := q.1; omega
          rw [if_pos hL, (h35 _ 1 _).2.1 rfl 1 (L.1 (cL.2 hL)), ye 1 _ (by decide) (by decide), show (1 : Int) + 1 = 2 from rfl, (h35 _ 2 _).2.2 rfl 0 (T.2 (fun q => nT (cT.1 q))), no 2 _ _ (by decide) (by decide), show (2 : Int) + 1 = 3 from rfl, fin]
        · rw [if_neg hL, (h35 _ 1 _).2.1 rfl 0 (L.2 (fun q => hL (cL.1 q))), no 1 _ _ (by decide) (by decide), show (1 : Int) + 1 = 2 from rfl]
          by_cases hT : slT f m g n
          · rw [if_pos hT, (h35 _ 2 _).2.2 rfl 1 (T.1 (cT.2 hT)), ye 2 _ (by decide) (by decide), show (2 : Int) + 1 = 3 from rfl, fin]
          · rw [if_neg hT, (h35 _ 2 _).2.2 rfl 0 (T.2 (fun q => hT (cT.1 q))), no 2 _ _ (by decide) (by decide), show (2 : Int) + 1 = 3 from rfl, fin]
/-- the same by the system -/
theorem sp_73 {D : Mem} {w kind limit m : Int} {f g : Int → Int} {n : Int} (w0 : 0 ≤ w) (w1 : w < 80) (hk : kind = 1 ∨ kind = 2 ∨ kind = 3) (m0 : 0 ≤ m) (m1 : m ≤ 12) (hok : keysOK f m) (n0 : 1 ≤ n) (n1 : n ≤ 10) (gok : keysOK g n) (h32 : kind ≠ 2 → D 32 w = P g n) (h33 : kind = 2 → D 33 w = P g n) : qR 73 [(3, 31), (0, w), (1, P f m), (0, kind), (0, limit)] (mk D) = some ((0, askF (D 38) f m g n kind limit), mk D) := by
  have g80 : 0 ≤ w ∧ w < 80 := ⟨w0, w1⟩
  rw [r_73, if_neg (by omega), if_pos w1]
  unfold askF
  by_cases c3 : kind = 3
  · rw [if_pos c3, if_pos c3, h32 (by omega)]
    by_cases z : 0 < m
    · have hz : ¬ cmpL (P f m) 0 = 0 := fun q => by have := (cmpL_eq _ _).1 q; have := P_pos hok z; omega
      have hb := sp_20 (mk D) hok gok m0 (by omega) (by omega) (by omega)
      rw [if_neg hz, if_pos g80]
      by_cases hp : pre f m g n
      · rw [hb.1 hp, if_pos ⟨z, hp⟩]
        simp only [Option.bind_some, psh_0]
        rw [e_73_34, if_neg (by decide)]
      · rw [hb.2 hp, if_neg (fun q => hp q.2)]
        simp only [Option.bind_some, psh_0]
        rw [e_73_34, if_pos rfl]
    · rw [P_neg f (by omega), if_pos (by decide), if_neg (fun q => z q.1)]
  · rw [if_neg c3, if_neg c3]
    have st : (if kind = 2 then (if 0 ≤ w ∧ w < 80 then qE 73 64 [(3, 31), (0, w), (1, P f m), (9, 0), (0, kind), (0, limit), (9, 0), (9, 0), (9, 0)] [(1, D 33 w)] (mk D) else none) else (if 0 ≤ w ∧ w < 80 then qE 73 64 [(3, 31), (0, w), (1, P f m), (9, 0), (0, kind), (0, limit), (9, 0), (9, 0), (9, 0)] [(1, D 32 w)] (mk D) else none)) = qE 73 64 [(3, 31), (0, w), (1, P f m), (9, 0), (0, kind), (0, limit), (9, 0), (9, 0), (9, 0)] [(1, P g n)] (mk D) := by
      by_cases c2 : kind = 2
      · rw [if_pos c2, if_pos g80, h33 c2]
      · rw [if_neg c2, if_pos g80, h32 c2]
    rw [st, e_73_64]
    by_cases he : m = n ∧ ∀ i, 0 ≤ i → i < m → f i = g i
    · rw [if_pos ((cmpL_eq _ _).2 (by rw [← he.1]; exact (P_congr he.2).symm)), if_pos he]
    · have ne : ¬ cmpL (P g n) (P f m) = 0 := fun q => by
        obtain ⟨z1, z2⟩ := P_inj gok hok (by omega) m0 ((cmpL_eq _ _).1 q)
        exact he ⟨z1.symm, fun i i0 i1 => (z2 i i0 (by omega)).symm⟩
      obtain ⟨v, v1, v2⟩ := sp_21 (mk D) hok gok m0 (by omega) (by omega) (by omega)
      rw [if_neg ne, if_neg he, v1]
      simp only [Option.bind_some, psh_0]
      have pay : ∀ s, 0 ≤ s → s < 3 → qE 73 81 [(3, 31), (0, w), (1, P f m), (9, 0), (0, kind), (0, limit), (1, P g n), (9, 0), (9, 0)] [(0, s)] (mk D) = some ((0, if D 38 s ≤ limit then D 38 s else -1), mk D) := fun s s0 s1 => by
        rw [e_73_81, if_neg (by omega), if_pos s1, if_pos ⟨s0, s1⟩]
        by_cases q : D 38 s ≤ limit
        · rw [if_pos q, if_pos q, if_pos ⟨s0, s1⟩]
        · rw [if_neg q, if_neg q]
      rcases v2 with ⟨a, b⟩ | ⟨a, b⟩ | ⟨a, b⟩ | ⟨a, b, c, d⟩
      · rw [a, pay 0 (by decide) (by decide), if_pos b]
      · have nb : ¬ slB f m g n := fun q => by have := q.1; have := b.1; omega
        rw [a, pay 1 (by decide) (by decide), if_neg nb, if_pos b]
      · have nb : ¬ slB f m g n := fun q => by have := q.1; have := b.1; omega
        have nl : ¬ slL f m g n := fun q => by have := q.1; have := b.1; omega
        rw [a, pay 2 (by decide) (by decide), if_neg nb, if_neg nl, if_pos b]
      · rw [a, e_73_81, if_pos (by decide), if_neg b, if_neg c, if_neg d]
