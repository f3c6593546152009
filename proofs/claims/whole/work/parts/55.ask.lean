/-! what a word asks of a row of keys: the reference -/
theorem sq_169 {D : Mem} {w : Int} (hR : rOK D) (w0 : 0 ≤ w) (w1 : w < D 106 6) (kind : Int) : ∃ E, qR 169 [(3, 106), (0, w), (0, kind)] (mk D) = some ((9, 0), mk E) ∧ E 106 25 = kn D w kind ∧ (∀ i, 0 ≤ i → i < kn D w kind → E 123 i = kf D w kind i) ∧ ∀ y i, y ≠ 123 → ¬ (y = 106 ∧ i = 25) → E y i = D y i := by
  have hok := gk_ok hR w0 w1
  have hn := hR.1
  obtain ⟨hs, hl, _⟩ := hR.2.1 w w0 w1
  have inv := sl_inv hok
  have e10 : w32 (10 * w) = 10 * w := w32_id (by omega) (by omega)
  have g80 : 0 ≤ w ∧ w < 80 := by omega
  obtain ⟨⟨E, v4⟩, e, h1, h2, h3⟩ := it_inv (fun i (s : Mem × PV) => qE 169 7 [(3, 106), (0, w), (0, kind), (0, i), s.2] [] (mk s.1)) (fun i s => s.1 106 25 = (if kind = 2 then sz D w i else i) ∧ (∀ j, 0 ≤ j → j < (if kind = 2 then sz D w i else i) → s.1 123 j = (if kind = 2 then sk D w i j else gk D w j)) ∧ ∀ y j, y ≠ 123 → ¬ (y = 106 ∧ j = 25) → s.1 y j = D y j) (a := 0) (n := D 109 w) (by omega)
    (fun i s i0 i1 ⟨h1, h2, h3⟩ => by
      obtain ⟨E, v4⟩ := s
      replace h1 : E 106 25 = (if kind = 2 then sz D w i else i) := h1
      replace h2 : ∀ j, 0 ≤ j → j < (if kind = 2 then sz D w i else i) → E 123 j = (if kind = 2 then sk D w i j else gk D w j) := h2
      replace h3 : ∀ y j, y ≠ 123 → ¬ (y = 106 ∧ j = 25) → E y j = D y j := h3
      have e1 : w32 (i + 1) = i + 1 := w32_id (by omega) (by omega)
      have e3 : w32 (10 * w + i) = 10 * w + i := w32_id (by omega) (by omega)
      have hli := hl i i0 i1
      obtain ⟨a, b, c⟩ := inv i i0 (by omega)
      have r109 := h3 109 w (by decide) (by omega)
      have r108 := h3 108 (10 * w + i) (by decide) (by omega)
      have r107 := h3 107 (D 108 (10 * w + i)) (by decide) (by omega)
      have gki : D 107 (D 108 (10 * w + i)) = gk D w i := rfl
      -- a key put behind the last one
      have put : ∀ z, E 106 25 = z → 0 ≤ z → z < 10 → qE 169 63 [(3, 106), (0, w), (0, kind), (0, i), (0, gk D w i)] [] (mk E) = qE 169 7 [(3, 106), (0, w), (0, kind), (0, i + 1), (0, gk D w i)] [] (mk (mU (mU E 123 z (gk D w i)) 106 25 (z + 1))) := fun z hz z0 z1 => by
        rw [e_169_63, hz, if_pos ⟨z0, z1⟩, e1, mU_r (by decide), hz, w32_id (by omega) (by omega)]
      have aft : ∀ z, z < 10 → ∀ y j, y ≠ 123 → ¬ (y = 106 ∧ j = 25) → mU (mU E 123 z (gk D w i)) 106 25 (z + 1) y j = D y j := fun z _ y j q1 q2 => by
        rw [mU_other q2, mU_r q1]; exact h3 y j q1 q2
      have hd : ∀ v4, qE 169 7 [(3, 106), (0, w), (0, kind), (0, i), v4] [] (mk E) = (if kind = 2 then (if E 106 25 = 0 then qE 169 63 [(3, 106), (0, w), (0, kind), (0, i), (0, gk D w i)] [] (mk E) else (if 0 ≤ w32 (E 106 25 - 1) ∧ w32 (E 106 25 - 1) < 10 then (if E 123 (w32 (E 106 25 - 1)) = gk D w i then qE 169 7 [(3, 106), (0, w), (0, kind), (0, i + 1), (0, gk D w i)] [] (mk E) else qE 169 63 [(3, 106), (0, w), (0, kind), (0, i), (0, gk D w i)] [] (mk E)) else none)) else qE 169 63 [(3, 106), (0, w), (0, kind), (0, i), (0, gk D w i)] [] (mk E)) := fun v4 => by
        rw [e_169_7, if_pos g80, r109, if_pos i1, e10, e3, if_pos (by omega), r108, if_pos (by omega), r107, gki, e1]
      by_cases ck : kind = 2
      · simp only [if_pos ck] at h1 h2 hd ⊢
        by_cases h : i = 0 ∨ gk D w i ≠ gk D w (i - 1)
        · obtain ⟨n1, n2⟩ := sl_new i0 h
          refine ⟨(mU (mU E 123 (sz D w i) (gk D w i)) 106 25 (sz D w i + 1), (0, gk D w i)), ?_, ?_, fun j j0 j1 => ?_, aft _ (by omega)⟩
          · show qE 169 7 [(3, 106), (0, w), (0, kind), (0, i), v4] [] (mk E) = qE 169 7 [(3, 106), (0, w), (0, kind), (0, i + 1), (0, gk D w i)] [] (mk (mU (mU E 123 (sz D w i) (gk D w i)) 106 25 (sz D w i + 1)))
            rw [hd, ← put (sz D w i) h1 a.1 (by omega), h1]
            by_cases z : sz D w i = 0
            · rw [if_pos z]
            · have hi : 0 < i := by
                rcases Int.lt_or_le 0 i with q | q
                · exact q
                · omega
              rw [if_neg z, w32_id (by omega) (by omega), if_pos (by omega), h2 (sz D w i - 1) (by omega) (by omega), (c hi).2, if_neg (by omega)]
          · show mU (mU E 123 (sz D w i) (gk D w i)) 106 25 (sz D w i + 1) 106 25 = sz D w (i + 1)
            rw [mU_s, n1]
          · show mU (mU E 123 (sz D w i) (gk D w i)) 106 25 (sz D w i + 1) 123 j = sk D w (i + 1) j
            rw [n1] at j1
            rw [mU_r (by decide), n2]
            show _ = if j = sz D w i then gk D w i else sk D w i j
            by_cases q : j = sz D w i
            · rw [if_pos q, q, mU_s]
            · rw [if_neg q, mU_other (by omega)]; exact h2 j j0 (by omega)
        · obtain ⟨n1, n2⟩ := sl_old i0 h
          refine ⟨(E, (0, gk D w i)), ?_, ?_, fun j j0 j1 => ?_, h3⟩
          · show qE 169 7 [(3, 106), (0, w), (0, kind), (0, i), v4] [] (mk E) = qE 169 7 [(3, 106), (0, w), (0, kind), (0, i + 1), (0, gk D w i)] [] (mk E)
            have hi : 0 < i := by omega
            have cc := c hi
            rw [hd, h1, if_neg (by omega), w32_id (by omega) (by omega), if_pos (by omega), h2 (sz D w i - 1) (by omega) (by omega), cc.2, if_pos (by omega)]
          · show E 106 25 = sz D w (i + 1)
            rw [n1]; exact h1
          · show E 123 j = sk D w (i + 1) j
            rw [n1] at j1
            rw [n2]; exact h2 j j0 j1
      · simp only [if_neg ck] at h1 h2 hd ⊢
        refine ⟨(mU (mU E 123 i (gk D w i)) 106 25 (i + 1), (0, gk D w i)), ?_, ?_, fun j j0 j1 => ?_, aft _ (by omega)⟩
        · show qE 169 7 [(3, 106), (0, w), (0, kind), (0, i), v4] [] (mk E) = qE 169 7 [(3, 106), (0, w), (0, kind), (0, i + 1), (0, gk D w i)] [] (mk (mU (mU E 123 i (gk D w i)) 106 25 (i + 1)))
          rw [hd, ← put i h1 i0 (by omega)]
        · show mU (mU E 123 i (gk D w i)) 106 25 (i + 1) 106 25 = i + 1
          rw [mU_s]
        · show mU (mU E 123 i (gk D w i)) 106 25 (i + 1) 123 j = gk D w j
          rw [mU_r (by decide)]
          by_cases q : j = i
          · rw [q, mU_s]
          · rw [mU_other (by omega)]; exact h2 j j0 (by omega))
    (s0 := (mU D 106 25 0, (9, 0))) ⟨by
      show mU D 106 25 0 106 25 = (if kind = 2 then sz D w 0 else 0)
      rw [mU_s]
      by_cases ck : kind = 2
      · rw [if_pos ck]; rfl
      · rw [if_neg ck], fun j j0 j1 => by
      exfalso
      by_cases ck : kind = 2
      · rw [if_pos ck] at j1
        have : sz D w 0 = 0 := rfl
        omega
      · rw [if_neg ck] at j1; omega, fun y j q1 q2 => mU_other q2⟩
  replace h1 : E 106 25 = (if kind = 2 then sz D w (D 109 w) else D 109 w) := h1
  replace h2 : ∀ j, 0 ≤ j → j < (if kind = 2 then sz D w (D 109 w) else D 109 w) → E 123 j = (if kind = 2 then sk D w (D 109 w) j else gk D w j) := h2
  replace h3 : ∀ y j, y ≠ 123 → ¬ (y = 106 ∧ j = 25) → E y j = D y j := h3
  refine ⟨E, ?_, h1, fun i i0 i1 => ?_, h3⟩
  · rw [r_169]
    refine e.trans ?_
    show qE 169 7 [(3, 106), (0, w), (0, kind), (0, D 109 w), v4] [] (mk E) = _
    rw [e_169_7, if_pos g80, h3 109 w (by decide) (by omega), if_neg (by omega)]
  · have := h2 i i0 i1
    rw [this]
    unfold kf
    by_cases ck : kind = 2
    · rw [if_pos ck, if_pos ck]
    · rw [if_neg ck, if_neg ck]
theorem sq_170 {D : Mem} (hR : rOK D) : ∃ E, qR 170 [(3, 106)] (mk D) = some ((9, 0), mk E) ∧ E 106 27 = D 106 14 ∧ (∀ i, 0 ≤ i → i < D 106 14 → E 124 i = D 116 i) ∧ ∀ y i, y ≠ 124 → ¬ (y = 106 ∧ i = 27) → E y i = D y i := by
  obtain ⟨_, _, _, _, _, _, ⟨s0, s1, _⟩, _⟩ := hR
  obtain ⟨E, e, h2, h3⟩ := it_inv (fun i (E : Mem) => qE 170 10 [(3, 106), (0, i)] [] (mk E)) (fun i E => (∀ j, 0 ≤ j → j < i → E 124 j = D 116 j) ∧ ∀ y j, y ≠ 124 → E y j = mU D 106 27 (D 106 14) y j) (a := 0) (n := D 106 14) s0
    (fun i E i0 i1 ⟨h2, h3⟩ => by
      have e1 : w32 (i + 1) = i + 1 := w32_id (by omega) (by omega)
      refine ⟨mU E 124 i (D 116 i), ?_, fun j j0 j1 => ?_, fun y j hy => ?_⟩
      · show qE 170 10 [(3, 106), (0, i)] [] (mk E) = qE 170 10 [(3, 106), (0, i + 1)] [] (mk (mU E 124 i (D 116 i)))
        rw [e_170_10, h3 106 14 (by decide), mU_other (by decide), if_pos i1, if_pos (by omega), if_pos (by omega), e1, h3 116 i (by decide), mU_r (by decide)]
      · by_cases q : j = i
        · rw [q, mU_s]
        · rw [mU_other (by omega)]; exact h2 j j0 (by omega)
      · rw [mU_r hy]; exact h3 y j hy)
    (s0 := mU D 106 27 (D 106 14)) ⟨fun j j0 j1 => by omega, fun _ _ _ => rfl⟩
  refine ⟨E, ?_, ?_, h2, fun y i q1 q2 => ?_⟩
  · rw [r_170]
    refine e.trans ?_
    show qE 170 10 [(3, 106), (0, D 106 14)] [] (mk E) = _
    rw [e_170_10, h3 106 14 (by decide), mU_other (by decide), if_neg (by omega)]
  · rw [h3 _ _ (by decide), mU_s]
  · rw [h3 y i q1, mU_other q2]
theorem sq_171 {D : Mem} {w : Int} (hR : rOK D) (w0 : 0 ≤ w) (w1 : w < D 106 6) (kind : Int) : ∃ E, qR 171 [(3, 106), (0, w), (0, kind)] (mk D) = some ((9, 0), mk E) ∧ E 106 27 = kn D w kind ∧ (∀ i, 0 ≤ i → i < kn D w kind → E 124 i = kf D w kind i) ∧ ∀ y i, y ≠ 123 → y ≠ 124 → ¬ (y = 106 ∧ (i = 25 ∨ i = 27)) → E y i = D y i := by
  obtain ⟨F, f1, f2, f3, f4⟩ := sq_169 hR w0 w1 kind
  obtain ⟨_, n0, n1⟩ := kf_ok hR w0 w1 kind
  obtain ⟨E, e, h2, h3⟩ := it_inv (fun i (E : Mem) => qE 171 16 [(3, 106), (0, w), (0, kind), (0, i)] [] (mk E)) (fun i E => (∀ j, 0 ≤ j → j < i → E 124 j = kf D w kind j) ∧ ∀ y j, y ≠ 124 → E y j = mU F 106 27 (kn D w kind) y j) (a := 0) (n := kn D w kind) (by omega)
    (fun i E i0 i1 ⟨h2, h3⟩ => by
      have e1 : w32 (i + 1) = i + 1 := w32_id (by omega) (by omega)
      refine ⟨mU E 124 i (kf D w kind i), ?_, fun j j0 j1 => ?_, fun y j hy => ?_⟩
      · show qE 171 16 [(3, 106), (0, w), (0, kind), (0, i)] [] (mk E) = qE 171 16 [(3, 106), (0, w), (0, kind), (0, i + 1)] [] (mk (mU E 124 i (kf D w kind i)))
        rw [e_171_16, h3 106 25 (by decide), mU_other (by decide), f2, if_pos i1, if_pos (by omega), if_pos (by omega), e1, h3 123 i (by decide), mU_r (by decide), f3 i i0 i1]
      · by_cases q : j = i
        · rw [q, mU_s]
        · rw [mU_other (by omega)]; exact h2 j j0 (by omega)
      · rw [mU_r hy]; exact h3 y j hy)
    (s0 := mU F 106 27 (kn D w kind)) ⟨fun j j0 j1 => by omega, fun _ _ _ => rfl⟩
  refine ⟨E, ?_, ?_, h2, fun y i q1 q2 q3 => ?_⟩
  · rw [r_171, f1]
    simp only [Option.bind_some, psh_9]
    rw [e_171_6, f2]
    refine e.trans ?_
    show qE 171 16 [(3, 106), (0, w), (0, kind), (0, kn D w kind)] [] (mk E) = _
    rw [e_171_16, h3 106 25 (by decide), mU_other (by decide), f2, if_neg (by omega)]
  · rw [h3 _ _ (by decide), mU_s]
  · rw [h3 y i q2, mU_other (by omega)]; exact f4 y i q1 (by omega)
theorem sq_172 (D : Mem) {a b n : Int} (a0 : 0 ≤ a) (a1 : a + n ≤ 12) (b0 : 0 ≤ b) (b1 : b + n ≤ 10) (an : a < 100) (bn : b < 100) : ((∀ t, 0 ≤ t → t < n → D 124 (a + t) = D 123 (b + t)) → qR 172 [(3, 106), (0, a), (0, b), (0, n)] (mk D) = some ((0, 1), mk D)) ∧ ((¬ ∀ t, 0 ≤ t → t < n → D 124 (a + t) = D 123 (b + t)) → qR 172 [(3, 106), (0, a), (0, b), (0, n)] (mk D) = some ((0, 0), mk D)) := by
  have step : ∀ t, 0 ≤ t → t < n → qE 172 6 [(3, 106), (0, a), (0, b), (0, n), (0, 1), (0, t)] [] (mk D) = if D 124 (a + t) = D 123 (b + t) then qE 172 6 [(3, 106), (0, a), (0, b), (0, n), (0, 1), (0, t + 1)] [] (mk D) else qE 172 6 [(3, 106), (0, a), (0, b), (0, n), (0, 0), (0, t + 1)] [] (mk D) := fun t t0 t1 => by
    rw [e_172_6, if_pos t1, if_neg (by decide), w32_id (x := a + t) (by omega) (by omega), w32_id (x := b + t) (by omega) (by omega), if_pos (by omega), if_pos (by omega), w32_id (x := t + 1) (by omega) (by omega)]
  rw [r_172]
  constructor
  · intro h
    by_cases c : 0 ≤ n
    · rw [it_up (fun t => qE 172 6 [(3, 106), (0, a), (0, b), (0, n), (0, 1), (0, t)] [] (mk D)) c (fun t t0 t1 => ?_)]
      · show qE 172 6 [(3, 106), (0, a), (0, b), (0, n), (0, 1), (0, n)] [] (mk D) = _
        rw [e_172_6, if_neg (by omega), if_pos (by omega)]
      · show qE 172 6 [(3, 106), (0, a), (0, b), (0, n), (0, 1), (0, t)] [] (mk D) = qE 172 6 [(3, 106), (0, a), (0, b), (0, n), (0, 1), (0, t + 1)] [] (mk D)
        rw [step t t0 t1, if_pos (h t t0 t1)]
    · rw [e_172_6, if_neg (by omega), if_pos (by omega)]
  · intro h
    obtain ⟨p, p0, p1, p2, p3⟩ := first_not _ h
    rw [it_up (fun t => qE 172 6 [(3, 106), (0, a), (0, b), (0, n), (0, 1), (0, t)] [] (mk D)) p0 (fun t t0 t1 => ?_)]
    · show qE 172 6 [(3, 106), (0, a), (0, b), (0, n), (0, 1), (0, p)] [] (mk D) = _
      rw [step p p0 p1, if_neg p2, e_172_6]
      by_cases c : p + 1 < n
      · rw [if_pos c, if_pos rfl, if_pos (by omega)]
      · rw [if_neg c, if_pos (by omega)]
    · show qE 172 6 [(3, 106), (0, a), (0, b), (0, n), (0, 1), (0, t)] [] (mk D) = qE 172 6 [(3, 106), (0, a), (0, b), (0, n), (0, 1), (0, t + 1)] [] (mk D)
      rw [step t t0 (by omega), if_pos (p3 t t0 t1)]
theorem ex_loop {α : Type} (F : Int → Int → α) (Q : Int → Prop) {n : Int} (n0 : 0 ≤ n) (h1 : ∀ i, 0 ≤ i → i < n → Q i → F 0 i = F 1 (i + 1)) (h2 : ∀ i, 0 ≤ i → i < n → ¬ Q i → F 0 i = F 0 (i + 1)) (h3 : ∀ i, 0 ≤ i → i < n → F 1 i = F 1 (i + 1)) : ((∃ i, 0 ≤ i ∧ i < n ∧ Q i) → F 0 0 = F 1 n) ∧ ((¬ ∃ i, 0 ≤ i ∧ i < n ∧ Q i) → F 0 0 = F 0 n) := by
  constructor
  · intro h
    have hn : ¬ ∀ i, 0 ≤ i → i < n → ¬ Q i := fun g => by obtain ⟨i, i0, i1, q⟩ := h; exact g i i0 i1 q
    obtain ⟨p, p0, p1, p2, p3⟩ := first_not _ hn
    rw [it_up (fun i => F 0 i) p0 (fun i i0 i1 => h2 i i0 (by omega) (p3 i i0 i1))]
    show F 0 p = F 1 n
    rw [h1 p p0 p1 (Classical.byContradiction p2)]
    exact it_up (fun i => F 1 i) (by omega) (fun i i0 i1 => h3 i (by omega) i1)
  · intro h
    exact it_up (fun i => F 0 i) n0 (fun i i0 i1 => h2 i i0 i1 (fun q => h ⟨i, i0, i1, q⟩))
theorem sq_174 {D : Mem} {m n : Int} (hm : D 106 27 = m) (hn : D 106 25 = n) (hf : keysOK (D 124) m) (hg : keysOK (D 123) n) (m0 : 0 ≤ m) (n1 : n ≤ 10) : (slB (D 124) m (D 123) n → qR 174 [(3, 106)] (mk D) = some ((0, 1), mk D)) ∧ (¬ slB (D 124) m (D 123) n → qR 174 [(3, 106)] (mk D) = some ((0, 0), mk D)) := by
  rw [r_174]
  by_cases c : m = n
  · subst c
    have sB : slB (D 124) m (D 123) m ↔ ∃ i, 0 ≤ i ∧ i < m ∧ (bes (D 124 i) (D 123 i) = 1 ∧ (∀ t, 0 ≤ t → t < i → D 124 (0 + t) = D 123 (0 + t)) ∧ ∀ t, 0 ≤ t → t < m - i - 1 → D 124 (i + 1 + t) = D 123 (i + 1 + t)) := by
      constructor
      · rintro ⟨_, p, p0, p1, p2, p3⟩
        exact ⟨p, p0, p1, p2, fun t t0 t1 => by rw [Int.zero_add]; exact p3 t t0 (by omega) (by omega), fun t t0 t1 => p3 _ (by omega) (by omega) (by omega)⟩
      · rintro ⟨p, p0, p1, p2, p3, p4⟩
        refine ⟨rfl, p, p0, p1, p2, fun i i0 i1 ne => ?_⟩
        by_cases q : i < p
        · have := p3 i i0 q; rw [Int.zero_add] at this; exact this
        · have := p4 (i - p - 1) (by omega) (by omega); rw [show p + 1 + (i - p - 1) = i by omega] at this; exact this
    have L := ex_loop (fun x i => qE 174 4 [(3, 106), (0, x), (0, i)] [] (mk D)) (fun i => bes (D 124 i) (D 123 i) = 1 ∧ (∀ t, 0 ≤ t → t < i → D 124 (0 + t) = D 123 (0 + t)) ∧ ∀ t, 0 ≤ t → t < m - i - 1 → D 124 (i + 1 + t) = D 123 (i + 1 + t)) (n := m) m0
    have hd : ∀ i, 0 ≤ i → i < m → qE 174 4 [(3, 106), (0, 0), (0, i)] [] (mk D) = qE 174 43 [(3, 106), (0, 0), (0, i)] [(0, bes (D 124 i) (D 123 i))] (mk D) := fun i i0 i1 => by
      rw [e_174_4, hm, hn, if_pos rfl, if_pos i1, if_pos rfl, if_pos (by omega), if_pos (by omega), sp_147 D (hf i i0 i1) (hg i i0 i1)]
      simp only [Option.bind_some, psh_0]
    have L' := L (fun i i0 i1 ⟨q1, q2, q3⟩ => by
        show qE 174 4 [(3, 106), (0, 0), (0, i)] [] (mk D) = qE 174 4 [(3, 106), (0, 1), (0, i + 1)] [] (mk D)
        have e1 : w32 (i + 1) = i + 1 := w32_id (by omega) (by omega)
        have e2 : w32 (m - i) = m - i := w32_id (by omega) (by omega)
        have e3 : w32 (m - i - 1) = m - i - 1 := w32_id (by omega) (by omega)
        rw [hd i i0 i1, q1, e_174_43, if_neg (by decide), (sq_172 D (a := 0) (b := 0) (n := i) (by omega) (by omega) (by omega) (by omega) (by omega) (by omega)).1 q2]
        simp only [Option.bind_some, psh_0]
        rw [e_174_53, if_neg (by decide), hm, e1, e2, e3, (sq_172 D (a := i + 1) (b := i + 1) (n := m - i - 1) (by omega) (by omega) (by omega) (by omega) (by omega) (by omega)).1 q3]
        simp only [Option.bind_some, psh_0]
        rw [e_174_74, if_neg (by decide), e1]) (fun i i0 i1 q => by
        show qE 174 4 [(3, 106), (0, 0), (0, i)] [] (mk D) = qE 174 4 [(3, 106), (0, 0), (0, i + 1)] [] (mk D)
        have e1 : w32 (i + 1) = i + 1 := w32_id (by omega) (by omega)
        have e2 : w32 (m - i) = m - i := w32_id (by omega) (by omega)
        have e3 : w32 (m - i - 1) = m - i - 1 := w32_id (by omega) (by omega)
        rw [hd i i0 i1, e_174_43]
        rcases bes_01 (D 124 i) (D 123 i) with b | b
        · rw [b, if_pos rfl, e1]
        · rw [b, if_neg (by decide)]
          by_cases q2 : ∀ t, 0 ≤ t → t < i → D 124 (0 + t) = D 123 (0 + t)
          · rw [(sq_172 D (a := 0) (b := 0) (n := i) (by omega) (by omega) (by omega) (by omega) (by omega) (by omega)).1 q2]
            simp only [Option.bind_some, psh_0]
            rw [e_174_53, if_neg (by decide), hm, e1, e2, e3, (sq_172 D (a := i + 1) (b := i + 1) (n := m - i - 1) (by omega) (by omega) (by omega) (by omega) (by omega) (by omega)).2 (fun q3 => q ⟨b, q2, q3⟩)]
            simp only [Option.bind_some, psh_0]
            rw [e_174_74, if_pos rfl, e1]
          · rw [(sq_172 D (a := 0) (b := 0) (n := i) (by omega) (by omega) (by omega) (by omega) (by omega) (by omega)).2 q2]
            simp only [Option.bind_some, psh_0]
            rw [e_174_53, if_pos rfl, e1]) (fun i i0 i1 => by
        show qE 174 4 [(3, 106), (0, 1), (0, i)] [] (mk D) = qE 174 4 [(3, 106), (0, 1), (0, i + 1)] [] (mk D)
        rw [e_174_4, hm, hn, if_pos rfl, if_pos i1, if_neg (by decide), w32_id (by omega) (by omega)])
    constructor
    · intro h
      refine (L'.1 (sB.1 h)).trans ?_
      show qE 174 4 [(3, 106), (0, 1), (0, m)] [] (mk D) = _
      rw [e_174_4, hm, hn, if_pos rfl, if_neg (by omega), if_pos (by omega)]
    · intro h
      refine (L'.2 (fun q => h (sB.2 q))).trans ?_
      show qE 174 4 [(3, 106), (0, 0), (0, m)] [] (mk D) = _
      rw [e_174_4, hm, hn, if_pos rfl, if_neg (by omega), if_pos (by omega)]
  · refine ⟨fun h => absurd h.1 c, fun _ => ?_⟩
    rw [e_174_4, hm, hn, if_neg c, if_pos (by omega)]
theorem sq_175 {D : Mem} {m n : Int} (hm : D 106 27 = m) (hn : D 106 25 = n) (m0 : 0 ≤ m) (m1 : m ≤ 12) (n0 : 0 ≤ n) (n1 : n ≤ 10) : (slL (D 124) m (D 123) n → qR 175 [(3, 106)] (mk D) = some ((0, 1), mk D)) ∧ (¬ slL (D 124) m (D 123) n → qR 175 [(3, 106)] (mk D) = some ((0, 0), mk D)) := by
  have ew : w32 (m + 1) = m + 1 := w32_id (by omega) (by omega)
  rw [r_175]
  by_cases c : n = m + 1
  · have sB : slL (D 124) m (D 123) n ↔ ∃ i, 0 ≤ i ∧ i < n ∧ ((∀ t, 0 ≤ t → t < i → D 124 (0 + t) = D 123 (0 + t)) ∧ ∀ t, 0 ≤ t → t < m - i → D 124 (i + t) = D 123 (i + 1 + t)) := by
      constructor
      · rintro ⟨_, d, d0, d1, d2⟩
        refine ⟨d, d0, d1, fun t t0 t1 => ?_, fun t t0 t1 => ?_⟩
        · have := d2 t t0 (by omega); unfold dropI at this; rw [if_pos t1] at this; rw [Int.zero_add]; exact this
        · have := d2 (d + t) (by omega) (by omega); unfold dropI at this; rw [if_neg (by omega)] at this; rw [this, show d + t + 1 = d + 1 + t by omega]
      · rintro ⟨d, d0, d1, p3, p4⟩
        refine ⟨c, d, d0, d1, fun i i0 i1 => ?_⟩
        unfold dropI
        by_cases q : i < d
        · have := p3 i i0 q; rw [Int.zero_add] at this; rw [if_pos q]; exact this
        · have := p4 (i - d) (by omega) (by omega); rw [show d + (i - d) = i by omega, show d + 1 + (i - d) = i + 1 by omega] at this; rw [if_neg q]; exact this
    have L' := ex_loop (fun x i => qE 175 4 [(3, 106), (0, x), (0, i)] [] (mk D)) (fun i => (∀ t, 0 ≤ t → t < i → D 124 (0 + t) = D 123 (0 + t)) ∧ ∀ t, 0 ≤ t → t < m - i → D 124 (i + t) = D 123 (i + 1 + t)) (n := n) n0 (fun i i0 i1 ⟨q2, q3⟩ => by
        show qE 175 4 [(3, 106), (0, 0), (0, i)] [] (mk D) = qE 175 4 [(3, 106), (0, 1), (0, i + 1)] [] (mk D)
        have e1 : w32 (i + 1) = i + 1 := w32_id (by omega) (by omega)
        have e2 : w32 (m - i) = m - i := w32_id (by omega) (by omega)
        rw [e_175_4, hm, hn, ew, if_pos c.symm, if_pos i1, if_pos rfl, (sq_172 D (a := 0) (b := 0) (n := i) (by omega) (by omega) (by omega) (by omega) (by omega) (by omega)).1 q2]
        simp only [Option.bind_some, psh_0]
        rw [e_175_36, if_neg (by decide), hm, e1, e2, (sq_172 D (a := i) (b := i + 1) (n := m - i) (by omega) (by omega) (by omega) (by omega) (by omega) (by omega)).1 q3]
        simp only [Option.bind_some, psh_0]
        rw [e_175_53, if_neg (by decide), e1]) (fun i i0 i1 q => by
        show qE 175 4 [(3, 106), (0, 0), (0, i)] [] (mk D) = qE 175 4 [(3, 106), (0, 0), (0, i + 1)] [] (mk D)
        have e1 : w32 (i + 1) = i + 1 := w32_id (by omega) (by omega)
        have e2 : w32 (m - i) = m - i := w32_id (by omega) (by omega)
        rw [e_175_4, hm, hn, ew, if_pos c.symm, if_pos i1, if_pos rfl]
        by_cases q2 : ∀ t, 0 ≤ t → t < i → D 124 (0 + t) = D 123 (0 + t)
        · rw [(sq_172 D (a := 0) (b := 0) (n := i) (by omega) (by omega) (by omega) (by omega) (by omega) (by omega)).1 q2]
          simp only [Option.bind_some, psh_0]
          rw [e_175_36, if_neg (by decide), hm, e1, e2, (sq_172 D (a := i) (b := i + 1) (n := m - i) (by omega) (by omega) (by omega) (by omega) (by omega) (by omega)).2 (fun q3 => q ⟨q2, q3⟩)]
          simp only [Option.bind_some, psh_0]
          rw [e_175_53, if_pos rfl, e1]
        · rw [(sq_172 D (a := 0) (b := 0) (n := i) (by omega) (by omega) (by omega) (by omega) (by omega) (by omega)).2 q2]
          simp only [Option.bind_some, psh_0]
          rw [e_175_36, if_pos rfl, e1]) (fun i i0 i1 => by
        show qE 175 4 [(3, 106), (0, 1), (0, i)] [] (mk D) = qE 175 4 [(3, 106), (0, 1), (0, i + 1)] [] (mk D)
        rw [e_175_4, hm, hn, ew, if_pos c.symm, if_pos i1, if_neg (by decide), w32_id (by omega) (by omega)])
    constructor
    · intro h
      refine (L'.1 (sB.1 h)).trans ?_
      show qE 175 4 [(3, 106), (0, 1), (0, n)] [] (mk D) = _
      rw [e_175_4, hm, hn, ew, if_pos c.symm, if_neg (by omega), if_pos (by omega)]
    · intro h
      refine (L'.2 (fun q => h (sB.2 q))).trans ?_
      show qE 175 4 [(3, 106), (0, 0), (0, n)] [] (mk D) = _
      rw [e_175_4, hm, hn, ew, if_pos c.symm, if_neg (by omega), if_pos (by omega)]
  · refine ⟨fun h => absurd h.1 c, fun _ => ?_⟩
    rw [e_175_4, hm, hn, ew, if_neg (fun q => c q.symm), if_pos (by omega)]
theorem sq_176 {D : Mem} {m n : Int} (hm : D 106 27 = m) (hn : D 106 25 = n) (m0 : 0 ≤ m) (m1 : m ≤ 12) (n0 : 0 ≤ n) (n1 : n ≤ 10) : (slT (D 124) m (D 123) n → qR 176 [(3, 106)] (mk D) = some ((0, 1), mk D)) ∧ (¬ slT (D 124) m (D 123) n → qR 176 [(3, 106)] (mk D) = some ((0, 0), mk D)) := by
  have ew : w32 (n + 1) = n + 1 := w32_id (by omega) (by omega)
  rw [r_176]
  by_cases c : m = n + 1
  · have sB : slT (D 124) m (D 123) n ↔ ∃ i, 0 ≤ i ∧ i < m - 1 ∧ (D 124 i = D 124 (i + 1) ∧ (∀ t, 0 ≤ t → t < i → D 124 (0 + t) = D 123 (0 + t)) ∧ ∀ t, 0 ≤ t → t < m - i - 1 → D 124 (i + 1 + t) = D 123 (i + t)) := by
      constructor
      · rintro ⟨_, d, d0, d1, d2, d3⟩
        refine ⟨d - 1, by omega, by omega, by rw [show d - 1 + 1 = d by omega]; exact d2.symm, fun t t0 t1 => ?_, fun t t0 t1 => ?_⟩
        · have := d3 t t0 (by omega); unfold dropI at this; rw [if_pos (by omega)] at this; rw [Int.zero_add]; exact this
        · by_cases z : t = 0
          · have := d3 (d - 1) (by omega) (by omega); unfold dropI at this; rw [if_pos (by omega)] at this
            rw [z, Int.add_zero, Int.add_zero, show d - 1 + 1 = d by omega, d2]; exact this
          · have := d3 (d - 1 + t) (by omega) (by omega); unfold dropI at this; rw [if_neg (by omega)] at this
            rw [← this, show d - 1 + 1 + t = d - 1 + t + 1 by omega]
      · rintro ⟨d, d0, d1, d2, p3, p4⟩
        refine ⟨c, d + 1, by omega, by omega, by rw [show d + 1 - 1 = d by omega]; exact d2.symm, fun i i0 i1 => ?_⟩
        unfold dropI
        by_cases q : i < d
        · have := p3 i i0 q; rw [Int.zero_add] at this; rw [if_pos (by omega)]; exact this
        · by_cases z : i = d
          · have := p4 0 (by omega) (by omega); rw [Int.add_zero, Int.add_zero] at this
            rw [z, if_pos (by omega), d2]; exact this
          · have := p4 (i - d) (by omega) (by omega); rw [show d + 1 + (i - d) = i + 1 by omega, show d + (i - d) = i by omega] at this; rw [if_neg (by omega)]; exact this
    have L' := ex_loop (fun x i => qE 176 4 [(3, 106), (0, x), (0, i)] [] (mk D)) (fun i => D 124 i = D 124 (i + 1) ∧ (∀ t, 0 ≤ t → t < i → D 124 (0 + t) = D 123 (0 + t)) ∧ ∀ t, 0 ≤ t → t < m - i - 1 → D 124 (i + 1 + t) = D 123 (i + t)) (n := m - 1) (by omega) (fun i i0 i1 ⟨q1, q2, q3⟩ => by
        show qE 176 4 [(3, 106), (0, 0), (0, i)] [] (mk D) = qE 176 4 [(3, 106), (0, 1), (0, i + 1)] [] (mk D)
        have e1 : w32 (i + 1) = i + 1 := w32_id (by omega) (by omega)
        have e2 : w32 (m - i) = m - i := w32_id (by omega) (by omega)
        have e3 : w32 (m - i - 1) = m - i - 1 := w32_id (by omega) (by omega)
        rw [e_176_4, hm, hn, ew, if_pos c, e1, if_pos (by omega), if_pos rfl, if_pos (by omega), if_pos (by omega), if_pos q1, (sq_172 D (a := 0) (b := 0) (n := i) (by omega) (by omega) (by omega) (by omega) (by omega) (by omega)).1 q2]
        simp only [Option.bind_some, psh_0]
        rw [e_176_55, if_neg (by decide), hm, e1, e2, e3, (sq_172 D (a := i + 1) (b := i) (n := m - i - 1) (by omega) (by omega) (by omega) (by omega) (by omega) (by omega)).1 q3]
        simp only [Option.bind_some, psh_0]
        rw [e_176_74, if_neg (by decide), e1]) (fun i i0 i1 q => by
        show qE 176 4 [(3, 106), (0, 0), (0, i)] [] (mk D) = qE 176 4 [(3, 106), (0, 0), (0, i + 1)] [] (mk D)
        have e1 : w32 (i + 1) = i + 1 := w32_id (by omega) (by omega)
        have e2 : w32 (m - i) = m - i := w32_id (by omega) (by omega)
        have e3 : w32 (m - i - 1) = m - i - 1 := w32_id (by omega) (by omega)
        rw [e_176_4, hm, hn, ew, if_pos c, e1, if_pos (by omega), if_pos rfl, if_pos (by omega), if_pos (by omega)]
        by_cases q1 : D 124 i = D 124 (i + 1)
        · rw [if_pos q1]
          by_cases q2 : ∀ t, 0 ≤ t → t < i → D 124 (0 + t) = D 123 (0 + t)
          · rw [(sq_172 D (a := 0) (b := 0) (n := i) (by omega) (by omega) (by omega) (by omega) (by omega) (by omega)).1 q2]
            simp only [Option.bind_some, psh_0]
            rw [e_176_55, if_neg (by decide), hm, e1, e2, e3, (sq_172 D (a := i + 1) (b := i) (n := m - i - 1) (by omega) (by omega) (by omega) (by omega) (by omega) (by omega)).2 (fun q3 => q ⟨q1, q2, q3⟩)]
            simp only [Option.bind_some, psh_0]
            rw [e_176_74, if_pos rfl, e1]
          · rw [(sq_172 D (a := 0) (b := 0) (n := i) (by omega) (by omega) (by omega) (by omega) (by omega) (by omega)).2 q2]
            simp only [Option.bind_some, psh_0]
            rw [e_176_55, if_pos rfl, e1]
        · rw [if_neg q1]) (fun i i0 i1 => by
        show qE 176 4 [(3, 106), (0, 1), (0, i)] [] (mk D) = qE 176 4 [(3, 106), (0, 1), (0, i + 1)] [] (mk D)
        have e1 : w32 (i + 1) = i + 1 := w32_id (by omega) (by omega)
        rw [e_176_4, hm, hn, ew, if_pos c, e1, if_pos (by omega), if_neg (by decide)])
    have fin : ∀ x, (x = 0 ∨ x = 1) → qE 176 4 [(3, 106), (0, x), (0, m - 1)] [] (mk D) = some ((0, x), mk D) := fun x hx => by
      rw [e_176_4, hm, hn, ew, if_pos c, w32_id (by omega) (by omega), if_neg (by omega), if_pos hx]
    constructor
    · intro h
      exact (L'.1 (sB.1 h)).trans (fin 1 (by omega))
    · intro h
      exact (L'.2 (fun q => h (sB.2 q))).trans (fin 0 (by omega))
  · refine ⟨fun h => absurd h.1 c, fun _ => ?_⟩
    rw [e_176_4, hm, hn, ew, if_neg c, if_pos (by omega)]
