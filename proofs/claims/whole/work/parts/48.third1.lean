/-! newcomers dropped, added, counted: the relation -/
theorem S_all {f : Int → Int} {n i : Int} (h01 : ∀ j, 0 ≤ j → j < n → 0 ≤ f j ∧ f j ≤ 1) (hS : S f n = n) (i0 : 0 ≤ i) (i1 : i < n) : f i = 1 := by
  have hu := S_upd (f := f) (g := fun j => if j = i then 1 else f j) i0 i1 (fun j j0 j1 hj => if_neg hj)
  have hb := S_01 (f := fun j => if j = i then 1 else f j) (n := n) (by omega) (fun j j0 j1 => by
    show 0 ≤ (if j = i then (1 : Int) else f j) ∧ (if j = i then (1 : Int) else f j) ≤ 1
    by_cases c : j = i
    · rw [if_pos c]; decide
    · rw [if_neg c]; exact h01 j j0 j1)
  have := h01 i i0 i1
  rw [if_pos rfl] at hu
  omega
theorem S_some {f : Int → Int} {n : Int} (hn : 0 ≤ n) (h01 : ∀ j, 0 ≤ j → j < n → 0 ≤ f j ∧ f j ≤ 1) (hS : S f n < n) : ∃ i, 0 ≤ i ∧ i < n ∧ f i = 0 := by
  apply Classical.byContradiction
  intro hno
  have := S_bd (f := f) (n := n) (a := 1) (b := 1) hn (fun j j0 j1 => by
    have := h01 j j0 j1
    have : f j ≠ 0 := fun q => hno ⟨j, j0, j1, q⟩
    omega)
  omega
theorem RN_drop {D X : Mem} {k n c : Int} (hN : RN0 D k) (n0 : 0 ≤ n) (n1 : n < 8) (hu : 0 < D 13 n) (c0 : 0 ≤ c) (c1 : c < D 106 21) (ec : ncEq D n c) (a1 : X 13 n = 0) (a2 : X 14 n = 0) (hf : ∀ y i, 11 ≤ y → y ≤ 30 → ¬ (y = 13 ∧ i = n) → ¬ (y = 14 ∧ i = n) → X y i = D y i) (b1 : X 106 21 = D 106 21 - 1) (b2 : X 106 22 = D 106 22)
    (hd : ∀ d, 0 ≤ d → d < D 106 21 - 1 → X 119 d = D 119 (if d = c then D 106 21 - 1 else d) ∧ X 120 d = D 120 (if d = c then D 106 21 - 1 else d) ∧ X 121 d = D 121 (if d = c then D 106 21 - 1 else d) ∧ ∀ i, 0 ≤ i → i < 10 → X 118 (10 * d + i) = D 118 (10 * (if d = c then D 106 21 - 1 else d) + i)) : RN0 X k := by
  have hN' := hN
  obtain ⟨r1, r2, r3, r4, r5, r6⟩ := hN
  obtain ⟨m, hm⟩ : ∃ m, m = D 106 21 := ⟨_, rfl⟩
  rw [← hm] at r2 r3 r4 r5 hd b1 c1
  -- distinct times of the last count, either way round
  have w5 : ∀ d e, 0 ≤ d → d < m → 0 ≤ e → e < m → d ≠ e → D 121 d ≠ D 121 e ∧ ¬ (D 119 d = D 119 e ∧ ∀ i, 0 ≤ i → i < D 119 d → D 118 (10 * d + i) = D 118 (10 * e + i)) := fun d e d0 d1 e0 e1 ne => by
    by_cases q : d < e
    · exact r5 d e d0 q e1
    · have := r5 e d e0 (by omega) d1
      refine ⟨fun z => this.1 z.symm, fun z => this.2 ⟨z.1.symm, fun i i0 i1 => (z.2 i i0 (by omega)).symm⟩⟩
  -- D's newcomer e (not c) is X's newcomer i e
  have tr : ∀ q e, 0 ≤ q → q < 8 → q ≠ n → 0 ≤ e → e < m → e ≠ c → ncEq D q e → ncEq X q (if e = m - 1 then c else e) ∧ (0 ≤ (if e = m - 1 then c else e) ∧ (if e = m - 1 then c else e) < m - 1) := fun q e q0 q1 qn e0 e1 ne h => by
    obtain ⟨x, hx, x0, x1, x2⟩ : ∃ x, x = (if e = m - 1 then c else e) ∧ 0 ≤ x ∧ x < m - 1 ∧ (if x = c then m - 1 else x) = e := by
      by_cases z : e = m - 1
      · exact ⟨c, by rw [if_pos z], c0, by omega, by rw [if_pos rfl]; omega⟩
      · exact ⟨e, by rw [if_neg z], e0, by omega, by rw [if_neg ne]⟩
    rw [← hx]
    obtain ⟨d1, d2, d3, d4⟩ := hd x x0 x1
    rw [x2] at d1 d2 d3 d4
    obtain ⟨g1, g2, g3, g4⟩ := h
    have l10 := (r4 e e0 e1).1
    refine ⟨⟨?_, ?_, ?_, fun i i0 i1 => ?_⟩, x0, x1⟩
    · rw [hf 14 q (by omega) (by omega) (by omega) (by omega), d3]; exact g1
    · rw [hf 13 q (by omega) (by omega) (by omega) (by omega), d2]; exact g2
    · rw [hf (15 + 2 * q) 1 (by omega) (by omega) (by omega) (by omega), d1]; exact g3
    · rw [d1] at i1
      rw [hf (16 + 2 * q) i (by omega) (by omega) (by omega) (by omega), d4 i i0 (by omega)]; exact g4 i i0 i1
  refine ⟨?_, ?_, fun q q0 q1 => ?_, fun d d0 d1 => ?_, fun d e d0 de e1 => ?_, fun q r q0 qr r1' hq hr => ?_⟩
  · rw [hf 11 3 (by omega) (by omega) (by omega) (by omega), b2]; exact r1
  · have hs := S_upd (f := fun n => if 0 < D 13 n then (1 : Int) else 0) (g := fun n => if 0 < X 13 n then (1 : Int) else 0) (n := 8) n0 n1 (fun j j0 j1 hj => by
      show (if 0 < X 13 j then (1 : Int) else 0) = if 0 < D 13 j then 1 else 0
      rw [hf 13 j (by omega) (by omega) (by omega) (by omega)])
    have e1 : (if 0 < X 13 n then (1 : Int) else 0) = 0 := by rw [a1]; rfl
    have e2 : (if 0 < D 13 n then (1 : Int) else 0) = 1 := if_pos hu
    rw [e1, e2] at hs
    rw [b1]
    exact ⟨by omega, by omega, by omega⟩
  · refine ⟨?_, ?_⟩
    · rw [hf (15 + 2 * q) 1 (by omega) (by omega) (by omega) (by omega)]; exact (r3 q q0 q1).1
    · by_cases e : q = n
      · rw [e]; exact Or.inl ⟨a1, a2⟩
      · rw [hf 13 q (by omega) (by omega) (by omega) (by omega), hf 14 q (by omega) (by omega) (by omega) (by omega), b2, b1]
        rcases (r3 q q0 q1).2 with z | ⟨z1, z2, z3, e', e0, e1, z4⟩
        · exact Or.inl z
        · have hne : e' ≠ c := fun w => e (st_one hN' q0 q1 n0 n1 (by omega) hu (by rw [z4.1, ec.1, w]))
          obtain ⟨t1, t2, t3⟩ := tr q e' q0 q1 e e0 e1 hne z4
          exact Or.inr ⟨z1, z2, z3, _, t2, t3, t1⟩
  · rw [b1] at d1
    obtain ⟨x1, x2, x3, x4⟩ := hd d d0 d1
    obtain ⟨e, he, e0, e1, e2⟩ : ∃ e, e = (if d = c then m - 1 else d) ∧ 0 ≤ e ∧ e < m ∧ e ≠ c := by
      by_cases z : d = c
      · exact ⟨m - 1, by rw [if_pos z], by omega, by omega, by omega⟩
      · exact ⟨d, by rw [if_neg z], by omega, by omega, z⟩
    rw [← he] at x1 x2 x3 x4
    obtain ⟨l1, q, q0, q1, hq, g⟩ := r4 e e0 e1
    have qn : q ≠ n := fun z => by
      rw [z] at g
      exact (w5 e c e0 e1 c0 c1 e2).1 (by rw [← g.1, ← ec.1])
    refine ⟨by rw [x1]; exact l1, q, q0, q1, by rw [hf 13 q (by omega) (by omega) (by omega) (by omega)]; exact hq, ?_⟩
    obtain ⟨g1, g2, g3, g4⟩ := g
    refine ⟨?_, ?_, ?_, fun i i0 i1 => ?_⟩
    · rw [hf 14 q (by omega) (by omega) (by omega) (by omega), x3]; exact g1
    · rw [hf 13 q (by omega) (by omega) (by omega) (by omega), x2]; exact g2
    · rw [hf (15 + 2 * q) 1 (by omega) (by omega) (by omega) (by omega), x1]; exact g3
    · rw [x1] at i1
      rw [hf (16 + 2 * q) i (by omega) (by omega) (by omega) (by omega), x4 i i0 (by omega)]; exact g4 i i0 i1
  · rw [b1] at e1
    obtain ⟨x1, x2, x3, x4⟩ := hd d d0 (by omega)
    obtain ⟨y1, y2, y3, y4⟩ := hd e (by omega) e1
    obtain ⟨d', hd', p0, p1⟩ : ∃ d', d' = (if d = c then m - 1 else d) ∧ 0 ≤ d' ∧ d' < m := by
      by_cases z : d = c
      · exact ⟨m - 1, by rw [if_pos z], by omega, by omega⟩
      · exact ⟨d, by rw [if_neg z], by omega, by omega⟩
    obtain ⟨e', he', p2, p3, p4⟩ : ∃ e', e' = (if e = c then m - 1 else e) ∧ 0 ≤ e' ∧ e' < m ∧ d' ≠ e' := by
      by_cases z : e = c
      · refine ⟨m - 1, by rw [if_pos z], by omega, by omega, ?_⟩
        rw [hd', if_neg (by omega)]; omega
      · refine ⟨e, by rw [if_neg z], by omega, by omega, ?_⟩
        rw [hd']
        by_cases w : d = c
        · rw [if_pos w]; omega
        · rw [if_neg w]; omega
    rw [← hd'] at x1 x2 x3 x4
    rw [← he'] at y1 y2 y3 y4
    have l1 := (r4 d' p0 p1).1
    have := w5 d' e' p0 p1 p2 p3 p4
    rw [x1, y1, x3, y3]
    refine ⟨this.1, fun z => this.2 ⟨z.1, fun i i0 i1 => ?_⟩⟩
    have := z.2 i i0 i1
    rw [x4 i i0 (by omega), y4 i i0 (by omega)] at this
    exact this
  · have qn : q ≠ n := fun z => by rw [z, a1] at hq; omega
    have rn : r ≠ n := fun z => by rw [z, a1] at hr; omega
    rw [hf 13 q (by omega) (by omega) (by omega) (by omega)] at hq
    rw [hf 13 r (by omega) (by omega) (by omega) (by omega)] at hr
    rw [hf 14 q (by omega) (by omega) (by omega) (by omega), hf 14 r (by omega) (by omega) (by omega) (by omega)]
    exact r6 q r q0 qr r1' hq hr
theorem RN_new {D X : Mem} {k p s : Int} (hN : RN0 D k) (p0 : 0 ≤ p) (p1 : p < 8) (hp : D 13 p = 0) (hm : D 106 21 < 8) (hs : s = D 106 12) (s0 : 1 ≤ s) (s1 : s ≤ 10) (hno : ∀ c, 0 ≤ c → c < D 106 21 → ¬ cm D c) (a1 : X 13 p = 1) (a2 : X 14 p = D 106 22 + 1) (a3 : X 11 3 = D 106 22 + 1) (a4 : X (15 + 2 * p) 1 = s) (a5 : ∀ i, 0 ≤ i → i < s → X (16 + 2 * p) i = D 115 i) (hf : ∀ y i, 13 ≤ y → y ≤ 30 → ¬ (y = 13 ∧ i = p) → ¬ (y = 14 ∧ i = p) → y ≠ 15 + 2 * p → y ≠ 16 + 2 * p → X y i = D y i)
    (b1 : X 106 21 = D 106 21 + 1) (b2 : X 106 22 = D 106 22 + 1) (b3 : X 119 (D 106 21) = s) (b4 : X 120 (D 106 21) = 1) (b5 : X 121 (D 106 21) = D 106 22 + 1) (b6 : ∀ i, 0 ≤ i → i < s → X 118 (10 * D 106 21 + i) = D 115 i) (hg : ∀ y d, 119 ≤ y → y ≤ 121 → d < D 106 21 → X y d = D y d) (hh : ∀ j, j < 10 * D 106 21 → X 118 j = D 118 j) : RN0 X (k + 1) := by
  have hN' := hN
  obtain ⟨r1, r2, r3, r4, r5, r6⟩ := hN
  have tr : ∀ q e, 0 ≤ q → q < 8 → q ≠ p → 0 ≤ e → e < D 106 21 → ncEq D q e → ncEq X q e := fun q e q0 q1 qp e0 e1 h => by
    obtain ⟨g1, g2, g3, g4⟩ := h
    have l1 := (r4 e e0 e1).1
    refine ⟨?_, ?_, ?_, fun i i0 i1 => ?_⟩
    · rw [hf 14 q (by omega) (by omega) (by omega) (by omega) (by omega) (by omega), hg 121 e (by omega) (by omega) e1]; exact g1
    · rw [hf 13 q (by omega) (by omega) (by omega) (by omega) (by omega) (by omega), hg 120 e (by omega) (by omega) e1]; exact g2
    · rw [hf (15 + 2 * q) 1 (by omega) (by omega) (by omega) (by omega) (by omega) (by omega), hg 119 e (by omega) (by omega) e1]; exact g3
    · rw [hg 119 e (by omega) (by omega) e1] at i1
      rw [hf (16 + 2 * q) i (by omega) (by omega) (by omega) (by omega) (by omega) (by omega), hh _ (by omega)]; exact g4 i i0 i1
  have eqp : ncEq X p (D 106 21) := ⟨by rw [a2, b5], by rw [a1, b4], by rw [a4, b3], fun i i0 i1 => by rw [b3] at i1; rw [a5 i i0 i1, b6 i i0 i1]⟩
  refine ⟨by omega, ?_, fun q q0 q1 => ?_, fun d d0 d1 => ?_, fun d e d0 de e1 => ?_, fun q r q0 qr r1' hq hr => ?_⟩
  · have hs := S_upd (f := fun n => if 0 < D 13 n then (1 : Int) else 0) (g := fun n => if 0 < X 13 n then (1 : Int) else 0) (n := 8) p0 p1 (fun j j0 j1 hj => by
      show (if 0 < X 13 j then (1 : Int) else 0) = if 0 < D 13 j then 1 else 0
      rw [hf 13 j (by omega) (by omega) (by omega) (by omega) (by omega) (by omega)])
    have e1 : (if 0 < X 13 p then (1 : Int) else 0) = 1 := by rw [a1]; rfl
    have e2 : (if 0 < D 13 p then (1 : Int) else 0) = 0 := by rw [hp]; rfl
    rw [e1, e2] at hs
    rw [b1]
    exact ⟨by omega, by omega, by omega⟩
  · by_cases e : q = p
    · rw [e, a1, a2, a4, b1, b2]
      exact ⟨by omega, Or.inr ⟨Or.inl rfl, by omega, by omega, D 106 21, by omega, by omega, eqp⟩⟩
    · rw [hf (15 + 2 * q) 1 (by omega) (by omega) (by omega) (by omega) (by omega) (by omega), hf 13 q (by omega) (by omega) (by omega) (by omega) (by omega) (by omega), hf 14 q (by omega) (by omega) (by omega) (by omega) (by omega) (by omega), b1, b2]
      refine ⟨(r3 q q0 q1).1, ?_⟩
      rcases (r3 q q0 q1).2 with z | ⟨z1, z2, z3, e', e0, e1, z4⟩
      · exact Or.inl z
      · exact Or.inr ⟨z1, z2, by omega, e', e0, by omega, tr q e' q0 q1 e e0 e1 z4⟩
  · rw [b1] at d1
    by_cases e : d = D 106 21
    · rw [e, b3]; exact ⟨by omega, p, p0, p1, by omega, eqp⟩
    · obtain ⟨l1, q, q0, q1, hq, g⟩ := r4 d d0 (by omega)
      have qp : q ≠ p := fun z => by rw [z] at hq; omega
      refine ⟨by rw [hg 119 d (by omega) (by omega) (by omega)]; exact l1, q, q0, q1, by rw [hf 13 q (by omega) (by omega) (by omega) (by omega) (by omega) (by omega)]; exact hq, tr q d q0 q1 qp d0 (by omega) g⟩
  · rw [b1] at e1
    have l1 := (r4 d d0 (by omega)).1
    rw [hg 119 d (by omega) (by omega) (by omega), hg 121 d (by omega) (by omega) (by omega)]
    by_cases z : e = D 106 21
    · rw [z, b3, b5]
      obtain ⟨_, q, q0, q1, hq, g⟩ := r4 d d0 (by omega)
      have st := (slot_c hN' q0 q1 hq).2.2.1
      have := g.1
      refine ⟨by omega, fun w => hno d d0 (by omega) ⟨by rw [w.1, hs], fun i i0 i1 => ?_⟩⟩
      have := w.2 i i0 (by omega)
      rw [hh _ (by omega), b6 i i0 (by omega)] at this
      exact this
    · have := r5 d e d0 de (by omega)
      rw [hg 119 e (by omega) (by omega) (by omega), hg 121 e (by omega) (by omega) (by omega)]
      refine ⟨this.1, fun w => this.2 ⟨w.1, fun i i0 i1 => ?_⟩⟩
      have := w.2 i i0 i1
      rw [hh _ (by omega), hh _ (by omega)] at this
      exact this
  · have key : ∀ q, 0 ≤ q → q < 8 → q ≠ p → 0 < X 13 q → X 14 q = D 14 q ∧ 0 < D 13 q ∧ D 14 q ≤ D 106 22 := fun q q0 q1 qp hq => by
      rw [hf 13 q (by omega) (by omega) (by omega) (by omega) (by omega) (by omega)] at hq
      exact ⟨hf 14 q (by omega) (by omega) (by omega) (by omega) (by omega) (by omega), hq, (slot_c hN' q0 q1 hq).2.2.1⟩
    by_cases e1 : q = p
    · have := key r (by omega) r1' (by omega) hr
      rw [e1, a2]; omega
    · have k1 := key q q0 (by omega) e1 hq
      by_cases e2 : r = p
      · rw [e2, a2]; omega
      · have k2 := key r (by omega) r1' e2 hr
        rw [k1.1, k2.1]; exact r6 q r q0 qr r1' k1.2.1 k2.2.1
theorem RN_inc {D X : Mem} {k n c : Int} (hN : RN0 D k) (n0 : 0 ≤ n) (n1 : n < 8) (hu : D 13 n = 1) (c0 : 0 ≤ c) (c1 : c < D 106 21) (ec : ncEq D n c) (a1 : X 13 n = 2) (a2 : X 14 n = D 106 22 + 1) (a3 : X 11 3 = D 106 22 + 1) (hf : ∀ y i, 13 ≤ y → y ≤ 30 → ¬ (y = 13 ∧ i = n) → ¬ (y = 14 ∧ i = n) → X y i = D y i)
    (b1 : X 106 21 = D 106 21) (b2 : X 106 22 = D 106 22 + 1) (b4 : X 120 c = 2) (b5 : X 121 c = D 106 22 + 1) (hg : ∀ y d, 118 ≤ y → y ≤ 121 → ¬ (y = 120 ∧ d = c) → ¬ (y = 121 ∧ d = c) → X y d = D y d) : RN0 X (k + 1) := by
  have hN' := hN
  obtain ⟨r1, r2, r3, r4, r5, r6⟩ := hN
  have w5 : ∀ d e, 0 ≤ d → d < D 106 21 → 0 ≤ e → e < D 106 21 → d ≠ e → D 121 d ≠ D 121 e := fun d e d0 d1 e0 e1 ne => by
    by_cases q : d < e
    · exact (r5 d e d0 q e1).1
    · exact fun z => (r5 e d e0 (by omega) d1).1 z.symm
  have e119 : X 119 = D 119 := funext fun i => hg 119 i (by omega) (by omega) (by omega) (by omega)
  have e118 : X 118 = D 118 := funext fun i => hg 118 i (by omega) (by omega) (by omega) (by omega)
  have eqn : ncEq X n c := by
    obtain ⟨g1, g2, g3, g4⟩ := ec
    refine ⟨by rw [a2, b5], by rw [a1, b4], ?_, fun i i0 i1 => ?_⟩
    · rw [hf (15 + 2 * n) 1 (by omega) (by omega) (by omega) (by omega), e119]; exact g3
    · rw [e119] at i1
      rw [hf (16 + 2 * n) i (by omega) (by omega) (by omega) (by omega), e118]; exact g4 i i0 i1
  have tr : ∀ q e, 0 ≤ q → q < 8 → q ≠ n → e ≠ c → ncEq D q e → ncEq X q e := fun q e q0 q1 qn ne h => by
    obtain ⟨g1, g2, g3, g4⟩ := h
    refine ⟨?_, ?_, ?_, fun i i0 i1 => ?_⟩
    · rw [hf 14 q (by omega) (by omega) (by omega) (by omega), hg 121 e (by omega) (by omega) (by omega) (by omega)]; exact g1
    · rw [hf 13 q (by omega) (by omega) (by omega) (by omega), hg 120 e (by omega) (by omega) (by omega) (by omega)]; exact g2
    · rw [hf (15 + 2 * q) 1 (by omega) (by omega) (by omega) (by omega), e119]; exact g3
    · rw [e119] at i1
      rw [hf (16 + 2 * q) i (by omega) (by omega) (by omega) (by omega), e118]; exact g4 i i0 i1
  refine ⟨by omega, ?_, fun q q0 q1 => ?_, fun d d0 d1 => ?_, fun d e d0 de e1 => ?_, fun q r q0 qr r1' hq hr => ?_⟩
  · have hs : S (fun n => if 0 < X 13 n then (1 : Int) else 0) 8 = S (fun n => if 0 < D 13 n then (1 : Int) else 0) 8 := S_congr fun j j0 j1 => by
      show (if 0 < X 13 j then (1 : Int) else 0) = if 0 < D 13 j then 1 else 0
      by_cases e : j = n
      · rw [e, a1, hu]; rfl
      · rw [hf 13 j (by omega) (by omega) (by omega) (by omega)]
    rw [b1, hs]; exact r2
  · refine ⟨by rw [hf (15 + 2 * q) 1 (by omega) (by omega) (by omega) (by omega)]; exact (r3 q q0 q1).1, ?_⟩
    by_cases e : q = n
    · rw [e, a1, a2, b1, b2]; exact Or.inr ⟨Or.inr rfl, by omega, by omega, c, c0, c1, eqn⟩
    · rw [hf 13 q (by omega) (by omega) (by omega) (by omega), hf 14 q (by omega) (by omega) (by omega) (by omega), b1, b2]
      rcases (r3 q q0 q1).2 with z | ⟨z1, z2, z3, e', e0, e1, z4⟩
      · exact Or.inl z
      · exact Or.inr ⟨z1, z2, by omega, e', e0, e1, tr q e' q0 q1 e (fun w => e (st_one hN' q0 q1 n0 n1 (by omega) (by omega) (by rw [z4.1, ec.1, w]))) z4⟩
  · rw [b1] at d1
    obtain ⟨l1, q, q0, q1, hq, g⟩ := r4 d d0 d1
    refine ⟨by rw [e119]; exact l1, ?_⟩
    by_cases e : d = c
    · exact ⟨n, n0, n1, by omega, by rw [e]; exact eqn⟩
    · have qn : q ≠ n := fun z => by
        rw [z] at g
        exact w5 d c d0 d1 c0 c1 e (by rw [← g.1, ← ec.1])
      exact ⟨q, q0, q1, by rw [hf 13 q (by omega) (by omega) (by omega) (by omega)]; exact hq, tr q d q0 q1 qn e g⟩
  · rw [b1] at e1
    rw [e119, e118]
    refine ⟨?_, (r5 d e d0 de e1).2⟩
    have key : ∀ d, 0 ≤ d → d < D 106 21 → d ≠ c → X 121 d = D 121 d ∧ D 121 d ≤ D 106 22 := fun d d0 d1 dc => by
      obtain ⟨_, q, q0, q1, hq, g⟩ := r4 d d0 d1
      have := (slot_c hN' q0 q1 hq).2.2.1
      exact ⟨hg 121 d (by omega) (by omega) (by omega) (by omega), by rw [← g.1]; exact this⟩
    by_cases z1 : d = c
    · have := key e (by omega) e1 (by omega)
      rw [z1, b5]; omega
    · have k1 := key d d0 (by omega) z1
      by_cases z2 : e = c
      · rw [z2, b5]; omega
      · have k2 := key e (by omega) e1 z2
        rw [k1.1, k2.1]; exact (r5 d e d0 de e1).1
  · have key : ∀ q, 0 ≤ q → q < 8 → q ≠ n → 0 < X 13 q → X 14 q = D 14 q ∧ 0 < D 13 q ∧ D 14 q ≤ D 106 22 := fun q q0 q1 qp hq => by
      rw [hf 13 q (by omega) (by omega) (by omega) (by omega)] at hq
      exact ⟨hf 14 q (by omega) (by omega) (by omega) (by omega), hq, (slot_c hN' q0 q1 hq).2.2.1⟩
    by_cases e1 : q = n
    · have := key r (by omega) r1' (by omega) hr
      rw [e1, a2]; omega
    · have k1 := key q q0 (by omega) e1 hq
      by_cases e2 : r = n
      · rw [e2, a2]; omega
      · have k2 := key r (by omega) r1' e2 hr
        rw [k1.1, k2.1]; exact r6 q r q0 qr r1' k1.2.1 k2.2.1
