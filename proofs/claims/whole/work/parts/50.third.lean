/-! third: a row of letters counted -/
theorem full_all {D : Mem} {k : Int} (hN : RN0 D k) (hm : D 106 21 = 8) : ∀ n, 0 ≤ n → n < 8 → 0 < D 13 n := fun n n0 n1 => by
  have h := S_all (f := fun n => if 0 < D 13 n then (1 : Int) else 0) (n := 8) (fun j j0 j1 => by
    show 0 ≤ (if 0 < D 13 j then (1 : Int) else 0) ∧ (if 0 < D 13 j then (1 : Int) else 0) ≤ 1
    split <;> decide) (by rw [hN.2.1.2.2, hm]) n0 n1
  have h' : (if 0 < D 13 n then (1 : Int) else 0) = 1 := h
  by_cases c : 0 < D 13 n
  · exact c
  · rw [if_neg c] at h'; omega
theorem some_free {D : Mem} {k : Int} (hN : RN0 D k) (hm : D 106 21 < 8) : ∃ n, 0 ≤ n ∧ n < 8 ∧ D 13 n = 0 ∧ D 14 n = 0 := by
  obtain ⟨n, n0, n1, h⟩ := S_some (f := fun n => if 0 < D 13 n then (1 : Int) else 0) (n := 8) (by decide) (fun j j0 j1 => by
    show 0 ≤ (if 0 < D 13 j then (1 : Int) else 0) ∧ (if 0 < D 13 j then (1 : Int) else 0) ≤ 1
    split <;> decide) (by rw [hN.2.1.2.2]; exact hm)
  have h' : (if 0 < D 13 n then (1 : Int) else 0) = 0 := h
  have : ¬ 0 < D 13 n := fun q => by rw [if_pos q] at h'; omega
  rcases (hN.2.2.1 n n0 n1).2 with z | z
  · exact ⟨n, n0, n1, z.1, z.2⟩
  · omega
/-- both sides count letters that no newcomer has -/
theorem add_new {D : Mem} {k : Int} (hN : RN0 D k) (hS : RSa D) (hk : k ≤ 1000) (s0 : 1 ≤ D 106 12) (h : ∀ n, 0 ≤ n → n < 8 → ¬ nm D n) : ∃ C, qR 37 [(3, 11), (3, 98)] (mk D) = some ((0, 1), mk C) ∧ (∀ y i, ¬ (11 ≤ y ∧ y ≤ 30) → C y i = D y i) ∧ ∀ E : Mem, (∀ y i, (118 ≤ y ∧ y ≤ 121) ∨ y = 115 ∨ (y = 106 ∧ (i = 12 ∨ i = 21 ∨ i = 22)) → E y i = D y i) → ∃ F c, qR 188 [(3, 106)] (mk E) = some ((9, 0), mk F) ∧ c = F 106 21 - 1 ∧ 0 ≤ c ∧ c < 8 ∧ F 120 c = 0 ∧ F 106 22 = D 106 22 ∧ (∀ y i, ¬ (118 ≤ y ∧ y ≤ 121) → ¬ (y = 106 ∧ i = 21) → F y i = E y i) ∧ ∀ X : Mem, (∀ y i, 11 ≤ y → y ≤ 30 → X y i = C y i) → (X 106 21 = F 106 21 ∧ X 106 22 = D 106 22 + 1 ∧ X 120 c = 1 ∧ X 121 c = D 106 22 + 1) → (∀ y i, 118 ≤ y → y ≤ 121 → ¬ (y = 120 ∧ i = c) → ¬ (y = 121 ∧ i = c) → X y i = F y i) → RN0 X (k + 1) := by
  obtain ⟨p, C, q1, ⟨p0, p1, pm⟩, a1, a2, a3, a4, a5, a6⟩ := sp_37n hN hk hS h
  refine ⟨C, q1, fun y i hy => a6 y i (by omega) (by omega) (by omega) (by omega) (by omega), fun E hE => ?_⟩
  have hS' := hS
  obtain ⟨s1, s2, s3, s4, s5⟩ := hS
  have m0 := hN.2.1
  have E21 := hE 106 21 (by omega)
  have E12 := hE 106 12 (by omega)
  have E22 := hE 106 22 (by omega)
  have E115 : ∀ i, E 115 i = D 115 i := fun i => hE _ _ (by omega)
  have nocm := no_cm hN h
  -- a memory V with a free slot p, its reference cells R
  have key : ∃ R V v1 v2, qR 188 [(3, 106)] (mk E) = qE 188 53 [(3, 106), v1, v2] [] (mk R) ∧ RN0 V k ∧ V 13 p = 0 ∧ V 106 21 < 8 ∧ (∀ y i, 13 ≤ y → y ≤ 30 → ¬ (y = 13 ∧ i = p) → ¬ (y = 14 ∧ i = p) → V y i = D y i) ∧ (∀ y i, 106 ≤ y → y ≤ 130 → V y i = R y i) ∧ (∀ y i, ¬ (118 ≤ y ∧ y ≤ 121) → ¬ (y = 106 ∧ i = 21) → R y i = E y i) ∧ (∀ c, 0 ≤ c → c < V 106 21 → ¬ cm V c) := by
    by_cases hm : D 106 21 = 8
    · obtain ⟨c, x, e1, c0, c1, cmin⟩ := sq_188o (D := E) (by rw [E21]; exact hm)
      obtain ⟨R, g1, g2, g3, g4⟩ := sq_187 (D := E) (c := c) (m := 8) (by rw [E21]; exact hm) (by decide) c0 c1
      have cmin' : ∀ d, 0 ≤ d → d < 8 → D 121 c ≤ D 121 d := fun d d0 d1 => by
        have := cmin d d0 d1; rw [hE 121 c (by omega), hE 121 d (by omega)] at this; exact this
      -- slot of c is p
      obtain ⟨_, n, n0, n1, hn, en⟩ := hN.2.2.2.1 c c0 (by omega)
      have up := full_all hN hm p p0 p1
      obtain ⟨_, _, _, d, d0, d1, ed⟩ := slot_c hN p0 p1 up
      have b1 := cmin' d d0 (by omega)
      have b2 := pm n n0 n1
      have np : n = p := st_one hN n0 n1 p0 p1 hn up (by have := en.1; have := ed.1; omega)
      subst np
      have o : ∀ y i, ¬ (y = 13 ∧ i = n) → ¬ (y = 14 ∧ i = n) → mU (mU D 13 n 0) 14 n 0 y i = D y i := fun y i z1 z2 => by rw [mU_other z2, mU_other z1]
      have Mr : ∀ y i, 106 ≤ y → y ≤ 130 → mrg (mU (mU D 13 n 0) 14 n 0) R y i = R y i := fun y i a b => mrg_r _ _ ⟨a, b⟩ i
      have Mc : ∀ y i, y < 106 → mrg (mU (mU D 13 n 0) 14 n 0) R y i = mU (mU D 13 n 0) 14 n 0 y i := fun y i a => mrg_c _ _ (by unfold rfc; omega) i
      refine ⟨R, mrg (mU (mU D 13 n 0) 14 n 0) R, (0, c), (0, x), by rw [e1, g1]; rfl, RN_drop hN n0 n1 hn c0 (by omega) en ?_ ?_ (fun y i y0 y1 z1 z2 => ?_) ?_ ?_ (fun d d0 d1 => ?_), ?_, ?_, fun y i y0 y1 z1 z2 => ?_, Mr, g4, fun d d0 d1 hc => ?_⟩
      · rw [Mc _ _ (by omega), mU_r (by decide), mU_s]
      · rw [Mc _ _ (by omega), mU_s]
      · rw [Mc _ _ (by omega), o y i z1 z2]
      · rw [Mr _ _ (by omega) (by omega), g2, hm]
      · rw [Mr _ _ (by omega) (by omega), g4 _ _ (by omega) (by omega), E22]
      · obtain ⟨x1, x2, x3, x4⟩ := g3 d d0 (by omega)
        rw [Mr _ _ (by omega) (by omega), Mr _ _ (by omega) (by omega), Mr _ _ (by omega) (by omega), hm, x1, x2, x3, hE _ _ (by omega), hE _ _ (by omega), hE _ _ (by omega)]
        refine ⟨rfl, rfl, rfl, fun i i0 i1 => ?_⟩
        rw [Mr _ _ (by omega) (by omega), x4 i i0 i1, hE _ _ (by omega)]
      · rw [Mc _ _ (by omega), mU_r (by decide), mU_s]
      · rw [Mr _ _ (by omega) (by omega), g2]; decide
      · rw [Mc _ _ (by omega), o y i z1 z2]
      · rw [Mr _ _ (by omega) (by omega), g2] at d1
        obtain ⟨x1, x2, x3, x4⟩ := g3 d d0 d1
        obtain ⟨e, he, e0, e1⟩ : ∃ e, e = (if d = c then 8 - 1 else d) ∧ 0 ≤ e ∧ e < 8 := by
          by_cases z : d = c
          · exact ⟨7, by rw [if_pos z]; rfl, by omega, by omega⟩
          · exact ⟨d, by rw [if_neg z], by omega, by omega⟩
        rw [← he] at x1 x4
        have z12 : mrg (mU (mU D 13 n 0) 14 n 0) R 106 12 = D 106 12 := by rw [Mr _ _ (by omega) (by omega), g4 _ _ (by omega) (by omega), E12]
        have l10 := (hN.2.2.2.1 e e0 (by omega)).1
        refine nocm e e0 (by omega) ⟨?_, fun i i0 i1 => ?_⟩
        · have := hc.1
          rw [z12, Mr _ _ (by omega) (by omega), x1, hE _ _ (by omega)] at this
          exact this
        · have := hc.2 i i0 (by rw [z12]; exact i1)
          rw [Mr _ _ (by omega) (by omega), Mr _ _ (by omega) (by omega), x4 i i0 (by omega), hE _ _ (by omega), g4 _ _ (by omega) (by omega), E115] at this
          exact this
    · obtain ⟨f, f0, f1, f2, f3⟩ := some_free hN (by omega)
      have fp := pm f f0 f1
      have p13 : D 13 p = 0 := by
        rcases (hN.2.2.1 p p0 p1).2 with z | z
        · exact z.1
        · omega
      have Mr : ∀ y i, 106 ≤ y → y ≤ 130 → mrg D E y i = E y i := fun y i a b => mrg_r _ _ ⟨a, b⟩ i
      have Mc : ∀ y i, y < 106 → mrg D E y i = D y i := fun y i a => mrg_c _ _ (by unfold rfc; omega) i
      have MD : ∀ y i, (118 ≤ y ∧ y ≤ 121) ∨ y = 115 ∨ (y = 106 ∧ (i = 12 ∨ i = 21 ∨ i = 22)) → mrg D E y i = D y i := fun y i q => by rw [Mr _ _ (by omega) (by omega)]; exact hE y i q
      refine ⟨E, mrg D E, (9, 0), (9, 0), by rw [r_188, E21, if_neg hm], RN0_congr (fun y i q => ?_) hN, by rw [Mc _ _ (by omega)]; exact p13, by rw [MD _ _ (by omega)]; omega, fun y i y0 y1 _ _ => Mc _ _ (by omega), Mr, fun _ _ _ _ => rfl, fun c c0 c1 hc => ?_⟩
      · by_cases q1 : y < 106
        · exact Mc _ _ q1
        · exact MD _ _ (by omega)
      · rw [MD _ _ (by omega)] at c1
        refine nocm c c0 c1 ⟨?_, fun i i0 i1 => ?_⟩
        · have := hc.1
          rw [MD _ _ (by omega), MD _ _ (by omega)] at this
          exact this
        · have := hc.2 i i0 (by rw [MD _ _ (by omega)]; exact i1)
          rw [MD _ _ (by omega), MD _ _ (by omega)] at this
          exact this
  obtain ⟨R, V, v1, v2, k1, k2, k3, k4, k5, k6, k7, k8⟩ := key
  have V21 := k6 106 21 (by omega) (by omega)
  have V22 : V 106 22 = D 106 22 := by rw [k6 _ _ (by omega) (by omega), k7 _ _ (by omega) (by omega), E22]
  have V12 : V 106 12 = D 106 12 := by rw [k6 _ _ (by omega) (by omega), k7 _ _ (by omega) (by omega), E12]
  have V115 : ∀ i, V 115 i = D 115 i := fun i => by rw [k6 _ _ (by omega) (by omega), k7 _ _ (by omega) (by omega), E115]
  have vm := k2.2.1
  obtain ⟨F, f1, f2, f3, f4, f5, f6⟩ := sq_188e (D := R) (m := V 106 21) (s := D 106 12) V21.symm vm.1 k4 (by rw [k7 _ _ (by omega) (by omega), E12]) s2 s3 v1 v2
  have R115 : ∀ i, R 115 i = D 115 i := fun i => by rw [k7 _ _ (by omega) (by omega), E115]
  refine ⟨F, V 106 21, by rw [k1, f1], by rw [f2]; omega, vm.1, k4, f4, ?_, fun y i y1 y2 => ?_, fun X x1 ⟨x2, x3, x4, x5⟩ x6 => ?_⟩
  · rw [f6 _ _ (by omega) (by omega) (by omega) (by omega), k7 _ _ (by omega) (by omega), E22]
  · rw [f6 _ _ (by omega) (by omega) (by omega) (by omega), k7 _ _ (by omega) (by omega)]
  · refine RN_new (D := V) (p := p) (s := D 106 12) k2 p0 p1 k3 k4 V12.symm s0 s3 k8 ?_ ?_ ?_ ?_ (fun i i0 i1 => ?_) (fun y i y0 y1 z1 z2 z3 z4 => ?_) ?_ ?_ ?_ x4 ?_ (fun i i0 i1 => ?_) (fun y d y0 y1 d1 => ?_) (fun j hj => ?_)
    · rw [x1 _ _ (by omega) (by omega)]; exact a1
    · rw [x1 _ _ (by omega) (by omega), V22]; exact a2
    · rw [x1 _ _ (by omega) (by omega), V22]; exact a3
    · rw [x1 _ _ (by omega) (by omega)]; exact a4
    · rw [x1 _ _ (by omega) (by omega), V115]; exact a5 i i0 i1
    · rw [x1 _ _ (by omega) (by omega), a6 y i z1 z2 (by omega) z3 z4]; exact (k5 y i y0 y1 z1 z2).symm
    · rw [x2, f2]
    · rw [x3, V22]
    · rw [x6 _ _ (by omega) (by omega) (by omega) (by omega)]; exact f3
    · rw [x5, V22]
    · rw [x6 _ _ (by omega) (by omega) (by omega) (by omega), f5 i i0 i1, R115, V115]
    · rw [x6 _ _ (by omega) (by omega) (by omega) (by omega), f6 _ _ (by omega) (by omega) (by omega) (by omega), k6 _ _ (by omega) (by omega)]
    · rw [x6 _ _ (by omega) (by omega) (by omega) (by omega), f6 _ _ (by omega) (by omega) (by omega) (by omega), k6 _ _ (by omega) (by omega)]
