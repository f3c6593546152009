/-! a word goes -/
theorem sp_12 {D : Mem} {k n : Int} {f : Int → Int → Int} (hW : RW D k) (h : LPr D n f) (hn : n ≤ 80) {w : Int} (ht : thr D w) : ∃ E, qR 12 [(3, 5), (0, w)] (mk D) = some ((9, 0), mk E) ∧ LPr E n (fun a b => if a = w ∨ b = w then 0 else f a b) ∧ E (131 + 3 * w) 3 = 0 ∧ E 5 3 = D 5 3 - 1 ∧ ∀ y i, ¬ (7 ≤ y ∧ y ≤ 10) → ¬ (y = 131 + 3 * w ∧ i = 3) → ¬ (y = 5 ∧ i = 3) → E y i = D y i := by
  have hn := hW.1
  obtain ⟨t0, t1, t2⟩ := ht
  obtain ⟨v1, v2⟩ := thr_cl hW t0 t1
  have h53 := hW.2.2.2.1
  have b53 := S_01 (f := D 112) (n := D 106 6) hn.2.1 (fun j j0 j1 => by have := (thr_cl hW j0 j1).2; omega)
  have g5 : 0 ≤ w ∧ w < D 5 2 := by omega
  have e0 : ¬ (131 + 3 * w = 0) := by omega
  have e2 := mk_wk g5.1 g5.2
  have e3 : mk D (131 + 3 * w) 3 = 1 := by rw [mk_wf t0 (by decide)]; omega
  have e4 := mu_wf (D := D) (w := w) (i := 3) (v := 0) t0 (by decide)
  have e5 : mU D (131 + 3 * w) 3 0 5 3 = D 5 3 := mU_r (by omega)
  have e6 : w32 (D 5 3 - 1) = D 5 3 - 1 := w32_id (by omega) (by omega)
  obtain ⟨E, q1, q2, q3⟩ := sp_47 (D := mU (mU D (131 + 3 * w) 3 0) 5 3 (D 5 3 - 1)) (LP_congr (fun y i y0 y1 => by rw [mU_r (by omega), mU_r (by omega)]) h) (by omega) w
  refine ⟨E, ?_, q2, ?_, ?_, fun y i y1 y2 y3 => ?_⟩
  · rw [r_12, sp_7 (by omega) w, if_pos g5]
    simp only [Option.bind_some, psh_3, e_12_5, if_neg e0, if_pos e2, e3, e4]
    rw [if_neg (by decide), e_12_22, e5, e6, q1]
    simp only [Option.bind_some, psh_9, e_12_40]
  · rw [q3 _ _ (by omega), mU_r (by omega), mU_s]
  · rw [q3 _ _ (by omega), mU_s]
  · rw [q3 y i y1, mU_other y3, mU_other y2]
theorem sp_151 {D : Mem} {w : Int} (h0 : 0 ≤ w) (h1 : w < 80) : ∃ E, qR 151 [(3, 106), (0, w)] (mk D) = some ((9, 0), mk E) ∧ E 112 w = 0 ∧ (∀ y i, y ≠ 113 → ¬ (y = 112 ∧ i = w) → E y i = D y i) ∧ ∀ a b, 0 ≤ a → a < 80 → 0 ≤ b → b < 80 → E 113 (80 * a + b) = if a = w ∨ b = w then 0 else D 113 (80 * a + b) := by
  obtain ⟨E, e, h2, h3⟩ := it_inv (fun i (E : Mem) => qE 151 9 [(3, 106), (0, w), (0, i)] [] (mk E)) (fun v E => (∀ y i, y ≠ 113 → E y i = mU D 112 w 0 y i) ∧ ∀ a b, 0 ≤ a → a < 80 → 0 ≤ b → b < 80 → E 113 (80 * a + b) = if (a = w ∧ b < v) ∨ (b = w ∧ a < v) then 0 else D 113 (80 * a + b)) (a := 0) (n := 80) (by decide)
    (fun v E v0 v1 ⟨h2, h3⟩ => by
      have e1 : w32 (80 * w) = 80 * w := w32_id (by omega) (by omega)
      have e2 : w32 (80 * w + v) = 80 * w + v := w32_id (by omega) (by omega)
      have e3 : w32 (80 * v) = 80 * v := w32_id (by omega) (by omega)
      have e4 : w32 (80 * v + w) = 80 * v + w := w32_id (by omega) (by omega)
      have e5 : w32 (v + 1) = v + 1 := w32_id (by omega) (by omega)
      refine ⟨mU (mU E 113 (80 * w + v) 0) 113 (80 * v + w) 0, ?_, fun y i hy => ?_, fun a b a0 a1 b0 b1 => ?_⟩
      · show qE 151 9 [(3, 106), (0, w), (0, v)] [] (mk E) = qE 151 9 [(3, 106), (0, w), (0, v + 1)] [] (mk _)
        rw [e_151_9, if_pos v1, e1, e2, e3, e4, e5, if_pos (by omega), if_pos (by omega)]
      · rw [mU_r hy, mU_r hy]; exact h2 y i hy
      · by_cases c1 : 80 * a + b = 80 * v + w
        · rw [c1, mU_s, if_pos (by omega)]
        · rw [mU_other (by omega)]
          by_cases c2 : 80 * a + b = 80 * w + v
          · rw [c2, mU_s, if_pos (by omega)]
          · rw [mU_other (by omega), h3 a b a0 a1 b0 b1]
            by_cases c3 : (a = w ∧ b < v) ∨ (b = w ∧ a < v)
            · rw [if_pos c3, if_pos (by omega)]
            · rw [if_neg c3, if_neg (by omega)])
    (s0 := mU D 112 w 0) ⟨fun _ _ _ => rfl, fun a b a0 a1 b0 b1 => by rw [if_neg (by omega), mU_r (by decide)]⟩
  refine ⟨E, ?_, ?_, fun y i y1 y2 => ?_, fun a b a0 a1 b0 b1 => ?_⟩
  · rw [r_151, if_pos ⟨h0, h1⟩]
    refine e.trans ?_
    show qE 151 9 [(3, 106), (0, w), (0, 80)] [] (mk E) = _
    rw [e_151_9, if_neg (by decide)]
  · rw [h2 112 w (by decide), mU_s]
  · rw [h2 y i y1, mU_other y2]
  · rw [h3 a b a0 a1 b0 b1]
    by_cases c : a = w ∨ b = w
    · rw [if_pos c, if_pos (by omega)]
    · rw [if_neg c, if_neg (by omega)]
theorem RW_gone {D E : Mem} {k w : Int} (hW : RW D k) (ht : thr D w) (z1 : E (131 + 3 * w) 3 = 0) (z2 : E 112 w = 0) (z3 : E 5 3 = D 5 3 - 1) (hf : ∀ y i, supW y i → ¬ (y = 131 + 3 * w ∧ i = 3) → ¬ (y = 112 ∧ i = w) → ¬ (y = 5 ∧ i = 3) → E y i = D y i) : RW E k := by
  obtain ⟨t0, t1, t2⟩ := ht
  have r109 : E 109 = D 109 := funext fun i => hf 109 i (by unfold supW; omega) (by omega) (by omega) (by omega)
  have r108 : E 108 = D 108 := funext fun i => hf 108 i (by unfold supW; omega) (by omega) (by omega) (by omega)
  have r110 : E 110 = D 110 := funext fun i => hf 110 i (by unfold supW; omega) (by omega) (by omega) (by omega)
  have r111 : E 111 = D 111 := funext fun i => hf 111 i (by unfold supW; omega) (by omega) (by omega) (by omega)
  have f6 : E 106 6 = D 106 6 := hf 106 6 (by unfold supW; omega) (by omega) (by omega) (by omega)
  have f8 : E 106 8 = D 106 8 := hf 106 8 (by unfold supW; omega) (by omega) (by omega) (by omega)
  obtain ⟨w1, w2, w3, w4, w5⟩ := hW
  have hs := S_upd (f := D 112) (g := E 112) (n := D 106 6) t0 t1 (fun j j0 j1 hj => hf 112 j (by unfold supW; omega) (by omega) (by omega) (by omega))
  have k1 : ∀ v, E 112 v = 1 → v ≠ w := fun v hv e => by rw [e, z2] at hv; omega
  have k2 : ∀ v, v ≠ w → E 112 v = D 112 v := fun v hv => hf 112 v (by unfold supW; omega) (by omega) (by omega) (by omega)
  refine ⟨?_, ?_, fun v g0 g1 => ?_, ?_, fun u v g0 g1 g2 g3 g4 => ?_⟩
  · rw [hf 5 2 (by unfold supW; omega) (by omega) (by omega) (by omega), f6]; exact w1
  · rw [hf 5 4 (by unfold supW; omega) (by omega) (by omega) (by omega), f8]; exact w2
  · rw [f6] at g1
    obtain ⟨v1, v2, v3, v4, v5⟩ := w3 v g0 g1
    unfold wordOK
    rw [r109, r108, r111, r110, f8, hf (132 + 3 * v) 1 (by unfold supW; omega) (by omega) (by omega) (by omega), hf (-(133 + 3 * v)) 1 (by unfold supW; omega) (by omega) (by omega) (by omega), hf (131 + 3 * v) 2 (by unfold supW; omega) (by omega) (by omega) (by omega), hf (131 + 3 * v) 1 (by unfold supW; omega) (by omega) (by omega) (by omega)]
    refine ⟨v1, fun i j0 j1 => ?_, v3, v4, ?_⟩
    · rw [hf (133 + 3 * v) i (by unfold supW; omega) (by omega) (by omega) (by omega)]; exact v2 i j0 j1
    · by_cases e : v = w
      · subst e; rw [z1, z2]; exact ⟨rfl, Or.inl rfl⟩
      · rw [hf (131 + 3 * v) 3 (by unfold supW; omega) (by omega) (by omega) (by omega), k2 v e]; exact v5
  · rw [z3, f6, hs, z2, t2]; omega
  · rw [f6] at g2
    have n1 := k1 u g3
    have n2 := k1 v g4
    rw [k2 u n1] at g3
    rw [k2 v n2] at g4
    have := w5 u v g0 g1 g2 g3 g4
    unfold sameW at this ⊢
    rw [r109, r108]; exact this
theorem ca_drop {D : Mem} {k : Int} (hR : Rel D k) (w : Int) : CaseOK D k 101 155 [(0, w)] := by
  have hW := hR.2.1
  have hn := hW.1
  have m1 := sp_143 hn.2.1 hn.2.2 w
  by_cases h : 0 ≤ w ∧ w < D 106 6
  · have h5 : 0 ≤ w ∧ w < D 5 2 := by omega
    have h80 : 0 ≤ w ∧ w < 80 := by omega
    by_cases ht : thr D w
    · obtain ⟨E, q1, q2, q3, q4, q5⟩ := sp_12 hW (LP_RP hR.2.2.1) hn.2.2 ht
      have n6 : E 106 6 = D 106 6 := q5 _ _ (by omega) (by omega) (by omega)
      have m2 := sp_143 (D := E) (by omega) (by omega) w
      rw [n6] at m2
      obtain ⟨F, p1, p2, p3, p4⟩ := sp_151 (D := E) h80.1 h80.2
      have t2 := ht.2.2
      have t3 : ¬ E 112 w = 0 := by rw [q5 _ _ (by omega) (by omega) (by omega), t2]; decide
      have hf : ∀ y i, ¬ (7 ≤ y ∧ y ≤ 10) → y ≠ 113 → ¬ (y = 131 + 3 * w ∧ i = 3) → ¬ (y = 112 ∧ i = w) → ¬ (y = 5 ∧ i = 3) → F y i = D y i := fun y i y1 y2 y3 y4 y5 => by rw [p3 y i y2 y4, q5 y i y1 y3 y5]
      refine ⟨1, E, F, ?_, ?_, ⟨RK_congr (fun y i q => hf y i (by omega) (by omega) (by omega) (by omega) (by omega)) hR.1, RW_mono (RW_gone hW ht ?_ p2 ?_ (fun y i q y1 y2 y3 => hf y i (by unfold supW at q; omega) (by unfold supW at q; omega) y1 y2 y3)), RP_LP (LP_congr (fun y i y0 y1 => p3 y i (by omega) (by omega)) q2) ?_ hn.2.2 (fun a b a0 a1 b0 b1 => ?_), RS_congr (fun y i q => hf y i (by unfold supS at q; omega) (by unfold supS at q; omega) (by unfold supS at q; omega) (by unfold supS at q; omega) (by unfold supS at q; omega)) hR.2.2.2.1, RN_mono (RN_congr (fun y i q => hf y i (by unfold supN at q; omega) (by unfold supN at q; omega) (by unfold supN at q; omega) (by unfold supN at q; omega) (by unfold supN at q; omega)) hR.2.2.2.2)⟩, fun i => hf _ _ (by omega) (by omega) (by omega) (by omega) (by omega), fun i => hf _ _ (by omega) (by omega) (by omega) (by omega) (by omega)⟩
      · simp [r_101, sp_6, psh_0, psh_9, e_101_8, e_101_21, e_101_35, h5, (sp_8 hW w).1 ht, q1]
      · simp [r_155, m2, psh_0, psh_9, e_155_5, e_155_27, h, h80, t3, p1]
      · rw [p3 _ _ (by omega) (by omega)]; exact q3
      · rw [p3 _ _ (by omega) (by omega)]; exact q4
      · rw [p3 _ _ (by omega) (by omega), n6]
      · rw [p4 a b a0 a1 b0 b1, q5 113 _ (by omega) (by omega) (by omega)]
    · have t3 : D 112 w = 0 := by have := (thr_cl hW h.1 h.2).2; rcases this with t | t; exact t; exact absurd ⟨h.1, h.2, t⟩ ht
      exact case_same (v := -4) hR (by simp [r_101, sp_6, psh_0, e_101_8, e_101_21, h5, (sp_8 hW w).2 ht]) (by simp [r_155, m1, psh_0, e_155_5, h, h80, t3])
  · have h5 : ¬ (0 ≤ w ∧ w < D 5 2) := by omega
    exact case_same (v := -1) hR (by simp [r_101, sp_6, psh_0, e_101_8, h5]) (by simp [r_155, m1, psh_0, e_155_5, h])
