/-! a word learnt on both sides -/
theorem two_V {V X : Mem} {k : Int} (hW : RW V k) (hP : RP V) (hS : RSc V) (gW : RW X k) (gP : RP X) (gS : RSc X) (h : ∀ y i, ¬ rfc y → X y i = V y i) : X 106 6 = V 106 6 ∧ X 106 8 = V 106 8 ∧ X 106 16 = V 106 16 ∧ X 117 = V 117 ∧ (∀ w, 0 ≤ w → w < V 106 6 → X 110 w = V 110 w ∧ X 112 w = V 112 w) ∧ lat X = lat V ∧ (∀ a b, 0 ≤ a → a < 80 → 0 ≤ b → b < 80 → X 113 (80 * a + b) = V 113 (80 * a + b)) ∧ X 7 3 = V 7 3 := by
  have c : ∀ y i, (y < 106 ∨ 130 < y) → X y i = V y i := fun y i q => h y i (by unfold rfc; omega)
  have h6 : X 106 6 = V 106 6 := by have a := hW.1.1; have b := gW.1.1; rw [c _ _ (by omega)] at b; omega
  have h8 : X 106 8 = V 106 8 := by have a := hW.2.1.1; have b := gW.2.1.1; rw [c _ _ (by omega)] at b; omega
  have h16 : X 106 16 = V 106 16 := by have a := hS.1; have b := gS.1; rw [c _ _ (by omega)] at b; omega
  have h117 : X 117 = V 117 := by rw [← hS.2.2.2.1, ← gS.2.2.2.1]; exact funext fun i => c _ _ (by omega)
  have hw : ∀ w, 0 ≤ w → w < V 106 6 → X 110 w = V 110 w ∧ X 112 w = V 112 w := fun w w0 w1 => by
    obtain ⟨_, _, ⟨a1, _⟩, _, a2, _⟩ := hW.2.2.1 w w0 w1
    obtain ⟨_, _, ⟨b1, _⟩, _, b2, _⟩ := gW.2.2.1 w w0 (by omega)
    rw [c _ _ (by omega)] at b1 b2
    exact ⟨by omega, by omega⟩
  refine ⟨h6, h8, h16, h117, hw, ?_, fun a b a0 a1 b0 b1 => ?_, c _ _ (by omega)⟩
  · unfold lat
    rw [h16, h117]
    by_cases t : 0 < V 106 16
    · have := hS.2.2.2.2 (V 106 16 - 1) (by omega) (by omega)
      rw [(hw _ this.1 this.2).2]
    · rw [if_neg (fun q => t q.1), if_neg (fun q => t q.1)]
  · have c73 : X 7 3 = V 7 3 := c _ _ (by omega)
    rcases pair_or V a b with ⟨p, p0, p1, pa, pb⟩ | hno
    · have u := (hP.2.1 p p0 p1).2.2.2
      have v := (gP.2.1 p p0 (by omega)).2.2.2
      rw [c 8 p (by omega), c 9 p (by omega), c 10 p (by omega), pa, pb] at v
      rw [pa, pb] at u
      omega
    · have u := hP.2.2.2 a b a0 a1 b0 b1 hno
      have v := gP.2.2.2 a b a0 a1 b0 b1 (fun p p0 p1 => by rw [c 8 p (by omega), c 9 p (by omega)]; exact hno p p0 (by omega))
      omega
theorem learn_both {V D : Mem} {k m w : Int} (hW : RW V k) (hk : k ≤ 1001) (hP : RP V) (hS : RSc V) (hcl : cls D V) (w0 : 0 ≤ w) (w1 : w < V 106 6) (room : V 106 16 < 60) (hm : V 106 8 + 1 ≤ 2 * m) :
    ∃ E, qR 139 [(3, 2), (0, w)] (mk D) = some ((9, 0), mk E) ∧ (∀ y i, ¬ (7 ≤ y ∧ y ≤ 10) → ¬ (y = 131 + 3 * w ∧ (i = 1 ∨ i = 2)) → ¬ (y = 5 ∧ i = 4) → ¬ (y = 102 ∧ i = 1) → ¬ (y = 103 ∧ i = V 106 16) → E y i = D y i) ∧
      ∀ X D' : Mem, RW X k → RP X → RSc X → (∀ y i, ¬ rfc y → X y i = V y i) → rOK D' → (∀ y i, (108 ≤ y ∧ y ≤ 113) ∨ y = 117 ∨ (y = 106 ∧ (i = 6 ∨ i = 8 ∨ i = 16)) → D' y i = X y i) → ∃ G, qR 183 [(3, 106), (0, w)] (mk D') = some ((9, 0), mk G) ∧ RW (mrg E G) m ∧ RP (mrg E G) ∧ RSc (mrg E G) ∧ ∀ y i, ¬ (y = 110 ∧ i = w) → ¬ (y = 111 ∧ i = w) → ¬ (y = 106 ∧ (i = 8 ∨ i = 16)) → ¬ (y = 117 ∧ i = V 106 16) → y ≠ 113 → G y i = D' y i := by
  have hn := hW.1
  obtain ⟨E, e1, e2, e3, e4, e5, e6, e7, e8⟩ := sc_139 hW hk hP hS hcl w0 w1 room
  refine ⟨E, e1, e8, fun X D' gW gP gS hXV hR hD => ?_⟩
  obtain ⟨x6, x8, x16, x117, xw, xl, x113, x73⟩ := two_V hW hP hS gW gP gS hXV
  replace e2 : LPr E (X 106 6) (lf V (V 7 3) w) := by rw [x6]; exact e2
  have xf : ∀ a b, 0 ≤ a → a < 80 → 0 ≤ b → b < 80 → lf X (X 7 3) w a b = lf V (V 7 3) w a b := fun a b a0 a1 b0 b1 => by unfold lf; rw [xl, x113 a b a0 a1 b0 b1, x73]
  rw [← (xw w w0 w1).1] at e3
  rw [← x8] at e4 e5 hm
  rw [← x16] at e6 e7 e8 room ⊢
  rw [← x6] at w1
  replace hcl : ∀ y i, ¬ rfc y → D y i = X y i := fun y i q => by rw [hcl y i q, hXV y i q]
  have hn' := gW.1
  have d6 := hD 106 6 (by omega)
  have d8 := hD 106 8 (by omega)
  have d16 := hD 106 16 (by omega)
  have d113 : D' 113 = X 113 := funext fun i => hD _ _ (by omega)
  have hlat : lat D' = lat X := lat_cg fun y i q => hD y i (by omega)
  obtain ⟨G, g1, g2, g3, g4, g5, g6, g7, g8⟩ := sr_183 (P := X 7 3) hR (by rw [d113]; exact pairs_sum hn'.2.2 gP) w0 (by omega) (by omega)
  rw [d8] at g3 g4
  rw [d16] at g5 g6 g8
  rw [hD 110 w (by omega)] at g2
  have hlf : ∀ a b, lf D' (X 7 3) w a b = lf X (X 7 3) w a b := fun a b => by unfold lf; rw [hlat, d113]
  have lt : ∀ y, 106 ≤ y → y ≤ 130 → rfc y := fun y a b => ⟨a, b⟩
  have gt : ∀ y, (y < 106 ∨ 130 < y) → ¬ rfc y := fun y a b => by unfold rfc at b; omega
  have Mr : ∀ y i, 106 ≤ y → y ≤ 130 → mrg E G y i = G y i := fun y i a b => mrg_r _ _ ⟨a, b⟩ i
  have Mc : ∀ y i, (y < 106 ∨ 130 < y) → mrg E G y i = E y i := fun y i a => mrg_c _ _ (gt y a) i
  have G6 : G 106 6 = X 106 6 := by rw [g8 _ _ (by omega) (by omega) (by omega) (by omega) (by omega)]; exact d6
  refine ⟨G, g1, ?_, ?_, ?_, g8⟩
  · refine RW_learn gW hm w0 w1 ?_ ?_ ?_ ?_ ?_ ?_ (fun y i hs q1 q2 q3 q4 q5 => ?_)
    · rw [Mc _ _ (by omega)]; exact e3
    · rw [Mc _ _ (by omega)]; exact e4
    · rw [Mc _ _ (by omega)]; exact e5
    · rw [Mr _ _ (by omega) (by omega)]; exact g2
    · rw [Mr _ _ (by omega) (by omega)]; exact g3
    · rw [Mr _ _ (by omega) (by omega)]; exact g4
    · by_cases cr : 106 ≤ y ∧ y ≤ 130
      · rw [Mr _ _ cr.1 cr.2, g8 y i q3 q4 (by unfold supW at hs; omega) (by unfold supW at hs; omega) (by unfold supW at hs; omega)]
        exact hD y i (by unfold supW at hs; omega)
      · rw [Mc _ _ (by omega), e8 y i (by unfold supW at hs; omega) q1 q2 (by unfold supW at hs; omega) (by unfold supW at hs; omega)]
        exact hcl y i (gt _ (by omega))
  · refine RP_LP (LP_congr (fun y i y0 y1 => Mc _ _ (by omega)) e2) ?_ hn'.2.2 (fun a b a0 a1 b0 b1 => ?_)
    · rw [Mr _ _ (by omega) (by omega)]; exact G6.symm
    · rw [Mr _ _ (by omega) (by omega), g7 a b a0 a1 b0 b1, hlf a b]; exact xf a b a0 a1 b0 b1
  · obtain ⟨c1, c2, c3, c4, c5⟩ := gS
    unfold RSc
    rw [Mc _ _ (by omega), Mr _ _ (by omega) (by omega), Mr _ _ (by omega) (by omega), G6, e6, g6]
    have r117 : ∀ i, mrg E G 117 i = if i = X 106 16 then w else X 117 i := fun i => by
      rw [Mr _ _ (by omega) (by omega)]
      by_cases e : i = X 106 16
      · rw [if_pos e, e]; exact g5
      · rw [if_neg e, g8 _ _ (by omega) (by omega) (by omega) (by omega) (by omega)]; exact hD _ _ (by omega)
    have r103 : ∀ i, mrg E G 103 i = if i = X 106 16 then w else X 117 i := fun i => by
      rw [Mc _ _ (by omega)]
      by_cases e : i = X 106 16
      · rw [if_pos e, e]; exact e7
      · rw [if_neg e, e8 _ _ (by omega) (by omega) (by omega) (by omega) (by omega), ← c4]; exact hcl _ _ (gt _ (by omega))
    refine ⟨rfl, by omega, by omega, funext fun i => by rw [r103, r117], fun i i0 i1 => ?_⟩
    rw [r117]
    by_cases e : i = X 106 16
    · rw [if_pos e]; exact ⟨w0, w1⟩
    · rw [if_neg e]; exact c5 i i0 (by omega)
