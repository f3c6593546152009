/-! what the text asks of the letters: the reference -/
def fL (D : Mem) (w a b j : Int) : Int := if 0 < j ∧ wl D w (j - 1) = a ∧ wl D w j = b then 1 else 0
theorem fL_01 (D : Mem) (w a b j : Int) : 0 ≤ fL D w a b j ∧ fL D w a b j ≤ 1 := by unfold fL; split <;> omega
def foT (D : Mem) (a b i : Int) : Int := if D 112 (D 117 i) = 0 then 0 else S (fL D (D 117 i) a b) (D 109 (D 117 i))
theorem S_le10 {f : Int → Int → Int} {D : Mem} {n : Int} (hR : rOK D) (h01 : ∀ w j, 0 ≤ f w j ∧ f w j ≤ 1) (n0 : 0 ≤ n) (n1 : n ≤ D 106 16) : 0 ≤ S (fun i => if D 112 (D 117 i) = 0 then 0 else S (f (D 117 i)) (D 109 (D 117 i))) n ∧ S (fun i => if D 112 (D 117 i) = 0 then 0 else S (f (D 117 i)) (D 109 (D 117 i))) n ≤ 10 * n := by
  obtain ⟨_, hw, _, _, ⟨_, _, c5⟩, _⟩ := hR
  have := S_bd (f := fun i => if D 112 (D 117 i) = 0 then 0 else S (f (D 117 i)) (D 109 (D 117 i))) (n := n) (a := 0) (b := 10) n0 (fun j j0 j1 => by
    have w := c5 j j0 (by omega)
    have l := (hw _ w.1 w.2).1
    show 0 ≤ (if D 112 (D 117 j) = 0 then 0 else S (f (D 117 j)) (D 109 (D 117 j))) ∧ (if D 112 (D 117 j) = 0 then 0 else S (f (D 117 j)) (D 109 (D 117 j))) ≤ 10
    by_cases c : D 112 (D 117 j) = 0
    · rw [if_pos c]; decide
    · rw [if_neg c]
      have := S_01 (f := f (D 117 j)) (n := D 109 (D 117 j)) (by omega) (fun i _ _ => h01 _ i)
      constructor <;> omega)
  omega
theorem tT_b {D : Mem} (hR : rOK D) (l : Int) {n : Int} (n0 : 0 ≤ n) (n1 : n ≤ D 106 16) : 0 ≤ S (tT D l) n ∧ S (tT D l) n ≤ 10 * n := S_le10 (f := fun w => tL D w l) hR (fun w j => tL_01 D w l j) n0 n1
theorem cT_b {D : Mem} (hR : rOK D) (a b : Int) {n : Int} (n0 : 0 ≤ n) (n1 : n ≤ D 106 16) : 0 ≤ S (cT D a b) n ∧ S (cT D a b) n ≤ 10 * n := S_le10 (f := fun w => cL D w a b) hR (fun w j => cL_01 D w a b j) n0 n1
theorem foT_b {D : Mem} (hR : rOK D) (a b : Int) {n : Int} (n0 : 0 ≤ n) (n1 : n ≤ D 106 16) : 0 ≤ S (foT D a b) n ∧ S (foT D a b) n ≤ 10 * n := S_le10 (f := fun w => fL D w a b) hR (fun w j => fL_01 D w a b j) n0 n1
theorem bT_b (D : Mem) {n : Int} (n0 : 0 ≤ n) : 0 ≤ S (bT D) n ∧ S (bT D) n ≤ n := S_01 n0 (fun j _ _ => by unfold bT; split <;> omega)
theorem sq_205 {D : Mem} (hR : rOK D) : ∃ E, qR 205 [(3, 106)] (mk D) = some ((0, S (bT D) (D 106 16)), mk E) ∧ (∀ l, 0 ≤ l → l < 26 → E 128 l = S (tT D l) (D 106 16)) ∧ (∀ a b, 0 ≤ a → a < 26 → 0 ≤ b → b < 26 → E 129 (26 * a + b) = S (foT D a b) (D 106 16)) ∧ ∀ y i, y ≠ 128 → y ≠ 129 → E y i = D y i := by
  have hR' := hR
  obtain ⟨hn, hw, _, _, ⟨c2, c3, c5⟩, _⟩ := hR
  obtain ⟨B, b1, b2, b3, b4⟩ := it_inv (fun i (M : Mem) => qE 205 2 [(3, 106), (0, i), (9, 0), (9, 0), (9, 0), (9, 0)] [] (mk M)) (fun i M => (∀ x, 0 ≤ x → x < i → M 129 x = 0) ∧ (∀ l, 0 ≤ l → l < 26 → l < i → M 128 l = 0) ∧ ∀ y j, y ≠ 128 → y ≠ 129 → M y j = D y j) (a := 0) (n := 676) (by decide)
    (fun i M i0 i1 ⟨m1, m2, m3⟩ => by
      have td : Int.tdiv i 26 = i / 26 := Int.tdiv_eq_ediv_of_nonneg i0
      have e1 : w32 (i - Int.tdiv i 26 * 26) = i % 26 := by rw [td, w32_id (by omega) (by omega)]; omega
      refine ⟨mU (mU M 129 i 0) 128 (i % 26) 0, ?_, fun x x0 x1 => ?_, fun l l0 l1 l2 => ?_, fun y j y1 y2 => ?_⟩
      · show qE 205 2 [(3, 106), (0, i), (9, 0), (9, 0), (9, 0), (9, 0)] [] (mk M) = qE 205 2 [(3, 106), (0, i + 1), (9, 0), (9, 0), (9, 0), (9, 0)] [] (mk _)
        rw [e_205_2, if_pos i1, if_pos (by omega), e1, if_pos (by omega), w32_id (by omega) (by omega)]
      · rw [mU_r (by decide)]
        by_cases q : x = i
        · rw [q, mU_s]
        · rw [mU_other (by omega)]; exact m1 x x0 (by omega)
      · by_cases q : l = i % 26
        · rw [q, mU_s]
        · rw [mU_other (by omega), mU_r (by decide)]; exact m2 l l0 l1 (by omega)
      · rw [mU_r y1, mU_r y2]; exact m3 y j y1 y2)
    (s0 := D) ⟨fun x x0 x1 => by omega, fun l l0 l1 l2 => by omega, fun _ _ _ _ => rfl⟩
  obtain ⟨⟨E, v3, v4, v5⟩, e, h2, h3, h4⟩ := it_inv (fun i (s : Mem × PV × PV × PV) => qE 205 36 [(3, 106), (0, S (bT D) i), (0, i), s.2.1, s.2.2.1, s.2.2.2] [] (mk s.1)) (fun i s => (∀ l, 0 ≤ l → l < 26 → s.1 128 l = S (tT D l) i) ∧ (∀ a b, 0 ≤ a → a < 26 → 0 ≤ b → b < 26 → s.1 129 (26 * a + b) = S (foT D a b) i) ∧ ∀ y j, y ≠ 128 → y ≠ 129 → s.1 y j = D y j) (a := 0) (n := D 106 16) c2
    (fun i s i0 i1 ⟨h2, h3, h4⟩ => by
      obtain ⟨E, v3, v4, v5⟩ := s
      replace h2 : ∀ l, 0 ≤ l → l < 26 → E 128 l = S (tT D l) i := h2
      replace h3 : ∀ a b, 0 ≤ a → a < 26 → 0 ≤ b → b < 26 → E 129 (26 * a + b) = S (foT D a b) i := h3
      replace h4 : ∀ y j, y ≠ 128 → y ≠ 129 → E y j = D y j := h4
      have wi := c5 i i0 i1
      obtain ⟨lw, ll, _, tt⟩ := hw _ wi.1 wi.2
      have e1 : w32 (i + 1) = i + 1 := w32_id (by omega) (by omega)
      have bb := bT_b D i0
      have g80 : 0 ≤ D 117 i ∧ D 117 i < 80 := by omega
      have E112 : E 112 (D 117 i) = D 112 (D 117 i) := h4 _ _ (by decide) (by decide)
      have st : qE 205 36 [(3, 106), (0, S (bT D) i), (0, i), v3, v4, v5] [] (mk E) = qE 205 71 [(3, 106), (0, S (bT D) (i + 1)), (0, i), (0, D 117 i), (0, 0), v5] [] (mk E) := by
        rw [e_205_36, h4 106 16 (by decide) (by decide), if_pos i1, if_pos (by omega), h4 117 i (by decide) (by decide), if_pos g80, E112, w32_id (x := S (bT D) i + 0) (by omega) (by omega), w32_id (x := S (bT D) i + 1) (by omega) (by omega), S_succ _ i0]
        unfold bT
        by_cases c : D 112 (D 117 i) = 0
        · rw [if_pos c, if_pos c]
        · rw [if_neg c, if_neg c]
      rcases tt with t | t
      · refine ⟨(E, (0, D 117 i), (0, 0), v5), ?_, fun l l0 l1 => ?_, fun a b a0 a1 b0 b1 => ?_, h4⟩
        · show qE 205 36 [(3, 106), (0, S (bT D) i), (0, i), v3, v4, v5] [] (mk E) = qE 205 36 [(3, 106), (0, S (bT D) (i + 1)), (0, i + 1), (0, D 117 i), (0, 0), v5] [] (mk E)
          rw [st, e_205_71, if_pos g80, E112, if_pos t, e1]
        · show E 128 l = S (tT D l) (i + 1)
          rw [S_succ _ i0, h2 l l0 l1, show tT D l i = 0 from if_pos t]; omega
        · show E 129 (26 * a + b) = S (foT D a b) (i + 1)
          rw [S_succ _ i0, h3 a b a0 a1 b0 b1, show foT D a b i = 0 from if_pos t]; omega
      · obtain ⟨w, hww⟩ : ∃ w, w = D 117 i := ⟨_, rfl⟩
        rw [← hww] at wi lw ll g80 E112 st t
        have e10 : w32 (10 * w) = 10 * w := w32_id (by omega) (by omega)
        obtain ⟨⟨F, u5⟩, f, f1, f2, f3⟩ := it_inv (fun j (s : Mem × PV) => qE 205 71 [(3, 106), (0, S (bT D) (i + 1)), (0, i), (0, w), (0, j), s.2] [] (mk s.1)) (fun j s => (∀ l, 0 ≤ l → l < 26 → s.1 128 l = S (tT D l) i + S (tL D w l) j) ∧ (∀ a b, 0 ≤ a → a < 26 → 0 ≤ b → b < 26 → s.1 129 (26 * a + b) = S (foT D a b) i + S (fL D w a b) j) ∧ ∀ y j, y ≠ 128 → y ≠ 129 → s.1 y j = D y j) (a := 0) (n := D 109 w) (by omega)
          (fun j s j0 j1 ⟨f1, f2, f3⟩ => by
            obtain ⟨F, u5⟩ := s
            replace f1 : ∀ l, 0 ≤ l → l < 26 → F 128 l = S (tT D l) i + S (tL D w l) j := f1
            replace f2 : ∀ a b, 0 ≤ a → a < 26 → 0 ≤ b → b < 26 → F 129 (26 * a + b) = S (foT D a b) i + S (fL D w a b) j := f2
            replace f3 : ∀ y j, y ≠ 128 → y ≠ 129 → F y j = D y j := f3
            obtain ⟨x, hx⟩ : ∃ x, x = wl D w j := ⟨_, rfl⟩
            have xb : 0 ≤ x ∧ x ≤ 25 := by rw [hx]; exact ll j j0 j1
            have ej : w32 (10 * w + j) = 10 * w + j := w32_id (by omega) (by omega)
            have ej1 : w32 (j + 1) = j + 1 := w32_id (by omega) (by omega)
            have F108 : F 108 (10 * w + j) = x := by rw [f3 _ _ (by decide) (by decide), hx]; rfl
            have tb := tT_b hR' x (n := i) i0 (by omega)
            have tl := S_01 (f := tL D w x) (n := j) j0 (fun i _ _ => tL_01 D w x i)
            have F128 : F 128 x = S (tT D x) i + S (tL D w x) j := f1 x xb.1 (by omega)
            have ex : w32 (F 128 x + 1) = F 128 x + 1 := w32_id (by omega) (by omega)
            obtain ⟨G, hG⟩ : ∃ G, G = mU F 128 x (F 128 x + 1) := ⟨_, rfl⟩
            have G128 : ∀ l, 0 ≤ l → l < 26 → G 128 l = S (tT D l) i + S (tL D w l) (j + 1) := fun l l0 l1 => by
              rw [hG, S_succ _ j0]
              have tv : tL D w l j = if x = l then 1 else 0 := by unfold tL; rw [← hx]
              rw [tv]
              by_cases c : l = x
              · rw [c, mU_s, if_pos rfl, F128]; omega
              · rw [mU_other (by omega), if_neg (fun q => c q.symm), f1 l l0 l1]; omega
            have Go : ∀ y j, y ≠ 128 → G y j = F y j := fun y j q => by rw [hG, mU_r q]
            have F112 : F 112 w = D 112 w := f3 _ _ (by decide) (by decide)
            have F109 : F 109 w = D 109 w := f3 _ _ (by decide) (by decide)
            by_cases z : j ≤ 0
            · refine ⟨(G, (0, x)), ?_, G128, fun a b a0 a1 b0 b1 => ?_, fun y m y1 y2 => ?_⟩
              · show qE 205 71 [(3, 106), (0, S (bT D) (i + 1)), (0, i), (0, w), (0, j), u5] [] (mk F) = qE 205 71 [(3, 106), (0, S (bT D) (i + 1)), (0, i), (0, w), (0, j + 1), (0, x)] [] (mk G)
                rw [e_205_71, if_pos g80, F112, if_neg (by omega), if_pos g80, F109, if_pos j1, e10, ej, if_pos (by omega), F108, if_pos (by omega), if_pos (by omega), if_pos z, ej1, ex, ← hG]
              · show G 129 (26 * a + b) = S (foT D a b) i + S (fL D w a b) (j + 1)
                rw [Go _ _ (by decide), f2 a b a0 a1 b0 b1, S_succ _ j0]
                have : fL D w a b j = 0 := by unfold fL; rw [if_neg (by omega)]
                omega
              · show G y m = D y m
                rw [Go y m y1]; exact f3 y m y1 y2
            · obtain ⟨u, hu⟩ : ∃ u, u = wl D w (j - 1) := ⟨_, rfl⟩
              have ub : 0 ≤ u ∧ u ≤ 25 := by rw [hu]; exact ll (j - 1) (by omega) (by omega)
              have ejm : w32 (10 * w + j - 1) = 10 * w + (j - 1) := by rw [w32_id (by omega) (by omega)]; omega
              have r108 : mU F 128 x (F 128 x + 1) 108 (10 * w + (j - 1)) = u := by rw [mU_r (by decide), f3 _ _ (by decide) (by decide), hu]; rfl
              have e26 : w32 (26 * u) = 26 * u := w32_id (by omega) (by omega)
              have e26x : w32 (26 * u + x) = 26 * u + x := w32_id (by omega) (by omega)
              have F129 : mU F 128 x (F 128 x + 1) 129 (26 * u + x) = S (foT D u x) i + S (fL D w u x) j := by rw [mU_r (by decide)]; exact f2 u x ub.1 (by omega) xb.1 (by omega)
              have fb := foT_b hR' u x (n := i) i0 (by omega)
              have fl := S_01 (f := fL D w u x) (n := j) j0 (fun i _ _ => fL_01 D w u x i)
              have ev : w32 (S (foT D u x) i + S (fL D w u x) j + 1) = S (foT D u x) i + S (fL D w u x) j + 1 := w32_id (by omega) (by omega)
              refine ⟨(mU G 129 (26 * u + x) (S (foT D u x) i + S (fL D w u x) j + 1), (0, x)), ?_, fun l l0 l1 => ?_, fun a b a0 a1 b0 b1 => ?_, fun y m y1 y2 => ?_⟩
              · show qE 205 71 [(3, 106), (0, S (bT D) (i + 1)), (0, i), (0, w), (0, j), u5] [] (mk F) = qE 205 71 [(3, 106), (0, S (bT D) (i + 1)), (0, i), (0, w), (0, j + 1), (0, x)] [] (mk (mU G 129 (26 * u + x) (S (foT D u x) i + S (fL D w u x) j + 1)))
                rw [e_205_71, if_pos g80, F112, if_neg (by omega), if_pos g80, F109, if_pos j1, e10, ej, if_pos (by omega), F108, if_pos (by omega), if_pos (by omega), if_neg z, ej1, ex, ejm, if_pos (by omega), r108, e26, e26x, if_pos (by omega), if_pos (by omega), F129, ev, ← hG]
              · show mU G 129 (26 * u + x) (S (foT D u x) i + S (fL D w u x) j + 1) 128 l = S (tT D l) i + S (tL D w l) (j + 1)
                rw [mU_r (by decide)]; exact G128 l l0 l1
              · show mU G 129 (26 * u + x) (S (foT D u x) i + S (fL D w u x) j + 1) 129 (26 * a + b) = S (foT D a b) i + S (fL D w a b) (j + 1)
                rw [S_succ _ j0]
                have fv : fL D w a b j = if a = u ∧ b = x then 1 else 0 := by
                  unfold fL
                  rw [← hx, ← hu]
                  by_cases q : a = u ∧ b = x
                  · rw [if_pos q, if_pos (by omega)]
                  · rw [if_neg q, if_neg (by omega)]
                rw [fv]
                by_cases q : a = u ∧ b = x
                · rw [if_pos q, q.1, q.2, mU_s]; omega
                · rw [if_neg q, mU_other (by omega), Go _ _ (by decide), f2 a b a0 a1 b0 b1]; omega
              · show mU G 129 (26 * u + x) (S (foT D u x) i + S (fL D w u x) j + 1) y m = D y m
                rw [mU_r y2, Go y m y1]; exact f3 y m y1 y2)
          (s0 := (E, v5)) ⟨fun l l0 l1 => by show E 128 l = _; rw [h2 l l0 l1, S_0]; omega, fun a b a0 a1 b0 b1 => by show E 129 _ = _; rw [h3 a b a0 a1 b0 b1, S_0]; omega, h4⟩
        replace f1 : ∀ l, 0 ≤ l → l < 26 → F 128 l = S (tT D l) i + S (tL D w l) (D 109 w) := f1
        replace f2 : ∀ a b, 0 ≤ a → a < 26 → 0 ≤ b → b < 26 → F 129 (26 * a + b) = S (foT D a b) i + S (fL D w a b) (D 109 w) := f2
        replace f3 : ∀ y j, y ≠ 128 → y ≠ 129 → F y j = D y j := f3
        refine ⟨(F, (0, w), (0, D 109 w), u5), ?_, fun l l0 l1 => ?_, fun a b a0 a1 b0 b1 => ?_, f3⟩
        · show qE 205 36 [(3, 106), (0, S (bT D) i), (0, i), v3, v4, v5] [] (mk E) = qE 205 36 [(3, 106), (0, S (bT D) (i + 1)), (0, i + 1), (0, w), (0, D 109 w), u5] [] (mk F)
          rw [st]
          refine f.trans ?_
          show qE 205 71 [(3, 106), (0, S (bT D) (i + 1)), (0, i), (0, w), (0, D 109 w), u5] [] (mk F) = _
          rw [e_205_71, if_pos g80, f3 112 w (by decide) (by decide), if_neg (by omega), if_pos g80, f3 109 w (by decide) (by decide), if_neg (by omega), e1]
        · show F 128 l = S (tT D l) (i + 1)
          rw [S_succ _ i0, f1 l l0 l1, show tT D l i = S (tL D w l) (D 109 w) from by rw [hww]; exact if_neg (by rw [← hww]; omega)]
        · show F 129 (26 * a + b) = S (foT D a b) (i + 1)
          rw [S_succ _ i0, f2 a b a0 a1 b0 b1, show foT D a b i = S (fL D w a b) (D 109 w) from by rw [hww]; exact if_neg (by rw [← hww]; omega)])
    (s0 := (B, (9, 0), (9, 0), (9, 0))) ⟨fun l l0 l1 => by show B 128 l = 0; exact b3 l l0 l1 (by omega), fun a b a0 a1 b0 b1 => by show B 129 _ = 0; exact b2 _ (by omega) (by omega), b4⟩
  replace h2 : ∀ l, 0 ≤ l → l < 26 → E 128 l = S (tT D l) (D 106 16) := h2
  replace h3 : ∀ a b, 0 ≤ a → a < 26 → 0 ≤ b → b < 26 → E 129 (26 * a + b) = S (foT D a b) (D 106 16) := h3
  replace h4 : ∀ y j, y ≠ 128 → y ≠ 129 → E y j = D y j := h4
  refine ⟨E, ?_, h2, h3, h4⟩
  rw [r_205]
  refine b1.trans ?_
  show qE 205 2 [(3, 106), (0, 676), (9, 0), (9, 0), (9, 0), (9, 0)] [] (mk B) = _
  rw [e_205_2, if_neg (by decide)]
  refine e.trans ?_
  show qE 205 36 [(3, 106), (0, S (bT D) (D 106 16)), (0, D 106 16), v3, v4, v5] [] (mk E) = _
  rw [e_205_36, h4 106 16 (by decide) (by decide), if_neg (by omega)]
/-- both ways round -/
theorem cT_foT (D : Mem) {a b : Int} (h : a ≤ b) (n : Int) : S (cT D a b) n = S (foT D a b) n + (if a = b then 0 else S (foT D b a) n) := by
  have wd : ∀ w m, S (cL D w a b) m = S (fL D w a b) m + (if a = b then 0 else S (fL D w b a) m) := fun w m => by
    by_cases c : a = b
    · rw [if_pos c, Int.add_zero]
      refine S_congr fun j _ _ => ?_
      unfold cL fL
      by_cases q : 0 < j ∧ wl D w (j - 1) = a ∧ wl D w j = b
      · rw [if_pos q, if_pos (by omega)]
      · rw [if_neg q, if_neg (by omega)]
    · rw [if_neg c, ← S_add]
      refine S_congr fun j _ _ => ?_
      unfold cL fL
      by_cases q : 0 < j ∧ wl D w (j - 1) = a ∧ wl D w j = b
      · rw [if_pos q, if_pos (by omega), if_neg (by omega)]; omega
      · by_cases r : 0 < j ∧ wl D w (j - 1) = b ∧ wl D w j = a
        · rw [if_neg q, if_pos r, if_pos (by omega)]; omega
        · rw [if_neg q, if_neg r, if_neg (by omega)]; omega
  by_cases c : a = b
  · rw [if_pos c, Int.add_zero]
    refine S_congr fun j _ _ => ?_
    unfold cT foT
    by_cases q : D 112 (D 117 j) = 0
    · rw [if_pos q, if_pos q]
    · rw [if_neg q, if_neg q, wd, if_pos c, Int.add_zero]
  · rw [if_neg c, ← S_add]
    refine S_congr fun j _ _ => ?_
    unfold cT foT
    by_cases q : D 112 (D 117 j) = 0
    · rw [if_pos q, if_pos q, if_pos q]; omega
    · rw [if_neg q, if_neg q, if_neg q, wd, if_neg c]
