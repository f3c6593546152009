/-! what the text asks of the letters: the system's table -/
theorem rT_none {a : Int} (h : (47 ≤ a ∧ a ≤ 72) ∨ (74 ≤ a ∧ a ≤ 84) ∨ (86 ≤ a ∧ a ≤ 97)) (i : Int) : rT a i = none := by
  unfold rT
  repeat rw [if_neg (by omega)]
theorem kT_1 {a : Int} (h : (47 ≤ a ∧ a ≤ 72) ∨ (74 ≤ a ∧ a ≤ 84) ∨ (86 ≤ a ∧ a ≤ 97)) : kT.getD a.toNat 0 = 1 := by
  have h1 : ∀ x : Fin 26, kT.getD (47 + x.val) 0 = 1 := by decide
  have h2 : ∀ x : Fin 11, kT.getD (74 + x.val) 0 = 1 := by decide
  have h3 : ∀ x : Fin 12, kT.getD (86 + x.val) 0 = 1 := by decide
  rcases h with h | h | h
  · have := h1 ⟨(a - 47).toNat, by omega⟩
    rw [show 47 + (a - 47).toNat = a.toNat by omega] at this; exact this
  · have := h2 ⟨(a - 74).toNat, by omega⟩
    rw [show 74 + (a - 74).toNat = a.toNat by omega] at this; exact this
  · have := h3 ⟨(a - 86).toNat, by omega⟩
    rw [show 86 + (a - 86).toNat = a.toNat by omega] at this; exact this
theorem lT_26 {a : Int} (h : 47 ≤ a ∧ a ≤ 72) : lT.getD a.toNat 0 = 26 := by
  have h1 : ∀ x : Fin 26, lT.getD (47 + x.val) 0 = 26 := by decide
  have := h1 ⟨(a - 47).toNat, by omega⟩
  rw [show 47 + (a - 47).toNat = a.toNat by omega] at this; exact this
theorem lT_27 {a : Int} (h : (74 ≤ a ∧ a ≤ 84) ∨ (86 ≤ a ∧ a ≤ 96)) : lT.getD a.toNat 0 = 27 := by
  have h2 : ∀ x : Fin 11, lT.getD (74 + x.val) 0 = 27 := by decide
  have h3 : ∀ x : Fin 11, lT.getD (86 + x.val) 0 = 27 := by decide
  rcases h with h | h
  · have := h2 ⟨(a - 74).toNat, by omega⟩
    rw [show 74 + (a - 74).toNat = a.toNat by omega] at this; exact this
  · have := h3 ⟨(a - 86).toNat, by omega⟩
    rw [show 86 + (a - 86).toNat = a.toNat by omega] at this; exact this
theorem ta_k (D : Mem) {a : Int} (h : (47 ≤ a ∧ a ≤ 72) ∨ (74 ≤ a ∧ a ≤ 84) ∨ (86 ≤ a ∧ a ≤ 97)) : mk D (-a) 0 = 1 := by
  unfold mk mkK
  rw [if_pos (by omega), if_pos rfl, Int.neg_neg, if_pos (by omega), kT_1 h]
theorem ta_l26 (D : Mem) {a : Int} (h : 47 ≤ a ∧ a ≤ 72) : mk D (-a) 1 = 26 := by
  unfold mk mkL
  rw [if_pos (by omega), if_neg (by decide), if_pos rfl, Int.neg_neg, if_neg (by omega), lT_26 h]
theorem ta_l27 (D : Mem) {a : Int} (h : (74 ≤ a ∧ a ≤ 84) ∨ (86 ≤ a ∧ a ≤ 96)) : mk D (-a) 1 = 27 := by
  unfold mk mkL
  rw [if_pos (by omega), if_neg (by decide), if_pos rfl, Int.neg_neg, if_neg (by omega), lT_27 h]
theorem ta_c (D : Mem) {a : Int} (h : (47 ≤ a ∧ a ≤ 72) ∨ (74 ≤ a ∧ a ≤ 84) ∨ (86 ≤ a ∧ a ≤ 97)) (i : Int) : mk D a i = D a i := by
  unfold mk mkC
  rw [if_neg (by omega), if_neg (by omega), if_neg (by omega), if_neg (by omega), if_neg (by omega), if_neg (by omega), if_neg (by omega), if_neg (by omega), rT_none h]
theorem ta_u (D : Mem) {a : Int} (h : (47 ≤ a ∧ a ≤ 72) ∨ (74 ≤ a ∧ a ≤ 84) ∨ (86 ≤ a ∧ a ≤ 97)) (i v : Int) : mU (mk D) a i v = mk (mU D a i v) := mU_mk ⟨by omega, fun q => by omega, fun _ => ⟨by omega, by omega, by omega, by omega, by omega, rT_none h i, by omega⟩⟩
theorem ta_46 (D : Mem) {a : Int} (h0 : 0 ≤ a) (h1 : a < 26) : mk D 46 a = 47 + a := by rw [mk_c46, if_pos ⟨h0, h1⟩]
theorem ta_73 (D : Mem) {a : Int} (h0 : 0 ≤ a) (h1 : a < 11) : mk D 73 a = 74 + a := by rw [mk_c73, if_pos ⟨h0, h1⟩]
theorem ta_85 (D : Mem) {a : Int} (h0 : 0 ≤ a) (h1 : a < 11) : mk D 85 a = 86 + a := by
  show (if 0 ≤ a ∧ a < 11 then 86 + a else 0) = _
  rw [if_pos ⟨h0, h1⟩]
/-- letters of a word: how often l; how often a and b follow each other, a the lesser -/
def tL (D : Mem) (w l j : Int) : Int := if wl D w j = l then 1 else 0
def cL (D : Mem) (w a b j : Int) : Int := if 0 < j ∧ ((wl D w (j - 1) ≤ wl D w j ∧ wl D w (j - 1) = a ∧ wl D w j = b) ∨ (wl D w j < wl D w (j - 1) ∧ wl D w j = a ∧ wl D w (j - 1) = b)) then 1 else 0
theorem tL_01 (D : Mem) (w l j : Int) : 0 ≤ tL D w l j ∧ tL D w l j ≤ 1 := by unfold tL; split <;> omega
theorem cL_01 (D : Mem) (w a b j : Int) : 0 ≤ cL D w a b j ∧ cL D w a b j ≤ 1 := by unfold cL; split <;> omega
theorem wl_cg {D E : Mem} (h : ∀ i, E 108 i = D 108 i) (w : Int) : wl E w = wl D w := funext fun i => h _
theorem sp_86 {D : Mem} {k w : Int} (hW : RW D k) (w0 : 0 ≤ w) (w1 : w < D 106 6) (b45 : ∀ l, 0 ≤ l → l < 26 → 0 ≤ D 45 l ∧ D 45 l ≤ 1000000) (bt : ∀ a b, 0 ≤ a → a < 26 → 0 ≤ b → b < 26 → 0 ≤ D (47 + a) b ∧ D (47 + a) b ≤ 1000000) : ∃ E, qR 86 [(3, 44), (3, 132 + 3 * w)] (mk D) = some ((9, 0), mk E) ∧ (∀ l, 0 ≤ l → l < 26 → E 45 l = D 45 l + S (tL D w l) (D 109 w)) ∧ (∀ a b, 0 ≤ a → a < 26 → 0 ≤ b → b < 26 → E (47 + a) b = D (47 + a) b + S (cL D w a b) (D 109 w)) ∧ ∀ y i, y ≠ 45 → ¬ (47 ≤ y ∧ y ≤ 72) → E y i = D y i := by
  have hn := hW.1
  obtain ⟨⟨_, _, z0, z1⟩, hl, _⟩ := hW.2.2.1 w w0 w1
  have lt : ∀ j, 0 ≤ j → j < D 109 w → 0 ≤ wl D w j ∧ wl D w j ≤ 25 := fun j j0 j1 => (hl j j0 j1).2
  obtain ⟨⟨E, v3, v4⟩, e, h1, h2, h3⟩ := it_inv (fun j (s : Mem × PV × PV) => qE 86 2 [(3, 44), (3, 132 + 3 * w), (0, j), s.2.1, s.2.2] [] (mk s.1)) (fun j s => (∀ l, 0 ≤ l → l < 26 → s.1 45 l = D 45 l + S (tL D w l) j) ∧ (∀ a b, 0 ≤ a → a < 26 → 0 ≤ b → b < 26 → s.1 (47 + a) b = D (47 + a) b + S (cL D w a b) j) ∧ ∀ y i, y ≠ 45 → ¬ (47 ≤ y ∧ y ≤ 72) → s.1 y i = D y i) (a := 0) (n := D 109 w) (by omega)
    (fun j s j0 j1 ⟨h1, h2, h3⟩ => by
      obtain ⟨E, v3, v4⟩ := s
      replace h1 : ∀ l, 0 ≤ l → l < 26 → E 45 l = D 45 l + S (tL D w l) j := h1
      replace h2 : ∀ a b, 0 ≤ a → a < 26 → 0 ≤ b → b < 26 → E (47 + a) b = D (47 + a) b + S (cL D w a b) j := h2
      replace h3 : ∀ y i, y ≠ 45 → ¬ (47 ≤ y ∧ y ≤ 72) → E y i = D y i := h3
      have hWE : RW E k := RW_congr (fun y i q => h3 y i (by unfold supW at q; omega) (by unfold supW at q; omega)) hW
      have E6 : E 106 6 = D 106 6 := h3 _ _ (by decide) (by omega)
      have E109 : E 109 w = D 109 w := h3 _ _ (by decide) (by omega)
      have hrow := isRowW hWE w0 (by omega)
      have rk := hrow.1
      have rs := rowSzW hWE w0 (by omega)
      rw [E109] at rs
      have at1 : ∀ i, 0 ≤ i → i < D 109 w → rowAt (mk E) (132 + 3 * w) i = wl D w i := fun i i0 i1 => by
        rw [rowAtW hWE w0 (by omega) i0 (by omega)]; exact h3 _ _ (by decide) (by omega)
      have at0 : rowAt (mk E) (132 + 3 * w) (j - 1) = if j = 0 then -1 else wl D w (j - 1) := by
        by_cases z : j = 0
        · rw [if_pos z]; unfold rowAt; rw [rs, if_neg (by omega)]
        · rw [if_neg z]; exact at1 _ (by omega) (by omega)
      obtain ⟨x, hx⟩ : ∃ x, x = wl D w j := ⟨_, rfl⟩
      have xb := lt j j0 j1
      rw [← hx] at xb
      have tb : ∀ l, 0 ≤ S (tL D w l) j ∧ S (tL D w l) j ≤ j := fun l => S_01 j0 (fun i _ _ => tL_01 D w l i)
      have cb : ∀ a b, 0 ≤ S (cL D w a b) j ∧ S (cL D w a b) j ≤ j := fun a b => S_01 j0 (fun i _ _ => cL_01 D w a b i)
      have e1 : w32 (E 45 x + 1) = E 45 x + 1 := by
        have := h1 x xb.1 (by omega); have := b45 x xb.1 (by omega); have := tb x
        exact w32_id (by omega) (by omega)
      obtain ⟨F, hF⟩ : ∃ F, F = mU E 45 x (E 45 x + 1) := ⟨_, rfl⟩
      have st : qE 86 2 [(3, 44), (3, 132 + 3 * w), (0, j), v3, v4] [] (mk E) = qE 86 47 [(3, 44), (3, 132 + 3 * w), (0, j), (0, x), (0, if j = 0 then -1 else wl D w (j - 1))] [(0, if j = 0 then 0 else 1)] (mk F) := by
        rw [e_86_2, if_pos rk, row_size hrow, rs]
        simp only [Option.bind_some, psh_0]
        rw [e_86_7, if_pos j1, if_pos rk, row_at hrow, at1 j j0 j1, ← hx]
        simp only [Option.bind_some, psh_0]
        rw [e_86_15, if_pos rk, w32_id (x := j - 1) (by omega) (by omega), row_at hrow, at0]
        simp only [Option.bind_some, psh_0]
        rw [e_86_23, sp_130, if_pos (by omega)]
        simp only [Option.bind_some, psh_0]
        rw [e_86_29, if_neg (by decide), if_pos (by omega), if_pos (by omega), e1, ← hF, sp_130]
        by_cases z : j = 0
        · simp only [if_pos z]
          rw [if_neg (by decide)]
          simp only [Option.bind_some, psh_0]
        · simp only [if_neg z]
          have := lt (j - 1) (by omega) (by omega)
          rw [if_pos (by omega)]
          simp only [Option.bind_some, psh_0]
      have F45 : ∀ l, 0 ≤ l → l < 26 → F 45 l = D 45 l + S (tL D w l) (j + 1) := fun l l0 l1 => by
        rw [hF, S_succ _ j0]
        unfold tL
        rw [← hx]
        by_cases c : l = x
        · have hxl : x = l := c.symm
          rw [c, mU_s, if_pos rfl]
          have := h1 x xb.1 (by omega)
          unfold tL at this
          omega
        · rw [mU_other (by omega), if_neg (fun q => c q.symm)]
          have := h1 l l0 l1
          unfold tL at this
          omega
      have Fo : ∀ y i, y ≠ 45 → F y i = E y i := fun y i q => by rw [hF, mU_r q]
      by_cases z : j = 0
      · refine ⟨(F, (0, x), (0, -1)), ?_, F45, fun a b a0 a1 b0 b1 => ?_, fun y i y1 y2 => ?_⟩
        · show qE 86 2 [(3, 44), (3, 132 + 3 * w), (0, j), v3, v4] [] (mk E) = qE 86 2 [(3, 44), (3, 132 + 3 * w), (0, j + 1), (0, x), (0, -1)] [] (mk F)
          rw [st, if_pos z, if_pos z, e_86_47, if_pos rfl, e_86_72, w32_id (by omega) (by omega)]
        · show F (47 + a) b = D (47 + a) b + S (cL D w a b) (j + 1)
          rw [Fo _ _ (by omega), h2 a b a0 a1 b0 b1, S_succ _ j0]
          have : cL D w a b j = 0 := by unfold cL; rw [if_neg (by omega)]
          omega
        · show F y i = D y i
          rw [Fo y i y1]; exact h3 y i y1 y2
      · obtain ⟨u, hu⟩ : ∃ u, u = wl D w (j - 1) := ⟨_, rfl⟩
        have ub := lt (j - 1) (by omega) (by omega)
        rw [← hu] at ub
        obtain ⟨lo, hlo⟩ : ∃ lo, lo = (if u ≤ x then u else x) := ⟨_, rfl⟩
        obtain ⟨hi, hhi⟩ : ∃ hi, hi = (if u < x then x else u) := ⟨_, rfl⟩
        have lb : 0 ≤ lo ∧ lo < 26 := by rw [hlo]; split <;> omega
        have hb : 0 ≤ hi ∧ hi < 26 := by rw [hhi]; split <;> omega
        have s217 : qR 217 [(0, u), (0, x)] (mk F) = some ((0, lo), mk F) := by
          rw [r_217, hlo]
          by_cases c : u ≤ x
          · rw [if_pos c, if_pos c]
          · rw [if_neg c, if_neg c]
        have s216 : qR 216 [(0, u), (0, x)] (mk F) = some ((0, hi), mk F) := by
          rw [r_216, hhi]
          by_cases c : u < x
          · rw [if_pos c, if_pos c]
          · rw [if_neg c, if_neg c]
        have rng : (47 ≤ 47 + lo ∧ 47 + lo ≤ 72) ∨ (74 ≤ 47 + lo ∧ 47 + lo ≤ 84) ∨ (86 ≤ 47 + lo ∧ 47 + lo ≤ 97) := by omega
        have Fv : F (47 + lo) hi = D (47 + lo) hi + S (cL D w lo hi) j := by rw [Fo _ _ (by omega)]; exact h2 lo hi lb.1 lb.2 hb.1 hb.2
        have e2 : w32 (F (47 + lo) hi + 1) = F (47 + lo) hi + 1 := by
          have := bt lo hi lb.1 lb.2 hb.1 hb.2; have := cb lo hi
          exact w32_id (by omega) (by omega)
        obtain ⟨G, hG⟩ : ∃ G, G = mU F (47 + lo) hi (F (47 + lo) hi + 1) := ⟨_, rfl⟩
        refine ⟨(G, (0, x), (0, u)), ?_, fun l l0 l1 => ?_, fun a b a0 a1 b0 b1 => ?_, fun y i y1 y2 => ?_⟩
        · show qE 86 2 [(3, 44), (3, 132 + 3 * w), (0, j), v3, v4] [] (mk E) = qE 86 2 [(3, 44), (3, 132 + 3 * w), (0, j + 1), (0, x), (0, u)] [] (mk G)
          rw [st, if_neg z, if_neg z, ← hu, e_86_47, if_neg (by decide), s217]
          simp only [Option.bind_some, psh_0]
          rw [e_86_60, if_pos lb, s216, ta_46 F lb.1 lb.2]
          simp only [Option.bind_some, psh_0]
          rw [e_86_67, ta_k F rng, ta_l26 F (by omega), ta_c F rng, e2, if_pos ⟨rfl, hb⟩, if_pos ⟨by omega, rfl, hb⟩, ta_u F rng, ← hG, e_86_72, w32_id (by omega) (by omega)]
        · show G 45 l = _
          rw [hG, mU_r (by omega)]; exact F45 l l0 l1
        · show G (47 + a) b = D (47 + a) b + S (cL D w a b) (j + 1)
          rw [S_succ _ j0]
          have cv : cL D w a b j = if a = lo ∧ b = hi then 1 else 0 := by
            unfold cL
            rw [← hx, ← hu, hlo, hhi]
            by_cases c1 : u ≤ x
            · rw [if_pos c1]
              by_cases c2 : u < x
              · rw [if_pos c2]
                by_cases q : a = u ∧ b = x
                · rw [if_pos q, if_pos (by omega)]
                · rw [if_neg q, if_neg (by omega)]
              · rw [if_neg c2]
                by_cases q : a = u ∧ b = u
                · rw [if_pos q, if_pos (by omega)]
                · rw [if_neg q, if_neg (by omega)]
            · rw [if_neg c1, if_neg (show ¬ u < x by omega)]
              by_cases q : a = x ∧ b = u
              · rw [if_pos q, if_pos (by omega)]
              · rw [if_neg q, if_neg (by omega)]
          rw [cv, hG]
          by_cases q : a = lo ∧ b = hi
          · rw [if_pos q, q.1, q.2, mU_s, Fv]; omega
          · rw [if_neg q, mU_other (by omega), Fo _ _ (by omega), h2 a b a0 a1 b0 b1]; omega
        · show G y i = D y i
          rw [hG, mU_r (by omega), Fo y i y1]; exact h3 y i y1 y2)
    (s0 := (D, (9, 0), (9, 0))) ⟨fun l _ _ => by show D 45 l = D 45 l + S (tL D w l) 0; rw [S_0]; omega, fun a b _ _ _ _ => by show D (47 + a) b = D (47 + a) b + S (cL D w a b) 0; rw [S_0]; omega, fun _ _ _ _ => rfl⟩
  replace h1 : ∀ l, 0 ≤ l → l < 26 → E 45 l = D 45 l + S (tL D w l) (D 109 w) := h1
  replace h2 : ∀ a b, 0 ≤ a → a < 26 → 0 ≤ b → b < 26 → E (47 + a) b = D (47 + a) b + S (cL D w a b) (D 109 w) := h2
  replace h3 : ∀ y i, y ≠ 45 → ¬ (47 ≤ y ∧ y ≤ 72) → E y i = D y i := h3
  refine ⟨E, ?_, h1, h2, h3⟩
  have hWE : RW E k := RW_congr (fun y i q => h3 y i (by unfold supW at q; omega) (by unfold supW at q; omega)) hW
  have E6 : E 106 6 = D 106 6 := h3 _ _ (by decide) (by omega)
  have E109 : E 109 w = D 109 w := h3 _ _ (by decide) (by omega)
  have hrow := isRowW hWE w0 (by omega)
  have rs := rowSzW hWE w0 (by omega)
  rw [r_86]
  refine e.trans ?_
  show qE 86 2 [(3, 44), (3, 132 + 3 * w), (0, D 109 w), v3, v4] [] (mk E) = _
  rw [e_86_2, if_pos hrow.1, row_size hrow, rs, E109]
  simp only [Option.bind_some, psh_0]
  rw [e_86_7, if_neg (by omega)]
/-- totals over the text -/
def tT (D : Mem) (l i : Int) : Int := if D 112 (D 117 i) = 0 then 0 else S (tL D (D 117 i) l) (D 109 (D 117 i))
def cT (D : Mem) (a b i : Int) : Int := if D 112 (D 117 i) = 0 then 0 else S (cL D (D 117 i) a b) (D 109 (D 117 i))
def bT (D : Mem) (i : Int) : Int := if D 112 (D 117 i) = 0 then 0 else 1
/-- read -/
theorem sp_85 {D : Mem} {k : Int} (hR : Rel D k) : ∃ E, qR 85 [(3, 44), (3, 102), (3, 5)] (mk D) = some ((9, 0), mk E) ∧ E 44 2 = S (bT D) (D 106 16) ∧ (∀ l, 0 ≤ l → l < 26 → E 45 l = S (tT D l) (D 106 16)) ∧ (∀ a b, 0 ≤ a → a < 26 → 0 ≤ b → b < 26 → E (47 + a) b = S (cT D a b) (D 106 16)) ∧ ∀ y i, ¬ (y = 44 ∧ i = 2) → y ≠ 45 → ¬ (47 ≤ y ∧ y ≤ 72) → E y i = D y i := by
  have hW := hR.2.1
  have hn := hW.1
  obtain ⟨c1, c2, c3, c4, c5⟩ := hR.2.2.2.1.2.2.1
  obtain ⟨A, a1, a2, a3⟩ := sp_218 (a := 45) (n := 26) (v := 0) (mU D 44 2 0) (by decide) mk_k45 mk_l45 mu_45 (by decide) (by decide)
  obtain ⟨B, b1, b2, b3⟩ := it_inv (fun i (M : Mem) => qE 85 15 [(3, 44), (3, 102), (3, 5), (0, i), (9, 0)] [] (mk M)) (fun i M => (∀ a b, 0 ≤ a → a < i → 0 ≤ b → b < 26 → M (47 + a) b = 0) ∧ ∀ y j, ¬ (47 ≤ y ∧ y ≤ 72) → M y j = A y j) (a := 0) (n := 26) (by decide)
    (fun i M i0 i1 ⟨m1, m2⟩ => by
      have rng : (47 ≤ 47 + i ∧ 47 + i ≤ 72) ∨ (74 ≤ 47 + i ∧ 47 + i ≤ 84) ∨ (86 ≤ 47 + i ∧ 47 + i ≤ 97) := by omega
      obtain ⟨N, n1, n2, n3⟩ := sp_218 (a := 47 + i) (n := 26) (v := 0) M (by omega) (fun E => ta_k E rng) (fun E => ta_l26 E (by omega)) (fun E i v => ta_u E rng i v) (by decide) (by decide)
      refine ⟨N, ?_, fun a b a0 a1 b0 b1 => ?_, fun y j hy => ?_⟩
      · show qE 85 15 [(3, 44), (3, 102), (3, 5), (0, i), (9, 0)] [] (mk M) = qE 85 15 [(3, 44), (3, 102), (3, 5), (0, i + 1), (9, 0)] [] (mk N)
        rw [e_85_15, if_pos i1, if_pos (by omega), ta_46 M i0 i1, n1]
        simp only [Option.bind_some, psh_9]
        rw [e_85_31, w32_id (by omega) (by omega)]
      · by_cases q : a = i
        · rw [q]; exact n2 b b0 b1
        · rw [n3 _ _ (by omega)]; exact m1 a b a0 (by omega) b0 b1
      · rw [n3 y j (by omega)]; exact m2 y j hy)
    (s0 := A) ⟨fun a b a0 a1 => by omega, fun _ _ _ => rfl⟩
  have wb : ∀ i, 0 ≤ i → i < D 106 16 → (D 112 (D 117 i) = 0 ∨ D 112 (D 117 i) = 1) ∧ (1 ≤ D 109 (D 117 i) ∧ D 109 (D 117 i) ≤ 10) := fun i i0 i1 => by
    have := c5 i i0 i1
    exact ⟨(thr_cl hW this.1 this.2).2, (hW.2.2.1 _ this.1 this.2).1.2.2⟩
  have tb : ∀ l n, 0 ≤ n → n ≤ D 106 16 → 0 ≤ S (tT D l) n ∧ S (tT D l) n ≤ 10 * n := fun l n n0 n1 => by
    have := S_bd (f := tT D l) (n := n) (a := 0) (b := 10) n0 (fun j j0 j1 => by
      have w := (wb j j0 (by omega)).2
      unfold tT
      by_cases c : D 112 (D 117 j) = 0
      · rw [if_pos c]; decide
      · rw [if_neg c]
        have := S_01 (f := tL D (D 117 j) l) (n := D 109 (D 117 j)) (by omega) (fun i _ _ => tL_01 D (D 117 j) l i)
        constructor <;> omega)
    omega
  have cb : ∀ a b n, 0 ≤ n → n ≤ D 106 16 → 0 ≤ S (cT D a b) n ∧ S (cT D a b) n ≤ 10 * n := fun a b n n0 n1 => by
    have := S_bd (f := cT D a b) (n := n) (a := 0) (b := 10) n0 (fun j j0 j1 => by
      have w := (wb j j0 (by omega)).2
      unfold cT
      by_cases c : D 112 (D 117 j) = 0
      · rw [if_pos c]; decide
      · rw [if_neg c]
        have := S_01 (f := cL D (D 117 j) a b) (n := D 109 (D 117 j)) (by omega) (fun i _ _ => cL_01 D (D 117 j) a b i)
        constructor <;> omega)
    omega
  have bb : ∀ n, 0 ≤ n → 0 ≤ S (bT D) n ∧ S (bT D) n ≤ n := fun n n0 => S_01 n0 (fun j _ _ => by unfold bT; split <;> omega)
  obtain ⟨⟨E, v4⟩, e, h1, h2, h3, h4⟩ := it_inv (fun i (s : Mem × PV) => qE 85 39 [(3, 44), (3, 102), (3, 5), (0, i), s.2] [] (mk s.1)) (fun i s => s.1 44 2 = S (bT D) i ∧ (∀ l, 0 ≤ l → l < 26 → s.1 45 l = S (tT D l) i) ∧ (∀ a b, 0 ≤ a → a < 26 → 0 ≤ b → b < 26 → s.1 (47 + a) b = S (cT D a b) i) ∧ ∀ y j, ¬ (y = 44 ∧ j = 2) → y ≠ 45 → ¬ (47 ≤ y ∧ y ≤ 72) → s.1 y j = D y j) (a := 0) (n := D 106 16) c2
    (fun i s i0 i1 ⟨h1, h2, h3, h4⟩ => by
      obtain ⟨E, v4⟩ := s
      replace h1 : E 44 2 = S (bT D) i := h1
      replace h2 : ∀ l, 0 ≤ l → l < 26 → E 45 l = S (tT D l) i := h2
      replace h3 : ∀ a b, 0 ≤ a → a < 26 → 0 ≤ b → b < 26 → E (47 + a) b = S (cT D a b) i := h3
      replace h4 : ∀ y j, ¬ (y = 44 ∧ j = 2) → y ≠ 45 → ¬ (47 ≤ y ∧ y ≤ 72) → E y j = D y j := h4
      have wi := c5 i i0 i1
      have sE : Sim D E := fun y j hs => h4 y j (by unfold scr at hs; omega) (by unfold scr at hs; omega) (by unfold scr at hs; omega)
      have hRE := Rel_sim hR sE
      have E52 : E 5 2 = D 106 6 := by rw [h4 _ _ (by omega) (by decide) (by omega)]; exact hn.1
      have w5 : 0 ≤ D 117 i ∧ D 117 i < E 5 2 := by omega
      have e1 : w32 (i + 1) = i + 1 := w32_id (by omega) (by omega)
      have es : E 102 1 = D 106 16 := by rw [h4 _ _ (by omega) (by decide) (by omega)]; exact c1
      have hrow := isRow102 (D := E) (by omega) (by omega)
      have at' : rowAt (mk E) 102 i = D 117 i := by
        unfold rowAt
        rw [show mk E 102 1 = D 106 16 from es, if_pos ⟨i0, i1⟩, show mk E (mk E 102 0) i = E 103 i from rfl, h4 _ _ (by omega) (by decide) (by omega), c4]
      have t1 : mk E (131 + 3 * D 117 i) 3 = D 112 (D 117 i) := by
        rw [mk_wf wi.1 (by decide), h4 _ _ (by omega) (by omega) (by omega)]; exact (thr_cl hW wi.1 wi.2).1
      have st : qE 85 39 [(3, 44), (3, 102), (3, 5), (0, i), v4] [] (mk E) = qE 85 56 [(3, 44), (3, 102), (3, 5), (0, i), v4] [(3, 131 + 3 * D 117 i)] (mk E) := by
        rw [e_85_39, row_size hrow, show mk E 102 1 = D 106 16 from es]
        simp only [Option.bind_some, psh_0]
        rw [e_85_44, if_pos i1, row_at hrow, at']
        simp only [Option.bind_some, psh_0]
        rw [e_85_53, sp_7 (by omega), if_pos w5]
        simp only [Option.bind_some, psh_3]
      rcases (wb i i0 i1).1 with t | t
      · refine ⟨(E, (3, 131 + 3 * D 117 i)), ?_, ?_, fun l l0 l1 => ?_, fun a b a0 a1 b0 b1 => ?_, h4⟩
        · show qE 85 39 [(3, 44), (3, 102), (3, 5), (0, i), v4] [] (mk E) = qE 85 39 [(3, 44), (3, 102), (3, 5), (0, i + 1), (3, 131 + 3 * D 117 i)] [] (mk E)
          rw [st, e_85_56, if_neg (by omega), if_pos (mk_wk w5.1 w5.2), t1, if_pos t, e_85_90, e1]
        · show E 44 2 = S (bT D) (i + 1)
          rw [S_succ _ i0, h1]; unfold bT; rw [if_pos t]; omega
        · show E 45 l = S (tT D l) (i + 1)
          rw [S_succ _ i0, h2 l l0 l1, show tT D l i = 0 from if_pos t]; omega
        · show E (47 + a) b = S (cT D a b) (i + 1)
          rw [S_succ _ i0, h3 a b a0 a1 b0 b1, show cT D a b i = 0 from if_pos t]; omega
      · have bbi := bb i i0
        obtain ⟨F, hF⟩ : ∃ F, F = mU E 44 2 (S (bT D) i + 1) := ⟨_, rfl⟩
        have oF : ∀ y j, ¬ (y = 44 ∧ j = 2) → F y j = E y j := fun y j q => by rw [hF, mU_other q]
        have sF : Sim D F := fun y j hs => by rw [oF y j (by unfold scr at hs; omega)]; exact sE y j hs
        have hRF := Rel_sim hR sF
        have F6 : F 106 6 = D 106 6 := sF _ _ (by unfold scr; omega)
        obtain ⟨G, g1, g2, g3, g4⟩ := sp_86 (D := F) (w := D 117 i) hRF.2.1 wi.1 (by omega) (fun l l0 l1 => by rw [oF _ _ (by omega), h2 l l0 l1]; have := tb l i i0 (by omega); omega) (fun a b a0 a1 b0 b1 => by rw [oF _ _ (by omega), h3 a b a0 a1 b0 b1]; have := cb a b i i0 (by omega); omega)
        have wlF : wl F (D 117 i) = wl D (D 117 i) := wl_cg (fun j => sF _ _ (by unfold scr; omega)) _
        have F109 : F 109 (D 117 i) = D 109 (D 117 i) := sF _ _ (by unfold scr; omega)
        have tLF : ∀ l, tL F (D 117 i) l = tL D (D 117 i) l := fun l => funext fun j => by unfold tL; rw [wlF]
        have cLF : ∀ a b, cL F (D 117 i) a b = cL D (D 117 i) a b := fun a b => funext fun j => by unfold cL; rw [wlF]
        refine ⟨(G, (3, 131 + 3 * D 117 i)), ?_, ?_, fun l l0 l1 => ?_, fun a b a0 a1 b0 b1 => ?_, fun y j y1 y2 y3 => ?_⟩
        · show qE 85 39 [(3, 44), (3, 102), (3, 5), (0, i), v4] [] (mk E) = qE 85 39 [(3, 44), (3, 102), (3, 5), (0, i + 1), (3, 131 + 3 * D 117 i)] [] (mk G)
          have F52 : F 5 2 = D 106 6 := by rw [oF _ _ (by omega)]; exact E52
          rw [st, e_85_56, if_neg (by omega), if_pos (mk_wk w5.1 w5.2), t1, if_neg (by omega), h1, w32_id (x := S (bT D) i + 1) (by omega) (by omega), ← hF, if_pos (mk_wk wi.1 (by omega)), mk_wr wi.1 (by omega), g1]
          simp only [Option.bind_some, psh_9]
          rw [e_85_90, e1]
        · show G 44 2 = S (bT D) (i + 1)
          rw [g4 _ _ (by decide) (by omega), hF, mU_s, S_succ _ i0]; unfold bT; rw [if_neg (by omega : ¬ D 112 (D 117 i) = 0)]
        · show G 45 l = S (tT D l) (i + 1)
          rw [g2 l l0 l1, oF _ _ (by omega), h2 l l0 l1, tLF, F109, S_succ _ i0, show tT D l i = S (tL D (D 117 i) l) (D 109 (D 117 i)) from if_neg (by omega)]
        · show G (47 + a) b = S (cT D a b) (i + 1)
          rw [g3 a b a0 a1 b0 b1, oF _ _ (by omega), h3 a b a0 a1 b0 b1, cLF, F109, S_succ _ i0, show cT D a b i = S (cL D (D 117 i) a b) (D 109 (D 117 i)) from if_neg (by omega)]
        · show G y j = D y j
          rw [g4 y j y2 y3, oF y j y1]; exact h4 y j y1 y2 y3)
    (s0 := (B, (9, 0))) ⟨by show B 44 2 = 0; rw [b3 _ _ (by omega), a3 _ _ (by decide), mU_s], fun l l0 l1 => by show B 45 l = 0; rw [b3 _ _ (by omega)]; exact a2 l l0 l1, fun a b a0 a1 b0 b1 => b2 a b a0 a1 b0 b1, fun y j y1 y2 y3 => by show B y j = D y j; rw [b3 y j y3, a3 y j y2, mU_other y1]⟩
  replace h1 : E 44 2 = S (bT D) (D 106 16) := h1
  replace h2 : ∀ l, 0 ≤ l → l < 26 → E 45 l = S (tT D l) (D 106 16) := h2
  replace h3 : ∀ a b, 0 ≤ a → a < 26 → 0 ≤ b → b < 26 → E (47 + a) b = S (cT D a b) (D 106 16) := h3
  replace h4 : ∀ y j, ¬ (y = 44 ∧ j = 2) → y ≠ 45 → ¬ (47 ≤ y ∧ y ≤ 72) → E y j = D y j := h4
  refine ⟨E, ?_, h1, h2, h3, h4⟩
  have es : E 102 1 = D 106 16 := by rw [h4 _ _ (by omega) (by decide) (by omega)]; exact c1
  rw [r_85, a1]
  simp only [Option.bind_some, psh_9]
  rw [e_85_13]
  refine b1.trans ?_
  show qE 85 15 [(3, 44), (3, 102), (3, 5), (0, 26), (9, 0)] [] (mk B) = _
  rw [e_85_15, if_neg (by decide)]
  refine e.trans ?_
  show qE 85 39 [(3, 44), (3, 102), (3, 5), (0, D 106 16), v4] [] (mk E) = _
  rw [e_85_39, row_size (isRow102 (D := E) (by omega) (by omega)), show mk E 102 1 = D 106 16 from es]
  simp only [Option.bind_some, psh_0]
  rw [e_85_44, if_neg (by omega)]
