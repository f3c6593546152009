/-! swap: the text's presses by letters -/
def fK (D : Mem) (K : Int → Int) (x : Int) : Int := posK K x * S (tT D x) (D 106 16) + S (fun q => if K q = K x then S (cT D q x) (D 106 16) else 0) (x + 1)
def prK (D : Mem) (K : Int → Int) (k : Int) : Int := S (fun x => if K x = k then fK D K x else 0) 26
theorem S_ite0 (c : Prop) [Decidable c] (f : Int → Int) (n : Int) : (if c then S f n else 0) = S (fun j => if c then f j else 0) n := by
  by_cases h : c
  · rw [if_pos h]; exact S_congr fun j _ _ => by rw [if_pos h]
  · rw [if_neg h]; exact (S_zero fun j _ _ => by rw [if_neg h]).symm
theorem word_sum {D : Mem} (K : Int → Int) {w m : Int} (hl : ∀ j, 0 ≤ j → j < m → 0 ≤ wl D w j ∧ wl D w j < 26) : S (fun x => posK K x * S (tL D w x) m + S (fun q => if K q = K x then S (cL D w q x) m else 0) (x + 1)) 26 = S (fun j => posK K (wl D w j) + if 0 < j ∧ K (wl D w (j - 1)) = K (wl D w j) then 1 else 0) m := by
  have e1 : ∀ x, posK K x * S (tL D w x) m + S (fun q => if K q = K x then S (cL D w q x) m else 0) (x + 1) = S (fun j => posK K x * tL D w x j + S (fun q => if K q = K x then cL D w q x j else 0) (x + 1)) m := fun x => by
    rw [S_add, S_mulc, S_swap (fun j q => if K q = K x then cL D w q x j else 0)]
    congr 1
    exact S_congr fun q _ _ => S_ite0 _ _ _
  rw [S_congr (fun x _ _ => e1 x), S_swap (fun x j => posK K x * tL D w x j + S (fun q => if K q = K x then cL D w q x j else 0) (x + 1))]
  refine S_congr fun j j0 j1 => ?_
  have v := hl j j0 j1
  rw [S_add]
  have p1 : S (fun x => posK K x * tL D w x j) 26 = posK K (wl D w j) := by
    rw [S_one (i := wl D w j) v.1 v.2 (fun x _ _ hx => by unfold tL; rw [if_neg (fun h => hx h.symm), Int.mul_zero])]
    unfold tL
    rw [if_pos rfl, Int.mul_one]
  have p2 : S (fun x => S (fun q => if K q = K x then cL D w q x j else 0) (x + 1)) 26 = if 0 < j ∧ K (wl D w (j - 1)) = K (wl D w j) then 1 else 0 := by
    by_cases c : 0 < j
    · have u := hl (j - 1) (by omega) (by omega)
      have main : ∀ lo hi, 0 ≤ lo → lo ≤ hi → hi < 26 → (∀ q x, (wl D w (j - 1) ≤ wl D w j ∧ wl D w (j - 1) = q ∧ wl D w j = x) ∨ (wl D w j < wl D w (j - 1) ∧ wl D w j = q ∧ wl D w (j - 1) = x) ↔ q = lo ∧ x = hi) → S (fun x => S (fun q => if K q = K x then cL D w q x j else 0) (x + 1)) 26 = if K lo = K hi then 1 else 0 := fun lo hi h0 h1 h2 h => by
        rw [S_one (i := hi) (by omega) h2 (fun x _ _ hx => S_zero fun q _ _ => by
          split
          · unfold cL
            rw [if_neg (fun z => hx ((h q x).1 z.2).2)]
          · rfl), S_one (i := lo) h0 (by omega) (fun q _ _ hq => by
          split
          · unfold cL
            rw [if_neg (fun z => hq ((h q hi).1 z.2).1)]
          · rfl)]
        have : cL D w lo hi j = 1 := by
          unfold cL
          rw [if_pos ⟨c, (h lo hi).2 ⟨rfl, rfl⟩⟩]
        rw [this]
      by_cases d : wl D w (j - 1) ≤ wl D w j
      · rw [main (wl D w (j - 1)) (wl D w j) u.1 d v.2 (fun q x => by omega)]
        by_cases e : K (wl D w (j - 1)) = K (wl D w j)
        · rw [if_pos e, if_pos ⟨c, e⟩]
        · rw [if_neg e, if_neg (fun z => e z.2)]
      · rw [main (wl D w j) (wl D w (j - 1)) v.1 (by omega) u.2 (fun q x => by omega)]
        by_cases e : K (wl D w j) = K (wl D w (j - 1))
        · rw [if_pos e, if_pos ⟨c, e.symm⟩]
        · rw [if_neg e, if_neg (fun z => e z.2.symm)]
    · rw [if_neg (fun z => c z.1)]
      exact S_zero fun x _ _ => S_zero fun q _ _ => by
        split
        · unfold cL
          rw [if_neg (fun z => c z.1)]
        · rfl
  rw [p1, p2]
theorem taps_fK {D : Mem} (hR : rOK D) : S (tapT D) (D 106 16) = S (bT D) (D 106 16) + S (fK D (D 107)) 26 := by
  obtain ⟨_, hw, _, _, ⟨_, _, c5⟩, _⟩ := hR
  have e1 : ∀ i, 0 ≤ i → i < D 106 16 → tapT D i = bT D i + S (fun x => posK (D 107) x * tT D x i + S (fun q => if D 107 q = D 107 x then cT D q x i else 0) (x + 1)) 26 := fun i i0 i1 => by
    have w := c5 i i0 i1
    have ww := hw _ w.1 w.2
    unfold tapT bT tT cT
    by_cases c : D 112 (D 117 i) = 0
    · rw [if_pos c, if_pos c, S_zero (f := fun x => _ + _) (fun x _ _ => ?_)]
      · rfl
      · show posK (D 107) x * (if D 112 (D 117 i) = 0 then 0 else _) + _ = 0
        rw [if_pos c, Int.mul_zero, Int.zero_add]
        exact S_zero fun q _ _ => by
          split <;> rfl
    · rw [if_neg c, if_neg c]
      have := word_sum (D := D) (D 107) (w := D 117 i) (m := D 109 (D 117 i)) (fun j j0 j1 => by have := ww.2.1 j j0 j1; unfold wl; omega)
      have e2 : S (fun x => posK (D 107) x * (if D 112 (D 117 i) = 0 then 0 else S (tL D (D 117 i) x) (D 109 (D 117 i))) + S (fun q => if D 107 q = D 107 x then (if D 112 (D 117 i) = 0 then 0 else S (cL D (D 117 i) q x) (D 109 (D 117 i))) else 0) (x + 1)) 26 = S (fun x => posK (D 107) x * S (tL D (D 117 i) x) (D 109 (D 117 i)) + S (fun q => if D 107 q = D 107 x then S (cL D (D 117 i) q x) (D 109 (D 117 i)) else 0) (x + 1)) 26 := by
        refine S_congr fun x _ _ => ?_
        rw [if_neg c]
        congr 1
        exact S_congr fun q _ _ => by rw [if_neg c]
      rw [e2, this]
      unfold tapW
      congr 1
      refine S_congr fun j _ _ => ?_
      unfold tapF wl
      rw [show 10 * D 117 i + (j - 1) = 10 * D 117 i + j - 1 by omega]
  rw [S_congr e1, S_add]
  congr 1
  rw [S_swap (fun i x => posK (D 107) x * tT D x i + S (fun q => if D 107 q = D 107 x then cT D q x i else 0) (x + 1))]
  refine S_congr fun x _ _ => ?_
  unfold fK
  rw [S_add, S_mulc, S_swap (fun i q => if D 107 q = D 107 x then cT D q x i else 0)]
  congr 1
  exact S_congr fun q _ _ => (S_ite0 _ _ _).symm
def xch (K : Int → Int) (a b : Int) : Int → Int := fun l => if l = b then K a else if l = a then K b else K l
theorem fK_b {D : Mem} (hR : rOK D) (K : Int → Int) {x : Int} (x0 : 0 ≤ x) (x1 : x < 26) : (0 ≤ posK K x * S (tT D x) (D 106 16) ∧ posK K x * S (tT D x) (D 106 16) ≤ 26 * 600) ∧ (∀ k m, 0 ≤ m → m ≤ 26 → 0 ≤ S (fun q => if K q = k then S (cT D q x) (D 106 16) else 0) m ∧ S (fun q => if K q = k then S (cT D q x) (D 106 16) else 0) m ≤ 15600) ∧ 0 ≤ fK D K x ∧ fK D K x ≤ 31200 := by
  have c3 := hR.2.2.2.2.1
  have t := tT_b hR x c3.1 (Int.le_refl _)
  have p := posK_bd K x0
  have h1 : 0 ≤ posK K x * S (tT D x) (D 106 16) := Int.mul_nonneg p.1 t.1
  have h2 : posK K x * S (tT D x) (D 106 16) ≤ 26 * 600 := Int.mul_le_mul (by omega) (by omega) t.1 (by omega)
  have h3 : ∀ k m, 0 ≤ m → m ≤ 26 → 0 ≤ S (fun q => if K q = k then S (cT D q x) (D 106 16) else 0) m ∧ S (fun q => if K q = k then S (cT D q x) (D 106 16) else 0) m ≤ 15600 := fun k m m0 m1 => by
    have := S_bd (f := fun q => if K q = k then S (cT D q x) (D 106 16) else 0) (n := m) (a := 0) (b := 600) m0 (fun q _ _ => by
      have := cT_b hR q x c3.1 (Int.le_refl _)
      split <;> omega)
    omega
  refine ⟨⟨h1, h2⟩, h3, ?_⟩
  have := h3 (K x) (x + 1) (by omega) (by omega)
  unfold fK
  omega
theorem prK_b {D : Mem} (hR : rOK D) (K : Int → Int) (k : Int) {m : Int} (m0 : 0 ≤ m) (m1 : m ≤ 26) : 0 ≤ S (fun x => if K x = k then fK D K x else 0) m ∧ S (fun x => if K x = k then fK D K x else 0) m ≤ 811200 := by
  have := S_bd (f := fun x => if K x = k then fK D K x else 0) (n := m) (a := 0) (b := 31200) m0 (fun x x0 x1 => by
    have := (fK_b hR K x0 (by omega : x < 26)).2.2
    split <;> omega)
  omega
theorem SfK_b {D : Mem} (hR : rOK D) (K : Int → Int) : 0 ≤ S (fK D K) 26 ∧ S (fK D K) 26 ≤ 811200 := by
  have := S_bd (f := fK D K) (n := 26) (a := 0) (b := 31200) (by decide) (fun x x0 x1 => (fK_b hR K x0 x1).2.2)
  omega
/-- only the two letters' keys change -/
theorem xch_keys {D : Mem} (K : Int → Int) {a b : Int} (ab : K a ≠ K b) : S (fK D K) 26 + (prK D (xch K a b) (K a) + prK D (xch K a b) (K b)) = S (fK D (xch K a b)) 26 + (prK D K (K a) + prK D K (K b)) := by
  unfold prK
  rw [← S_add, ← S_add, ← S_add, ← S_add]
  refine S_congr fun x _ _ => ?_
  obtain ⟨L, hL⟩ : ∃ L, L = xch K a b := ⟨_, rfl⟩
  rw [← hL]
  have nab : a ≠ b := fun h => ab (by rw [h])
  have Lv : ∀ l, L l = if l = b then K a else if l = a then K b else K l := fun l => by rw [hL]; rfl
  by_cases c : K x = K a ∨ K x = K b
  · have c' : L x = K a ∨ L x = K b := by
      rw [Lv]
      by_cases z1 : x = b
      · rw [if_pos z1]; exact Or.inl rfl
      · by_cases z2 : x = a
        · rw [if_neg z1, if_pos z2]; exact Or.inr rfl
        · rw [if_neg z1, if_neg z2]; exact c
    have h1 : (if K x = K a then fK D K x else 0) + (if K x = K b then fK D K x else 0) = fK D K x := by
      rcases c with c | c
      · rw [if_pos c, if_neg (by omega)]; omega
      · rw [if_neg (by omega), if_pos c]; omega
    have h2 : (if L x = K a then fK D L x else 0) + (if L x = K b then fK D L x else 0) = fK D L x := by
      rcases c' with c | c
      · rw [if_pos c, if_neg (by omega)]; omega
      · rw [if_neg (by omega), if_pos c]; omega
    rw [h1, h2]; omega
  · have x1 : x ≠ b := fun h => c (Or.inr (by rw [h]))
    have x2 : x ≠ a := fun h => c (Or.inl (by rw [h]))
    have Lx : L x = K x := by rw [Lv, if_neg x1, if_neg x2]
    have eqv : ∀ q, (L q = K x) ↔ (K q = K x) := fun q => by
      rw [Lv]
      by_cases z1 : q = b
      · rw [if_pos z1, z1]; omega
      · by_cases z2 : q = a
        · rw [if_neg z1, if_pos z2, z2]; omega
        · rw [if_neg z1, if_neg z2]
    have e : fK D L x = fK D K x := by
      unfold fK posK
      rw [Lx]
      congr 1
      · congr 1
        refine S_congr fun q _ _ => ?_
        by_cases z : K q = K x
        · rw [if_pos z, if_pos ((eqv q).2 z)]
        · rw [if_neg z, if_neg (fun h => z ((eqv q).1 h))]
      · refine S_congr fun q _ _ => ?_
        by_cases z : K q = K x
        · rw [if_pos z, if_pos ((eqv q).2 z)]
        · rw [if_neg z, if_neg (fun h => z ((eqv q).1 h))]
    rw [Lx, e, if_neg (by omega), if_neg (by omega)]
theorem S_nil {f : Int → Int} {n : Int} (n0 : 0 ≤ n) (h : ∀ j, 0 ≤ j → j < n → 0 ≤ f j) (hS : S f n = 0) {i : Int} (i0 : 0 ≤ i) (i1 : i < n) : f i = 0 := by
  have e := S_upd (f := fun j => if j = i then 0 else f j) (g := f) (n := n) i0 i1 (fun j _ _ hj => by show f j = if j = i then 0 else f j; rw [if_neg hj])
  have p : 0 ≤ S (fun j => if j = i then 0 else f j) n := by
    have : ∀ m, 0 ≤ m → m ≤ n → 0 ≤ S (fun j => if j = i then 0 else f j) m := by
      refine i_up (P := fun m => m ≤ n → 0 ≤ S (fun j => if j = i then 0 else f j) m) (fun _ => Int.le_refl _) (fun m m0 ih hm => ?_)
      have := ih (by omega)
      have := h m m0 (by omega)
      rw [S_succ _ m0]
      show 0 ≤ _ + if m = i then 0 else f m
      split <;> omega
    exact this n n0 (Int.le_refl _)
  have := h i i0 i1
  have e' : S f n = S (fun j => if j = i then 0 else f j) n + (f i - if i = i then 0 else f i) := e
  rw [if_pos rfl] at e'
  omega
/-- a letter never tapped touches none -/
theorem cT_nil {D : Mem} (hR : rOK D) {x : Int} (h : S (tT D x) (D 106 16) = 0) (q : Int) : S (cT D q x) (D 106 16) = 0 := by
  obtain ⟨_, hw, _, _, ⟨c2, c3, c5⟩, _⟩ := hR
  refine S_zero fun i i0 i1 => ?_
  have w := c5 i i0 i1
  have l := (hw _ w.1 w.2).1
  have tn : ∀ i, 0 ≤ i → i < D 106 16 → 0 ≤ tT D x i := fun i i0 i1 => by
    have w := c5 i i0 i1
    have l := (hw _ w.1 w.2).1
    have := S_01 (f := tL D (D 117 i) x) (n := D 109 (D 117 i)) (by omega) (fun j _ _ => tL_01 D _ x j)
    unfold tT
    split <;> omega
  have t := S_nil c2 tn h i0 i1
  unfold tT at t
  unfold cT
  by_cases c : D 112 (D 117 i) = 0
  · rw [if_pos c]
  · rw [if_neg c] at t ⊢
    have tj : ∀ j, 0 ≤ j → j < D 109 (D 117 i) → wl D (D 117 i) j ≠ x := fun j j0 j1 e => by
      have := S_nil (by omega) (fun j _ _ => (tL_01 D (D 117 i) x j).1) t j0 j1
      unfold tL at this
      rw [if_pos e] at this
      omega
    refine S_zero fun j j0 j1 => ?_
    unfold cL
    refine if_neg fun z => ?_
    have t1 := tj j j0 j1
    have t2 := tj (j - 1) (by omega) (by omega)
    rcases z.2 with z | z
    · exact t1 z.2.2
    · exact t2 z.2.2
