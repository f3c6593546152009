/-! rows: what their methods answer -/
/-- a row of capacity c -/
def isRow (μ : Mem) (r c : Int) : Prop := μ (-r) 0 = 15 ∧ μ (-(μ r 0)) 0 = 1 ∧ μ (-(μ r 0)) 1 = c ∧ (0 ≤ μ r 1 ∧ μ r 1 ≤ c ∧ c ≤ 100) ∧ 1 < r ∧ 1 < μ r 0 ∧ μ r 0 ≠ r
theorem mU_r {μ : Mem} {a i v b j : Int} (h : b ≠ a) : mU μ a i v b j = μ b j := if_neg (fun q => h q.1)
theorem mU_c {μ : Mem} {a i v j : Int} (h : j ≠ i) : mU μ a i v a j = μ a j := if_neg (fun q => h q.2)
theorem mU_s {μ : Mem} {a i v : Int} : mU μ a i v a i = v := if_pos ⟨rfl, rfl⟩
theorem aKind11 : aKind 1 1 = true := rfl
theorem aPut11 (μ : Mem) (x : Int) : aPut μ 1 1 (0, x) = true := rfl
theorem row_size {μ : Mem} {r c : Int} (h : isRow μ r c) : qR 55 [(3, r)] μ = some ((0, μ r 1), μ) := by
  obtain ⟨h1, -⟩ := h
  simp only [r_55, h1, if_true]
theorem row_empty {μ : Mem} {r c : Int} (h : isRow μ r c) : qR 56 [(3, r)] μ = some ((0, if μ r 1 = 0 then 1 else 0), μ) := by
  obtain ⟨h1, -⟩ := h
  simp only [r_56, h1, if_true]
  split <;> rfl
theorem row_full {μ : Mem} {r c : Int} (h : isRow μ r c) : qR 57 [(3, r)] μ = some ((0, if μ r 1 < c then 0 else 1), μ) := by
  obtain ⟨h1, h2, h3, -⟩ := h
  simp only [r_57, h1, h2, h3, if_true]
  simp only [show (1 : Int) ≤ 1 ∧ (1 : Int) ≤ 6 by decide, and_self, if_true]
  split <;> rfl
def rowAt (μ : Mem) (r i : Int) : Int := if 0 ≤ i ∧ i < μ r 1 then μ (μ r 0) i else -1
theorem row_at {μ : Mem} {r c : Int} (h : isRow μ r c) (i : Int) : qR 58 [(3, r), (0, i)] μ = some ((0, rowAt μ r i), μ) := by
  obtain ⟨h1, h2, h3, h4, -⟩ := h
  simp only [r_58, h1, h2, h3, if_true, aKind11, true_and, rowAt]
  by_cases c1 : i < 0
  · rw [if_pos c1, if_neg (by omega)]
  · by_cases c2 : i < μ r 1
    · rw [if_neg c1, if_pos c2, if_pos (by omega), if_pos (by omega)]
    · rw [if_neg c1, if_neg c2, if_neg (by omega)]
def rowPush (μ : Mem) (r x : Int) : Mem := mU (mU μ (μ r 0) (μ r 1) x) r 1 (μ r 1 + 1)
theorem row_push {μ : Mem} {r c : Int} (h : isRow μ r c) (hc : μ r 1 < c) (x : Int) : qR 59 [(3, r), (0, x)] μ = some ((9, 0), rowPush μ r x) := by
  obtain ⟨h1, h2, h3, h4, h5, h6, h7⟩ := h
  have e1 : mU μ (μ r 0) (μ r 1) x (-r) 0 = 15 := by rw [mU_r (by omega)]; exact h1
  have e2 : mU μ (μ r 0) (μ r 1) x r 1 = μ r 1 := mU_r (Ne.symm h7)
  simp only [r_59, h1, h2, h3, e1, e2, if_true, aPut11, true_and]
  rw [if_pos (by decide), if_pos hc, if_pos ⟨by omega, by omega, hc⟩, w32_id (by omega) (by omega)]
  rfl
theorem row_push_full {μ : Mem} {r c : Int} (h : isRow μ r c) (hc : ¬ μ r 1 < c) (x : Int) : qR 59 [(3, r), (0, x)] μ = some ((9, 0), μ) := by
  obtain ⟨h1, h2, h3, h4, h5, h6, h7⟩ := h
  simp only [r_59, h1, h2, h3, if_true]
  rw [if_pos (by decide), if_neg hc]
theorem row_pop {μ : Mem} {r c : Int} (h : isRow μ r c) (hc : 0 < μ r 1) : qR 60 [(3, r)] μ = some ((9, 0), mU μ r 1 (μ r 1 - 1)) := by
  obtain ⟨h1, h2, h3, h4, h5, h6, h7⟩ := h
  simp only [r_60, h1, if_true]
  rw [if_neg (by omega), w32_id (by omega) (by omega)]
theorem row_clear {μ : Mem} {r c : Int} (h : isRow μ r c) : qR 61 [(3, r)] μ = some ((0, μ r 1), mU μ r 1 0) := by
  obtain ⟨h1, -⟩ := h
  simp only [r_61, h1, if_true]
/-- rows alike: sizes and items -/
def rowEq (μ : Mem) (r o : Int) : Prop := μ r 1 = μ o 1 ∧ ∀ i, 0 ≤ i → i < μ r 1 → μ (μ r 0) i = μ (μ o 0) i
theorem row_like {μ : Mem} {r o c d : Int} (h : isRow μ r c) (g : isRow μ o d) : (rowEq μ r o → qR 63 [(3, r), (3, o)] μ = some ((0, 1), μ)) ∧ (¬ rowEq μ r o → qR 63 [(3, r), (3, o)] μ = some ((0, 0), μ)) := by
  obtain ⟨h1, h2, h3, h4, -⟩ := h
  obtain ⟨g1, g2, g3, g4, -⟩ := g
  have row : ∀ i, μ r 1 = μ o 1 → 0 ≤ i → qE 63 15 [(3, r), (3, o), (0, i)] [] μ = if i < μ r 1 then (if μ (μ r 0) i = μ (μ o 0) i then qE 63 15 [(3, r), (3, o), (0, w32 (i + 1))] [] μ else some ((0, 0), μ)) else some ((0, 1), μ) := by
    intro i hs hi
    rw [e_63_15]
    simp only [h1, h2, h3, g1, g2, g3, if_true, aKind11, true_and]
    by_cases c1 : i < μ r 1
    · rw [if_pos c1, if_pos c1, if_pos (by omega), if_pos (by omega)]
    · rw [if_neg c1, if_neg c1]
  simp only [r_63, h1, g1, if_true]
  constructor
  · rintro ⟨hs, hi⟩
    rw [if_pos hs]
    have := it_up (fun i => qE 63 15 [(3, r), (3, o), (0, i)] [] μ) h4.1 (fun i a b => by rw [row i hs a, if_pos b, if_pos (hi i a b), w32_id (by omega) (by omega)])
    rw [this, row _ hs h4.1, if_neg (by omega)]
  · intro hn
    by_cases hs : μ r 1 = μ o 1
    · rw [if_pos hs]
      -- the first place that differs
      have key : ∀ (k : Nat) (i : Int), 0 ≤ i → μ r 1 - i = k → (∀ j, 0 ≤ j → j < i → μ (μ r 0) j = μ (μ o 0) j) → qE 63 15 [(3, r), (3, o), (0, i)] [] μ = some ((0, 0), μ) := by
        intro k
        induction k with
        | zero => intro i hi hk hall; exact absurd ⟨hs, fun j a b => hall j a (by omega)⟩ hn
        | succ k ih =>
          intro i hi hk hall
          rw [row i hs hi, if_pos (by omega)]
          by_cases e : μ (μ r 0) i = μ (μ o 0) i
          · rw [if_pos e, w32_id (by omega) (by omega)]
            exact ih (i + 1) (by omega) (by omega) (fun j a b => by
              by_cases ej : j = i
              · subst ej; exact e
              · exact hall j a (by omega))
          · rw [if_neg e]
      exact key (μ r 1).toNat 0 (Int.le_refl _) (by omega) (fun j a b => by omega)
    · rw [if_neg hs]
/-- row r holds the first i items of row o -/
def cpR (μ : Mem) (r o i : Int) : Mem := fun b j => if b = r ∧ j = 1 then i else if b = μ r 0 ∧ 0 ≤ j ∧ j < i then μ (μ o 0) j else μ b j
theorem row_become {μ : Mem} {r o c d : Int} (h : isRow μ r c) (g : isRow μ o d) (hro : r ≠ o) (ha : μ r 0 ≠ μ o 0) (hb : μ r 0 ≠ o) (hb2 : μ o 0 ≠ r) (hc : μ o 1 ≤ c) : qR 62 [(3, r), (3, o)] μ = some ((9, 0), cpR μ r o (μ o 1)) := by
  obtain ⟨h1, h2, h3, h4, h5, h6, h7⟩ := h
  obtain ⟨g1, g2, g3, g4, g5, g6, g7⟩ := g
  have e0 : mU μ r 1 0 = cpR μ r o 0 := by
    funext b j
    unfold mU cpR
    by_cases e : b = r ∧ j = 1
    · rw [if_pos e, if_pos e]
    · rw [if_neg e, if_neg e, if_neg (by omega)]
  have p1 : ∀ i b j, b ≠ r → b ≠ μ r 0 → cpR μ r o i b j = μ b j := fun i b j a1 a2 => by unfold cpR; rw [if_neg (fun q => a1 q.1), if_neg (fun q => a2 q.1)]
  have p2 : ∀ i j, j ≠ 1 → cpR μ r o i r j = μ r j := fun i j a1 => by unfold cpR; rw [if_neg (fun q => a1 q.2), if_neg (fun q => h7 q.1.symm)]
  have p3 : ∀ i, cpR μ r o i r 1 = i := fun i => by unfold cpR; rw [if_pos ⟨rfl, rfl⟩]
  have hrow : ∀ i, 0 ≤ i → i ≤ μ o 1 → isRow (cpR μ r o i) r c := fun i a1 a2 => by
    unfold isRow
    rw [p1 i _ _ (by omega) (by omega), p2 i 0 (by decide), p3, p1 i _ _ (by omega) (by omega), p1 i _ _ (by omega) (by omega)]
    exact ⟨h1, h2, h3, by omega, h5, h6, h7⟩
  have step : ∀ i, 0 ≤ i → i < μ o 1 → qE 62 7 [(3, r), (3, o), (0, i)] [] (cpR μ r o i) = qE 62 7 [(3, r), (3, o), (0, i + 1)] [] (cpR μ r o (i + 1)) := by
    intro i a1 a2
    have q1 : cpR μ r o i (-o) 0 = 15 := by rw [p1 i _ _ (by omega) (by omega)]; exact g1
    have q2 : cpR μ r o i o 1 = μ o 1 := p1 i _ _ (Ne.symm hro) (Ne.symm hb)
    have q3 : cpR μ r o i o 0 = μ o 0 := p1 i _ _ (Ne.symm hro) (Ne.symm hb)
    have q4 : cpR μ r o i (-(μ o 0)) 0 = 1 := by rw [p1 i _ _ (by omega) (by omega)]; exact g2
    have q5 : cpR μ r o i (-(μ o 0)) 1 = d := by rw [p1 i _ _ (by omega) (by omega)]; exact g3
    have q6 : cpR μ r o i (μ o 0) i = μ (μ o 0) i := p1 i _ _ hb2 (Ne.symm ha)
    have q7 : cpR μ r o i (-r) 0 = 15 := by rw [p1 i _ _ (by omega) (by omega)]; exact h1
    rw [e_62_7]
    simp only [q1, q2, q3, q4, q5, q6, q7, if_true, aKind11, true_and]
    rw [if_pos a2, if_pos (by omega), row_push (hrow i a1 (by omega)) (by rw [p3]; omega)]
    simp only [Option.bind_some, psh_9]
    rw [e_62_25, w32_id (by omega) (by omega)]
    congr 1
    unfold rowPush
    rw [p2 i 0 (by decide), p3]
    funext b j
    unfold mU cpR
    by_cases e1 : b = r ∧ j = 1
    · rw [if_pos e1, if_pos e1]
    · rw [if_neg e1, if_neg e1, if_neg e1]
      by_cases e2 : b = μ r 0 ∧ j = i
      · rw [if_pos e2, if_pos ⟨e2.1, by omega, by omega⟩, e2.2]
      · rw [if_neg e2]
        by_cases e3 : b = μ r 0 ∧ 0 ≤ j ∧ j < i
        · rw [if_pos e3, if_pos ⟨e3.1, e3.2.1, by omega⟩]
        · rw [if_neg e3, if_neg (fun q => e3 ⟨q.1, q.2.1, by
            have := q.2.2
            have : j ≠ i := fun z => e2 ⟨q.1, z⟩
            omega⟩)]
  rw [r_62, if_pos h1, e0]
  rw [it_up (fun i => qE 62 7 [(3, r), (3, o), (0, i)] [] (cpR μ r o i)) g4.1 step, e_62_7]
  rw [p1 _ (-o) 0 (by omega) (by omega), g1, if_pos rfl, p1 _ o 1 (Ne.symm hro) (Ne.symm hb), if_neg (by omega)]
/-- the order of words: f of n letters ahead of g of m letters -/
def lexP (f : Int → Int) (n : Int) (g : Int → Int) (m : Int) : Prop := ∃ k, 0 ≤ k ∧ k ≤ n ∧ k < m ∧ (∀ j, 0 ≤ j → j < k → f j = g j) ∧ (k = n ∨ f k < g k)
theorem lex_diff {f g : Int → Int} {n m i : Int} (h0 : 0 ≤ i) (hn : i < n) (hm : i < m) (he : ∀ j, 0 ≤ j → j < i → f j = g j) (hd : f i ≠ g i) : lexP f n g m ↔ f i < g i := by
  constructor
  · rintro ⟨k, k0, kn, km, ke, kk⟩
    have hki : k = i := by
      by_cases c1 : k < i
      · rcases kk with kk | kk
        · omega
        · have := he k k0 c1; omega
      · by_cases c2 : i < k
        · exact absurd (ke i h0 c2) hd
        · omega
    subst hki
    rcases kk with kk | kk
    · omega
    · exact kk
  · intro h
    exact ⟨i, h0, by omega, hm, he, Or.inr h⟩
theorem lex_end {f g : Int → Int} {n m i : Int} (h0 : 0 ≤ i) (hn : i ≤ n) (hm : i ≤ m) (hi : i = n ∨ i = m) (he : ∀ j, 0 ≤ j → j < i → f j = g j) : lexP f n g m ↔ n < m := by
  constructor
  · rintro ⟨k, k0, kn, km, ke, kk⟩
    rcases kk with kk | kk
    · omega
    · by_cases c1 : k < i
      · have := he k k0 c1; omega
      · omega
  · intro h
    exact ⟨i, h0, by omega, by omega, he, Or.inl (by omega)⟩
theorem row_ahead {μ : Mem} {r o c d : Int} (h : isRow μ r c) (g : isRow μ o d) : (lexP (μ (μ r 0)) (μ r 1) (μ (μ o 0)) (μ o 1) → qR 64 [(3, r), (3, o)] μ = some ((0, 1), μ)) ∧ (¬ lexP (μ (μ r 0)) (μ r 1) (μ (μ o 0)) (μ o 1) → qR 64 [(3, r), (3, o)] μ = some ((0, 0), μ)) := by
  obtain ⟨h1, h2, h3, h4, -⟩ := h
  obtain ⟨g1, g2, g3, g4, -⟩ := g
  have row : ∀ i, 0 ≤ i → qE 64 2 [(3, r), (3, o), (0, i)] [] μ = if i < μ r 1 ∧ i < μ o 1 then (if μ (μ r 0) i = μ (μ o 0) i then qE 64 2 [(3, r), (3, o), (0, w32 (i + 1))] [] μ else some ((0, if μ (μ r 0) i < μ (μ o 0) i then 1 else 0), μ)) else some ((0, if μ r 1 < μ o 1 then 1 else 0), μ) := by
    intro i hi
    rw [e_64_2]
    by_cases c1 : i < μ r 1
    · have hc : i < c := by omega
      by_cases c2 : i < μ o 1
      · have hd : i < d := by omega
        by_cases c3 : μ (μ r 0) i = μ (μ o 0) i
        · simp [h1, h2, h3, g1, g2, g3, aKind11, c1, c2, c3, hi, hc, hd]
        · by_cases c4 : μ (μ r 0) i < μ (μ o 0) i
          · simp [h1, h2, h3, g1, g2, g3, aKind11, c1, c2, c3, c4, hi, hc, hd]
          · simp [h1, h2, h3, g1, g2, g3, aKind11, c1, c2, c3, c4, hi, hc, hd]
      · by_cases c4 : μ r 1 < μ o 1
        · simp [h1, g1, c1, c2, c4, e_64_60]
        · simp [h1, g1, c1, c2, c4, e_64_60]
    · by_cases c4 : μ r 1 < μ o 1
      · simp [h1, g1, c1, c4, e_64_60]
      · simp [h1, g1, c1, c4, e_64_60]
  have key : ∀ (k : Nat) (i : Int), 0 ≤ i → i ≤ μ r 1 → i ≤ μ o 1 → μ r 1 - i = k → (∀ j, 0 ≤ j → j < i → μ (μ r 0) j = μ (μ o 0) j) → (lexP (μ (μ r 0)) (μ r 1) (μ (μ o 0)) (μ o 1) → qE 64 2 [(3, r), (3, o), (0, i)] [] μ = some ((0, 1), μ)) ∧ (¬ lexP (μ (μ r 0)) (μ r 1) (μ (μ o 0)) (μ o 1) → qE 64 2 [(3, r), (3, o), (0, i)] [] μ = some ((0, 0), μ)) := by
    intro k
    induction k with
    | zero =>
      intro i hi hr ho hk he
      rw [row i hi, if_neg (by omega)]
      have := lex_end hi hr ho (Or.inl (by omega)) he
      constructor
      · intro hp; rw [if_pos (this.mp hp)]
      · intro hp; rw [if_neg (fun q => hp (this.mpr q))]
    | succ k ih =>
      intro i hi hr ho hk he
      rw [row i hi]
      by_cases c1 : i < μ o 1
      · rw [if_pos (by omega)]
        by_cases c2 : μ (μ r 0) i = μ (μ o 0) i
        · rw [if_pos c2, w32_id (by omega) (by omega)]
          exact ih (i + 1) (by omega) (by omega) (by omega) (by omega) (fun j a b => by
            by_cases ej : j = i
            · subst ej; exact c2
            · exact he j a (by omega))
        · rw [if_neg c2]
          have := lex_diff hi (show i < μ r 1 by omega) c1 he c2
          constructor
          · intro hp; rw [if_pos (this.mp hp)]
          · intro hp; rw [if_neg (fun q => hp (this.mpr q))]
      · rw [if_neg (by omega)]
        have := lex_end hi hr ho (Or.inr (by omega)) he
        constructor
        · intro hp; rw [if_pos (this.mp hp)]
        · intro hp; rw [if_neg (fun q => hp (this.mpr q))]
  rw [r_64]
  exact key (μ r 1).toNat 0 (Int.le_refl _) h4.1 g4.1 (by omega) (fun j a b => by omega)
