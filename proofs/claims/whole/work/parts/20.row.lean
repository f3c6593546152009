/-! rows: what their methods answer -/
/-- a row of capacity c -/
def isRow (μ : Mem) (r c : Int) : Prop := μ (-r) 0 = 15 ∧ μ (-(μ r 0)) 0 = 1 ∧ μ (-(μ r 0)) 1 = c ∧ (0 ≤ μ r 1 ∧ μ r 1 ≤ c ∧ c ≤ 100) ∧ 1 < r ∧ 1 < μ r 0 ∧ μ r 0 ≠ r
theorem mU_r {μ : Mem} {a i v b j : Int} (h : b ≠ a) : mU μ a i v b j = μ b j := if_neg (fun q => h q.1)
theorem mU_c {μ : Mem} {a i v j : Int} (h : j ≠ i) : mU μ a i v a j = μ a j := if_neg (fun q => h q.2)
theorem mU_s {μ : Mem} {a i v : Int} : mU μ a i v a i = v := if_pos ⟨rfl, rfl⟩
theorem aKind11 : aKind 1 1 = true := rfl
theorem aPut11 (μ : Mem) (x : Int) : aPut μ 1 1 (0, x) = true := rfl
theorem row_size {μ : Mem} {r c : Int} (h : isRow μ r c) : qR 55 [(3, r)] μ = some ((0, μ r 1), μ) := by
  obtain ⟨h1, -⟩ := h
  simp only [r_55, h1, if_true]
theorem row_empty {μ : Mem} {r c : Int} (h : isRow μ r c) : qR 56 [(3, r)] μ = some ((0, if μ r 1 = 0 then 1 else 0), μ) := by
  obtain ⟨h1, -⟩ := h
  simp only [r_56, h1, if_true]
  split <;> rfl
theorem row_full {μ : Mem} {r c : Int} (h : isRow μ r c) : qR 57 [(3, r)] μ = some ((0, if μ r 1 < c then 0 else 1), μ) := by
  obtain ⟨h1, h2, h3, -⟩ := h
  simp only [r_57, h1, h2, h3, if_true]
  simp only [show (1 : Int) ≤ 1 ∧ (1 : Int) ≤ 6 by decide, and_self, if_true]
  split <;> rfl
def rowAt (μ : Mem) (r i : Int) : Int := if 0 ≤ i ∧ i < μ r 1 then μ (μ r 0) i else -1
theorem row_at {μ : Mem} {r c : Int} (h : isRow μ r c) (i : Int) : qR 58 [(3, r), (0, i)] μ = some ((0, rowAt μ r i), μ) := by
  obtain ⟨h1, h2, h3, h4, -⟩ := h
  simp only [r_58, h1, h2, h3, if_true, aKind11, true_and, rowAt]
  by_cases c1 : i < 0
  · rw [if_pos c1, if_neg (by omega)]
  · by_cases c2 : i < μ r 1
    · rw [if_neg c1, if_pos c2, if_pos (by omega), if_pos (by omega)]
    · rw [if_neg c1, if_neg c2, if_neg (by omega)]
def rowPush (μ : Mem) (r x : Int) : Mem := mU (mU μ (μ r 0) (μ r 1) x) r 1 (μ r 1 + 1)
theorem row_push {μ : Mem} {r c : Int} (h : isRow μ r c) (hc : μ r 1 < c) (x : Int) : qR 59 [(3, r), (0, x)] μ = some ((9, 0), rowPush μ r x) := by
  obtain ⟨h1, h2, h3, h4, h5, h6, h7⟩ := h
  have e1 : mU μ (μ r 0) (μ r 1) x (-r) 0 = 15 := by rw [mU_r (by omega)]; exact h1
  have e2 : mU μ (μ r 0) (μ r 1) x r 1 = μ r 1 := mU_r (Ne.symm h7)
  simp only [r_59, h1, h2, h3, e1, e2, if_true, aPut11, true_and]
  rw [if_pos (by decide), if_pos hc, if_pos ⟨by omega, by omega, hc⟩, w32_id (by omega) (by omega)]
  rfl
theorem row_push_full {μ : Mem} {r c : Int} (h : isRow μ r c) (hc : ¬ μ r 1 < c) (x : Int) : qR 59 [(3, r), (0, x)] μ = some ((9, 0), μ) := by
  obtain ⟨h1, h2, h3, h4, h5, h6, h7⟩ := h
  simp only [r_59, h1, h2, h3, if_true]
  rw [if_pos (by decide), if_neg hc]
theorem row_pop {μ : Mem} {r c : Int} (h : isRow μ r c) (hc : 0 < μ r 1) : qR 60 [(3, r)] μ = some ((9, 0), mU μ r 1 (μ r 1 - 1)) := by
  obtain ⟨h1, h2, h3, h4, h5, h6, h7⟩ := h
  simp only [r_60, h1, if_true]
  rw [if_neg (by omega), w32_id (by omega) (by omega)]
theorem row_clear {μ : Mem} {r c : Int} (h : isRow μ r c) : qR 61 [(3, r)] μ = some ((0, μ r 1), mU μ r 1 0) := by
  obtain ⟨h1, -⟩ := h
  simp only [r_61, h1, if_true]
/-- rows alike: sizes and items -/
def rowEq (μ : Mem) (r o : Int) : Prop := μ r 1 = μ o 1 ∧ ∀ i, 0 ≤ i → i < μ r 1 → μ (μ r 0) i = μ (μ o 0) i
theorem row_like {μ : Mem} {r o c d : Int} (h : isRow μ r c) (g : isRow μ o d) : (rowEq μ r o → qR 63 [(3, r), (3, o)] μ = some ((0, 1), μ)) ∧ (¬ rowEq μ r o → qR 63 [(3, r), (3, o)] μ = some ((0, 0), μ)) := by
  obtain ⟨h1, h2, h3, h4, -⟩ := h
  obtain ⟨g1, g2, g3, g4, -⟩ := g
  have row : ∀ i, μ r 1 = μ o 1 → 0 ≤ i → qE 63 15 [(3, r), (3, o), (0, i)] [] μ = if i < μ r 1 then (if μ (μ r 0) i = μ (μ o 0) i then qE 63 15 [(3, r), (3, o), (0, w32 (i + 1))] [] μ else some ((0, 0), μ)) else some ((0, 1), μ) := by
    intro i hs hi
    simp only [e_63_15, h1, h2, h3, g1, g2, g3, if_true, aKind11, true_and]
    by_cases c1 : i < μ r 1
    · rw [if_pos c1, if_pos c1, if_pos (by omega), if_pos (by omega)]
    · rw [if_neg c1, if_neg c1]
  simp only [r_63, h1, g1, if_true]
  constructor
  · rintro ⟨hs, hi⟩
    rw [if_pos hs]
    have := it_up (fun i => qE 63 15 [(3, r), (3, o), (0, i)] [] μ) h4.1 (fun i a b => by rw [row i hs a, if_pos b, if_pos (hi i a b), w32_id (by omega) (by omega)])
    rw [this, row _ hs h4.1, if_neg (by omega)]
  · intro hn
    by_cases hs : μ r 1 = μ o 1
    · rw [if_pos hs]
      -- the first place that differs
      have key : ∀ (k : Nat) (i : Int), 0 ≤ i → μ r 1 - i = k → (∀ j, 0 ≤ j → j < i → μ (μ r 0) j = μ (μ o 0) j) → qE 63 15 [(3, r), (3, o), (0, i)] [] μ = some ((0, 0), μ) := by
        intro k
        induction k with
        | zero => intro i hi hk hall; exact absurd ⟨hs, fun j a b => hall j a (by omega)⟩ hn
        | succ k ih =>
          intro i hi hk hall
          rw [row i hs hi, if_pos (by omega)]
          by_cases e : μ (μ r 0) i = μ (μ o 0) i
          · rw [if_pos e, w32_id (by omega) (by omega)]
            exact ih (i + 1) (by omega) (by omega) (fun j a b => by
              by_cases ej : j = i
              · subst ej; exact e
              · exact hall j a (by omega))
          · rw [if_neg e]
      exact key (μ r 1).toNat 0 (Int.le_refl _) (by omega) (fun j a b => by omega)
    · rw [if_neg hs]
