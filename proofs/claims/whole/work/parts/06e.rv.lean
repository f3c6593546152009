/-! the pure machine's values, locals and cells as the machine's -/
abbrev SG : Type := Nat × Nat × (Nat → ClassId) × va_G × Cell
def gB (G : SG) : Nat := G.1
def gN (G : SG) : Nat := G.2.1
def gA (G : SG) : Nat → ClassId := G.2.2.1
def gV (G : SG) : va_G := G.2.2.2.1
def gS (G : SG) : Cell := G.2.2.2.2
def rho (G : SG) (q : Int) : Nat := if q ≤ 1 then gB G else gN G + (q - 2).toNat
def rv (G : SG) (v : PV) : Value := match v.1 with
  | 0 => .int (Int32.ofInt v.2)
  | 1 => .long (Int64.ofInt v.2)
  | 2 => .float (u32 v.2)
  | 3 => if v.2 ≤ 0 then .null else .ref (rho G v.2)
  | _ => .null
theorem rv_0 (G : SG) (x : Int) : rv G (0, x) = .int (Int32.ofInt x) := rfl
theorem rv_1 (G : SG) (x : Int) : rv G (1, x) = .long (Int64.ofInt x) := rfl
theorem rv_2 (G : SG) (x : Int) : rv G (2, x) = .float (u32 x) := rfl
theorem rv_3 (G : SG) {x : Int} (h : 1 ≤ x) : rv G (3, x) = .ref (rho G x) := if_neg (by show ¬ x ≤ 0; omega)
theorem rv_n (G : SG) : rv G (3, 0) = .null := rfl
theorem rv_cat (G : SG) {v : PV} (h : v.1 ≤ 3) : (rv G v).category = pcat v := by
  obtain ⟨t, x⟩ := v
  have h : t ≤ 3 := h
  match t, h with
  | 0, _ => rfl
  | 1, _ => rfl
  | 2, _ => rfl
  | 3, _ =>
    show (if x ≤ 0 then Value.null else Value.ref (rho G x)).category = 1
    split <;> rfl
theorem rv_cat1 (G : SG) {v : PV} (h : v.1 ≤ 3) (h1 : v.1 ≠ 1) : (rv G v).category = 1 := by rw [rv_cat G h]; exact if_neg h1
theorem rv_cats (G : SG) {st : List PV} (h : okSt st) : ((st.map (rv G)).map fun v => v.category).sum = (st.map pcat).sum := by
  induction st with
  | nil => rfl
  | cons v r ih =>
    obtain ⟨h1, h2⟩ := okSt_cons.mp h
    simp only [List.map_cons, List.sum_cons, ih h2, rv_cat G h1.1]
/-! numbers -/
theorem i32_of {x : Int} (h : in32 x) : (Int32.ofInt x).toInt = x := Int32.toInt_ofInt_of_le (by have := h.1; omega) (by have := h.2; omega)
theorem i64_of {x : Int} (h : in64 x) : (Int64.ofInt x).toInt = x := Int64.toInt_ofInt_of_le (by have := h.1; omega) (by have := h.2; omega)
theorem w32_b (x : Int) : x.bmod 4294967296 = w32 x := by
  rw [Int.bmod_def]
  unfold w32
  split <;> omega
theorem w64_b (x : Int) : x.bmod 18446744073709551616 = w64 x := by
  rw [Int.bmod_def]
  unfold w64
  split <;> omega
theorem i32_ext {x : Int32} {z : Int} (hz : in32 z) (h : x.toInt = z) : x = Int32.ofInt z := Int32.toInt_inj.mp (by rw [i32_of hz]; exact h)
theorem i64_ext {x : Int64} {z : Int} (hz : in64 z) (h : x.toInt = z) : x = Int64.ofInt z := Int64.toInt_inj.mp (by rw [i64_of hz]; exact h)
theorem i32_add {x y : Int} (hx : in32 x) (hy : in32 y) : Int32.ofInt x + Int32.ofInt y = Int32.ofInt (w32 (x + y)) := i32_ext (w32_in _) (by rw [Int32.toInt_add, i32_of hx, i32_of hy]; exact w32_b _)
theorem i32_sub {x y : Int} (hx : in32 x) (hy : in32 y) : Int32.ofInt x - Int32.ofInt y = Int32.ofInt (w32 (x - y)) := i32_ext (w32_in _) (by rw [Int32.toInt_sub, i32_of hx, i32_of hy]; exact w32_b _)
theorem i32_mul {x y : Int} (hx : in32 x) (hy : in32 y) : Int32.ofInt x * Int32.ofInt y = Int32.ofInt (w32 (x * y)) := i32_ext (w32_in _) (by rw [Int32.toInt_mul, i32_of hx, i32_of hy]; exact w32_b _)
theorem i32_div {x y : Int} (hx : in32 x) (hy : in32 y) : Int32.ofInt x / Int32.ofInt y = Int32.ofInt (w32 (x.tdiv y)) := i32_ext (w32_in _) (by rw [Int32.toInt_div, i32_of hx, i32_of hy]; exact w32_b _)
theorem i32_eq {x y : Int} (hx : in32 x) (hy : in32 y) : Int32.ofInt x = Int32.ofInt y ↔ x = y := ⟨fun h => by rw [← i32_of hx, ← i32_of hy, h], fun h => by rw [h]⟩
theorem i32_lt {x y : Int} (hx : in32 x) (hy : in32 y) : Int32.ofInt x < Int32.ofInt y ↔ x < y := by rw [Int32.lt_iff_toInt_lt, i32_of hx, i32_of hy]
theorem i32_le {x y : Int} (hx : in32 x) (hy : in32 y) : Int32.ofInt x ≤ Int32.ofInt y ↔ x ≤ y := by rw [Int32.le_iff_toInt_le, i32_of hx, i32_of hy]
theorem w32_mm (x t y : Int) : w32 (x - w32 (w32 t * y)) = w32 (x - t * y) := by
  have key : ∀ a b : Int, (a - b) % 4294967296 = 0 → w32 a = w32 b := fun a b h => by unfold w32; omega
  have e1 : ∀ a : Int, ∃ k : Int, w32 a = a + 4294967296 * k := fun a => ⟨-((a + 2147483648) / 4294967296), by unfold w32; omega⟩
  obtain ⟨k1, h1⟩ := e1 t
  obtain ⟨k2, h2⟩ := e1 (w32 t * y)
  apply key
  rw [h2, h1]
  have : (x - ((t + 4294967296 * k1) * y + 4294967296 * k2) - (x - t * y)) = 4294967296 * (-(k1 * y) - k2) := by
    rw [Int.add_mul, Int.mul_sub, Int.mul_neg, Int.mul_assoc]
    omega
  rw [this]
  exact Int.mul_emod_right _ _
theorem i32_rem {x y : Int} (hx : in32 x) (hy : in32 y) : Int32.ofInt x - Int32.ofInt x / Int32.ofInt y * Int32.ofInt y = Int32.ofInt (w32 (x - x.tdiv y * y)) := by
  rw [i32_div hx hy, i32_mul (w32_in _) hy, i32_sub hx (w32_in _), w32_mm]
theorem i32_0 : (0 : Int32) = Int32.ofInt 0 := rfl
theorem in32_0 : in32 0 := ⟨by decide, by decide⟩
theorem i32_ne0 {x : Int} (hx : in32 x) (h : x ≠ 0) : ¬ Int32.ofInt x = 0 := fun e => h ((i32_eq hx in32_0).mp e)
theorem i64_sub {x y : Int} (hx : in64 x) (hy : in64 y) : Int64.ofInt x - Int64.ofInt y = Int64.ofInt (w64 (x - y)) := i64_ext (w64_in _) (by rw [Int64.toInt_sub, i64_of hx, i64_of hy]; exact w64_b _)
theorem i64_lt {x y : Int} (hx : in64 x) (hy : in64 y) : Int64.ofInt x < Int64.ofInt y ↔ x < y := by rw [Int64.lt_iff_toInt_lt, i64_of hx, i64_of hy]
theorem i64_eq {x y : Int} (hx : in64 x) (hy : in64 y) : Int64.ofInt x = Int64.ofInt y ↔ x = y := ⟨fun h => by rw [← i64_of hx, ← i64_of hy, h], fun h => by rw [h]⟩
theorem i32_clamp {x : Int} (hx : in32 x) : (Int32.ofInt x).toNatClampNeg = x.toNat := by
  rw [show (Int32.ofInt x).toNatClampNeg = (Int32.ofInt x).toInt.toNat from rfl, i32_of hx]
theorem u32_nat (r : UInt32) : u32 (r.toNat : Int) = r := by
  unfold u32
  rw [Int.toNat_natCast]
  exact UInt32.ofNat_toNat
/-! locals -/
def lvO (G : SG) (ls : List PV) : List (Nat × Value) := ls.zipIdx.filterMap (fun q => if q.1.1 ≤ 3 then some (q.2, rv G q.1) else none)
theorem mem_lvO {G : SG} {ls : List PV} {i : Nat} {w : Value} : (i, w) ∈ lvO G ls ↔ ∃ v, ls[i]? = some v ∧ v.1 ≤ 3 ∧ w = rv G v := by
  unfold lvO
  rw [List.mem_filterMap]
  constructor
  · rintro ⟨⟨v, j⟩, hm, he⟩
    rw [List.mem_zipIdx_iff_getElem?] at hm
    dsimp only at he hm
    split at he
    · rename_i hv
      cases he
      exact ⟨v, hm, hv, rfl⟩
    · cases he
  · rintro ⟨v, h1, h2, rfl⟩
    refine ⟨(v, i), List.mem_zipIdx_iff_getElem?.mpr h1, ?_⟩
    simp [h2]
def pLS (G : SG) (ls : List PV) (A : Array Slot) : Prop := lv_has A ls.length (lvO G ls)
theorem pLS_get {G : SG} {ls : List PV} {A : Array Slot} (h : pLS G ls A) {i : Nat} {v : PV} (hv : ls[i]? = some v) (h3 : v.1 ≤ 3) : A[i]? = some (.val (rv G v)) := h.2.2 (i, rv G v) (mem_lvO.mpr ⟨v, hv, h3, rfl⟩)
theorem pLS_of {G : SG} {ls : List PV} {A : Array Slot} {n : Nat} {l : List (Nat × Value)} (h : lv_has A n l) (hn : ls.length = n) (hm : ∀ i v, ls[i]? = some v → v.1 ≤ 3 → (i, rv G v) ∈ l) : pLS G ls A := by
  refine ⟨by rw [hn]; exact h.1, h.2.1, fun q hq => ?_⟩
  obtain ⟨i, w⟩ := q
  obtain ⟨v, h1, h2, rfl⟩ := mem_lvO.mp hq
  exact h.2.2 _ (hm i v h1 h2)
theorem stL1_get {ls : List PV} {i : Nat} {v : PV} (hv : v.1 ≠ 1) {j : Nat} {w : PV} (h : (stL ls i v)[j]? = some w) (hw : w.1 ≤ 3) : (j = i ∧ w = v) ∨ (j ≠ i ∧ ls[j]? = some w ∧ ¬ (j + 1 = i ∧ w.1 = 1)) := by
  unfold stL at h
  dsimp only at h
  rw [if_neg hv] at h
  by_cases e : j = i
  · subst e
    rw [List.getElem?_set_self'] at h
    cases hx : (if 0 < j ∧ (ls.getD (j - 1) (9, 0)).1 = 1 then ls.set (j - 1) (9, 0) else ls)[j]? with
    | none => rw [hx] at h; cases h
    | some x => rw [hx] at h; cases h; exact Or.inl ⟨rfl, rfl⟩
  · rw [List.getElem?_set_ne (fun q => e q.symm)] at h
    refine Or.inr ⟨e, ?_⟩
    split at h
    · rename_i hk
      by_cases e2 : j = i - 1
      · subst e2
        rw [List.getElem?_set_self'] at h
        cases hx : ls[i - 1]? with
        | none => rw [hx] at h; cases h
        | some x => rw [hx] at h; cases h; exact absurd (show 9 ≤ 3 from hw) (by decide)
      · rw [List.getElem?_set_ne (fun q => e2 q.symm)] at h
        exact ⟨h, fun hh => e2 (by omega)⟩
    · rename_i hk
      refine ⟨h, fun hh => hk ⟨by omega, ?_⟩⟩
      have e3 : i - 1 = j := by omega
      rw [e3, List.getD_eq_getElem?_getD, h]
      exact hh.2
theorem pLS_st1 {G : SG} {ls : List PV} {A A' : Array Slot} {i : Nat} {v : PV} (hv : v.1 ≠ 1) (h3 : v.1 ≤ 3) (h : lv_has A' ls.length ((i, rv G v) :: (lvO G ls).filter (fun q => !(q.1 == i) && !(q.1 + 1 == i && q.2.category == 2)))) : pLS G (stL ls i v) A' := by
  refine pLS_of h (stL_length ls i v) fun j w hj hw => ?_
  rcases stL1_get hv hj hw with ⟨rfl, rfl⟩ | ⟨e1, e2, e3⟩
  · exact List.mem_cons_self
  · refine List.mem_cons_of_mem _ (List.mem_filter.mpr ⟨mem_lvO.mpr ⟨w, e2, hw, rfl⟩, ?_⟩)
    simp only [Bool.and_eq_true, Bool.not_eq_true', beq_eq_false_iff_ne, Bool.and_eq_false_iff, ne_eq]
    refine ⟨e1, ?_⟩
    by_cases e4 : j + 1 = i
    · right
      rw [rv_cat G hw]
      intro h2
      unfold pcat at h2
      split at h2
      · rename_i h1; exact e3 ⟨e4, h1⟩
      · cases h2
    · exact Or.inl e4
theorem stL2_get {ls : List PV} {i : Nat} {v : PV} (hv : v.1 = 1) {j : Nat} {w : PV} (h : (stL ls i v)[j]? = some w) (hw : w.1 ≤ 3) : (j = i ∧ w = v) ∨ (j ≠ i ∧ j ≠ i + 1 ∧ ls[j]? = some w ∧ ¬ (j + 1 = i ∧ w.1 = 1)) := by
  unfold stL at h
  dsimp only at h
  rw [if_pos hv] at h
  by_cases e0 : j = i + 1
  · subst e0
    rw [List.getElem?_set_self'] at h
    generalize (List.set (if 0 < i ∧ (ls.getD (i - 1) (9, 0)).1 = 1 then ls.set (i - 1) (9, 0) else ls) i v)[i + 1]? = x at h
    cases x with
    | none => cases h
    | some x => cases h; exact absurd (show 9 ≤ 3 from hw) (by decide)
  · rw [List.getElem?_set_ne (fun q => e0 q.symm)] at h
    by_cases e : j = i
    · subst e
      rw [List.getElem?_set_self'] at h
      cases hx : (if 0 < j ∧ (ls.getD (j - 1) (9, 0)).1 = 1 then ls.set (j - 1) (9, 0) else ls)[j]? with
      | none => rw [hx] at h; cases h
      | some x => rw [hx] at h; cases h; exact Or.inl ⟨rfl, rfl⟩
    · rw [List.getElem?_set_ne (fun q => e q.symm)] at h
      refine Or.inr ⟨e, e0, ?_⟩
      split at h
      · rename_i hk
        by_cases e2 : j = i - 1
        · subst e2
          rw [List.getElem?_set_self'] at h
          cases hx : ls[i - 1]? with
          | none => rw [hx] at h; cases h
          | some x => rw [hx] at h; cases h; exact absurd (show 9 ≤ 3 from hw) (by decide)
        · rw [List.getElem?_set_ne (fun q => e2 q.symm)] at h
          exact ⟨h, fun hh => e2 (by omega)⟩
      · rename_i hk
        refine ⟨h, fun hh => hk ⟨by omega, ?_⟩⟩
        have e3 : i - 1 = j := by omega
        rw [e3, List.getD_eq_getElem?_getD, h]
        exact hh.2
theorem pLS_st2 {G : SG} {ls : List PV} {A A' : Array Slot} {i : Nat} {v : PV} (hv : v.1 = 1) (h : lv_has A' ls.length ((i, rv G v) :: (lvO G ls).filter (fun q => !(q.1 == i) && (!(q.1 == i + 1) && !(q.1 + 1 == i && q.2.category == 2))))) : pLS G (stL ls i v) A' := by
  refine pLS_of h (stL_length ls i v) fun j w hj hw => ?_
  rcases stL2_get hv hj hw with ⟨rfl, rfl⟩ | ⟨e1, e0, e2, e3⟩
  · exact List.mem_cons_self
  · refine List.mem_cons_of_mem _ (List.mem_filter.mpr ⟨mem_lvO.mpr ⟨w, e2, hw, rfl⟩, ?_⟩)
    simp only [Bool.and_eq_true, Bool.not_eq_true', beq_eq_false_iff_ne, Bool.and_eq_false_iff, ne_eq]
    refine ⟨e1, e0, ?_⟩
    by_cases e4 : j + 1 = i
    · right
      rw [rv_cat G hw]
      intro h2
      unfold pcat at h2
      split at h2
      · rename_i h1; exact e3 ⟨e4, h1⟩
      · cases h2
    · exact Or.inl e4
/-- the locals at a method's entry -/
theorem lay_args (G : SG) {as : List PV} (h : okSt as) : ∀ (k i : Nat) (v : PV), (layA as)[i]? = some v → v.1 ≤ 3 → (k + i, rv G v) ∈ lv_args k (as.map (rv G)) := by
  induction as with
  | nil => intro k i v hv; cases hv
  | cons a r ih =>
    obtain ⟨h1, h2⟩ := okSt_cons.mp h
    intro k i v hv h3
    show (k + i, rv G v) ∈ (k, rv G a) :: lv_args (if (rv G a).category = 2 then k + 2 else k + 1) (r.map (rv G))
    rw [rv_cat G h1.1]
    unfold pcat
    unfold layA at hv
    split at hv
    · rename_i ha
      rw [if_pos ha, if_pos rfl]
      match i, hv with
      | 0, hv => cases hv; exact List.mem_cons_self
      | 1, hv => cases hv; exact absurd h3 (by decide)
      | i + 2, hv =>
        refine List.mem_cons_of_mem _ ?_
        rw [show k + (i + 2) = k + 2 + i by omega]
        exact ih h2 (k + 2) i v hv h3
    · rename_i ha
      rw [if_neg ha, if_neg (by decide)]
      match i, hv with
      | 0, hv => cases hv; exact List.mem_cons_self
      | i + 1, hv =>
        refine List.mem_cons_of_mem _ ?_
        rw [show k + (i + 1) = k + 1 + i by omega]
        exact ih h2 (k + 1) i v hv h3
theorem lay_len (G : SG) {as : List PV} (h : okSt as) : (lg_sl (as.map (rv G))).length = (layA as).length := by
  induction as with
  | nil => rfl
  | cons a r ih =>
    obtain ⟨h1, h2⟩ := okSt_cons.mp h
    have e : lg_sl ((a :: r).map (rv G)) = (if (rv G a).category = 2 then [.val (rv G a), .second] else [.val (rv G a)]) ++ lg_sl (r.map (rv G)) := by
      simp only [lg_sl, List.map_cons, List.flatMap_cons]
    rw [e, rv_cat G h1.1, List.length_append, ih h2, show layA (a :: r) = if a.1 = 1 then a :: (9, 0) :: layA r else a :: layA r from rfl]
    unfold pcat
    by_cases ha : a.1 = 1
    · rw [if_pos ha, if_pos rfl, if_pos ha]; simp; omega
    · rw [if_neg ha, if_neg (by decide), if_neg ha]; simp; omega
theorem entL_len {y : Nat} {as : List PV} (h : (layA as).length ≤ qML y) : (entL y as).length = qML y := by
  unfold entL
  rw [List.length_append, List.length_replicate]
  omega
theorem pLS_entry (G : SG) {y : Nat} {as : List PV} (h : okSt as) (hl : (layA as).length ≤ qML y) : pLS G (entL y as) ((lg_sl (as.map (rv G)) ++ List.replicate (qML y - (lg_sl (as.map (rv G))).length) Slot.unset).toArray) := by
  have h0 := lv_entry (as.map (rv G)) (n := qML y) (by rw [lay_len G h]; exact hl)
  refine pLS_of h0 (entL_len hl) fun i v hv h3 => ?_
  unfold entL at hv
  by_cases hi : i < (layA as).length
  · rw [List.getElem?_append_left hi] at hv
    have := lay_args G h 0 i v hv h3
    rwa [Nat.zero_add] at this
  · rw [List.getElem?_append_right (by omega)] at hv
    rw [List.eq_of_mem_replicate (List.mem_of_getElem? hv)] at h3
    exact absurd h3 (by decide)
