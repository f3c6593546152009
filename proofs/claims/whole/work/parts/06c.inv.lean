/-! what every state of the pure machine keeps: numbers in their ranges, kinds at made cells alone -/
def in32 (x : Int) : Prop := -2147483648 ≤ x ∧ x < 2147483648
def in64 (x : Int) : Prop := -9223372036854775808 ≤ x ∧ x < 9223372036854775808
def okV (v : PV) : Prop := match v.1 with
  | 0 => in32 v.2
  | 1 => in64 v.2
  | 2 => 0 ≤ v.2 ∧ v.2 < 4294967296
  | 3 => 0 ≤ v.2
  | _ => True
def okS (v : PV) : Prop := v.1 ≤ 3 ∧ okV v
def okSt (st : List PV) : Prop := ∀ v ∈ st, okS v
def okLs (ls : List PV) : Prop := ∀ v ∈ ls, okV v
def okC (μ : Mem) (q : Int) : Prop := (1 ≤ μ (-q) 0 ∧ μ (-q) 0 ≤ 6 → (0 ≤ μ (-q) 1 ∧ μ (-q) 1 ≤ 10000) ∧ ∀ j, okV (aTag (μ (-q) 0), μ q j)) ∧ ∀ ci : Nat, μ (-q) 0 = 10 + (ci : Int) → ∀ k : Nat, k < nF ci → okV (gTag (fT ci k), μ q k)
def Inv (μ : Mem) : Prop := (2 ≤ μ 0 2 ∧ 0 ≤ μ 0 3) ∧ (∀ q, 0 ≤ q → μ (-q) 0 ≠ 0 → 1 ≤ q ∧ q < μ 0 2) ∧ μ (-1) 0 = 1 ∧ ∀ q, 1 ≤ q → okC μ q
theorem w32_in (x : Int) : in32 (w32 x) := by unfold in32 w32; omega
theorem w64_in (x : Int) : in64 (w64 x) := by unfold in64 w64; omega
theorem i32_in (x : Int32) : in32 x.toInt := by
  have h1 := x.toInt_lt
  have h2 := x.le_toInt
  unfold in32; omega
theorem i64_in (x : Int64) : in64 x.toInt := by
  have h1 := x.toInt_lt
  have h2 := x.le_toInt
  unfold in64; omega
theorem u32_in (r : UInt32) : 0 ≤ (r.toNat : Int) ∧ (r.toNat : Int) < 4294967296 := by
  have := r.toNat_lt
  omega
theorem bI_in {k : Nat} {x y z : Int} (h : bI k x y = some z) : in32 z := by
  unfold bI at h
  split at h
  · cases h; exact w32_in _
  · cases h; exact w32_in _
  · cases h; exact w32_in _
  · split at h
    · cases h
    · cases h; exact w32_in _
  · split at h
    · cases h
    · cases h; exact w32_in _
  · cases h; exact i32_in _
  · cases h
theorem bL_in {k : Nat} {x y z : Int} (h : bL k x y = some z) : in64 z := by
  unfold bL at h
  split at h
  · cases h; exact w64_in _
  · cases h; exact i64_in _
  · cases h; exact i64_in _
  · cases h
theorem sL_in {k : Nat} {x y z : Int} (h : sL k x y = some z) : in64 z := by
  unfold sL at h
  split at h
  · cases h; exact i64_in _
  · cases h; exact i64_in _
  · cases h
theorem fN_in {r : UInt32} {z : Int} (h : fN r = some z) : 0 ≤ z ∧ z < 4294967296 := by
  unfold fN at h
  split at h
  · cases h; exact u32_in r
  · cases h
theorem bF_in {k : Nat} {x y z : Int} (h : bF k x y = some z) : 0 ≤ z ∧ z < 4294967296 := by
  unfold bF at h
  split at h
  · exact fN_in h
  · exact fN_in h
  · exact fN_in h
  · cases h
theorem cV_in {k : Nat} {v z : PV} (hv : okS v) (h : cV k v = some z) : okS z := by
  unfold cV at h
  split at h
  · cases h; exact ⟨Nat.le_of_ble_eq_true rfl, u32_in _⟩
  · cases h; exact ⟨Nat.le_of_ble_eq_true rfl, i32_in _⟩
  · cases h; obtain ⟨h1, h2⟩ := hv; exact ⟨Nat.le_of_ble_eq_true rfl, by simp only [okV, in32] at h2; simp only [okV, in64]; omega⟩
  · cases h; exact ⟨Nat.le_of_ble_eq_true rfl, w32_in _⟩
  · cases h
theorem okSt_cons {v : PV} {st : List PV} : okSt (v :: st) ↔ okS v ∧ okSt st := List.forall_mem_cons
theorem gTag_le (t : Nat) : gTag t ≤ 3 := by unfold gTag; split <;> decide
theorem aTag_le (k : Int) : aTag k ≤ 3 := by unfold aTag; split; decide; split <;> decide
theorem okLs_set {ls : List PV} {i : Nat} {v : PV} (h : okLs ls) (hv : okV v) : okLs (ls.set i v) := fun w hw => by
  rcases List.mem_or_eq_of_mem_set hw with h1 | h1
  · exact h w h1
  · subst h1; exact hv
theorem ok9 : okV (9, 0) := trivial
theorem okLs_stL {ls : List PV} {i : Nat} {v : PV} (h : okLs ls) (hv : okV v) : okLs (stL ls i v) := by
  unfold stL
  dsimp only
  split <;> split
  · exact okLs_set (okLs_set (okLs_set h ok9) hv) ok9
  · exact okLs_set (okLs_set h hv) ok9
  · exact okLs_set (okLs_set h ok9) hv
  · exact okLs_set h hv
theorem stL_length (ls : List PV) (i : Nat) (v : PV) : (stL ls i v).length = ls.length := by
  unfold stL
  dsimp only
  split <;> split <;> simp
theorem okLs_get {ls : List PV} {i : Nat} {v : PV} (h : okLs ls) (hv : ls[i]? = some v) : okV v := h v (List.mem_of_getElem? hv)
/-! memory -/
theorem mU_other {μ : Mem} {a i v b j : Int} (h : ¬ (b = a ∧ j = i)) : mU μ a i v b j = μ b j := if_neg h
theorem mU_same {μ : Mem} {a i v : Int} : mU μ a i v a i = v := if_pos ⟨rfl, rfl⟩
theorem mU_neg {μ : Mem} {a i v b j : Int} (ha : 1 ≤ a) (hb : b ≤ 0) : mU μ a i v b j = μ b j := mU_other (by omega)
theorem Inv_mU {μ : Mem} {q i v : Int} (h : Inv μ) (hq : 1 ≤ q) (ha : 1 ≤ μ (-q) 0 ∧ μ (-q) 0 ≤ 6 → okV (aTag (μ (-q) 0), v)) (ho : ∀ ci : Nat, μ (-q) 0 = 10 + (ci : Int) → ∀ k : Nat, k < nF ci → (k : Int) = i → okV (gTag (fT ci k), v)) : Inv (mU μ q i v) := by
  obtain ⟨⟨h1, h2⟩, h3, h4, h5⟩ := h
  refine ⟨⟨by rw [mU_neg hq (by decide)]; exact h1, by rw [mU_neg hq (by decide)]; exact h2⟩, fun r hr hk => ?_, by rw [mU_neg hq (by decide)]; exact h4, fun r hr => ?_⟩
  · rw [mU_neg hq (by omega)] at hk
    rw [mU_neg hq (by decide)]
    exact h3 r hr hk
  · obtain ⟨k1, k2⟩ := h5 r hr
    unfold okC
    rw [mU_neg hq (by omega), mU_neg hq (by omega)]
    refine ⟨fun hk => ⟨(k1 hk).1, fun j => ?_⟩, fun ci hci k hk => ?_⟩
    · by_cases e : r = q ∧ j = i
      · obtain ⟨rfl, rfl⟩ := e
        rw [mU_same]; exact ha hk
      · rw [mU_other e]; exact (k1 hk).2 j
    · by_cases e : r = q ∧ (k : Int) = i
      · obtain ⟨rfl, e2⟩ := e
        rw [e2, mU_same]; exact ho ci hci k hk e2
      · rw [mU_other e]; exact k2 ci hci k hk
theorem okV_0 (t : Nat) : okV (t, 0) := by
  unfold okV
  dsimp only
  split <;> first | trivial | (unfold in32; omega) | (unfold in64; omega) | omega
theorem Inv_mNew {μ : Mem} {k n : Int} (h : Inv μ) (hk : k ≠ 0) (hn : 0 ≤ n ∧ n ≤ 10000) : Inv (mNew μ k n) := by
  obtain ⟨⟨h1, h2⟩, h3, h4, h5⟩ := h
  have e2 : mNew μ k n 0 2 = μ 0 2 + 1 := by unfold mNew; rw [if_neg (by omega), if_neg (by omega), if_pos ⟨rfl, rfl⟩]
  have e3 : mNew μ k n 0 3 = μ 0 3 + n := by unfold mNew; rw [if_neg (by omega), if_neg (by omega), if_neg (by omega), if_pos ⟨rfl, rfl⟩]
  have eo : ∀ r j, r ≠ μ 0 2 → r ≠ -(μ 0 2) → r ≠ 0 → mNew μ k n r j = μ r j := fun r j a1 a2 a3 => by unfold mNew; rw [if_neg a1, if_neg a2, if_neg (by omega), if_neg (by omega)]
  have ek : mNew μ k n (-(μ 0 2)) 0 = k := by unfold mNew; rw [if_neg (by omega), if_pos rfl, if_pos rfl]
  have el : mNew μ k n (-(μ 0 2)) 1 = n := by unfold mNew; rw [if_neg (by omega), if_pos rfl, if_neg (by decide), if_pos rfl]
  have ec : ∀ j, mNew μ k n (μ 0 2) j = 0 := fun j => by unfold mNew; rw [if_pos rfl]
  have e0 : mNew μ k n 0 0 = μ 0 0 := by unfold mNew; rw [if_neg (by omega), if_neg (by omega), if_neg (by omega), if_neg (by omega)]
  refine ⟨⟨by omega, by omega⟩, fun r hr hk => ?_, by rw [eo _ _ (by omega) (by omega) (by omega)]; exact h4, fun r hr => ?_⟩
  · by_cases e : r = μ 0 2
    · omega
    · by_cases e1 : r = 0
      · subst e1
        rw [show (-(0 : Int)) = 0 from rfl, e0] at hk
        have := h3 0 (by omega) hk
        omega
      · rw [eo _ _ (by omega) (by omega) (by omega)] at hk
        have := h3 r hr hk
        omega
  · by_cases e : r = μ 0 2
    · subst e
      unfold okC
      rw [ek, el]
      refine ⟨fun hk => ⟨hn, fun j => ?_⟩, fun ci hci j hj => ?_⟩
      · rw [ec]; exact okV_0 _
      · rw [ec]; exact okV_0 _
    · unfold okC
      rw [eo (-r) 0 (by omega) (by omega) (by omega), eo (-r) 1 (by omega) (by omega) (by omega)]
      obtain ⟨k1, k2⟩ := h5 r hr
      refine ⟨fun hk => ⟨(k1 hk).1, fun j => ?_⟩, fun ci hci j hj => ?_⟩
      · rw [eo r j e (by omega) (by omega)]; exact (k1 hk).2 j
      · rw [eo r _ e (by omega) (by omega)]; exact k2 ci hci j hj
theorem mNew_next {μ : Mem} {k n : Int} (h : Inv μ) : mNew μ k n 0 2 = μ 0 2 + 1 ∧ mNew μ k n 0 3 = μ 0 3 + n := by
  have h1 := h.1.1
  constructor
  · unfold mNew; rw [if_neg (by omega), if_neg (by omega), if_pos ⟨rfl, rfl⟩]
  · unfold mNew; rw [if_neg (by omega), if_neg (by omega), if_neg (by omega), if_pos ⟨rfl, rfl⟩]
theorem mGrid_next {μ : Mem} {n1 n2 : Int} (h : Inv μ) (hn : 1 ≤ n1) : mGrid μ n1 n2 0 2 = μ 0 2 + 1 + n1 ∧ mGrid μ n1 n2 0 3 = μ 0 3 + n1 + n1 * n2 := by
  have h1 := h.1.1
  constructor
  · unfold mGrid; rw [if_neg (by omega), if_neg (by omega), if_neg (by omega), if_neg (by omega), if_pos ⟨rfl, rfl⟩]
  · unfold mGrid; rw [if_neg (by omega), if_neg (by omega), if_neg (by omega), if_neg (by omega), if_neg (by omega), if_pos ⟨rfl, rfl⟩]
theorem Inv_mGrid {μ : Mem} {n1 n2 : Int} (h : Inv μ) (hn1 : 1 ≤ n1 ∧ n1 ≤ 100) (hn2 : 1 ≤ n2 ∧ n2 ≤ 100) : Inv (mGrid μ n1 n2) := by
  obtain ⟨e2, e3⟩ := mGrid_next (n2 := n2) h hn1.1
  obtain ⟨⟨h1, h2⟩, h3, h4, h5⟩ := h
  have hm : 0 ≤ n1 * n2 := Int.mul_nonneg (by omega) (by omega)
  have eo : ∀ r j, ¬ (μ 0 2 ≤ r ∧ r ≤ μ 0 2 + n1) → ¬ (-(μ 0 2) - n1 ≤ r ∧ r ≤ -(μ 0 2)) → r ≠ 0 → mGrid μ n1 n2 r j = μ r j := fun r j a1 a2 a3 => by
    unfold mGrid; rw [if_neg (by omega), if_neg (by omega), if_neg (by omega), if_neg (by omega), if_neg (by omega), if_neg (by omega)]
  have e0 : mGrid μ n1 n2 0 0 = μ 0 0 := by unfold mGrid; rw [if_neg (by omega), if_neg (by omega), if_neg (by omega), if_neg (by omega), if_neg (by omega), if_neg (by omega)]
  refine ⟨⟨by omega, by omega⟩, fun r hr hk => ?_, by rw [eo _ _ (by omega) (by omega) (by omega)]; exact h4, fun r hr => ?_⟩
  · by_cases e : μ 0 2 ≤ r ∧ r ≤ μ 0 2 + n1
    · omega
    · by_cases e1 : r = 0
      · subst e1
        rw [show (-(0 : Int)) = 0 from rfl, e0] at hk
        have := h3 0 (by omega) hk
        omega
      · rw [eo _ _ (by omega) (by omega) (by omega)] at hk
        have := h3 r hr hk
        omega
  · by_cases e : r = μ 0 2
    · subst e
      have ek : mGrid μ n1 n2 (-(μ 0 2)) 0 = 5 := by unfold mGrid; rw [if_neg (by omega), if_neg (by omega), if_pos rfl, if_pos rfl]
      have el : mGrid μ n1 n2 (-(μ 0 2)) 1 = n1 := by unfold mGrid; rw [if_neg (by omega), if_neg (by omega), if_pos rfl, if_neg (by decide), if_pos rfl]
      unfold okC
      rw [ek, el]
      refine ⟨fun hk => ⟨by omega, fun j => ?_⟩, fun ci hci j hj => by omega⟩
      show (0 : Int) ≤ mGrid μ n1 n2 (μ 0 2) j
      unfold mGrid
      rw [if_pos rfl]
      split <;> omega
    · by_cases e1 : μ 0 2 < r ∧ r ≤ μ 0 2 + n1
      · have ek : mGrid μ n1 n2 (-r) 0 = 1 := by unfold mGrid; rw [if_neg (by omega), if_neg (by omega), if_neg (by omega), if_pos (by omega), if_pos rfl]
        have el : mGrid μ n1 n2 (-r) 1 = n2 := by unfold mGrid; rw [if_neg (by omega), if_neg (by omega), if_neg (by omega), if_pos (by omega), if_neg (by decide), if_pos rfl]
        have ec : ∀ j, mGrid μ n1 n2 r j = 0 := fun j => by unfold mGrid; rw [if_neg e, if_pos e1]
        unfold okC
        rw [ek, el]
        refine ⟨fun hk => ⟨by omega, fun j => ?_⟩, fun ci hci j hj => by omega⟩
        rw [ec]; exact okV_0 _
      · unfold okC
        rw [eo (-r) 0 (by omega) (by omega) (by omega), eo (-r) 1 (by omega) (by omega) (by omega)]
        obtain ⟨k1, k2⟩ := h5 r hr
        refine ⟨fun hk => ⟨(k1 hk).1, fun j => ?_⟩, fun ci hci j hj => ?_⟩
        · rw [eo r j (by omega) (by omega) (by omega)]; exact (k1 hk).2 j
        · rw [eo r _ (by omega) (by omega) (by omega)]; exact k2 ci hci j hj
theorem mCpy_neg {μ : Mem} {s sp d dp n b j : Int} (hd : 1 ≤ d) (hb : b ≤ 0) : mCpy μ s sp d dp n b j = μ b j := by
  unfold mCpy; rw [if_neg (by omega)]
theorem Inv_mCpy {μ : Mem} {s sp d dp n : Int} (h : Inv μ) (hd : 1 ≤ d) (hs : 1 ≤ s) (h1s : μ (-s) 0 = 1) (h1d : μ (-d) 0 = 1) : Inv (mCpy μ s sp d dp n) := by
  obtain ⟨⟨h1, h2⟩, h3, h4, h5⟩ := h
  refine ⟨⟨by rw [mCpy_neg hd (by decide)]; exact h1, by rw [mCpy_neg hd (by decide)]; exact h2⟩, fun r hr hk => ?_, by rw [mCpy_neg hd (by decide)]; exact h4, fun r hr => ?_⟩
  · rw [mCpy_neg hd (by omega)] at hk
    rw [mCpy_neg hd (by decide)]
    exact h3 r hr hk
  · unfold okC
    rw [mCpy_neg hd (by omega), mCpy_neg hd (by omega)]
    obtain ⟨k1, k2⟩ := h5 r hr
    refine ⟨fun hk => ⟨(k1 hk).1, fun j => ?_⟩, fun ci hci k hk => ?_⟩
    · unfold mCpy
      split
      · rename_i e
        rw [e.1, h1d]
        have := ((h5 s hs).1 (by omega)).2 (sp + (j - dp))
        rwa [h1s] at this
      · exact (k1 hk).2 j
    · unfold mCpy
      split
      · rename_i e
        rw [e.1, h1d] at hci
        omega
      · exact k2 ci hci k hk
/-- what one instruction leaves -/
def okQ (μ : Mem) (q : Req) : Prop := match q with
  | none => True
  | some (.inl r) => r.2 = μ ∧ (r.1 = (9, 0) ∨ okS r.1)
  | some (.inr (.inl g)) => okLs g.2.1 ∧ okSt g.2.2.1 ∧ Inv g.2.2.2 ∧ μ 0 2 ≤ g.2.2.2 0 2 ∧ μ 0 3 ≤ g.2.2.2 0 3
  | some (.inr (.inr c)) => okSt c.2.1 ∧ c.2.2.1 = μ ∧ okLs c.2.2.2.2.1 ∧ okSt c.2.2.2.2.2
theorem okQ_go {μ : Mem} {pc : Nat} {ls st : List PV} (h : Inv μ) (hl : okLs ls) (hs : okSt st) : okQ μ (rGo pc ls st μ) := ⟨hl, hs, h, Int.le_refl _, Int.le_refl _⟩
theorem kind_pos {μ : Mem} {q : Int} (h : Inv μ) (hq : 0 ≤ q) (hk : μ (-q) 0 ≠ 0) : 1 ≤ q ∧ q < μ 0 2 := h.2.1 q hq hk
theorem aKind_in {a : Nat} {k : Int} (h : aKind a k = true) : 1 ≤ k ∧ k ≤ 6 := by
  unfold aKind at h
  split at h <;> simp only [decide_eq_true_eq] at h <;> omega
theorem aPut_in {μ : Mem} {a : Nat} {k : Int} {v : PV} (h : aPut μ a k v = true) : (1 ≤ k ∧ k ≤ 6) ∧ v.1 = aTag k := by
  unfold aPut at h
  split at h <;> simp only [Bool.and_eq_true, Bool.or_eq_true, decide_eq_true_eq, beq_iff_eq] at h
  · obtain ⟨rfl, h⟩ := h; exact ⟨by omega, h⟩
  · obtain ⟨rfl, h⟩ := h; exact ⟨by omega, h⟩
  · obtain ⟨⟨rfl, h⟩, -⟩ := h; exact ⟨by omega, h⟩
  · obtain ⟨h, ⟨rfl, -⟩ | ⟨rfl, -⟩⟩ := h <;> exact ⟨by omega, h⟩
theorem fok_tag {t : Nat} {v : PV} (h : fok t v = true) : v.1 = (if t = 0 ∨ t = 7 then 0 else 3) := by
  unfold fok at h
  split at h
  · simp only [beq_iff_eq] at h; simp [h]
  · simp only [Bool.and_eq_true, beq_iff_eq] at h; simp [h.1]
  · rename_i h1 h2
    simp only [beq_iff_eq] at h
    rw [if_neg]
    · exact h
    · rintro (e | e)
      · exact h1 e
      · exact h2 e
theorem fT_in (ci k : Nat) : fT ci k = 0 ∨ fT ci k = 7 ∨ fT ci k = 3 := by
  unfold fT fTag
  split <;> simp
theorem fok_g {ci k : Nat} {v : PV} (h : fok (fT ci k) v = true) : v.1 = gTag (fT ci k) := by
  rw [fok_tag h]
  rcases fT_in ci k with e | e | e <;> rw [e] <;> rfl
theorem okV_pair {t : Nat} {v : PV} (h : okS v) (e : v.1 = t) : okV (t, v.2) := by
  subst e; exact h.2
set_option maxHeartbeats 1000000 in
theorem stp_ok {ls st : List PV} {μ : Mem} {op a : Nat} {b : Int} {nx : Nat} (hI : Inv μ) (hl : okLs ls) (hs : okSt st) (h0 : op = 0 → okS (a, b)) (hL1 : op = 1 → a ≤ 3) (h14 : op = 14 ∨ op = 15 → ∃ k : Nat, b = (k : Int) ∧ k < nF a) (h17 : op = 17 → nF a ≤ 10000) (h18 : op = 18 ∨ op = 19 → (a : Int) ≠ 0) : okQ μ (stp ls st μ op a b nx) := by
  unfold stp
  split
  · exact okQ_go hI hl (okSt_cons.mpr ⟨h0 rfl, hs⟩)
  · split
    · rename_i v hv
      split
      · rename_i hva
        exact okQ_go hI hl (okSt_cons.mpr ⟨⟨by rw [hva]; exact hL1 rfl, okLs_get hl hv⟩, hs⟩)
      · trivial
    · trivial
  · split
    · rename_i v r
      by_cases hc : v.1 = a ∧ b.toNat + (if a = 1 then 1 else 0) < ls.length
      · rw [if_pos hc]
        exact okQ_go hI (okLs_stL hl (okSt_cons.mp hs).1.2) (okSt_cons.mp hs).2
      · rw [if_neg hc]; trivial
    · trivial
  · split
    · exact okQ_go hI (okLs_stL hl (w32_in _)) hs
    · trivial
  · split
    · obtain ⟨-, h2⟩ := okSt_cons.mp hs
      obtain ⟨-, h3⟩ := okSt_cons.mp h2
      split
      · rename_i z hz
        exact okQ_go hI hl (okSt_cons.mpr ⟨⟨Nat.le_of_ble_eq_true rfl, bI_in hz⟩, h3⟩)
      · trivial
    · trivial
  · split
    · obtain ⟨-, h2⟩ := okSt_cons.mp hs
      obtain ⟨-, h3⟩ := okSt_cons.mp h2
      split
      · rename_i z hz
        exact okQ_go hI hl (okSt_cons.mpr ⟨⟨Nat.le_of_ble_eq_true rfl, bL_in hz⟩, h3⟩)
      · trivial
    · obtain ⟨-, h2⟩ := okSt_cons.mp hs
      obtain ⟨-, h3⟩ := okSt_cons.mp h2
      split
      · rename_i z hz
        exact okQ_go hI hl (okSt_cons.mpr ⟨⟨Nat.le_of_ble_eq_true rfl, sL_in hz⟩, h3⟩)
      · trivial
    · trivial
  · split
    · obtain ⟨-, h2⟩ := okSt_cons.mp hs
      obtain ⟨-, h3⟩ := okSt_cons.mp h2
      refine okQ_go hI hl (okSt_cons.mpr ⟨⟨Nat.le_of_ble_eq_true rfl, ?_⟩, h3⟩)
      show in32 (cmpL _ _)
      unfold cmpL in32
      split
      · omega
      · split <;> omega
    · trivial
  · split
    · obtain ⟨-, h2⟩ := okSt_cons.mp hs
      obtain ⟨-, h3⟩ := okSt_cons.mp h2
      split
      · rename_i z hz
        exact okQ_go hI hl (okSt_cons.mpr ⟨⟨Nat.le_of_ble_eq_true rfl, bF_in hz⟩, h3⟩)
      · trivial
    · trivial
  · split
    · obtain ⟨h1, h2⟩ := okSt_cons.mp hs
      split
      · rename_i z hz
        exact okQ_go hI hl (okSt_cons.mpr ⟨cV_in h1 hz, h2⟩)
      · trivial
    · trivial
  · split
    · obtain ⟨-, h2⟩ := okSt_cons.mp hs
      split
      · exact okQ_go hI hl h2
      · exact okQ_go hI hl h2
    · trivial
  · split
    · obtain ⟨-, h2⟩ := okSt_cons.mp hs
      obtain ⟨-, h3⟩ := okSt_cons.mp h2
      split
      · exact okQ_go hI hl h3
      · exact okQ_go hI hl h3
    · trivial
  · exact okQ_go hI hl hs
  · split
    · obtain ⟨-, h2⟩ := okSt_cons.mp hs
      split
      · exact okQ_go hI hl h2
      · exact okQ_go hI hl h2
    · trivial
  · split
    · obtain ⟨-, h2⟩ := okSt_cons.mp hs
      exact okQ_go hI hl h2
    · trivial
  · split
    · rename_i q r
      obtain ⟨h1, h2⟩ := okSt_cons.mp hs
      split
      · rename_i hk
        obtain ⟨k, rfl, hkn⟩ := h14 (Or.inl rfl)
        have hq := kind_pos (q := q) hI h1.2 (by rw [hk]; omega)
        exact okQ_go hI hl (okSt_cons.mpr ⟨⟨gTag_le _, (hI.2.2.2 q hq.1).2 a hk k hkn⟩, h2⟩)
      · trivial
    · trivial
  · split
    · rename_i v q r
      obtain ⟨h1, h2⟩ := okSt_cons.mp hs
      obtain ⟨h3, h4⟩ := okSt_cons.mp h2
      split
      · rename_i hc
        obtain ⟨hk, hf⟩ := hc
        obtain ⟨k, rfl, hkn⟩ := h14 (Or.inr rfl)
        have hq := kind_pos (q := q) hI h3.2 (by rw [hk]; omega)
        refine ⟨hl, h4, Inv_mU hI hq.1 (fun hh => by omega) (fun ci hci j hj e => ?_), ?_, ?_⟩
        · have e1 : ci = a := by omega
          have e2 : j = k := by omega
          subst e1; subst e2
          exact okV_pair h1 (fok_g hf)
        · show μ 0 2 ≤ mU μ q k v.2 0 2
          rw [mU_neg hq.1 (by decide)]; exact Int.le_refl _
        · show μ 0 3 ≤ mU μ q k v.2 0 3
          rw [mU_neg hq.1 (by decide)]; exact Int.le_refl _
      · trivial
    · trivial
  · split
    · refine ⟨fun v hv => hs v (List.mem_of_mem_take (List.mem_reverse.mp hv)), rfl, hl, fun v hv => hs v (List.mem_of_mem_drop hv)⟩
    · trivial
  · have hn := mNew_next (k := 10 + (a : Int)) (n := nF a) hI
    refine ⟨hl, okSt_cons.mpr ⟨⟨Nat.le_of_ble_eq_true rfl, ?_⟩, hs⟩, Inv_mNew hI (by omega) (by have := h17 rfl; omega), ?_, ?_⟩
    · show (0 : Int) ≤ μ 0 2
      have := hI.1.1; omega
    · show μ 0 2 ≤ mNew μ _ _ 0 2
      omega
    · show μ 0 3 ≤ mNew μ _ _ 0 3
      omega
  · split
    · rename_i n r
      obtain ⟨-, h2⟩ := okSt_cons.mp hs
      split
      · rename_i hc
        have hn := mNew_next (k := (a : Int)) (n := n) hI
        refine ⟨hl, okSt_cons.mpr ⟨⟨Nat.le_of_ble_eq_true rfl, ?_⟩, h2⟩, Inv_mNew hI (h18 (Or.inl rfl)) hc, ?_, ?_⟩
        · show (0 : Int) ≤ μ 0 2
          have := hI.1.1; omega
        · show μ 0 2 ≤ mNew μ _ _ 0 2
          omega
        · show μ 0 3 ≤ mNew μ _ _ 0 3
          omega
      · trivial
    · trivial
  · split
    · rename_i n r
      obtain ⟨-, h2⟩ := okSt_cons.mp hs
      split
      · rename_i hc
        have hn := mNew_next (k := (a : Int)) (n := n) hI
        refine ⟨hl, okSt_cons.mpr ⟨⟨Nat.le_of_ble_eq_true rfl, ?_⟩, h2⟩, Inv_mNew hI (h18 (Or.inr rfl)) hc, ?_, ?_⟩
        · show (0 : Int) ≤ μ 0 2
          have := hI.1.1; omega
        · show μ 0 2 ≤ mNew μ _ _ 0 2
          omega
        · show μ 0 3 ≤ mNew μ _ _ 0 3
          omega
      · trivial
    · trivial
  · split
    · rename_i n2 n1 r
      obtain ⟨-, h2⟩ := okSt_cons.mp hs
      obtain ⟨-, h3⟩ := okSt_cons.mp h2
      split
      · rename_i hc
        obtain ⟨c1, c2, c3, c4⟩ := hc
        have hn := mGrid_next (n2 := n2) hI c1
        have hm : 0 ≤ n1 * n2 := Int.mul_nonneg (by omega) (by omega)
        refine ⟨hl, okSt_cons.mpr ⟨⟨Nat.le_of_ble_eq_true rfl, ?_⟩, h3⟩, Inv_mGrid hI ⟨c1, c2⟩ ⟨c3, c4⟩, ?_, ?_⟩
        · show (0 : Int) ≤ μ 0 2
          have := hI.1.1; omega
        · show μ 0 2 ≤ mGrid μ _ _ 0 2
          omega
        · show μ 0 3 ≤ mGrid μ _ _ 0 3
          omega
      · trivial
    · trivial
  · split
    · rename_i q r
      obtain ⟨h1, h2⟩ := okSt_cons.mp hs
      split
      · rename_i hc
        have hq := kind_pos (q := q) hI h1.2 (by omega)
        have := ((hI.2.2.2 q hq.1).1 hc).1
        exact okQ_go hI hl (okSt_cons.mpr ⟨⟨Nat.le_of_ble_eq_true rfl, by show in32 _; unfold in32; omega⟩, h2⟩)
      · trivial
    · trivial
  · split
    · rename_i i q r
      obtain ⟨h1, h2⟩ := okSt_cons.mp hs
      obtain ⟨h3, h4⟩ := okSt_cons.mp h2
      split
      · rename_i hc
        have hk := aKind_in hc.1
        have hq := kind_pos (q := q) hI h3.2 (by omega)
        exact okQ_go hI hl (okSt_cons.mpr ⟨⟨aTag_le _, ((hI.2.2.2 q hq.1).1 hk).2 i⟩, h4⟩)
      · trivial
    · trivial
  · split
    · rename_i v i q r
      obtain ⟨h1, h2⟩ := okSt_cons.mp hs
      obtain ⟨h3, h4⟩ := okSt_cons.mp h2
      obtain ⟨h5, h6⟩ := okSt_cons.mp h4
      split
      · rename_i hc
        obtain ⟨hk, ht⟩ := aPut_in hc.2.1
        have hq := kind_pos (q := q) hI h5.2 (by omega)
        refine ⟨hl, h6, Inv_mU hI hq.1 (fun _ => okV_pair h1 ht) (fun ci hci j hj e => by omega), ?_, ?_⟩
        · show μ 0 2 ≤ mU μ q i v.2 0 2
          rw [mU_neg hq.1 (by decide)]; exact Int.le_refl _
        · show μ 0 3 ≤ mU μ q i v.2 0 3
          rw [mU_neg hq.1 (by decide)]; exact Int.le_refl _
      · trivial
    · trivial
  · split
    · split
      · exact ⟨rfl, Or.inl rfl⟩
      · trivial
    · split
      · split
        · exact ⟨rfl, Or.inr (hs _ List.mem_cons_self)⟩
        · trivial
      · trivial
  · split
    · split
      · trivial
      · exact okQ_go hI hl (okSt_cons.mp hs).2
    · trivial
  · split
    · split
      · trivial
      · exact okQ_go hI hl (okSt_cons.mpr ⟨(okSt_cons.mp hs).1, hs⟩)
    · trivial
  · split
    · split
      · trivial
      · obtain ⟨h1, h2⟩ := okSt_cons.mp hs
        obtain ⟨h3, h4⟩ := okSt_cons.mp h2
        exact okQ_go hI hl (okSt_cons.mpr ⟨h1, okSt_cons.mpr ⟨h3, hs⟩⟩)
    · trivial
  · split
    · split
      · exact okQ_go hI hl (okSt_cons.mp hs).2
      · trivial
    · trivial
  · split
    · rename_i n dp d sp s r
      obtain ⟨h1, h2⟩ := okSt_cons.mp hs
      obtain ⟨h3, h4⟩ := okSt_cons.mp h2
      obtain ⟨h5, h6⟩ := okSt_cons.mp h4
      obtain ⟨h7, h8⟩ := okSt_cons.mp h6
      obtain ⟨h9, h10⟩ := okSt_cons.mp h8
      split
      · rename_i hc
        have hd := kind_pos (q := d) hI h5.2 (by omega)
        have hs := kind_pos (q := s) hI h9.2 (by omega)
        refine ⟨hl, h10, Inv_mCpy hI hd.1 hs.1 hc.2.2.2.1 hc.2.2.2.2.1, ?_, ?_⟩
        · show μ 0 2 ≤ mCpy μ _ _ _ _ _ 0 2
          rw [mCpy_neg hd.1 (by decide)]; exact Int.le_refl _
        · show μ 0 3 ≤ mCpy μ _ _ _ _ _ 0 3
          rw [mCpy_neg hd.1 (by decide)]; exact Int.le_refl _
      · trivial
    · trivial
  · trivial
