/-! a word is made -/
/-- memory with a word half made: cell a the word (fields f), a + 1 its row (letters at r0, size z), a + 2 its letters (function g) -/
def wM (μ : Mem) (a : Int) (f : Int → Int) (r0 z : Int) (g : Int → Int) (s t : Int) : Mem := fun b j =>
  if b = a then f j else
  if b = a + 1 ∧ 1 < t then (if j = 0 then r0 else if j = 1 then z else 0) else
  if b = a + 2 ∧ 2 < t then g j else
  if b = -a then (if j = 0 then 18 else if j = 1 then 4 else 0) else
  if b = -(a + 1) ∧ 1 < t then (if j = 0 then 15 else if j = 1 then 2 else 0) else
  if b = -(a + 2) ∧ 2 < t then (if j = 0 then 1 else if j = 1 then s else 0) else
  if b = 0 ∧ j = 2 then a + t else
  if b = 0 ∧ j = 3 then μ 0 3 + 4 + (if 1 < t then 2 else 0) + (if 2 < t then s else 0) else μ b j
theorem wM_o (μ : Mem) (a : Int) (f : Int → Int) (r0 z : Int) (g : Int → Int) (s t : Int) (ha : 131 ≤ a) {b j : Int} (h0 : b ≠ 0) (h1 : -131 < b) (h2 : b < 131) : wM μ a f r0 z g s t b j = μ b j := by
  unfold wM
  rw [if_neg (by omega), if_neg (by omega), if_neg (by omega), if_neg (by omega), if_neg (by omega), if_neg (by omega), if_neg (by omega), if_neg (by omega)]
theorem wM_2 (μ : Mem) (a : Int) (f : Int → Int) (r0 z : Int) (g : Int → Int) (s t : Int) (ha : 131 ≤ a) : wM μ a f r0 z g s t 0 2 = a + t := by
  unfold wM
  rw [if_neg (by omega), if_neg (by omega), if_neg (by omega), if_neg (by omega), if_neg (by omega), if_neg (by omega), if_pos ⟨rfl, rfl⟩]
theorem wM_a (μ : Mem) (a : Int) (f : Int → Int) (r0 z : Int) (g : Int → Int) (s t j : Int) : wM μ a f r0 z g s t a j = f j := by
  unfold wM; rw [if_pos rfl]
theorem wM_b (μ : Mem) (a : Int) (f : Int → Int) (r0 z : Int) (g : Int → Int) (s t j : Int) (ht : 1 < t) : wM μ a f r0 z g s t (a + 1) j = if j = 0 then r0 else if j = 1 then z else 0 := by
  unfold wM; rw [if_neg (by omega), if_pos ⟨rfl, ht⟩]
theorem wM_b0 (μ : Mem) (a : Int) (f : Int → Int) (r0 z : Int) (g : Int → Int) (s t j : Int) (ha : 131 ≤ a) (ht : ¬ 1 < t) : wM μ a f r0 z g s t (a + 1) j = μ (a + 1) j := by
  unfold wM; rw [if_neg (by omega), if_neg (by omega), if_neg (by omega), if_neg (by omega), if_neg (by omega), if_neg (by omega), if_neg (by omega), if_neg (by omega)]
theorem wM_c (μ : Mem) (a : Int) (f : Int → Int) (r0 z : Int) (g : Int → Int) (s t j : Int) (ht : 2 < t) : wM μ a f r0 z g s t (a + 2) j = g j := by
  unfold wM; rw [if_neg (by omega), if_neg (by omega), if_pos ⟨rfl, ht⟩]
theorem wM_ka (μ : Mem) (a : Int) (f : Int → Int) (r0 z : Int) (g : Int → Int) (s t : Int) (ha : 131 ≤ a) : wM μ a f r0 z g s t (-a) 0 = 18 := by
  unfold wM; rw [if_neg (by omega), if_neg (by omega), if_neg (by omega), if_pos rfl, if_pos rfl]
theorem wM_kb (μ : Mem) (a : Int) (f : Int → Int) (r0 z : Int) (g : Int → Int) (s t : Int) (ha : 131 ≤ a) (ht : 1 < t) : wM μ a f r0 z g s t (-(a + 1)) 0 = 15 := by
  unfold wM; rw [if_neg (by omega), if_neg (by omega), if_neg (by omega), if_neg (by omega), if_pos ⟨rfl, ht⟩, if_pos rfl]
theorem wM_kc (μ : Mem) (a : Int) (f : Int → Int) (r0 z : Int) (g : Int → Int) (s t : Int) (ha : 131 ≤ a) (ht : 2 < t) (j : Int) : wM μ a f r0 z g s t (-(a + 2)) j = if j = 0 then 1 else if j = 1 then s else 0 := by
  unfold wM; rw [if_neg (by omega), if_neg (by omega), if_neg (by omega), if_neg (by omega), if_neg (by omega), if_pos ⟨rfl, ht⟩]
theorem wM_nc (μ : Mem) (a : Int) (f : Int → Int) (r0 z : Int) (g : Int → Int) (s t j : Int) (ha : 131 ≤ a) (ht : ¬ 2 < t) : wM μ a f r0 z g s t (a + 2) j = μ (a + 2) j := by
  unfold wM; rw [if_neg (by omega), if_neg (by omega), if_neg (by omega), if_neg (by omega), if_neg (by omega), if_neg (by omega), if_neg (by omega), if_neg (by omega)]
theorem wM_na (μ : Mem) (a : Int) (f : Int → Int) (r0 z : Int) (g : Int → Int) (s t j : Int) (ha : 131 ≤ a) : wM μ a f r0 z g s t (-a) j = if j = 0 then 18 else if j = 1 then 4 else 0 := by
  unfold wM; rw [if_neg (by omega), if_neg (by omega), if_neg (by omega), if_pos rfl]
theorem wM_nb (μ : Mem) (a : Int) (f : Int → Int) (r0 z : Int) (g : Int → Int) (s t j : Int) (ha : 131 ≤ a) : wM μ a f r0 z g s t (-(a + 1)) j = if 1 < t then (if j = 0 then 15 else if j = 1 then 2 else 0) else μ (-(a + 1)) j := by
  unfold wM; rw [if_neg (by omega), if_neg (by omega), if_neg (by omega), if_neg (by omega)]
  by_cases c : 1 < t
  · rw [if_pos ⟨rfl, c⟩, if_pos c]
  · rw [if_neg (fun q => c q.2), if_neg (by omega), if_neg (by omega), if_neg (by omega), if_neg c]
theorem wM_nd (μ : Mem) (a : Int) (f : Int → Int) (r0 z : Int) (g : Int → Int) (s t j : Int) (ha : 131 ≤ a) : wM μ a f r0 z g s t (-(a + 2)) j = if 2 < t then (if j = 0 then 1 else if j = 1 then s else 0) else μ (-(a + 2)) j := by
  unfold wM; rw [if_neg (by omega), if_neg (by omega), if_neg (by omega), if_neg (by omega), if_neg (by omega)]
  by_cases c : 2 < t
  · rw [if_pos ⟨rfl, c⟩, if_pos c]
  · rw [if_neg (fun q => c q.2), if_neg (by omega), if_neg (by omega), if_neg c]
theorem wM_0 (μ : Mem) (a : Int) (f : Int → Int) (r0 z : Int) (g : Int → Int) (s t j : Int) (ha : 131 ≤ a) : wM μ a f r0 z g s t 0 j = if j = 2 then a + t else if j = 3 then μ 0 3 + 4 + (if 1 < t then 2 else 0) + (if 2 < t then s else 0) else μ 0 j := by
  unfold wM; rw [if_neg (by omega), if_neg (by omega), if_neg (by omega), if_neg (by omega), if_neg (by omega), if_neg (by omega)]
  by_cases c : j = 2
  · rw [if_pos ⟨rfl, c⟩, if_pos c]
  · rw [if_neg (fun q => c q.2), if_neg c]
    by_cases c : j = 3
    · rw [if_pos ⟨rfl, c⟩, if_pos c]
    · rw [if_neg (fun q => c q.2), if_neg c]
theorem wM_e (μ : Mem) (a : Int) (f : Int → Int) (r0 z : Int) (g : Int → Int) (s t : Int) {b : Int} (j : Int) (h : b ≠ a ∧ b ≠ a + 1 ∧ b ≠ a + 2 ∧ b ≠ -a ∧ b ≠ -(a + 1) ∧ b ≠ -(a + 2) ∧ b ≠ 0) : wM μ a f r0 z g s t b j = μ b j := by
  unfold wM; rw [if_neg (by omega), if_neg (by omega), if_neg (by omega), if_neg (by omega), if_neg (by omega), if_neg (by omega), if_neg (by omega), if_neg (by omega)]
theorem mN_c {μ : Mem} {x k m : Int} (h : μ 0 2 = x) (j : Int) : mNew μ k m x j = 0 := by unfold mNew; rw [h, if_pos rfl]
theorem mN_n {μ : Mem} {x k m : Int} (h : μ 0 2 = x) (hx : 0 < x) (j : Int) : mNew μ k m (-x) j = if j = 0 then k else if j = 1 then m else 0 := by unfold mNew; rw [h, if_neg (by omega), if_pos rfl]
theorem mN_0 {μ : Mem} {x k m : Int} (h : μ 0 2 = x) (hx : 0 < x) (j : Int) : mNew μ k m 0 j = if j = 2 then x + 1 else if j = 3 then μ 0 3 + m else μ 0 j := by
  unfold mNew; rw [h, if_neg (by omega), if_neg (by omega)]
  by_cases c : j = 2
  · rw [if_pos ⟨rfl, c⟩, if_pos c]
  · rw [if_neg (fun q => c q.2), if_neg c]
    by_cases c : j = 3
    · rw [if_pos ⟨rfl, c⟩, if_pos c]
    · rw [if_neg (fun q => c q.2), if_neg c]
theorem mN_e {μ : Mem} {x k m b : Int} (h : μ 0 2 = x) (j : Int) (hb : b ≠ x ∧ b ≠ -x ∧ b ≠ 0) : mNew μ k m b j = μ b j := by
  unfold mNew; rw [h, if_neg hb.1, if_neg hb.2.1, if_neg (by omega), if_neg (by omega)]
theorem ext7 {M N : Mem} {a : Int} (h1 : ∀ j, M a j = N a j) (h2 : ∀ j, M (a + 1) j = N (a + 1) j) (h3 : ∀ j, M (a + 2) j = N (a + 2) j) (h4 : ∀ j, M (-a) j = N (-a) j) (h5 : ∀ j, M (-(a + 1)) j = N (-(a + 1)) j) (h6 : ∀ j, M (-(a + 2)) j = N (-(a + 2)) j) (h7 : ∀ j, M 0 j = N 0 j) (h8 : ∀ b j, b ≠ a ∧ b ≠ a + 1 ∧ b ≠ a + 2 ∧ b ≠ -a ∧ b ≠ -(a + 1) ∧ b ≠ -(a + 2) ∧ b ≠ 0 → M b j = N b j) : M = N := by
  funext b j
  by_cases c1 : b = a
  · rw [c1]; exact h1 j
  by_cases c2 : b = a + 1
  · rw [c2]; exact h2 j
  by_cases c3 : b = a + 2
  · rw [c3]; exact h3 j
  by_cases c4 : b = -a
  · rw [c4]; exact h4 j
  by_cases c5 : b = -(a + 1)
  · rw [c5]; exact h5 j
  by_cases c6 : b = -(a + 2)
  · rw [c6]; exact h6 j
  by_cases c7 : b = 0
  · rw [c7]; exact h7 j
  exact h8 b j ⟨c1, c2, c3, c4, c5, c6, c7⟩
theorem z3 (j : Int) : (0 : Int) = if j = 0 then 0 else if j = 1 then 0 else 0 := by
  by_cases c : j = 0
  · rw [if_pos c]
  · rw [if_neg c]; by_cases c : j = 1
    · rw [if_pos c]
    · rw [if_neg c]
theorem wM_1 {μ : Mem} {a : Int} (h : μ 0 2 = a) (ha : 131 ≤ a) : mNew μ 18 4 = wM μ a (fun _ => 0) 0 0 (fun _ => 0) 0 1 := by
  refine ext7 (a := a) (fun j => ?_) (fun j => ?_) (fun j => ?_) (fun j => ?_) (fun j => ?_) (fun j => ?_) (fun j => ?_) (fun b j hb => ?_)
  · rw [mN_c h, wM_a]
  · rw [mN_e h _ (by omega), wM_b0 _ _ _ _ _ _ _ _ _ ha (by decide)]
  · rw [mN_e h _ (by omega), wM_nc _ _ _ _ _ _ _ _ _ ha (by decide)]
  · rw [mN_n h (by omega), wM_na _ _ _ _ _ _ _ _ _ ha]
  · rw [mN_e h _ (by omega), wM_nb _ _ _ _ _ _ _ _ _ ha, if_neg (by decide)]
  · rw [mN_e h _ (by omega), wM_nd _ _ _ _ _ _ _ _ _ ha, if_neg (by decide)]
  · rw [mN_0 h (by omega), wM_0 _ _ _ _ _ _ _ _ _ ha, if_neg (by decide : ¬ (1 : Int) < 1), if_neg (by decide : ¬ (2 : Int) < 1)]
    simp only [Int.add_zero]
  · rw [mN_e h _ (by omega), wM_e _ _ _ _ _ _ _ _ _ hb]
theorem wM_f {μ : Mem} {a : Int} {f : Int → Int} {r0 z : Int} {g : Int → Int} {s t i v : Int} : mU (wM μ a f r0 z g s t) a i v = wM μ a (fun j => if j = i then v else f j) r0 z g s t := by
  funext b j
  by_cases c1 : b = a
  · rw [c1, wM_a]
    by_cases c2 : j = i
    · rw [c2, mU_s]; exact (if_pos rfl).symm
    · rw [mU_other (fun q => c2 q.2), wM_a]; exact (if_neg c2).symm
  · rw [mU_r c1]; unfold wM; rw [if_neg c1, if_neg c1]
theorem wM_n2 {μ : Mem} {a : Int} {f : Int → Int} {g : Int → Int} (ha : 131 ≤ a) : mNew (wM μ a f 0 0 g 0 1) 15 2 = wM μ a f 0 0 g 0 2 := by
  have h := wM_2 μ a f 0 0 g 0 1 ha
  refine ext7 (a := a) (fun j => ?_) (fun j => ?_) (fun j => ?_) (fun j => ?_) (fun j => ?_) (fun j => ?_) (fun j => ?_) (fun b j hb => ?_)
  · rw [mN_e h _ (by omega), wM_a, wM_a]
  · rw [mN_c h, wM_b _ _ _ _ _ _ _ _ _ (by decide)]; exact z3 j
  · rw [mN_e h _ (by omega), wM_nc _ _ _ _ _ _ _ _ _ ha (by decide), wM_nc _ _ _ _ _ _ _ _ _ ha (by decide)]
  · rw [mN_e h _ (by omega), wM_na _ _ _ _ _ _ _ _ _ ha, wM_na _ _ _ _ _ _ _ _ _ ha]
  · rw [mN_n h (by omega), wM_nb _ _ _ _ _ _ _ _ _ ha, if_pos (by decide : (1 : Int) < 2)]
  · rw [mN_e h _ (by omega), wM_nd _ _ _ _ _ _ _ _ _ ha, if_neg (by decide), wM_nd _ _ _ _ _ _ _ _ _ ha, if_neg (by decide)]
  · rw [mN_0 h (by omega), wM_0 _ _ _ _ _ _ _ _ _ ha, wM_0 _ _ _ _ _ _ _ _ _ ha, wM_0 _ _ _ _ _ _ _ _ _ ha, if_neg (by decide : ¬ (1 : Int) < 1), if_neg (by decide : ¬ (2 : Int) < 1), if_pos (by decide : (1 : Int) < 2), if_neg (by decide : ¬ (2 : Int) < 2)]
    by_cases c : j = 2
    · rw [if_pos c, if_pos c]; omega
    · rw [if_neg c, if_neg c]
      by_cases c3 : j = 3
      · rw [if_pos c3, if_pos c3, if_neg (by decide), if_pos rfl]; omega
      · rw [if_neg c3, if_neg c3, if_neg c, if_neg c3]
  · rw [mN_e h _ (by omega), wM_e _ _ _ _ _ _ _ _ _ hb, wM_e _ _ _ _ _ _ _ _ _ hb]
theorem wM_n3 {μ : Mem} {a s : Int} {f : Int → Int} (ha : 131 ≤ a) : mNew (wM μ a f 0 0 (fun _ => 0) 0 2) 1 s = wM μ a f 0 0 (fun _ => 0) s 3 := by
  have h := wM_2 μ a f 0 0 (fun _ => 0) 0 2 ha
  refine ext7 (a := a) (fun j => ?_) (fun j => ?_) (fun j => ?_) (fun j => ?_) (fun j => ?_) (fun j => ?_) (fun j => ?_) (fun b j hb => ?_)
  · rw [mN_e h _ (by omega), wM_a, wM_a]
  · rw [mN_e h _ (by omega), wM_b _ _ _ _ _ _ _ _ _ (by decide), wM_b _ _ _ _ _ _ _ _ _ (by decide)]
  · rw [mN_c h, wM_c _ _ _ _ _ _ _ _ _ (by decide)]
  · rw [mN_e h _ (by omega), wM_na _ _ _ _ _ _ _ _ _ ha, wM_na _ _ _ _ _ _ _ _ _ ha]
  · rw [mN_e h _ (by omega), wM_nb _ _ _ _ _ _ _ _ _ ha, if_pos (by decide : (1 : Int) < 2), wM_nb _ _ _ _ _ _ _ _ _ ha, if_pos (by decide : (1 : Int) < 3)]
  · rw [mN_n h (by omega), wM_nd _ _ _ _ _ _ _ _ _ ha, if_pos (by decide : (2 : Int) < 3)]
  · rw [mN_0 h (by omega), wM_0 _ _ _ _ _ _ _ _ _ ha, wM_0 _ _ _ _ _ _ _ _ _ ha, wM_0 _ _ _ _ _ _ _ _ _ ha, if_pos (by decide : (1 : Int) < 2), if_neg (by decide : ¬ (2 : Int) < 2), if_pos (by decide : (1 : Int) < 3), if_pos (by decide : (2 : Int) < 3)]
    by_cases c : j = 2
    · rw [if_pos c, if_pos c]; omega
    · rw [if_neg c, if_neg c]
      by_cases c3 : j = 3
      · rw [if_pos c3, if_pos c3, if_neg (by decide), if_pos rfl]; omega
      · rw [if_neg c3, if_neg c3, if_neg c, if_neg c3]
  · rw [mN_e h _ (by omega), wM_e _ _ _ _ _ _ _ _ _ hb, wM_e _ _ _ _ _ _ _ _ _ hb]
theorem wM_r {μ : Mem} {a : Int} {f : Int → Int} {r0 z : Int} {g : Int → Int} {s t v : Int} (ht : 1 < t) : mU (wM μ a f r0 z g s t) (a + 1) 0 v = wM μ a f v z g s t := by
  funext b j
  by_cases c1 : b = a + 1
  · rw [c1, wM_b _ _ _ _ _ _ _ _ _ ht]
    by_cases c2 : j = 0
    · rw [c2, mU_s, if_pos rfl]
    · rw [mU_other (fun q => c2 q.2), wM_b _ _ _ _ _ _ _ _ _ ht, if_neg c2, if_neg c2]
  · rw [mU_r c1]; unfold wM
    have : ¬ (b = a + 1 ∧ 1 < t) := fun q => c1 q.1
    simp only [if_neg this]
theorem wM_cp {μ : Mem} {a : Int} {f : Int → Int} {s : Int} (ha : 131 ≤ a) (h98 : μ 98 0 = 99) : cpR (wM μ a f (a + 2) 0 (fun _ => 0) s 3) (a + 1) 98 s = wM μ a f (a + 2) s (fun j => if 0 ≤ j ∧ j < s then μ 99 j else 0) s 3 := by
  have q1 : wM μ a f (a + 2) 0 (fun _ => 0) s 3 (a + 1) 0 = a + 2 := by rw [wM_b _ _ _ _ _ _ _ _ _ (by decide), if_pos rfl]
  have q2 : wM μ a f (a + 2) 0 (fun _ => 0) s 3 98 0 = 99 := by rw [wM_o _ _ _ _ _ _ _ _ ha (by decide) (by decide) (by decide), h98]
  have q3 : ∀ j, wM μ a f (a + 2) 0 (fun _ => 0) s 3 99 j = μ 99 j := fun j => wM_o _ _ _ _ _ _ _ _ ha (by decide) (by decide) (by decide)
  have ce : ∀ b j, b ≠ a + 1 → b ≠ a + 2 → cpR (wM μ a f (a + 2) 0 (fun _ => 0) s 3) (a + 1) 98 s b j = wM μ a f (a + 2) 0 (fun _ => 0) s 3 b j := fun b j c1 c2 => by
    unfold cpR; rw [q1, if_neg (fun q => c1 q.1), if_neg (fun q => c2 q.1)]
  refine ext7 (a := a) (fun j => ?_) (fun j => ?_) (fun j => ?_) (fun j => ?_) (fun j => ?_) (fun j => ?_) (fun j => ?_) (fun b j hb => ?_)
  · rw [ce _ _ (by omega) (by omega), wM_a, wM_a]
  · unfold cpR; rw [q1, wM_b _ _ _ _ _ _ _ _ _ (by decide), wM_b _ _ _ _ _ _ _ _ _ (by decide)]
    by_cases c : j = 1
    · rw [if_pos ⟨rfl, c⟩, if_neg (by omega), if_pos c]
    · rw [if_neg (fun q => c q.2), if_neg (by omega), if_neg c, if_neg c]
  · unfold cpR; rw [q1, q2, q3, wM_c _ _ _ _ _ _ _ _ _ (by decide), wM_c _ _ _ _ _ _ _ _ _ (by decide), if_neg (by omega)]
    by_cases c : 0 ≤ j ∧ j < s
    · rw [if_pos ⟨rfl, c⟩]; exact (if_pos c).symm
    · rw [if_neg (fun q => c q.2)]; exact (if_neg c).symm
  · rw [ce _ _ (by omega) (by omega), wM_na _ _ _ _ _ _ _ _ _ ha, wM_na _ _ _ _ _ _ _ _ _ ha]
  · rw [ce _ _ (by omega) (by omega), wM_nb _ _ _ _ _ _ _ _ _ ha, wM_nb _ _ _ _ _ _ _ _ _ ha]
  · rw [ce _ _ (by omega) (by omega), wM_nd _ _ _ _ _ _ _ _ _ ha, wM_nd _ _ _ _ _ _ _ _ _ ha]
  · rw [ce _ _ (by omega) (by omega), wM_0 _ _ _ _ _ _ _ _ _ ha, wM_0 _ _ _ _ _ _ _ _ _ ha]
  · rw [ce _ _ (by omega) (by omega), wM_e _ _ _ _ _ _ _ _ _ hb, wM_e _ _ _ _ _ _ _ _ _ hb]
theorem sp_93 {μ : Mem} {a s cnt clk : Int} (h : μ 0 2 = a) (ha : 131 ≤ a) (hrow : isRow μ 98 10) (h98 : μ 98 0 = 99) (hs : μ 98 1 = s) : qR 93 [(3, a), (3, 98), (0, cnt), (0, clk)] (mNew μ 18 4) = some ((9, 0), wM μ a (fun j => if j = 2 then clk else if j = 1 then cnt else if j = 0 then a + 1 else if j = 3 then 1 else 0) (a + 2) s (fun j => if 0 ≤ j ∧ j < s then μ 99 j else 0) s 3) := by
  have row : ∀ f r0 z g s' t, isRow (wM μ a f r0 z g s' t) 98 10 := fun f r0 z g s' t => by
    unfold isRow at hrow ⊢
    rw [h98] at hrow
    have e : ∀ b j, b ≠ 0 → -131 < b → b < 131 → wM μ a f r0 z g s' t b j = μ b j := fun b j => wM_o _ _ _ _ _ _ _ _ ha
    rw [e (-98) 0 (by decide) (by decide) (by decide), e 98 0 (by decide) (by decide) (by decide), h98, e (-99) 0 (by decide) (by decide) (by decide), e (-99) 1 (by decide) (by decide) (by decide), e 98 1 (by decide) (by decide) (by decide)]
    exact hrow
  have s0 : 0 ≤ s ∧ s ≤ 10 := by obtain ⟨_, _, _, q, _⟩ := hrow; omega
  rw [wM_1 h ha, r_93, if_pos (by omega), wM_ka _ _ _ _ _ _ _ _ ha, if_pos rfl, wM_f, wM_n2 ha, wM_2 _ _ _ _ _ _ _ _ ha, if_pos (row _ _ _ _ _ _).1, row_size (row _ _ _ _ _ _), wM_o _ _ _ _ _ _ _ _ ha (by decide) (by decide) (by decide), hs]
  simp only [Option.bind_some, psh_0]
  rw [e_93_18, wM_kb _ _ _ _ _ _ _ _ ha (by decide), if_pos rfl, r_54, if_pos (by omega), r_216, if_neg (by omega)]
  simp only [Option.bind_some, psh_0]
  rw [e_54_10, if_pos (by omega), wM_n3 ha, wM_kb _ _ _ _ _ _ _ _ ha (by decide), if_pos rfl, wM_2 _ _ _ _ _ _ _ _ ha, wM_r (by decide)]
  simp only [Option.bind_some, psh_9]
  rw [e_93_21, wM_ka _ _ _ _ _ _ _ _ ha, if_pos rfl, wM_f, wM_ka _ _ _ _ _ _ _ _ ha, if_pos rfl, wM_a]
  simp only [if_true]
  rw [wM_kb _ _ _ _ _ _ _ _ ha (by decide), if_pos rfl]
  have h98' : ∀ f r0 z g s' t, wM μ a f r0 z g s' t 98 0 = 99 := fun f r0 z g s' t => by rw [wM_o _ _ _ _ _ _ _ _ ha (by decide) (by decide) (by decide), h98]
  have hs' : ∀ f r0 z g s' t, wM μ a f r0 z g s' t 98 1 = s := fun f r0 z g s' t => by rw [wM_o _ _ _ _ _ _ _ _ ha (by decide) (by decide) (by decide), hs]
  have row2 : ∀ f, isRow (wM μ a f (a + 2) 0 (fun _ => 0) s 3) (a + 1) s := fun f => by
    unfold isRow
    rw [wM_kb _ _ _ _ _ _ _ _ ha (by decide), wM_b _ _ _ _ _ _ _ _ _ (by decide), if_pos rfl, wM_kc _ _ _ _ _ _ _ _ ha (by decide), wM_kc _ _ _ _ _ _ _ _ ha (by decide), wM_b _ _ _ _ _ _ _ _ _ (by decide)]
    exact ⟨rfl, rfl, rfl, ⟨by simp, by simp; omega, by omega⟩, by omega, by omega, by omega⟩
  have hb0 : ∀ f, wM μ a f (a + 2) 0 (fun _ => 0) s 3 (a + 1) 0 = a + 2 := fun f => by rw [wM_b _ _ _ _ _ _ _ _ _ (by decide), if_pos rfl]
  rw [row_become (row2 _) (row _ _ _ _ _ _) (by omega) (by rw [hb0, h98']; omega) (by rw [hb0]; omega) (by rw [h98']; omega) (by rw [hs']; omega), hs', wM_cp ha h98]
  simp only [Option.bind_some, psh_9]
  rw [e_93_32, wM_ka _ _ _ _ _ _ _ _ ha, if_pos rfl, wM_f, wM_ka _ _ _ _ _ _ _ _ ha, if_pos rfl, wM_f]
