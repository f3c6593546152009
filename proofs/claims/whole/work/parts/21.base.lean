/-! sums, loops with an invariant, words' cells, scratch -/
def sm (f : Int → Int) : Nat → Int
  | 0 => 0
  | n + 1 => sm f n + f n
/-- f 0 + .. + f (n - 1) -/
def S (f : Int → Int) (n : Int) : Int := sm f n.toNat
theorem S_0 (f : Int → Int) : S f 0 = 0 := rfl
theorem S_neg (f : Int → Int) {n : Int} (h : n ≤ 0) : S f n = 0 := by unfold S; rw [show n.toNat = 0 by omega]; rfl
theorem S_succ (f : Int → Int) {n : Int} (h : 0 ≤ n) : S f (n + 1) = S f n + f n := by
  unfold S
  rw [show (n + 1).toNat = n.toNat + 1 by omega]
  show sm f n.toNat + f (n.toNat : Int) = _
  rw [show ((n.toNat : Nat) : Int) = n by omega]
/-- induction along a range -/
theorem i_up {P : Int → Prop} {a : Int} (h0 : P a) (hs : ∀ i, a ≤ i → P i → P (i + 1)) : ∀ n, a ≤ n → P n := by
  intro n h
  obtain ⟨k, rfl⟩ : ∃ k : Nat, n = a + k := ⟨(n - a).toNat, by omega⟩
  clear h
  induction k with
  | zero => simpa using h0
  | succ k ih =>
    have := hs (a + k) (by omega) ih
    rw [show a + ((k + 1 : Nat) : Int) = a + k + 1 by omega]
    exact this
theorem S_congr {f g : Int → Int} {n : Int} (h : ∀ j, 0 ≤ j → j < n → f j = g j) : S f n = S g n := by
  by_cases hn : n ≤ 0
  · rw [S_neg f hn, S_neg g hn]
  · have key : ∀ m, 0 ≤ m → (m ≤ n → S f m = S g m) := i_up (fun _ => rfl) (fun i hi ih hm => by rw [S_succ f hi, S_succ g hi, ih (by omega), h i hi (by omega)])
    exact key n (by omega) (Int.le_refl _)
theorem S_add (f g : Int → Int) (n : Int) : S (fun j => f j + g j) n = S f n + S g n := by
  by_cases hn : n ≤ 0
  · rw [S_neg _ hn, S_neg _ hn, S_neg _ hn]; rfl
  · exact i_up (P := fun n => S (fun j => f j + g j) n = S f n + S g n) (by show S _ 0 = S f 0 + S g 0; rw [S_0, S_0, S_0]; rfl) (fun i hi ih => by rw [S_succ _ hi, S_succ _ hi, S_succ _ hi, ih]; omega) n (by omega)
theorem S_zero {f : Int → Int} {n : Int} (h : ∀ j, 0 ≤ j → j < n → f j = 0) : S f n = 0 := by
  rw [S_congr (g := fun _ => 0) h]
  by_cases hn : n ≤ 0
  · exact S_neg _ hn
  · exact i_up (P := fun n => S (fun _ => 0) n = 0) rfl (fun i hi ih => by rw [S_succ _ hi, ih]; rfl) n (by omega)
theorem S_bd {f : Int → Int} {n a b : Int} (hn : 0 ≤ n) (h : ∀ j, 0 ≤ j → j < n → a ≤ f j ∧ f j ≤ b) : a * n ≤ S f n ∧ S f n ≤ b * n := by
  have key : ∀ m, 0 ≤ m → (m ≤ n → a * m ≤ S f m ∧ S f m ≤ b * m) := i_up (fun _ => by simp [S_0]) (fun i hi ih hm => by
    have h1 := ih (by omega)
    have h2 := h i hi (by omega)
    rw [S_succ f hi, Int.mul_add, Int.mul_add, Int.mul_one, Int.mul_one]
    omega)
  exact key n hn (Int.le_refl _)
theorem S_01 {f : Int → Int} {n : Int} (hn : 0 ≤ n) (h : ∀ j, 0 ≤ j → j < n → 0 ≤ f j ∧ f j ≤ 1) : 0 ≤ S f n ∧ S f n ≤ n := by
  have := S_bd (a := 0) (b := 1) hn h
  omega
/-- one place changed -/
theorem S_upd {f g : Int → Int} {n i : Int} (h0 : 0 ≤ i) (hi : i < n) (h : ∀ j, 0 ≤ j → j < n → j ≠ i → g j = f j) : S g n = S f n + (g i - f i) := by
  have key : ∀ m, 0 ≤ m → (m ≤ n → S g m = S f m + if i < m then g i - f i else 0) := i_up (fun _ => by rw [if_neg (by omega)]; rfl) (fun k hk ih hm => by
    rw [S_succ _ hk, S_succ _ hk, ih (by omega)]
    by_cases e : k = i
    · subst e; rw [if_neg (by omega), if_pos (by omega)]; omega
    · rw [h k hk (by omega) e]
      by_cases e2 : i < k
      · rw [if_pos e2, if_pos (by omega)]; omega
      · rw [if_neg e2, if_neg (by omega)]; omega)
  rw [key n (by omega) (Int.le_refl _), if_pos hi]
theorem S_mulc (f : Int → Int) (c n : Int) : S (fun j => c * f j) n = c * S f n := by
  by_cases hn : n ≤ 0
  · rw [S_neg _ hn, S_neg _ hn]; simp
  · exact i_up (P := fun n => S (fun j => c * f j) n = c * S f n) (by show S _ 0 = c * S f 0; rw [S_0, S_0]; simp) (fun i hi ih => by rw [S_succ _ hi, S_succ _ hi, ih, Int.mul_add]) n (by omega)
/-- sums exchanged -/
theorem S_swap (f : Int → Int → Int) (n m : Int) : S (fun i => S (fun j => f i j) m) n = S (fun j => S (fun i => f i j) n) m := by
  by_cases hn : n ≤ 0
  · rw [S_neg _ hn, S_zero (fun j _ _ => S_neg _ hn)]
  · exact i_up (P := fun n => S (fun i => S (fun j => f i j) m) n = S (fun j => S (fun i => f i j) n) m) (by rw [S_0, S_zero (fun j _ _ => S_0 _)]) (fun i hi ih => by
      rw [S_succ _ hi, ih, ← S_add]
      exact S_congr (fun j _ _ => (S_succ (fun i => f i j) hi).symm)) n (by omega)
/-- the one place where it counts -/
theorem S_one {f : Int → Int} {n i : Int} (h0 : 0 ≤ i) (hi : i < n) (h : ∀ j, 0 ≤ j → j < n → j ≠ i → f j = 0) : S f n = f i := by
  have := S_upd (f := fun _ => 0) (g := f) h0 hi h
  rw [this, S_zero (fun _ _ _ => rfl)]
  omega
/-- a loop with an invariant -/
theorem it_inv {σ α : Type} (E : Int → σ → α) (I : Int → σ → Prop) {a n : Int} (h : a ≤ n) (hs : ∀ i s, a ≤ i → i < n → I i s → ∃ s', E i s = E (i + 1) s' ∧ I (i + 1) s') {s0 : σ} (h0 : I a s0) : ∃ s, E a s0 = E n s ∧ I n s := by
  have key : ∀ m, a ≤ m → (m ≤ n → ∃ s, E a s0 = E m s ∧ I m s) := i_up (fun _ => ⟨s0, rfl, h0⟩) (fun i hi ih hm => by
    obtain ⟨s, e1, i1⟩ := ih (by omega)
    obtain ⟨s', e2, i2⟩ := hs i s hi (by omega) i1
    exact ⟨s', e1.trans e2, i2⟩)
  exact key n h (Int.le_refl _)
theorem it_invd {σ α : Type} (E : Int → σ → α) (I : Int → σ → Prop) {a n : Int} (h : a ≤ n) (hs : ∀ i s, a < i → i ≤ n → I i s → ∃ s', E i s = E (i - 1) s' ∧ I (i - 1) s') {s0 : σ} (h0 : I n s0) : ∃ s, E n s0 = E a s ∧ I a s := by
  have key : ∀ m, 0 ≤ m → (m ≤ n - a → ∃ s, E n s0 = E (n - m) s ∧ I (n - m) s) := i_up (fun _ => ⟨s0, by rw [Int.sub_zero], by rw [Int.sub_zero]; exact h0⟩) (fun i hi ih hm => by
    obtain ⟨s, e1, i1⟩ := ih (by omega)
    obtain ⟨s', e2, i2⟩ := hs (n - i) s (by omega) (by omega) i1
    rw [show n - i - 1 = n - (i + 1) by omega] at e2 i2
    exact ⟨s', e1.trans e2, i2⟩)
  have := key (n - a) (by omega) (Int.le_refl _)
  rwa [show n - (n - a) = a by omega] at this
/-! words' cells -/
theorem mk_wk {D : Mem} {w : Int} (h0 : 0 ≤ w) (h : w < D 5 2) : mk D (-(131 + 3 * w)) 0 = 18 := by
  unfold mk mkK
  rw [if_pos (by omega), if_pos rfl, if_neg (by omega), if_pos (by omega), if_pos (by omega)]
theorem mk_wr {D : Mem} {w : Int} (h0 : 0 ≤ w) (h : w < D 5 2) : mk D (131 + 3 * w) 0 = 132 + 3 * w := by
  unfold mk mkC
  rw [if_neg (by omega), if_pos (by omega), if_pos ⟨rfl, by omega, by omega⟩]
  omega
theorem mk_wf {D : Mem} {w i : Int} (h0 : 0 ≤ w) (hi : i ≠ 0) : mk D (131 + 3 * w) i = D (131 + 3 * w) i := by
  unfold mk mkC
  rw [if_neg (by omega), if_pos (by omega), if_neg (fun q => hi q.1)]
theorem mk_rk {D : Mem} {w : Int} (h0 : 0 ≤ w) (h : w < D 5 2) : mk D (-(132 + 3 * w)) 0 = 15 := by
  unfold mk mkK
  rw [if_pos (by omega), if_pos rfl, if_neg (by omega), if_pos (by omega), if_neg (by omega), if_pos (by omega)]
theorem mk_rr {D : Mem} {w : Int} (h0 : 0 ≤ w) (h : w < D 5 2) : mk D (132 + 3 * w) 0 = 133 + 3 * w := by
  unfold mk mkC
  rw [if_neg (by omega), if_pos (by omega), if_pos ⟨rfl, by omega, by omega⟩]
  omega
theorem mk_rf {D : Mem} {w i : Int} (h0 : 0 ≤ w) (hi : i ≠ 0) : mk D (132 + 3 * w) i = D (132 + 3 * w) i := by
  unfold mk mkC
  rw [if_neg (by omega), if_pos (by omega), if_neg (fun q => hi q.1)]
theorem mk_ak {D : Mem} {w : Int} (h0 : 0 ≤ w) (h : w < D 5 2) : mk D (-(133 + 3 * w)) 0 = 1 := by
  unfold mk mkK
  rw [if_pos (by omega), if_pos rfl, if_neg (by omega), if_pos (by omega), if_neg (by omega), if_neg (by omega)]
theorem mk_al {D : Mem} {w : Int} (h0 : 0 ≤ w) : mk D (-(133 + 3 * w)) 1 = D (-(133 + 3 * w)) 1 := by
  unfold mk mkL
  rw [if_pos (by omega), if_neg (by decide), if_pos rfl, if_pos (by omega)]
  rw [Int.neg_neg]
theorem mk_ac {D : Mem} {w : Int} (h0 : 0 ≤ w) (i : Int) : mk D (133 + 3 * w) i = D (133 + 3 * w) i := by
  unfold mk mkC
  rw [if_neg (by omega), if_pos (by omega), if_neg (by omega)]
theorem mu_wf {D : Mem} {w i v : Int} (h0 : 0 ≤ w) (hi : i ≠ 0) : mU (mk D) (131 + 3 * w) i v = mk (mU D (131 + 3 * w) i v) := mU_mk ⟨by omega, fun _ q => hi q.1, fun h => by omega⟩
theorem mk_words {D : Mem} {w : Int} (h0 : 0 ≤ w) (h : w < D 5 2) : mk D 6 w = 131 + 3 * w := by rw [mk_c6, if_pos ⟨h0, h⟩]
/-- places that no call hands on to the next -/
def scr (a i : Int) : Prop := (32 ≤ a ∧ a ≤ 37) ∨ (40 ≤ a ∧ a ≤ 43) ∨ (45 ≤ a ∧ a ≤ 97) ∨ a = 104 ∨ a = 105 ∨ (122 ≤ a ∧ a ≤ 130) ∨ (a = 31 ∧ i = 9) ∨ (a = 44 ∧ i = 2) ∨ (a = 106 ∧ (i = 25 ∨ i = 27 ∨ i = 30))
def Sim (D D' : Mem) : Prop := ∀ a i, ¬ scr a i → D' a i = D a i
theorem Sim.rfl' (D : Mem) : Sim D D := fun _ _ _ => rfl
theorem Sim.trans {D E F : Mem} (h : Sim D E) (g : Sim E F) : Sim D F := fun a i hs => (g a i hs).trans (h a i hs)
theorem Sim.put {D E : Mem} {a i v : Int} (h : Sim D E) (hs : scr a i) : Sim D (mU E a i v) := fun b j hb => by
  rw [mU_other (fun q => hb (by rw [q.1, q.2]; exact hs))]
  exact h b j hb
