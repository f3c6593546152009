/-! stretches of letters: the tables' meaning -/
/-- one key's letters from a on: tried lengths, the least sum and its first length -/
def stz (K : Int → Int → Int) (W : Int) (p : Int → Int) (a : Int) : Nat → Int × Int
  | 0 => (W, 0)
  | m + 1 => if K a ((m : Int) + 1) + p (a + ((m : Int) + 1)) < (stz K W p a m).1 then (K a ((m : Int) + 1) + p (a + ((m : Int) + 1)), (m : Int) + 1) else stz K W p a m
def LW (K : Int → Int → Int) (W : Int) : Nat → Int → Int
  | 0 => fun a => if a = 26 then 0 else W
  | s + 1 => fun a => (stz K W (LW K W s) a (26 - a).toNat).1
def LA (K : Int → Int → Int) (W : Int) (s : Nat) (a : Int) : Int := (stz K W (LW K W s) a (26 - a).toNat).2
/-- s keys can bear the letters from a on -/
def fea (s : Nat) (a : Int) : Prop := a + s ≤ 26 ∧ (s = 0 → a = 26)
theorem LW_0 (K : Int → Int → Int) (W a : Int) : LW K W 0 a = if a = 26 then 0 else W := rfl
theorem LW_s (K : Int → Int → Int) (W : Int) (s : Nat) (a : Int) : LW K W (s + 1) a = (stz K W (LW K W s) a (26 - a).toNat).1 := rfl
theorem stz_s (K : Int → Int → Int) (W : Int) (p : Int → Int) (a : Int) (m : Nat) : stz K W p a (m + 1) = if K a ((m : Int) + 1) + p (a + ((m : Int) + 1)) < (stz K W p a m).1 then (K a ((m : Int) + 1) + p (a + ((m : Int) + 1)), (m : Int) + 1) else stz K W p a m := rfl
/-- what a table with bound W says at (s, a): v where s keys can bear the letters, W else -/
theorem LW_both {K : Int → Int → Int} (hK : ∀ a m, 0 ≤ a → a ≤ 26 → 0 ≤ m → a + m ≤ 26 → 0 ≤ K a m ∧ K a m ≤ 1000000) {W V : Int} (hW : 100000000 ≤ W) (hV : 100000000 ≤ V) : ∀ s : Nat, s ≤ 9 → ∀ a, 0 ≤ a → a ≤ 26 → (fea s a → LW K W s a = LW K V s a ∧ 0 ≤ LW K W s a ∧ LW K W s a ≤ 1000000 * s) ∧ (¬ fea s a → LW K W s a = W ∧ LW K V s a = V)
  | 0, _, a, a0, a1 => by
    rw [LW_0, LW_0]
    constructor
    · intro h
      rw [if_pos (h.2 rfl), if_pos (h.2 rfl)]
      exact ⟨rfl, by omega, by omega⟩
    · intro h
      have : a ≠ 26 := fun e => h ⟨by omega, fun _ => e⟩
      rw [if_neg this, if_neg this]
      exact ⟨rfl, rfl⟩
  | s + 1, hs, a, a0, a1 => by
    have ih := LW_both hK hW hV s (by omega)
    have main : ∀ m : Nat, a + m ≤ 26 → ((∀ j : Int, 1 ≤ j → j ≤ m → ¬ fea s (a + j)) ∧ (stz K W (LW K W s) a m) = (W, 0) ∧ (stz K V (LW K V s) a m) = (V, 0)) ∨ ((∃ j : Int, 1 ≤ j ∧ j ≤ m ∧ fea s (a + j)) ∧ (stz K W (LW K W s) a m) = (stz K V (LW K V s) a m) ∧ 0 ≤ (stz K W (LW K W s) a m).1 ∧ (stz K W (LW K W s) a m).1 ≤ 1000000 * (s + 1 : Nat)) := by
      intro m
      induction m with
      | zero => intro _; exact Or.inl ⟨fun j j0 j1 => by omega, rfl, rfl⟩
      | succ m ihm =>
        intro hm
        have k := hK a ((m : Int) + 1) a0 a1 (by omega) (by omega)
        have q := ih (a + ((m : Int) + 1)) (by omega) (by omega)
        rw [stz_s, stz_s]
        by_cases f : fea s (a + ((m : Int) + 1))
        · obtain ⟨q1, q2, q3⟩ := q.1 f
          rw [← q1]
          refine Or.inr ⟨⟨(m : Int) + 1, by omega, by omega, f⟩, ?_⟩
          rcases ihm (by omega) with ⟨n1, n2, n3⟩ | ⟨_, n2, n3, n4⟩
          · rw [n2, n3, if_pos (by show _ < W; omega), if_pos (by show _ < V; omega)]
            exact ⟨rfl, by show 0 ≤ _ + _; omega, by show _ + _ ≤ _; omega⟩
          · rw [← n2]
            by_cases c : K a ((m : Int) + 1) + LW K W s (a + ((m : Int) + 1)) < (stz K W (LW K W s) a m).1
            · rw [if_pos c]; exact ⟨rfl, by show 0 ≤ _ + _; omega, by show _ + _ ≤ _; omega⟩
            · rw [if_neg c]; exact ⟨rfl, n3, n4⟩
        · obtain ⟨q1, q2⟩ := q.2 f
          rw [q1, q2]
          rcases ihm (by omega) with ⟨n1, n2, n3⟩ | ⟨⟨j, j0, j1, j2⟩, n2, n3, n4⟩
          · rw [n2, n3, if_neg (by show ¬ _ < W; omega), if_neg (by show ¬ _ < V; omega)]
            refine Or.inl ⟨fun j j0 j1 => ?_, rfl, rfl⟩
            by_cases z : j = (m : Int) + 1
            · rw [z]; exact f
            · exact n1 j j0 (by omega)
          · rw [← n2, if_neg (by omega), if_neg (by omega)]
            exact Or.inr ⟨⟨j, j0, by omega, j2⟩, rfl, n3, n4⟩
    have fin := main (26 - a).toNat (by omega)
    rw [LW_s, LW_s]
    constructor
    · intro h
      rcases fin with ⟨n1, _⟩ | ⟨_, n2, n3, n4⟩
      · exfalso
        have h1 := h.1
        by_cases z : s = 0
        · exact n1 (26 - a) (by omega) (by omega) ⟨by omega, fun _ => by omega⟩
        · exact n1 1 (by omega) (by omega) ⟨by omega, fun w => absurd w z⟩
      · exact ⟨by rw [n2], n3, n4⟩
    · intro h
      rcases fin with ⟨_, n2, n3⟩ | ⟨⟨j, j0, j1, j2⟩, _⟩
      · rw [n2, n3]; exact ⟨rfl, rfl⟩
      · exact absurd ⟨by have := j2.1; omega, fun w => by omega⟩ h
/-- the first least length -/
theorem LA_both {K : Int → Int → Int} (hK : ∀ a m, 0 ≤ a → a ≤ 26 → 0 ≤ m → a + m ≤ 26 → 0 ≤ K a m ∧ K a m ≤ 1000000) {W V : Int} (hW : 100000000 ≤ W) (hV : 100000000 ≤ V) (s : Nat) (hs : s ≤ 8) {a : Int} (a0 : 0 ≤ a) (h : fea (s + 1) a) : LA K W s a = LA K V s a ∧ 1 ≤ LA K W s a ∧ a + LA K W s a ≤ 26 ∧ fea s (a + LA K W s a) ∧ LW K W (s + 1) a = K a (LA K W s a) + LW K W s (a + LA K W s a) ∧ ∀ j, 1 ≤ j → j < LA K W s a → K a j + LW K W s (a + j) ≠ LW K W (s + 1) a := by
  have h1 := h.1
  have ih := LW_both hK hW hV s (by omega)
  have main : ∀ m : Nat, a + m ≤ 26 → ((∀ j : Int, 1 ≤ j → j ≤ m → ¬ fea s (a + j)) ∧ (stz K W (LW K W s) a m) = (W, 0) ∧ (stz K V (LW K V s) a m) = (V, 0)) ∨ ((stz K W (LW K W s) a m) = (stz K V (LW K V s) a m) ∧ (stz K W (LW K W s) a m).1 < 100000000 ∧ 1 ≤ (stz K W (LW K W s) a m).2 ∧ (stz K W (LW K W s) a m).2 ≤ m ∧ fea s (a + (stz K W (LW K W s) a m).2) ∧ (stz K W (LW K W s) a m).1 = K a (stz K W (LW K W s) a m).2 + LW K W s (a + (stz K W (LW K W s) a m).2) ∧ ∀ j : Int, 1 ≤ j → j ≤ m → (stz K W (LW K W s) a m).1 ≤ K a j + LW K W s (a + j) ∧ (j < (stz K W (LW K W s) a m).2 → (stz K W (LW K W s) a m).1 < K a j + LW K W s (a + j))) := by
    intro m
    induction m with
    | zero => intro _; exact Or.inl ⟨fun j j0 j1 => by omega, rfl, rfl⟩
    | succ m ihm =>
      intro hm
      have k := hK a ((m : Int) + 1) a0 (by omega) (by omega) (by omega)
      have q := ih (a + ((m : Int) + 1)) (by omega) (by omega)
      rw [stz_s, stz_s]
      by_cases f : fea s (a + ((m : Int) + 1))
      · obtain ⟨q1, q2, q3⟩ := q.1 f
        rw [← q1]
        refine Or.inr ?_
        rcases ihm (by omega) with ⟨n1, n2, n3⟩ | ⟨n2, n3, n4, n5, n6, n7, n8⟩
        · rw [n2, n3, if_pos (by show _ < W; omega), if_pos (by show _ < V; omega)]
          refine ⟨rfl, by show _ + _ < _; omega, by show 1 ≤ (m : Int) + 1; omega, by show (m : Int) + 1 ≤ (m + 1 : Nat); omega, f, rfl, fun j j0 j1 => ?_⟩
          by_cases z : j = (m : Int) + 1
          · rw [z]; exact ⟨Int.le_refl _, fun w => by have : (m : Int) + 1 < (m : Int) + 1 := w; omega⟩
          · have kj := hK a j a0 (by omega) (by omega) (by omega)
            have qj := (ih (a + j) (by omega) (by omega)).2 (n1 j j0 (by omega))
            refine ⟨?_, fun _ => ?_⟩
            · show _ + _ ≤ _; omega
            · show _ + _ < _; omega
        · rw [← n2]
          by_cases c : K a ((m : Int) + 1) + LW K W s (a + ((m : Int) + 1)) < (stz K W (LW K W s) a m).1
          · rw [if_pos c]
            refine ⟨rfl, by show _ + _ < _; omega, by show 1 ≤ (m : Int) + 1; omega, by show (m : Int) + 1 ≤ (m + 1 : Nat); omega, f, rfl, fun j j0 j1 => ?_⟩
            by_cases z : j = (m : Int) + 1
            · rw [z]; exact ⟨Int.le_refl _, fun w => by have : (m : Int) + 1 < (m : Int) + 1 := w; omega⟩
            · have := (n8 j j0 (by omega)).1
              refine ⟨?_, fun _ => ?_⟩
              · show _ + _ ≤ _; omega
              · show _ + _ < _; omega
          · rw [if_neg c]
            refine ⟨rfl, n3, n4, by omega, n6, n7, fun j j0 j1 => ?_⟩
            by_cases z : j = (m : Int) + 1
            · rw [z]; exact ⟨by omega, fun w => by omega⟩
            · exact n8 j j0 (by omega)
      · obtain ⟨q1, q2⟩ := q.2 f
        rw [q1, q2]
        rcases ihm (by omega) with ⟨n1, n2, n3⟩ | ⟨n2, n3, n4, n5, n6, n7, n8⟩
        · rw [n2, n3, if_neg (by show ¬ _ < W; omega), if_neg (by show ¬ _ < V; omega)]
          refine Or.inl ⟨fun j j0 j1 => ?_, rfl, rfl⟩
          by_cases z : j = (m : Int) + 1
          · rw [z]; exact f
          · exact n1 j j0 (by omega)
        · rw [← n2, if_neg (by omega), if_neg (by omega)]
          refine Or.inr ⟨rfl, n3, n4, by omega, n6, n7, fun j j0 j1 => ?_⟩
          by_cases z : j = (m : Int) + 1
          · rw [z, q1]; exact ⟨by omega, fun w => by omega⟩
          · exact n8 j j0 (by omega)
  rcases main (26 - a).toNat (by omega) with ⟨n1, _⟩ | ⟨n2, n3, n4, n5, n6, n7, n8⟩
  · exfalso
    by_cases z : s = 0
    · exact n1 (26 - a) (by omega) (by omega) ⟨by omega, fun _ => by omega⟩
    · exact n1 1 (by omega) (by omega) ⟨by omega, fun w => absurd w z⟩
  · rw [LW_s]
    refine ⟨by unfold LA; rw [n2], n4, by show a + (stz K W (LW K W s) a (26 - a).toNat).2 ≤ 26; omega, n6, n7, fun j j0 j1 => ?_⟩
    have j1' : j < (stz K W (LW K W s) a (26 - a).toNat).2 := j1
    have := (n8 j j0 (by omega)).2 j1'
    omega
/-- the presses of a key that has the letters a, a + 1 .. (m of them) -/
def KK (D : Mem) (a m : Int) : Int := S (fun i => S (tT D (a + i)) (D 106 16) * (i + 1) + S (fun j => S (cT D (a + j) (a + i)) (D 106 16)) (i + 1)) m
def KR (D : Mem) (a m : Int) : Int := S (fun i => S (tT D (a + i)) (D 106 16) * (i + 1) + S (fun j => S (foT D (a + i) (a + j)) (D 106 16)) m) m
theorem KK_KR (D : Mem) (a : Int) : ∀ m, 0 ≤ m → KK D a m = KR D a m := by
  refine i_up (P := fun m => KK D a m = KR D a m) rfl (fun m m0 ih => ?_)
  have e1 : KK D a (m + 1) = KK D a m + (S (tT D (a + m)) (D 106 16) * (m + 1) + S (fun j => S (cT D (a + j) (a + m)) (D 106 16)) (m + 1)) := by unfold KK; rw [S_succ _ m0]
  have e2 : KR D a (m + 1) = S (fun i => S (tT D (a + i)) (D 106 16) * (i + 1) + S (fun j => S (foT D (a + i) (a + j)) (D 106 16)) (m + 1)) m + (S (tT D (a + m)) (D 106 16) * (m + 1) + S (fun j => S (foT D (a + m) (a + j)) (D 106 16)) (m + 1)) := by unfold KR; rw [S_succ _ m0]
  have e3 : S (fun i => S (tT D (a + i)) (D 106 16) * (i + 1) + S (fun j => S (foT D (a + i) (a + j)) (D 106 16)) (m + 1)) m = KR D a m + S (fun i => S (foT D (a + i) (a + m)) (D 106 16)) m := by
    unfold KR
    rw [← S_add]
    refine S_congr fun i _ _ => ?_
    rw [S_succ _ m0]; omega
  have e4 : S (fun j => S (cT D (a + j) (a + m)) (D 106 16)) (m + 1) = S (fun i => S (foT D (a + i) (a + m)) (D 106 16)) m + S (fun j => S (foT D (a + m) (a + j)) (D 106 16)) (m + 1) := by
    rw [S_succ _ m0, S_succ _ m0, cT_foT D (Int.le_refl _), if_pos rfl, Int.add_zero, ← Int.add_assoc, ← S_add]
    have : S (fun j => S (cT D (a + j) (a + m)) (D 106 16)) m = S (fun j => S (foT D (a + j) (a + m)) (D 106 16) + S (foT D (a + m) (a + j)) (D 106 16)) m := S_congr fun j j0 j1 => by
      show S (cT D (a + j) (a + m)) (D 106 16) = S (foT D (a + j) (a + m)) (D 106 16) + S (foT D (a + m) (a + j)) (D 106 16)
      rw [cT_foT D (by omega), if_neg (by omega)]
    rw [this]
  rw [e1, e2, e3, e4, ih]
  omega
theorem KK_b {D : Mem} (hR : rOK D) : ∀ a m, 0 ≤ a → a ≤ 26 → 0 ≤ m → a + m ≤ 26 → 0 ≤ KK D a m ∧ KK D a m ≤ 1000000 := fun a m a0 a1 m0 m1 => by
  have c3 := hR.2.2.2.2.1
  have := S_bd (f := fun i => S (tT D (a + i)) (D 106 16) * (i + 1) + S (fun j => S (cT D (a + j) (a + i)) (D 106 16)) (i + 1)) (n := m) (a := 0) (b := 31200) m0 (fun i i0 i1 => by
    have t := tT_b hR (a + i) c3.1 (Int.le_refl _)
    have c := S_bd (f := fun j => S (cT D (a + j) (a + i)) (D 106 16)) (n := i + 1) (a := 0) (b := 600) (by omega) (fun j j0 j1 => by
      have := cT_b hR (a + j) (a + i) c3.1 (Int.le_refl _)
      constructor <;> omega)
    have p0 : 0 ≤ S (tT D (a + i)) (D 106 16) * (i + 1) := Int.mul_nonneg t.1 (by omega)
    have p1 : S (tT D (a + i)) (D 106 16) * (i + 1) ≤ 600 * 26 := Int.mul_le_mul (by omega) (by omega) (by omega) (by omega)
    show 0 ≤ _ + _ ∧ _ + _ ≤ _
    constructor <;> omega)
  have e : KK D a m = S (fun i => S (tT D (a + i)) (D 106 16) * (i + 1) + S (fun j => S (cT D (a + j) (a + i)) (D 106 16)) (i + 1)) m := rfl
  omega
