/-! letters and keys -/
theorem sp_130 (μ : Mem) (x : Int) : qR 130 [(0, x)] μ = some ((0, if 0 ≤ x ∧ x < 26 then 1 else 0), μ) := by
  rw [r_130]
  by_cases c1 : x < 0
  · rw [if_pos c1, if_neg (by omega)]
  · by_cases c2 : x < 26
    · rw [if_neg c1, if_pos c2, if_pos (by omega)]
    · rw [if_neg c1, if_neg c2, if_neg (by omega)]
theorem sp_131 (μ : Mem) (x : Int) : qR 131 [(0, x)] μ = some ((0, if 1 ≤ x ∧ x ≤ 9 then 1 else 0), μ) := by
  rw [r_131]
  by_cases c1 : x < 1
  · rw [if_pos c1, if_neg (by omega)]
  · by_cases c2 : x ≤ 9
    · rw [if_neg c1, if_pos c2, if_pos (by omega)]
    · rw [if_neg c1, if_neg c2, if_neg (by omega)]
theorem sp_132 (μ : Mem) (x : Int) : qR 132 [(0, x)] μ = some ((0, if 0 ≤ x ∧ x < 4 then 1 else 0), μ) := by
  rw [r_132]
  by_cases c1 : x < 0
  · rw [if_pos c1, if_neg (by omega)]
  · by_cases c2 : x < 4
    · rw [if_neg c1, if_pos c2, if_pos (by omega)]
    · rw [if_neg c1, if_neg c2, if_neg (by omega)]
theorem sp_133 (μ : Mem) (x : Int) : qR 133 [(0, x)] μ = some ((0, if 1 ≤ x ∧ x ≤ 1000000 then 1 else 0), μ) := by
  rw [r_133]
  by_cases c1 : x < 1
  · rw [if_pos c1, if_neg (by omega)]
  · by_cases c2 : x ≤ 1000000
    · rw [if_neg c1, if_pos c2, if_pos (by omega)]
    · rw [if_neg c1, if_neg c2, if_neg (by omega)]
theorem sp_142 (μ : Mem) (x a b : Int) : qR 142 [(0, x), (0, a), (0, b)] μ = some ((0, if a ≤ x ∧ x ≤ b then 1 else 0), μ) := by
  rw [r_142]
  by_cases c1 : x < a
  · rw [if_pos c1, if_neg (by omega)]
  · by_cases c2 : x ≤ b
    · rw [if_neg c1, if_pos c2, if_pos (by omega)]
    · rw [if_neg c1, if_neg c2, if_neg (by omega)]
theorem sp_135 (μ : Mem) (x : Int) : qR 135 [(0, x)] μ = some ((0, if 0 ≤ x ∧ x < 4 then (if x = 0 then -5 else 0) else -1), μ) := by
  rw [r_135, sp_132]
  by_cases c : 0 ≤ x ∧ x < 4
  · by_cases c2 : x = 0 <;> simp [psh_0, e_135_4, c, c2]
  · simp [psh_0, e_135_4, c]
theorem w32_3 : w32 3 = 3 := rfl
theorem w32_1 : w32 1 = 1 := rfl
/-- keys side by side -/
def bes (a b : Int) : Int := if 1 ≤ a ∧ a ≤ 9 ∧ 1 ≤ b ∧ b ≤ 9 ∧ (((a - 1) / 3 - (b - 1) / 3) * ((a - 1) / 3 - (b - 1) / 3) + ((a - 1) % 3 - (b - 1) % 3) * ((a - 1) % 3 - (b - 1) % 3) = 1) then 1 else 0
theorem nine {P : Int → Prop} (h : ∀ k : Fin 9, P ((k.val : Int) + 1)) : ∀ a, 1 ≤ a → a ≤ 9 → P a := fun a h1 h2 => by
  have := h ⟨(a - 1).toNat, by omega⟩
  rwa [show (((a - 1).toNat : Nat) : Int) + 1 = a by omega] at this
theorem bes_cl : ∀ a, 1 ≤ a → a ≤ 9 → ∀ b, 1 ≤ b → b ≤ 9 → bes a b = (if (if a < b then b else a) - (if a < b then a else b) = 3 then 1 else if (w32 (Int.tdiv (w32 ((if a < b then a else b) - 1)) 3)) = (w32 (Int.tdiv (w32 ((if a < b then b else a) - 1)) 3)) then (if (if a < b then b else a) - (if a < b then a else b) = 1 then 1 else 0) else 0) :=
  nine (P := fun a => ∀ b, 1 ≤ b → b ≤ 9 → bes a b = _) (fun k => nine (P := fun b => bes ((k.val : Int) + 1) b = _) ((by decide : ∀ k j : Fin 9, bes ((k.val : Int) + 1) ((j.val : Int) + 1) = (if (if ((k.val : Int) + 1) < ((j.val : Int) + 1) then ((j.val : Int) + 1) else ((k.val : Int) + 1)) - (if ((k.val : Int) + 1) < ((j.val : Int) + 1) then ((k.val : Int) + 1) else ((j.val : Int) + 1)) = 3 then 1 else if (w32 (Int.tdiv (w32 ((if ((k.val : Int) + 1) < ((j.val : Int) + 1) then ((k.val : Int) + 1) else ((j.val : Int) + 1)) - 1)) 3)) = (w32 (Int.tdiv (w32 ((if ((k.val : Int) + 1) < ((j.val : Int) + 1) then ((j.val : Int) + 1) else ((k.val : Int) + 1)) - 1)) 3)) then (if (if ((k.val : Int) + 1) < ((j.val : Int) + 1) then ((j.val : Int) + 1) else ((k.val : Int) + 1)) - (if ((k.val : Int) + 1) < ((j.val : Int) + 1) then ((k.val : Int) + 1) else ((j.val : Int) + 1)) = 1 then 1 else 0) else 0)) k))
theorem sp_134 (μ : Mem) (a b : Int) : qR 134 [(0, a), (0, b)] μ = some ((0, bes a b), μ) := by
  have row : ∀ lo hi : Int, lo ≤ hi → qE 134 21 [(0, a), (0, b), (0, lo), (9, 0), (9, 0)] [(0, hi)] μ = some ((0, if 1 ≤ lo ∧ hi ≤ 9 then (if hi - lo = 3 then 1 else if (w32 (Int.tdiv (w32 (lo - 1)) 3)) = (w32 (Int.tdiv (w32 (hi - 1)) 3)) then (if hi - lo = 1 then 1 else 0) else 0) else 0), μ) := by
    intro lo hi hle
    by_cases c1 : lo < 1
    · have c0 : ¬ (1 ≤ lo) := by omega
      simp [e_134_21, c1, c0]
    · have c0 : 1 ≤ lo := by omega
      by_cases c2 : hi ≤ 9
      · have e1 : w32 (hi - lo) = hi - lo := w32_id (by omega) (by omega)
        by_cases c3 : (w32 (Int.tdiv (w32 (lo - 1)) 3)) = (w32 (Int.tdiv (w32 (hi - 1)) 3))
        · by_cases c4 : hi - lo = 3
          · simp [e_134_21, e_134_53, c1, c0, c2, e1, c3, c4, w32_3, w32_1]
          · by_cases c5 : hi - lo = 1
            · simp [e_134_21, e_134_53, c1, c0, c2, e1, c3, c5, w32_3, w32_1]
            · simp [e_134_21, e_134_53, c1, c0, c2, e1, c3, c4, c5]
        · by_cases c4 : hi - lo = 3
          · simp [e_134_21, e_134_53, c1, c0, c2, e1, c3, c4, w32_3, w32_1]
          · simp [e_134_21, e_134_53, c1, c0, c2, e1, c3, c4, w32_3, w32_1]
      · simp [e_134_21, c1, c0, c2]
  rw [r_134]
  by_cases h : 1 ≤ a ∧ a ≤ 9 ∧ 1 ≤ b ∧ b ≤ 9
  · rw [bes_cl a h.1 h.2.1 b h.2.2.1 h.2.2.2]
    by_cases c : a < b
    · simp only [if_pos c]
      rw [row a b (by omega), if_pos (by omega)]
    · simp only [if_neg c]
      rw [row b a (by omega), if_pos (by omega)]
  · have hb : bes a b = 0 := by unfold bes; rw [if_neg (fun q => h ⟨q.1, q.2.1, q.2.2.1, q.2.2.2.1⟩)]
    rw [hb]
    by_cases c : a < b
    · simp only [if_pos c]
      rw [row a b (by omega), if_neg (by omega)]
    · simp only [if_neg c]
      rw [row b a (by omega), if_neg (by omega)]
/-- a letter's place on its key -/
def posK (K : Int → Int) (l : Int) : Int := S (fun j => if K j = K l then 1 else 0) (l + 1)
theorem posK_bd (K : Int → Int) {l : Int} (h : 0 ≤ l) : 0 ≤ posK K l ∧ posK K l ≤ l + 1 := S_01 (by omega) (fun j _ _ => by split <;> decide)
theorem S_if_bd (P : Int → Prop) [DecidablePred P] {n : Int} (h : 0 ≤ n) : 0 ≤ S (fun j => if P j then 1 else 0) n ∧ S (fun j => if P j then 1 else 0) n ≤ n := S_01 h (fun j _ _ => by split <;> decide)
theorem sp_26 (D : Mem) (l : Int) : qR 26 [(3, 3), (0, l)] (mk D) = some ((0, if 0 ≤ l ∧ l < 26 then D 4 l else 0), mk D) := by
  by_cases c : 0 ≤ l ∧ l < 26 <;> simp [r_26, sp_130, psh_0, e_26_4, c]
theorem sp_27 (D : Mem) {l : Int} (k : Int) (h : 0 ≤ l ∧ l < 26) : qR 27 [(3, 3), (0, l), (0, k)] (mk D) = some ((0, if D 4 l = k then 0 else 1), mk (mU D 4 l k)) := by
  by_cases c : D 4 l = k
  · have e : mU D 4 l k = D := by
      funext b j
      unfold mU
      split
      · rename_i q; rw [q.1, q.2, c]
      · rfl
    simp [r_27, sp_130, psh_0, e_27_4, h, c, e]
  · simp [r_27, sp_130, psh_0, e_27_4, h, c]
theorem sp_28 (D : Mem) {a b : Int} (ha : 0 ≤ a ∧ a < 26) (hb : 0 ≤ b ∧ b < 26) : qR 28 [(3, 3), (0, a), (0, b)] (mk D) = some ((9, 0), mk (mU (mU D 4 a (D 4 b)) 4 b (D 4 a))) := by
  simp [r_28, sp_26, psh_0, e_28_5, e_28_13, e_28_16, e_28_23, sp_27 _ _ ha, sp_27 _ _ hb, ha, hb]
theorem sp_29 (D : Mem) {l : Int} (h : 0 ≤ l ∧ l < 26) : qR 29 [(3, 3), (0, l)] (mk D) = some ((0, posK (D 4) l), mk D) := by
  have hs : ∀ i, 0 ≤ i → i < l + 1 → qE 29 11 [(3, 3), (0, l), (0, D 4 l), (0, S (fun j => if D 4 j = D 4 l then 1 else 0) i), (0, i)] [] (mk D) = qE 29 11 [(3, 3), (0, l), (0, D 4 l), (0, S (fun j => if D 4 j = D 4 l then 1 else 0) (i + 1)), (0, i + 1)] [] (mk D) := by
    intro i a b
    have hb := S_if_bd (fun j => D 4 j = D 4 l) a
    have c1 : i ≤ l := by omega
    have c2 : i < 26 := by omega
    rw [e_29_11, S_succ _ a]
    by_cases c : D 4 i = D 4 l
    · simp only [c1, c2, c, a, and_self, if_true]
      rw [w32_id (by omega) (by omega), w32_id (by omega) (by omega)]
    · simp only [c1, c2, c, a, and_self, if_true, if_false, Int.add_zero]
      rw [w32_id (by omega) (by omega)]
  rw [r_29, sp_26, if_pos h]
  simp only [Option.bind_some, psh_0]
  rw [e_29_5]
  have := it_up (fun i => qE 29 11 [(3, 3), (0, l), (0, D 4 l), (0, S (fun j => if D 4 j = D 4 l then 1 else 0) i), (0, i)] [] (mk D)) (show 0 ≤ l + 1 by omega) hs
  rw [S_0] at this
  rw [this, e_29_11, if_neg (by omega)]
  rfl
theorem sp_145 (D : Mem) {l : Int} (h : 0 ≤ l ∧ l < 26) : qR 145 [(3, 106), (0, l)] (mk D) = some ((0, posK (D 107) l), mk D) := by
  have hs : ∀ i, 0 ≤ i → i < l + 1 → qE 145 4 [(3, 106), (0, l), (0, S (fun j => if D 107 j = D 107 l then 1 else 0) i), (0, i)] [] (mk D) = qE 145 4 [(3, 106), (0, l), (0, S (fun j => if D 107 j = D 107 l then 1 else 0) (i + 1)), (0, i + 1)] [] (mk D) := by
    intro i a b
    have hb := S_if_bd (fun j => D 107 j = D 107 l) a
    have c1 : i ≤ l := by omega
    have c2 : i < 26 := by omega
    rw [e_145_4, S_succ _ a]
    by_cases c : D 107 i = D 107 l
    · simp only [c1, c2, c, a, h, and_self, if_true]
      rw [w32_id (by omega) (by omega), w32_id (by omega) (by omega)]
    · simp only [c1, c2, c, a, h, and_self, if_true, if_false]
      rw [w32_id (by omega) (by omega), w32_id (by omega) (by omega)]
  rw [r_145]
  have := it_up (fun i => qE 145 4 [(3, 106), (0, l), (0, S (fun j => if D 107 j = D 107 l then 1 else 0) i), (0, i)] [] (mk D)) (show 0 ≤ l + 1 by omega) hs
  rw [S_0] at this
  rw [this, e_145_4, if_neg (by omega)]
  rfl
