/-! the layout of the cells behind the two constructors (by program, wip/gen/lay.py): 1 the script, 2 to 105 the system, 106 to 130 the reference, then three cells a word: the word, its row, its letters -/
def kT : List Int := [0, 1, 19, 11, 1, 10, 4, 13, 1, 1, 1, 12, 3, 1, 1, 15, 1, 15, 1, 15, 1, 15, 1, 15, 1, 15, 1, 15, 1, 15, 1, 16, 2, 2, 1, 1, 1, 1, 1, 14, 1, 1, 1, 1, 17, 1, 5, 1, 1, 1, 1, 1, 1, 1, 1, 1, 1, 1, 1, 1, 1, 1, 1, 1, 1, 1, 1, 1, 1, 1, 1, 1, 1, 5, 1, 1, 1, 1, 1, 1, 1, 1, 1, 1, 1, 5, 1, 1, 1, 1, 1, 1, 1, 1, 1, 1, 1, 1, 15, 1, 15, 1, 15, 1, 1, 1, 20, 1, 1, 1, 1, 1, 6, 1, 1, 1, 1, 1, 1, 1, 1, 1, 1, 1, 1, 1, 1, 1, 1, 1, 1]
def lT : List Int := [0, 6, 11, 1, 26, 5, 80, 4, 150, 150, 150, 4, 8, 8, 8, 2, 10, 2, 10, 2, 10, 2, 10, 2, 10, 2, 10, 2, 10, 2, 10, 11, 80, 80, 80, 80, 40, 40, 3, 4, 240, 4, 4, 4, 6, 26, 26, 26, 26, 26, 26, 26, 26, 26, 26, 26, 26, 26, 26, 26, 26, 26, 26, 26, 26, 26, 26, 26, 26, 26, 26, 26, 26, 11, 27, 27, 27, 27, 27, 27, 27, 27, 27, 27, 27, 11, 27, 27, 27, 27, 27, 27, 27, 27, 27, 27, 27, 10, 2, 10, 2, 12, 2, 60, 5, 4, 35, 26, 800, 80, 80, 80, 80, 6400, 3, 10, 12, 60, 80, 8, 8, 8, 5, 10, 12, 80, 80, 244, 26, 676, 270]
def rT (a i : Int) : Option Int :=
  if a = 2 then (if i = 0 then some 3 else if i = 1 then some 5 else if i = 2 then some 11 else if i = 3 then some 31 else if i = 4 then some 39 else if i = 5 then some 44 else if i = 6 then some 98 else if i = 7 then some 100 else if i = 8 then some 102 else if i = 9 then some 104 else if i = 10 then some 105 else none) else
  if a = 3 then (if i = 0 then some 4 else none) else
  if a = 5 then (if i = 0 then some 6 else if i = 1 then some 7 else none) else
  if a = 7 then (if i = 0 then some 8 else if i = 1 then some 9 else if i = 2 then some 10 else none) else
  if a = 11 then (if i = 0 then some 12 else if i = 1 then some 13 else if i = 2 then some 14 else none) else
  if a = 15 then (if i = 0 then some 16 else none) else
  if a = 17 then (if i = 0 then some 18 else none) else
  if a = 19 then (if i = 0 then some 20 else none) else
  if a = 21 then (if i = 0 then some 22 else none) else
  if a = 23 then (if i = 0 then some 24 else none) else
  if a = 25 then (if i = 0 then some 26 else none) else
  if a = 27 then (if i = 0 then some 28 else none) else
  if a = 29 then (if i = 0 then some 30 else none) else
  if a = 31 then (if i = 0 then some 5 else if i = 1 then some 3 else if i = 2 then some 32 else if i = 3 then some 33 else if i = 4 then some 34 else if i = 5 then some 35 else if i = 6 then some 36 else if i = 7 then some 37 else if i = 8 then some 38 else none) else
  if a = 39 then (if i = 0 then some 40 else if i = 1 then some 41 else if i = 2 then some 42 else if i = 3 then some 43 else none) else
  if a = 44 then (if i = 0 then some 45 else if i = 1 then some 46 else if i = 3 then some 73 else if i = 4 then some 85 else if i = 5 then some 97 else none) else
  if a = 98 then (if i = 0 then some 99 else none) else
  if a = 100 then (if i = 0 then some 101 else none) else
  if a = 102 then (if i = 0 then some 103 else none) else
  if a = 106 then (if i = 0 then some 107 else if i = 1 then some 108 else if i = 2 then some 109 else if i = 3 then some 110 else if i = 4 then some 111 else if i = 5 then some 112 else if i = 7 then some 113 else if i = 10 then some 114 else if i = 11 then some 115 else if i = 13 then some 116 else if i = 15 then some 117 else if i = 17 then some 118 else if i = 18 then some 119 else if i = 19 then some 120 else if i = 20 then some 121 else if i = 23 then some 122 else if i = 24 then some 123 else if i = 26 then some 124 else if i = 28 then some 125 else if i = 29 then some 126 else if i = 31 then some 127 else if i = 32 then some 128 else if i = 33 then some 129 else if i = 34 then some 130 else none) else
  none
def mkK (D : Mem) (a : Int) : Int := if a < 131 then kT.getD a.toNat 0 else if a < 131 + 3 * D 5 2 then (if (a - 131) % 3 = 0 then 18 else if (a - 131) % 3 = 1 then 15 else 1) else 0
def mkL (D : Mem) (a : Int) : Int := if a = 1 ∨ 131 ≤ a then D (-a) 1 else lT.getD a.toNat 0
def mkC (D : Mem) (a i : Int) : Int := if 131 ≤ a then (if i = 0 ∧ (a - 131) % 3 ≠ 2 ∧ a < 131 + 3 * D 5 2 then a + 1 else D a i) else
  if a = 0 then (if i = 2 then 131 + 3 * D 5 2 else D 0 i) else
  if a = 6 then (if 0 ≤ i ∧ i < D 5 2 then 131 + 3 * i else 0) else
  if a = 12 then (if 0 ≤ i ∧ i < 8 then 15 + 2 * i else 0) else
  if a = 46 then (if 0 ≤ i ∧ i < 26 then 47 + i else 0) else
  if a = 73 then (if 0 ≤ i ∧ i < 11 then 74 + i else 0) else
  if a = 85 then (if 0 ≤ i ∧ i < 11 then 86 + i else 0) else
  match rT a i with
  | some r => r
  | none => D a i
def mk (D : Mem) : Mem := fun a i => if a < 0 then (if i = 0 then mkK D (-a) else if i = 1 then mkL D (-a) else D a i) else mkC D a i
/-- what may be written -/
def dyn (a i : Int) : Prop := 0 < a ∧ (131 ≤ a → ¬ (i = 0 ∧ (a - 131) % 3 ≠ 2)) ∧ (a < 131 → a ≠ 6 ∧ a ≠ 12 ∧ a ≠ 46 ∧ a ≠ 73 ∧ a ≠ 85 ∧ rT a i = none ∧ ¬ (a = 5 ∧ i = 2))
theorem mU_mk {D : Mem} {a i v : Int} (h : dyn a i) : mU (mk D) a i v = mk (mU D a i v) := by
  obtain ⟨h0, h1, h2⟩ := h
  have e52 : ∀ b j, mU D a i v b j = if b = a ∧ j = i then v else D b j := fun _ _ => rfl
  have h52 : mU D a i v 5 2 = D 5 2 := by
    rw [e52, if_neg]
    rintro ⟨rfl, rfl⟩
    exact (h2 (by omega)).2.2.2.2.2.2 ⟨rfl, rfl⟩
  have hneg : ∀ b j, b ≤ 0 → mU D a i v b j = D b j := fun b j hb => by rw [e52, if_neg (by omega)]
  funext b j
  show (if b = a ∧ j = i then v else mk D b j) = _
  by_cases hb : b < 0
  · rw [if_neg (by omega)]
    simp only [mk, if_pos hb, mkK, mkL, h52, Int.neg_neg, hneg b _ (by omega)]
  · simp only [mk, if_neg hb, mkC, h52]
    by_cases hc : b = a ∧ j = i
    · obtain ⟨rfl, rfl⟩ := hc
      rw [if_pos ⟨rfl, rfl⟩]
      have ev : mU D b j v b j = v := by rw [e52, if_pos ⟨rfl, rfl⟩]
      by_cases h3 : 131 ≤ b
      · rw [if_pos h3, if_neg (fun q => h1 h3 ⟨q.1, q.2.1⟩), ev]
      · obtain ⟨a1, a2, a3, a4, a5, a6, a7⟩ := h2 (by omega)
        rw [if_neg h3, if_neg (by omega), if_neg a1, if_neg a2, if_neg a3, if_neg a4, if_neg a5, a6]
        exact ev.symm
    · rw [if_neg hc]
      have ev : mU D a i v b j = D b j := by rw [e52, if_neg hc]
      rw [ev]
      by_cases h3 : 131 ≤ b
      · simp only [if_pos h3]
      · simp only [if_neg h3]
        by_cases h4 : b = 0
        · subst h4; rw [if_pos rfl, if_pos rfl, hneg 0 _ (by omega)]
        · rw [if_neg h4, if_neg h4]
theorem mk_k1 (D : Mem) : mk D (-1) 0 = 1 := rfl
theorem mk_c1 (D : Mem) (i : Int) : mk D 1 i = D 1 i := rfl
theorem mk_k2 (D : Mem) : mk D (-2) 0 = 19 := rfl
theorem mk_2_0 (D : Mem) : mk D 2 0 = 3 := rfl
theorem mk_2_1 (D : Mem) : mk D 2 1 = 5 := rfl
theorem mk_2_2 (D : Mem) : mk D 2 2 = 11 := rfl
theorem mk_2_3 (D : Mem) : mk D 2 3 = 31 := rfl
theorem mk_2_4 (D : Mem) : mk D 2 4 = 39 := rfl
theorem mk_2_5 (D : Mem) : mk D 2 5 = 44 := rfl
theorem mk_2_6 (D : Mem) : mk D 2 6 = 98 := rfl
theorem mk_2_7 (D : Mem) : mk D 2 7 = 100 := rfl
theorem mk_2_8 (D : Mem) : mk D 2 8 = 102 := rfl
theorem mk_2_9 (D : Mem) : mk D 2 9 = 104 := rfl
theorem mk_2_10 (D : Mem) : mk D 2 10 = 105 := rfl
theorem mk_k3 (D : Mem) : mk D (-3) 0 = 11 := rfl
theorem mk_3_0 (D : Mem) : mk D 3 0 = 4 := rfl
theorem mk_k4 (D : Mem) : mk D (-4) 0 = 1 := rfl
theorem mk_l4 (D : Mem) : mk D (-4) 1 = 26 := rfl
theorem mk_c4 (D : Mem) (i : Int) : mk D 4 i = D 4 i := rfl
theorem mu_4 (D : Mem) (i v : Int) : mU (mk D) 4 i v = mk (mU D 4 i v) := mU_mk ⟨by decide, fun h => absurd h (by decide), fun _ => ⟨by decide, by decide, by decide, by decide, by decide, rfl, fun h => absurd h.1 (by decide)⟩⟩
theorem mk_k5 (D : Mem) : mk D (-5) 0 = 10 := rfl
theorem mk_5_0 (D : Mem) : mk D 5 0 = 6 := rfl
theorem mk_5_1 (D : Mem) : mk D 5 1 = 7 := rfl
theorem mk_5_2 (D : Mem) : mk D 5 2 = D 5 2 := rfl
theorem mk_5_3 (D : Mem) : mk D 5 3 = D 5 3 := rfl
theorem mu_5_3 (D : Mem) (v : Int) : mU (mk D) 5 3 v = mk (mU D 5 3 v) := mU_mk ⟨by decide, fun h => absurd h (by decide), fun _ => ⟨by decide, by decide, by decide, by decide, by decide, rfl, by decide⟩⟩
theorem mk_5_4 (D : Mem) : mk D 5 4 = D 5 4 := rfl
theorem mu_5_4 (D : Mem) (v : Int) : mU (mk D) 5 4 v = mk (mU D 5 4 v) := mU_mk ⟨by decide, fun h => absurd h (by decide), fun _ => ⟨by decide, by decide, by decide, by decide, by decide, rfl, by decide⟩⟩
theorem mk_k6 (D : Mem) : mk D (-6) 0 = 4 := rfl
theorem mk_l6 (D : Mem) : mk D (-6) 1 = 80 := rfl
theorem mk_c6 (D : Mem) (i : Int) : mk D 6 i = if 0 ≤ i ∧ i < D 5 2 then 131 + 3 * i else 0 := rfl
theorem mk_k7 (D : Mem) : mk D (-7) 0 = 13 := rfl
theorem mk_7_0 (D : Mem) : mk D 7 0 = 8 := rfl
theorem mk_7_1 (D : Mem) : mk D 7 1 = 9 := rfl
theorem mk_7_2 (D : Mem) : mk D 7 2 = 10 := rfl
theorem mk_7_3 (D : Mem) : mk D 7 3 = D 7 3 := rfl
theorem mu_7_3 (D : Mem) (v : Int) : mU (mk D) 7 3 v = mk (mU D 7 3 v) := mU_mk ⟨by decide, fun h => absurd h (by decide), fun _ => ⟨by decide, by decide, by decide, by decide, by decide, rfl, by decide⟩⟩
theorem mk_k8 (D : Mem) : mk D (-8) 0 = 1 := rfl
theorem mk_l8 (D : Mem) : mk D (-8) 1 = 150 := rfl
theorem mk_c8 (D : Mem) (i : Int) : mk D 8 i = D 8 i := rfl
theorem mu_8 (D : Mem) (i v : Int) : mU (mk D) 8 i v = mk (mU D 8 i v) := mU_mk ⟨by decide, fun h => absurd h (by decide), fun _ => ⟨by decide, by decide, by decide, by decide, by decide, rfl, fun h => absurd h.1 (by decide)⟩⟩
theorem mk_k9 (D : Mem) : mk D (-9) 0 = 1 := rfl
theorem mk_l9 (D : Mem) : mk D (-9) 1 = 150 := rfl
theorem mk_c9 (D : Mem) (i : Int) : mk D 9 i = D 9 i := rfl
theorem mu_9 (D : Mem) (i v : Int) : mU (mk D) 9 i v = mk (mU D 9 i v) := mU_mk ⟨by decide, fun h => absurd h (by decide), fun _ => ⟨by decide, by decide, by decide, by decide, by decide, rfl, fun h => absurd h.1 (by decide)⟩⟩
theorem mk_k10 (D : Mem) : mk D (-10) 0 = 1 := rfl
theorem mk_l10 (D : Mem) : mk D (-10) 1 = 150 := rfl
theorem mk_c10 (D : Mem) (i : Int) : mk D 10 i = D 10 i := rfl
theorem mu_10 (D : Mem) (i v : Int) : mU (mk D) 10 i v = mk (mU D 10 i v) := mU_mk ⟨by decide, fun h => absurd h (by decide), fun _ => ⟨by decide, by decide, by decide, by decide, by decide, rfl, fun h => absurd h.1 (by decide)⟩⟩
theorem mk_k11 (D : Mem) : mk D (-11) 0 = 12 := rfl
theorem mk_11_0 (D : Mem) : mk D 11 0 = 12 := rfl
theorem mk_11_1 (D : Mem) : mk D 11 1 = 13 := rfl
theorem mk_11_2 (D : Mem) : mk D 11 2 = 14 := rfl
theorem mk_11_3 (D : Mem) : mk D 11 3 = D 11 3 := rfl
theorem mu_11_3 (D : Mem) (v : Int) : mU (mk D) 11 3 v = mk (mU D 11 3 v) := mU_mk ⟨by decide, fun h => absurd h (by decide), fun _ => ⟨by decide, by decide, by decide, by decide, by decide, rfl, by decide⟩⟩
theorem mk_k12 (D : Mem) : mk D (-12) 0 = 3 := rfl
theorem mk_l12 (D : Mem) : mk D (-12) 1 = 8 := rfl
theorem mk_c12 (D : Mem) (i : Int) : mk D 12 i = if 0 ≤ i ∧ i < 8 then 15 + 2 * i else 0 := rfl
theorem mk_k13 (D : Mem) : mk D (-13) 0 = 1 := rfl
theorem mk_l13 (D : Mem) : mk D (-13) 1 = 8 := rfl
theorem mk_c13 (D : Mem) (i : Int) : mk D 13 i = D 13 i := rfl
theorem mu_13 (D : Mem) (i v : Int) : mU (mk D) 13 i v = mk (mU D 13 i v) := mU_mk ⟨by decide, fun h => absurd h (by decide), fun _ => ⟨by decide, by decide, by decide, by decide, by decide, rfl, fun h => absurd h.1 (by decide)⟩⟩
theorem mk_k14 (D : Mem) : mk D (-14) 0 = 1 := rfl
theorem mk_l14 (D : Mem) : mk D (-14) 1 = 8 := rfl
theorem mk_c14 (D : Mem) (i : Int) : mk D 14 i = D 14 i := rfl
theorem mu_14 (D : Mem) (i v : Int) : mU (mk D) 14 i v = mk (mU D 14 i v) := mU_mk ⟨by decide, fun h => absurd h (by decide), fun _ => ⟨by decide, by decide, by decide, by decide, by decide, rfl, fun h => absurd h.1 (by decide)⟩⟩
theorem mk_k15 (D : Mem) : mk D (-15) 0 = 15 := rfl
theorem mk_15_0 (D : Mem) : mk D 15 0 = 16 := rfl
theorem mk_15_1 (D : Mem) : mk D 15 1 = D 15 1 := rfl
theorem mu_15_1 (D : Mem) (v : Int) : mU (mk D) 15 1 v = mk (mU D 15 1 v) := mU_mk ⟨by decide, fun h => absurd h (by decide), fun _ => ⟨by decide, by decide, by decide, by decide, by decide, rfl, by decide⟩⟩
theorem mk_k16 (D : Mem) : mk D (-16) 0 = 1 := rfl
theorem mk_l16 (D : Mem) : mk D (-16) 1 = 10 := rfl
theorem mk_c16 (D : Mem) (i : Int) : mk D 16 i = D 16 i := rfl
theorem mu_16 (D : Mem) (i v : Int) : mU (mk D) 16 i v = mk (mU D 16 i v) := mU_mk ⟨by decide, fun h => absurd h (by decide), fun _ => ⟨by decide, by decide, by decide, by decide, by decide, rfl, fun h => absurd h.1 (by decide)⟩⟩
theorem mk_k17 (D : Mem) : mk D (-17) 0 = 15 := rfl
theorem mk_17_0 (D : Mem) : mk D 17 0 = 18 := rfl
theorem mk_17_1 (D : Mem) : mk D 17 1 = D 17 1 := rfl
theorem mu_17_1 (D : Mem) (v : Int) : mU (mk D) 17 1 v = mk (mU D 17 1 v) := mU_mk ⟨by decide, fun h => absurd h (by decide), fun _ => ⟨by decide, by decide, by decide, by decide, by decide, rfl, by decide⟩⟩
theorem mk_k18 (D : Mem) : mk D (-18) 0 = 1 := rfl
theorem mk_l18 (D : Mem) : mk D (-18) 1 = 10 := rfl
theorem mk_c18 (D : Mem) (i : Int) : mk D 18 i = D 18 i := rfl
theorem mu_18 (D : Mem) (i v : Int) : mU (mk D) 18 i v = mk (mU D 18 i v) := mU_mk ⟨by decide, fun h => absurd h (by decide), fun _ => ⟨by decide, by decide, by decide, by decide, by decide, rfl, fun h => absurd h.1 (by decide)⟩⟩
theorem mk_k19 (D : Mem) : mk D (-19) 0 = 15 := rfl
theorem mk_19_0 (D : Mem) : mk D 19 0 = 20 := rfl
theorem mk_19_1 (D : Mem) : mk D 19 1 = D 19 1 := rfl
theorem mu_19_1 (D : Mem) (v : Int) : mU (mk D) 19 1 v = mk (mU D 19 1 v) := mU_mk ⟨by decide, fun h => absurd h (by decide), fun _ => ⟨by decide, by decide, by decide, by decide, by decide, rfl, by decide⟩⟩
theorem mk_k20 (D : Mem) : mk D (-20) 0 = 1 := rfl
theorem mk_l20 (D : Mem) : mk D (-20) 1 = 10 := rfl
theorem mk_c20 (D : Mem) (i : Int) : mk D 20 i = D 20 i := rfl
theorem mu_20 (D : Mem) (i v : Int) : mU (mk D) 20 i v = mk (mU D 20 i v) := mU_mk ⟨by decide, fun h => absurd h (by decide), fun _ => ⟨by decide, by decide, by decide, by decide, by decide, rfl, fun h => absurd h.1 (by decide)⟩⟩
theorem mk_k21 (D : Mem) : mk D (-21) 0 = 15 := rfl
theorem mk_21_0 (D : Mem) : mk D 21 0 = 22 := rfl
theorem mk_21_1 (D : Mem) : mk D 21 1 = D 21 1 := rfl
theorem mu_21_1 (D : Mem) (v : Int) : mU (mk D) 21 1 v = mk (mU D 21 1 v) := mU_mk ⟨by decide, fun h => absurd h (by decide), fun _ => ⟨by decide, by decide, by decide, by decide, by decide, rfl, by decide⟩⟩
theorem mk_k22 (D : Mem) : mk D (-22) 0 = 1 := rfl
theorem mk_l22 (D : Mem) : mk D (-22) 1 = 10 := rfl
theorem mk_c22 (D : Mem) (i : Int) : mk D 22 i = D 22 i := rfl
theorem mu_22 (D : Mem) (i v : Int) : mU (mk D) 22 i v = mk (mU D 22 i v) := mU_mk ⟨by decide, fun h => absurd h (by decide), fun _ => ⟨by decide, by decide, by decide, by decide, by decide, rfl, fun h => absurd h.1 (by decide)⟩⟩
theorem mk_k23 (D : Mem) : mk D (-23) 0 = 15 := rfl
theorem mk_23_0 (D : Mem) : mk D 23 0 = 24 := rfl
theorem mk_23_1 (D : Mem) : mk D 23 1 = D 23 1 := rfl
theorem mu_23_1 (D : Mem) (v : Int) : mU (mk D) 23 1 v = mk (mU D 23 1 v) := mU_mk ⟨by decide, fun h => absurd h (by decide), fun _ => ⟨by decide, by decide, by decide, by decide, by decide, rfl, by decide⟩⟩
theorem mk_k24 (D : Mem) : mk D (-24) 0 = 1 := rfl
theorem mk_l24 (D : Mem) : mk D (-24) 1 = 10 := rfl
theorem mk_c24 (D : Mem) (i : Int) : mk D 24 i = D 24 i := rfl
theorem mu_24 (D : Mem) (i v : Int) : mU (mk D) 24 i v = mk (mU D 24 i v) := mU_mk ⟨by decide, fun h => absurd h (by decide), fun _ => ⟨by decide, by decide, by decide, by decide, by decide, rfl, fun h => absurd h.1 (by decide)⟩⟩
theorem mk_k25 (D : Mem) : mk D (-25) 0 = 15 := rfl
theorem mk_25_0 (D : Mem) : mk D 25 0 = 26 := rfl
theorem mk_25_1 (D : Mem) : mk D 25 1 = D 25 1 := rfl
theorem mu_25_1 (D : Mem) (v : Int) : mU (mk D) 25 1 v = mk (mU D 25 1 v) := mU_mk ⟨by decide, fun h => absurd h (by decide), fun _ => ⟨by decide, by decide, by decide, by decide, by decide, rfl, by decide⟩⟩
theorem mk_k26 (D : Mem) : mk D (-26) 0 = 1 := rfl
theorem mk_l26 (D : Mem) : mk D (-26) 1 = 10 := rfl
theorem mk_c26 (D : Mem) (i : Int) : mk D 26 i = D 26 i := rfl
theorem mu_26 (D : Mem) (i v : Int) : mU (mk D) 26 i v = mk (mU D 26 i v) := mU_mk ⟨by decide, fun h => absurd h (by decide), fun _ => ⟨by decide, by decide, by decide, by decide, by decide, rfl, fun h => absurd h.1 (by decide)⟩⟩
theorem mk_k27 (D : Mem) : mk D (-27) 0 = 15 := rfl
theorem mk_27_0 (D : Mem) : mk D 27 0 = 28 := rfl
theorem mk_27_1 (D : Mem) : mk D 27 1 = D 27 1 := rfl
theorem mu_27_1 (D : Mem) (v : Int) : mU (mk D) 27 1 v = mk (mU D 27 1 v) := mU_mk ⟨by decide, fun h => absurd h (by decide), fun _ => ⟨by decide, by decide, by decide, by decide, by decide, rfl, by decide⟩⟩
theorem mk_k28 (D : Mem) : mk D (-28) 0 = 1 := rfl
theorem mk_l28 (D : Mem) : mk D (-28) 1 = 10 := rfl
theorem mk_c28 (D : Mem) (i : Int) : mk D 28 i = D 28 i := rfl
theorem mu_28 (D : Mem) (i v : Int) : mU (mk D) 28 i v = mk (mU D 28 i v) := mU_mk ⟨by decide, fun h => absurd h (by decide), fun _ => ⟨by decide, by decide, by decide, by decide, by decide, rfl, fun h => absurd h.1 (by decide)⟩⟩
theorem mk_k29 (D : Mem) : mk D (-29) 0 = 15 := rfl
theorem mk_29_0 (D : Mem) : mk D 29 0 = 30 := rfl
theorem mk_29_1 (D : Mem) : mk D 29 1 = D 29 1 := rfl
theorem mu_29_1 (D : Mem) (v : Int) : mU (mk D) 29 1 v = mk (mU D 29 1 v) := mU_mk ⟨by decide, fun h => absurd h (by decide), fun _ => ⟨by decide, by decide, by decide, by decide, by decide, rfl, by decide⟩⟩
theorem mk_k30 (D : Mem) : mk D (-30) 0 = 1 := rfl
theorem mk_l30 (D : Mem) : mk D (-30) 1 = 10 := rfl
theorem mk_c30 (D : Mem) (i : Int) : mk D 30 i = D 30 i := rfl
theorem mu_30 (D : Mem) (i v : Int) : mU (mk D) 30 i v = mk (mU D 30 i v) := mU_mk ⟨by decide, fun h => absurd h (by decide), fun _ => ⟨by decide, by decide, by decide, by decide, by decide, rfl, fun h => absurd h.1 (by decide)⟩⟩
theorem mk_k31 (D : Mem) : mk D (-31) 0 = 16 := rfl
theorem mk_31_0 (D : Mem) : mk D 31 0 = 5 := rfl
theorem mk_31_1 (D : Mem) : mk D 31 1 = 3 := rfl
theorem mk_31_2 (D : Mem) : mk D 31 2 = 32 := rfl
theorem mk_31_3 (D : Mem) : mk D 31 3 = 33 := rfl
theorem mk_31_4 (D : Mem) : mk D 31 4 = 34 := rfl
theorem mk_31_5 (D : Mem) : mk D 31 5 = 35 := rfl
theorem mk_31_6 (D : Mem) : mk D 31 6 = 36 := rfl
theorem mk_31_7 (D : Mem) : mk D 31 7 = 37 := rfl
theorem mk_31_8 (D : Mem) : mk D 31 8 = 38 := rfl
theorem mk_31_9 (D : Mem) : mk D 31 9 = D 31 9 := rfl
theorem mu_31_9 (D : Mem) (v : Int) : mU (mk D) 31 9 v = mk (mU D 31 9 v) := mU_mk ⟨by decide, fun h => absurd h (by decide), fun _ => ⟨by decide, by decide, by decide, by decide, by decide, rfl, by decide⟩⟩
theorem mk_31_10 (D : Mem) : mk D 31 10 = D 31 10 := rfl
theorem mu_31_10 (D : Mem) (v : Int) : mU (mk D) 31 10 v = mk (mU D 31 10 v) := mU_mk ⟨by decide, fun h => absurd h (by decide), fun _ => ⟨by decide, by decide, by decide, by decide, by decide, rfl, by decide⟩⟩
theorem mk_k32 (D : Mem) : mk D (-32) 0 = 2 := rfl
theorem mk_l32 (D : Mem) : mk D (-32) 1 = 80 := rfl
theorem mk_c32 (D : Mem) (i : Int) : mk D 32 i = D 32 i := rfl
theorem mu_32 (D : Mem) (i v : Int) : mU (mk D) 32 i v = mk (mU D 32 i v) := mU_mk ⟨by decide, fun h => absurd h (by decide), fun _ => ⟨by decide, by decide, by decide, by decide, by decide, rfl, fun h => absurd h.1 (by decide)⟩⟩
theorem mk_k33 (D : Mem) : mk D (-33) 0 = 2 := rfl
theorem mk_l33 (D : Mem) : mk D (-33) 1 = 80 := rfl
theorem mk_c33 (D : Mem) (i : Int) : mk D 33 i = D 33 i := rfl
theorem mu_33 (D : Mem) (i v : Int) : mU (mk D) 33 i v = mk (mU D 33 i v) := mU_mk ⟨by decide, fun h => absurd h (by decide), fun _ => ⟨by decide, by decide, by decide, by decide, by decide, rfl, fun h => absurd h.1 (by decide)⟩⟩
theorem mk_k34 (D : Mem) : mk D (-34) 0 = 1 := rfl
theorem mk_l34 (D : Mem) : mk D (-34) 1 = 80 := rfl
theorem mk_c34 (D : Mem) (i : Int) : mk D 34 i = D 34 i := rfl
theorem mu_34 (D : Mem) (i v : Int) : mU (mk D) 34 i v = mk (mU D 34 i v) := mU_mk ⟨by decide, fun h => absurd h (by decide), fun _ => ⟨by decide, by decide, by decide, by decide, by decide, rfl, fun h => absurd h.1 (by decide)⟩⟩
theorem mk_k35 (D : Mem) : mk D (-35) 0 = 1 := rfl
theorem mk_l35 (D : Mem) : mk D (-35) 1 = 80 := rfl
theorem mk_c35 (D : Mem) (i : Int) : mk D 35 i = D 35 i := rfl
theorem mu_35 (D : Mem) (i v : Int) : mU (mk D) 35 i v = mk (mU D 35 i v) := mU_mk ⟨by decide, fun h => absurd h (by decide), fun _ => ⟨by decide, by decide, by decide, by decide, by decide, rfl, fun h => absurd h.1 (by decide)⟩⟩
theorem mk_k36 (D : Mem) : mk D (-36) 0 = 1 := rfl
theorem mk_l36 (D : Mem) : mk D (-36) 1 = 40 := rfl
theorem mk_c36 (D : Mem) (i : Int) : mk D 36 i = D 36 i := rfl
theorem mu_36 (D : Mem) (i v : Int) : mU (mk D) 36 i v = mk (mU D 36 i v) := mU_mk ⟨by decide, fun h => absurd h (by decide), fun _ => ⟨by decide, by decide, by decide, by decide, by decide, rfl, fun h => absurd h.1 (by decide)⟩⟩
theorem mk_k37 (D : Mem) : mk D (-37) 0 = 1 := rfl
theorem mk_l37 (D : Mem) : mk D (-37) 1 = 40 := rfl
theorem mk_c37 (D : Mem) (i : Int) : mk D 37 i = D 37 i := rfl
theorem mu_37 (D : Mem) (i v : Int) : mU (mk D) 37 i v = mk (mU D 37 i v) := mU_mk ⟨by decide, fun h => absurd h (by decide), fun _ => ⟨by decide, by decide, by decide, by decide, by decide, rfl, fun h => absurd h.1 (by decide)⟩⟩
theorem mk_k38 (D : Mem) : mk D (-38) 0 = 1 := rfl
theorem mk_l38 (D : Mem) : mk D (-38) 1 = 3 := rfl
theorem mk_c38 (D : Mem) (i : Int) : mk D 38 i = D 38 i := rfl
theorem mu_38 (D : Mem) (i v : Int) : mU (mk D) 38 i v = mk (mU D 38 i v) := mU_mk ⟨by decide, fun h => absurd h (by decide), fun _ => ⟨by decide, by decide, by decide, by decide, by decide, rfl, fun h => absurd h.1 (by decide)⟩⟩
theorem mk_k39 (D : Mem) : mk D (-39) 0 = 14 := rfl
theorem mk_39_0 (D : Mem) : mk D 39 0 = 40 := rfl
theorem mk_39_1 (D : Mem) : mk D 39 1 = 41 := rfl
theorem mk_39_2 (D : Mem) : mk D 39 2 = 42 := rfl
theorem mk_39_3 (D : Mem) : mk D 39 3 = 43 := rfl
theorem mk_k40 (D : Mem) : mk D (-40) 0 = 1 := rfl
theorem mk_l40 (D : Mem) : mk D (-40) 1 = 240 := rfl
theorem mk_c40 (D : Mem) (i : Int) : mk D 40 i = D 40 i := rfl
theorem mu_40 (D : Mem) (i v : Int) : mU (mk D) 40 i v = mk (mU D 40 i v) := mU_mk ⟨by decide, fun h => absurd h (by decide), fun _ => ⟨by decide, by decide, by decide, by decide, by decide, rfl, fun h => absurd h.1 (by decide)⟩⟩
theorem mk_k41 (D : Mem) : mk D (-41) 0 = 1 := rfl
theorem mk_l41 (D : Mem) : mk D (-41) 1 = 4 := rfl
theorem mk_c41 (D : Mem) (i : Int) : mk D 41 i = D 41 i := rfl
theorem mu_41 (D : Mem) (i v : Int) : mU (mk D) 41 i v = mk (mU D 41 i v) := mU_mk ⟨by decide, fun h => absurd h (by decide), fun _ => ⟨by decide, by decide, by decide, by decide, by decide, rfl, fun h => absurd h.1 (by decide)⟩⟩
theorem mk_k42 (D : Mem) : mk D (-42) 0 = 1 := rfl
theorem mk_l42 (D : Mem) : mk D (-42) 1 = 4 := rfl
theorem mk_c42 (D : Mem) (i : Int) : mk D 42 i = D 42 i := rfl
theorem mu_42 (D : Mem) (i v : Int) : mU (mk D) 42 i v = mk (mU D 42 i v) := mU_mk ⟨by decide, fun h => absurd h (by decide), fun _ => ⟨by decide, by decide, by decide, by decide, by decide, rfl, fun h => absurd h.1 (by decide)⟩⟩
theorem mk_k43 (D : Mem) : mk D (-43) 0 = 1 := rfl
theorem mk_l43 (D : Mem) : mk D (-43) 1 = 4 := rfl
theorem mk_c43 (D : Mem) (i : Int) : mk D 43 i = D 43 i := rfl
theorem mu_43 (D : Mem) (i v : Int) : mU (mk D) 43 i v = mk (mU D 43 i v) := mU_mk ⟨by decide, fun h => absurd h (by decide), fun _ => ⟨by decide, by decide, by decide, by decide, by decide, rfl, fun h => absurd h.1 (by decide)⟩⟩
theorem mk_k44 (D : Mem) : mk D (-44) 0 = 17 := rfl
theorem mk_44_0 (D : Mem) : mk D 44 0 = 45 := rfl
theorem mk_44_1 (D : Mem) : mk D 44 1 = 46 := rfl
theorem mk_44_2 (D : Mem) : mk D 44 2 = D 44 2 := rfl
theorem mu_44_2 (D : Mem) (v : Int) : mU (mk D) 44 2 v = mk (mU D 44 2 v) := mU_mk ⟨by decide, fun h => absurd h (by decide), fun _ => ⟨by decide, by decide, by decide, by decide, by decide, rfl, by decide⟩⟩
theorem mk_44_3 (D : Mem) : mk D 44 3 = 73 := rfl
theorem mk_44_4 (D : Mem) : mk D 44 4 = 85 := rfl
theorem mk_44_5 (D : Mem) : mk D 44 5 = 97 := rfl
theorem mk_k45 (D : Mem) : mk D (-45) 0 = 1 := rfl
theorem mk_l45 (D : Mem) : mk D (-45) 1 = 26 := rfl
theorem mk_c45 (D : Mem) (i : Int) : mk D 45 i = D 45 i := rfl
theorem mu_45 (D : Mem) (i v : Int) : mU (mk D) 45 i v = mk (mU D 45 i v) := mU_mk ⟨by decide, fun h => absurd h (by decide), fun _ => ⟨by decide, by decide, by decide, by decide, by decide, rfl, fun h => absurd h.1 (by decide)⟩⟩
theorem mk_k46 (D : Mem) : mk D (-46) 0 = 5 := rfl
theorem mk_l46 (D : Mem) : mk D (-46) 1 = 26 := rfl
theorem mk_c46 (D : Mem) (i : Int) : mk D 46 i = if 0 ≤ i ∧ i < 26 then 47 + i else 0 := rfl
theorem mk_k47 (D : Mem) : mk D (-47) 0 = 1 := rfl
theorem mk_l47 (D : Mem) : mk D (-47) 1 = 26 := rfl
theorem mk_c47 (D : Mem) (i : Int) : mk D 47 i = D 47 i := rfl
theorem mu_47 (D : Mem) (i v : Int) : mU (mk D) 47 i v = mk (mU D 47 i v) := mU_mk ⟨by decide, fun h => absurd h (by decide), fun _ => ⟨by decide, by decide, by decide, by decide, by decide, rfl, fun h => absurd h.1 (by decide)⟩⟩
theorem mk_k48 (D : Mem) : mk D (-48) 0 = 1 := rfl
theorem mk_l48 (D : Mem) : mk D (-48) 1 = 26 := rfl
theorem mk_c48 (D : Mem) (i : Int) : mk D 48 i = D 48 i := rfl
theorem mu_48 (D : Mem) (i v : Int) : mU (mk D) 48 i v = mk (mU D 48 i v) := mU_mk ⟨by decide, fun h => absurd h (by decide), fun _ => ⟨by decide, by decide, by decide, by decide, by decide, rfl, fun h => absurd h.1 (by decide)⟩⟩
theorem mk_k49 (D : Mem) : mk D (-49) 0 = 1 := rfl
theorem mk_l49 (D : Mem) : mk D (-49) 1 = 26 := rfl
theorem mk_c49 (D : Mem) (i : Int) : mk D 49 i = D 49 i := rfl
theorem mu_49 (D : Mem) (i v : Int) : mU (mk D) 49 i v = mk (mU D 49 i v) := mU_mk ⟨by decide, fun h => absurd h (by decide), fun _ => ⟨by decide, by decide, by decide, by decide, by decide, rfl, fun h => absurd h.1 (by decide)⟩⟩
theorem mk_k50 (D : Mem) : mk D (-50) 0 = 1 := rfl
theorem mk_l50 (D : Mem) : mk D (-50) 1 = 26 := rfl
theorem mk_c50 (D : Mem) (i : Int) : mk D 50 i = D 50 i := rfl
theorem mu_50 (D : Mem) (i v : Int) : mU (mk D) 50 i v = mk (mU D 50 i v) := mU_mk ⟨by decide, fun h => absurd h (by decide), fun _ => ⟨by decide, by decide, by decide, by decide, by decide, rfl, fun h => absurd h.1 (by decide)⟩⟩
theorem mk_k51 (D : Mem) : mk D (-51) 0 = 1 := rfl
theorem mk_l51 (D : Mem) : mk D (-51) 1 = 26 := rfl
theorem mk_c51 (D : Mem) (i : Int) : mk D 51 i = D 51 i := rfl
theorem mu_51 (D : Mem) (i v : Int) : mU (mk D) 51 i v = mk (mU D 51 i v) := mU_mk ⟨by decide, fun h => absurd h (by decide), fun _ => ⟨by decide, by decide, by decide, by decide, by decide, rfl, fun h => absurd h.1 (by decide)⟩⟩
theorem mk_k52 (D : Mem) : mk D (-52) 0 = 1 := rfl
theorem mk_l52 (D : Mem) : mk D (-52) 1 = 26 := rfl
theorem mk_c52 (D : Mem) (i : Int) : mk D 52 i = D 52 i := rfl
theorem mu_52 (D : Mem) (i v : Int) : mU (mk D) 52 i v = mk (mU D 52 i v) := mU_mk ⟨by decide, fun h => absurd h (by decide), fun _ => ⟨by decide, by decide, by decide, by decide, by decide, rfl, fun h => absurd h.1 (by decide)⟩⟩
theorem mk_k53 (D : Mem) : mk D (-53) 0 = 1 := rfl
theorem mk_l53 (D : Mem) : mk D (-53) 1 = 26 := rfl
theorem mk_c53 (D : Mem) (i : Int) : mk D 53 i = D 53 i := rfl
theorem mu_53 (D : Mem) (i v : Int) : mU (mk D) 53 i v = mk (mU D 53 i v) := mU_mk ⟨by decide, fun h => absurd h (by decide), fun _ => ⟨by decide, by decide, by decide, by decide, by decide, rfl, fun h => absurd h.1 (by decide)⟩⟩
theorem mk_k54 (D : Mem) : mk D (-54) 0 = 1 := rfl
theorem mk_l54 (D : Mem) : mk D (-54) 1 = 26 := rfl
theorem mk_c54 (D : Mem) (i : Int) : mk D 54 i = D 54 i := rfl
theorem mu_54 (D : Mem) (i v : Int) : mU (mk D) 54 i v = mk (mU D 54 i v) := mU_mk ⟨by decide, fun h => absurd h (by decide), fun _ => ⟨by decide, by decide, by decide, by decide, by decide, rfl, fun h => absurd h.1 (by decide)⟩⟩
theorem mk_k55 (D : Mem) : mk D (-55) 0 = 1 := rfl
theorem mk_l55 (D : Mem) : mk D (-55) 1 = 26 := rfl
theorem mk_c55 (D : Mem) (i : Int) : mk D 55 i = D 55 i := rfl
theorem mu_55 (D : Mem) (i v : Int) : mU (mk D) 55 i v = mk (mU D 55 i v) := mU_mk ⟨by decide, fun h => absurd h (by decide), fun _ => ⟨by decide, by decide, by decide, by decide, by decide, rfl, fun h => absurd h.1 (by decide)⟩⟩
theorem mk_k56 (D : Mem) : mk D (-56) 0 = 1 := rfl
theorem mk_l56 (D : Mem) : mk D (-56) 1 = 26 := rfl
theorem mk_c56 (D : Mem) (i : Int) : mk D 56 i = D 56 i := rfl
theorem mu_56 (D : Mem) (i v : Int) : mU (mk D) 56 i v = mk (mU D 56 i v) := mU_mk ⟨by decide, fun h => absurd h (by decide), fun _ => ⟨by decide, by decide, by decide, by decide, by decide, rfl, fun h => absurd h.1 (by decide)⟩⟩
theorem mk_k57 (D : Mem) : mk D (-57) 0 = 1 := rfl
theorem mk_l57 (D : Mem) : mk D (-57) 1 = 26 := rfl
theorem mk_c57 (D : Mem) (i : Int) : mk D 57 i = D 57 i := rfl
theorem mu_57 (D : Mem) (i v : Int) : mU (mk D) 57 i v = mk (mU D 57 i v) := mU_mk ⟨by decide, fun h => absurd h (by decide), fun _ => ⟨by decide, by decide, by decide, by decide, by decide, rfl, fun h => absurd h.1 (by decide)⟩⟩
theorem mk_k58 (D : Mem) : mk D (-58) 0 = 1 := rfl
theorem mk_l58 (D : Mem) : mk D (-58) 1 = 26 := rfl
theorem mk_c58 (D : Mem) (i : Int) : mk D 58 i = D 58 i := rfl
theorem mu_58 (D : Mem) (i v : Int) : mU (mk D) 58 i v = mk (mU D 58 i v) := mU_mk ⟨by decide, fun h => absurd h (by decide), fun _ => ⟨by decide, by decide, by decide, by decide, by decide, rfl, fun h => absurd h.1 (by decide)⟩⟩
theorem mk_k59 (D : Mem) : mk D (-59) 0 = 1 := rfl
theorem mk_l59 (D : Mem) : mk D (-59) 1 = 26 := rfl
theorem mk_c59 (D : Mem) (i : Int) : mk D 59 i = D 59 i := rfl
theorem mu_59 (D : Mem) (i v : Int) : mU (mk D) 59 i v = mk (mU D 59 i v) := mU_mk ⟨by decide, fun h => absurd h (by decide), fun _ => ⟨by decide, by decide, by decide, by decide, by decide, rfl, fun h => absurd h.1 (by decide)⟩⟩
theorem mk_k60 (D : Mem) : mk D (-60) 0 = 1 := rfl
theorem mk_l60 (D : Mem) : mk D (-60) 1 = 26 := rfl
theorem mk_c60 (D : Mem) (i : Int) : mk D 60 i = D 60 i := rfl
theorem mu_60 (D : Mem) (i v : Int) : mU (mk D) 60 i v = mk (mU D 60 i v) := mU_mk ⟨by decide, fun h => absurd h (by decide), fun _ => ⟨by decide, by decide, by decide, by decide, by decide, rfl, fun h => absurd h.1 (by decide)⟩⟩
theorem mk_k61 (D : Mem) : mk D (-61) 0 = 1 := rfl
theorem mk_l61 (D : Mem) : mk D (-61) 1 = 26 := rfl
theorem mk_c61 (D : Mem) (i : Int) : mk D 61 i = D 61 i := rfl
theorem mu_61 (D : Mem) (i v : Int) : mU (mk D) 61 i v = mk (mU D 61 i v) := mU_mk ⟨by decide, fun h => absurd h (by decide), fun _ => ⟨by decide, by decide, by decide, by decide, by decide, rfl, fun h => absurd h.1 (by decide)⟩⟩
theorem mk_k62 (D : Mem) : mk D (-62) 0 = 1 := rfl
theorem mk_l62 (D : Mem) : mk D (-62) 1 = 26 := rfl
theorem mk_c62 (D : Mem) (i : Int) : mk D 62 i = D 62 i := rfl
theorem mu_62 (D : Mem) (i v : Int) : mU (mk D) 62 i v = mk (mU D 62 i v) := mU_mk ⟨by decide, fun h => absurd h (by decide), fun _ => ⟨by decide, by decide, by decide, by decide, by decide, rfl, fun h => absurd h.1 (by decide)⟩⟩
theorem mk_k63 (D : Mem) : mk D (-63) 0 = 1 := rfl
theorem mk_l63 (D : Mem) : mk D (-63) 1 = 26 := rfl
theorem mk_c63 (D : Mem) (i : Int) : mk D 63 i = D 63 i := rfl
theorem mu_63 (D : Mem) (i v : Int) : mU (mk D) 63 i v = mk (mU D 63 i v) := mU_mk ⟨by decide, fun h => absurd h (by decide), fun _ => ⟨by decide, by decide, by decide, by decide, by decide, rfl, fun h => absurd h.1 (by decide)⟩⟩
theorem mk_k64 (D : Mem) : mk D (-64) 0 = 1 := rfl
theorem mk_l64 (D : Mem) : mk D (-64) 1 = 26 := rfl
theorem mk_c64 (D : Mem) (i : Int) : mk D 64 i = D 64 i := rfl
theorem mu_64 (D : Mem) (i v : Int) : mU (mk D) 64 i v = mk (mU D 64 i v) := mU_mk ⟨by decide, fun h => absurd h (by decide), fun _ => ⟨by decide, by decide, by decide, by decide, by decide, rfl, fun h => absurd h.1 (by decide)⟩⟩
theorem mk_k65 (D : Mem) : mk D (-65) 0 = 1 := rfl
theorem mk_l65 (D : Mem) : mk D (-65) 1 = 26 := rfl
theorem mk_c65 (D : Mem) (i : Int) : mk D 65 i = D 65 i := rfl
theorem mu_65 (D : Mem) (i v : Int) : mU (mk D) 65 i v = mk (mU D 65 i v) := mU_mk ⟨by decide, fun h => absurd h (by decide), fun _ => ⟨by decide, by decide, by decide, by decide, by decide, rfl, fun h => absurd h.1 (by decide)⟩⟩
theorem mk_k66 (D : Mem) : mk D (-66) 0 = 1 := rfl
theorem mk_l66 (D : Mem) : mk D (-66) 1 = 26 := rfl
theorem mk_c66 (D : Mem) (i : Int) : mk D 66 i = D 66 i := rfl
theorem mu_66 (D : Mem) (i v : Int) : mU (mk D) 66 i v = mk (mU D 66 i v) := mU_mk ⟨by decide, fun h => absurd h (by decide), fun _ => ⟨by decide, by decide, by decide, by decide, by decide, rfl, fun h => absurd h.1 (by decide)⟩⟩
theorem mk_k67 (D : Mem) : mk D (-67) 0 = 1 := rfl
theorem mk_l67 (D : Mem) : mk D (-67) 1 = 26 := rfl
theorem mk_c67 (D : Mem) (i : Int) : mk D 67 i = D 67 i := rfl
theorem mu_67 (D : Mem) (i v : Int) : mU (mk D) 67 i v = mk (mU D 67 i v) := mU_mk ⟨by decide, fun h => absurd h (by decide), fun _ => ⟨by decide, by decide, by decide, by decide, by decide, rfl, fun h => absurd h.1 (by decide)⟩⟩
theorem mk_k68 (D : Mem) : mk D (-68) 0 = 1 := rfl
theorem mk_l68 (D : Mem) : mk D (-68) 1 = 26 := rfl
theorem mk_c68 (D : Mem) (i : Int) : mk D 68 i = D 68 i := rfl
theorem mu_68 (D : Mem) (i v : Int) : mU (mk D) 68 i v = mk (mU D 68 i v) := mU_mk ⟨by decide, fun h => absurd h (by decide), fun _ => ⟨by decide, by decide, by decide, by decide, by decide, rfl, fun h => absurd h.1 (by decide)⟩⟩
theorem mk_k69 (D : Mem) : mk D (-69) 0 = 1 := rfl
theorem mk_l69 (D : Mem) : mk D (-69) 1 = 26 := rfl
theorem mk_c69 (D : Mem) (i : Int) : mk D 69 i = D 69 i := rfl
theorem mu_69 (D : Mem) (i v : Int) : mU (mk D) 69 i v = mk (mU D 69 i v) := mU_mk ⟨by decide, fun h => absurd h (by decide), fun _ => ⟨by decide, by decide, by decide, by decide, by decide, rfl, fun h => absurd h.1 (by decide)⟩⟩
theorem mk_k70 (D : Mem) : mk D (-70) 0 = 1 := rfl
theorem mk_l70 (D : Mem) : mk D (-70) 1 = 26 := rfl
theorem mk_c70 (D : Mem) (i : Int) : mk D 70 i = D 70 i := rfl
theorem mu_70 (D : Mem) (i v : Int) : mU (mk D) 70 i v = mk (mU D 70 i v) := mU_mk ⟨by decide, fun h => absurd h (by decide), fun _ => ⟨by decide, by decide, by decide, by decide, by decide, rfl, fun h => absurd h.1 (by decide)⟩⟩
theorem mk_k71 (D : Mem) : mk D (-71) 0 = 1 := rfl
theorem mk_l71 (D : Mem) : mk D (-71) 1 = 26 := rfl
theorem mk_c71 (D : Mem) (i : Int) : mk D 71 i = D 71 i := rfl
theorem mu_71 (D : Mem) (i v : Int) : mU (mk D) 71 i v = mk (mU D 71 i v) := mU_mk ⟨by decide, fun h => absurd h (by decide), fun _ => ⟨by decide, by decide, by decide, by decide, by decide, rfl, fun h => absurd h.1 (by decide)⟩⟩
theorem mk_k72 (D : Mem) : mk D (-72) 0 = 1 := rfl
theorem mk_l72 (D : Mem) : mk D (-72) 1 = 26 := rfl
theorem mk_c72 (D : Mem) (i : Int) : mk D 72 i = D 72 i := rfl
theorem mu_72 (D : Mem) (i v : Int) : mU (mk D) 72 i v = mk (mU D 72 i v) := mU_mk ⟨by decide, fun h => absurd h (by decide), fun _ => ⟨by decide, by decide, by decide, by decide, by decide, rfl, fun h => absurd h.1 (by decide)⟩⟩
theorem mk_k73 (D : Mem) : mk D (-73) 0 = 5 := rfl
theorem mk_l73 (D : Mem) : mk D (-73) 1 = 11 := rfl
theorem mk_c73 (D : Mem) (i : Int) : mk D 73 i = if 0 ≤ i ∧ i < 11 then 74 + i else 0 := rfl
theorem mk_k74 (D : Mem) : mk D (-74) 0 = 1 := rfl
theorem mk_l74 (D : Mem) : mk D (-74) 1 = 27 := rfl
theorem mk_c74 (D : Mem) (i : Int) : mk D 74 i = D 74 i := rfl
theorem mu_74 (D : Mem) (i v : Int) : mU (mk D) 74 i v = mk (mU D 74 i v) := mU_mk ⟨by decide, fun h => absurd h (by decide), fun _ => ⟨by decide, by decide, by decide, by decide, by decide, rfl, fun h => absurd h.1 (by decide)⟩⟩
theorem mk_k75 (D : Mem) : mk D (-75) 0 = 1 := rfl
theorem mk_l75 (D : Mem) : mk D (-75) 1 = 27 := rfl
theorem mk_c75 (D : Mem) (i : Int) : mk D 75 i = D 75 i := rfl
theorem mu_75 (D : Mem) (i v : Int) : mU (mk D) 75 i v = mk (mU D 75 i v) := mU_mk ⟨by decide, fun h => absurd h (by decide), fun _ => ⟨by decide, by decide, by decide, by decide, by decide, rfl, fun h => absurd h.1 (by decide)⟩⟩
theorem mk_k76 (D : Mem) : mk D (-76) 0 = 1 := rfl
theorem mk_l76 (D : Mem) : mk D (-76) 1 = 27 := rfl
theorem mk_c76 (D : Mem) (i : Int) : mk D 76 i = D 76 i := rfl
theorem mu_76 (D : Mem) (i v : Int) : mU (mk D) 76 i v = mk (mU D 76 i v) := mU_mk ⟨by decide, fun h => absurd h (by decide), fun _ => ⟨by decide, by decide, by decide, by decide, by decide, rfl, fun h => absurd h.1 (by decide)⟩⟩
theorem mk_k77 (D : Mem) : mk D (-77) 0 = 1 := rfl
theorem mk_l77 (D : Mem) : mk D (-77) 1 = 27 := rfl
theorem mk_c77 (D : Mem) (i : Int) : mk D 77 i = D 77 i := rfl
theorem mu_77 (D : Mem) (i v : Int) : mU (mk D) 77 i v = mk (mU D 77 i v) := mU_mk ⟨by decide, fun h => absurd h (by decide), fun _ => ⟨by decide, by decide, by decide, by decide, by decide, rfl, fun h => absurd h.1 (by decide)⟩⟩
theorem mk_k78 (D : Mem) : mk D (-78) 0 = 1 := rfl
theorem mk_l78 (D : Mem) : mk D (-78) 1 = 27 := rfl
theorem mk_c78 (D : Mem) (i : Int) : mk D 78 i = D 78 i := rfl
theorem mu_78 (D : Mem) (i v : Int) : mU (mk D) 78 i v = mk (mU D 78 i v) := mU_mk ⟨by decide, fun h => absurd h (by decide), fun _ => ⟨by decide, by decide, by decide, by decide, by decide, rfl, fun h => absurd h.1 (by decide)⟩⟩
theorem mk_k79 (D : Mem) : mk D (-79) 0 = 1 := rfl
theorem mk_l79 (D : Mem) : mk D (-79) 1 = 27 := rfl
theorem mk_c79 (D : Mem) (i : Int) : mk D 79 i = D 79 i := rfl
theorem mu_79 (D : Mem) (i v : Int) : mU (mk D) 79 i v = mk (mU D 79 i v) := mU_mk ⟨by decide, fun h => absurd h (by decide), fun _ => ⟨by decide, by decide, by decide, by decide, by decide, rfl, fun h => absurd h.1 (by decide)⟩⟩
theorem mk_k80 (D : Mem) : mk D (-80) 0 = 1 := rfl
theorem mk_l80 (D : Mem) : mk D (-80) 1 = 27 := rfl
theorem mk_c80 (D : Mem) (i : Int) : mk D 80 i = D 80 i := rfl
theorem mu_80 (D : Mem) (i v : Int) : mU (mk D) 80 i v = mk (mU D 80 i v) := mU_mk ⟨by decide, fun h => absurd h (by decide), fun _ => ⟨by decide, by decide, by decide, by decide, by decide, rfl, fun h => absurd h.1 (by decide)⟩⟩
theorem mk_k81 (D : Mem) : mk D (-81) 0 = 1 := rfl
theorem mk_l81 (D : Mem) : mk D (-81) 1 = 27 := rfl
theorem mk_c81 (D : Mem) (i : Int) : mk D 81 i = D 81 i := rfl
theorem mu_81 (D : Mem) (i v : Int) : mU (mk D) 81 i v = mk (mU D 81 i v) := mU_mk ⟨by decide, fun h => absurd h (by decide), fun _ => ⟨by decide, by decide, by decide, by decide, by decide, rfl, fun h => absurd h.1 (by decide)⟩⟩
theorem mk_k82 (D : Mem) : mk D (-82) 0 = 1 := rfl
theorem mk_l82 (D : Mem) : mk D (-82) 1 = 27 := rfl
theorem mk_c82 (D : Mem) (i : Int) : mk D 82 i = D 82 i := rfl
theorem mu_82 (D : Mem) (i v : Int) : mU (mk D) 82 i v = mk (mU D 82 i v) := mU_mk ⟨by decide, fun h => absurd h (by decide), fun _ => ⟨by decide, by decide, by decide, by decide, by decide, rfl, fun h => absurd h.1 (by decide)⟩⟩
theorem mk_k83 (D : Mem) : mk D (-83) 0 = 1 := rfl
theorem mk_l83 (D : Mem) : mk D (-83) 1 = 27 := rfl
theorem mk_c83 (D : Mem) (i : Int) : mk D 83 i = D 83 i := rfl
theorem mu_83 (D : Mem) (i v : Int) : mU (mk D) 83 i v = mk (mU D 83 i v) := mU_mk ⟨by decide, fun h => absurd h (by decide), fun _ => ⟨by decide, by decide, by decide, by decide, by decide, rfl, fun h => absurd h.1 (by decide)⟩⟩
theorem mk_k84 (D : Mem) : mk D (-84) 0 = 1 := rfl
theorem mk_l84 (D : Mem) : mk D (-84) 1 = 27 := rfl
theorem mk_c84 (D : Mem) (i : Int) : mk D 84 i = D 84 i := rfl
theorem mu_84 (D : Mem) (i v : Int) : mU (mk D) 84 i v = mk (mU D 84 i v) := mU_mk ⟨by decide, fun h => absurd h (by decide), fun _ => ⟨by decide, by decide, by decide, by decide, by decide, rfl, fun h => absurd h.1 (by decide)⟩⟩
theorem mk_k85 (D : Mem) : mk D (-85) 0 = 5 := rfl
theorem mk_l85 (D : Mem) : mk D (-85) 1 = 11 := rfl
theorem mk_c85 (D : Mem) (i : Int) : mk D 85 i = if 0 ≤ i ∧ i < 11 then 86 + i else 0 := rfl
theorem mk_k86 (D : Mem) : mk D (-86) 0 = 1 := rfl
theorem mk_l86 (D : Mem) : mk D (-86) 1 = 27 := rfl
theorem mk_c86 (D : Mem) (i : Int) : mk D 86 i = D 86 i := rfl
theorem mu_86 (D : Mem) (i v : Int) : mU (mk D) 86 i v = mk (mU D 86 i v) := mU_mk ⟨by decide, fun h => absurd h (by decide), fun _ => ⟨by decide, by decide, by decide, by decide, by decide, rfl, fun h => absurd h.1 (by decide)⟩⟩
theorem mk_k87 (D : Mem) : mk D (-87) 0 = 1 := rfl
theorem mk_l87 (D : Mem) : mk D (-87) 1 = 27 := rfl
theorem mk_c87 (D : Mem) (i : Int) : mk D 87 i = D 87 i := rfl
theorem mu_87 (D : Mem) (i v : Int) : mU (mk D) 87 i v = mk (mU D 87 i v) := mU_mk ⟨by decide, fun h => absurd h (by decide), fun _ => ⟨by decide, by decide, by decide, by decide, by decide, rfl, fun h => absurd h.1 (by decide)⟩⟩
theorem mk_k88 (D : Mem) : mk D (-88) 0 = 1 := rfl
theorem mk_l88 (D : Mem) : mk D (-88) 1 = 27 := rfl
theorem mk_c88 (D : Mem) (i : Int) : mk D 88 i = D 88 i := rfl
theorem mu_88 (D : Mem) (i v : Int) : mU (mk D) 88 i v = mk (mU D 88 i v) := mU_mk ⟨by decide, fun h => absurd h (by decide), fun _ => ⟨by decide, by decide, by decide, by decide, by decide, rfl, fun h => absurd h.1 (by decide)⟩⟩
theorem mk_k89 (D : Mem) : mk D (-89) 0 = 1 := rfl
theorem mk_l89 (D : Mem) : mk D (-89) 1 = 27 := rfl
theorem mk_c89 (D : Mem) (i : Int) : mk D 89 i = D 89 i := rfl
theorem mu_89 (D : Mem) (i v : Int) : mU (mk D) 89 i v = mk (mU D 89 i v) := mU_mk ⟨by decide, fun h => absurd h (by decide), fun _ => ⟨by decide, by decide, by decide, by decide, by decide, rfl, fun h => absurd h.1 (by decide)⟩⟩
theorem mk_k90 (D : Mem) : mk D (-90) 0 = 1 := rfl
theorem mk_l90 (D : Mem) : mk D (-90) 1 = 27 := rfl
theorem mk_c90 (D : Mem) (i : Int) : mk D 90 i = D 90 i := rfl
theorem mu_90 (D : Mem) (i v : Int) : mU (mk D) 90 i v = mk (mU D 90 i v) := mU_mk ⟨by decide, fun h => absurd h (by decide), fun _ => ⟨by decide, by decide, by decide, by decide, by decide, rfl, fun h => absurd h.1 (by decide)⟩⟩
theorem mk_k91 (D : Mem) : mk D (-91) 0 = 1 := rfl
theorem mk_l91 (D : Mem) : mk D (-91) 1 = 27 := rfl
theorem mk_c91 (D : Mem) (i : Int) : mk D 91 i = D 91 i := rfl
theorem mu_91 (D : Mem) (i v : Int) : mU (mk D) 91 i v = mk (mU D 91 i v) := mU_mk ⟨by decide, fun h => absurd h (by decide), fun _ => ⟨by decide, by decide, by decide, by decide, by decide, rfl, fun h => absurd h.1 (by decide)⟩⟩
theorem mk_k92 (D : Mem) : mk D (-92) 0 = 1 := rfl
theorem mk_l92 (D : Mem) : mk D (-92) 1 = 27 := rfl
theorem mk_c92 (D : Mem) (i : Int) : mk D 92 i = D 92 i := rfl
theorem mu_92 (D : Mem) (i v : Int) : mU (mk D) 92 i v = mk (mU D 92 i v) := mU_mk ⟨by decide, fun h => absurd h (by decide), fun _ => ⟨by decide, by decide, by decide, by decide, by decide, rfl, fun h => absurd h.1 (by decide)⟩⟩
theorem mk_k93 (D : Mem) : mk D (-93) 0 = 1 := rfl
theorem mk_l93 (D : Mem) : mk D (-93) 1 = 27 := rfl
theorem mk_c93 (D : Mem) (i : Int) : mk D 93 i = D 93 i := rfl
theorem mu_93 (D : Mem) (i v : Int) : mU (mk D) 93 i v = mk (mU D 93 i v) := mU_mk ⟨by decide, fun h => absurd h (by decide), fun _ => ⟨by decide, by decide, by decide, by decide, by decide, rfl, fun h => absurd h.1 (by decide)⟩⟩
theorem mk_k94 (D : Mem) : mk D (-94) 0 = 1 := rfl
theorem mk_l94 (D : Mem) : mk D (-94) 1 = 27 := rfl
theorem mk_c94 (D : Mem) (i : Int) : mk D 94 i = D 94 i := rfl
theorem mu_94 (D : Mem) (i v : Int) : mU (mk D) 94 i v = mk (mU D 94 i v) := mU_mk ⟨by decide, fun h => absurd h (by decide), fun _ => ⟨by decide, by decide, by decide, by decide, by decide, rfl, fun h => absurd h.1 (by decide)⟩⟩
theorem mk_k95 (D : Mem) : mk D (-95) 0 = 1 := rfl
theorem mk_l95 (D : Mem) : mk D (-95) 1 = 27 := rfl
theorem mk_c95 (D : Mem) (i : Int) : mk D 95 i = D 95 i := rfl
theorem mu_95 (D : Mem) (i v : Int) : mU (mk D) 95 i v = mk (mU D 95 i v) := mU_mk ⟨by decide, fun h => absurd h (by decide), fun _ => ⟨by decide, by decide, by decide, by decide, by decide, rfl, fun h => absurd h.1 (by decide)⟩⟩
theorem mk_k96 (D : Mem) : mk D (-96) 0 = 1 := rfl
theorem mk_l96 (D : Mem) : mk D (-96) 1 = 27 := rfl
theorem mk_c96 (D : Mem) (i : Int) : mk D 96 i = D 96 i := rfl
theorem mu_96 (D : Mem) (i v : Int) : mU (mk D) 96 i v = mk (mU D 96 i v) := mU_mk ⟨by decide, fun h => absurd h (by decide), fun _ => ⟨by decide, by decide, by decide, by decide, by decide, rfl, fun h => absurd h.1 (by decide)⟩⟩
theorem mk_k97 (D : Mem) : mk D (-97) 0 = 1 := rfl
theorem mk_l97 (D : Mem) : mk D (-97) 1 = 10 := rfl
theorem mk_c97 (D : Mem) (i : Int) : mk D 97 i = D 97 i := rfl
theorem mu_97 (D : Mem) (i v : Int) : mU (mk D) 97 i v = mk (mU D 97 i v) := mU_mk ⟨by decide, fun h => absurd h (by decide), fun _ => ⟨by decide, by decide, by decide, by decide, by decide, rfl, fun h => absurd h.1 (by decide)⟩⟩
theorem mk_k98 (D : Mem) : mk D (-98) 0 = 15 := rfl
theorem mk_98_0 (D : Mem) : mk D 98 0 = 99 := rfl
theorem mk_98_1 (D : Mem) : mk D 98 1 = D 98 1 := rfl
theorem mu_98_1 (D : Mem) (v : Int) : mU (mk D) 98 1 v = mk (mU D 98 1 v) := mU_mk ⟨by decide, fun h => absurd h (by decide), fun _ => ⟨by decide, by decide, by decide, by decide, by decide, rfl, by decide⟩⟩
theorem mk_k99 (D : Mem) : mk D (-99) 0 = 1 := rfl
theorem mk_l99 (D : Mem) : mk D (-99) 1 = 10 := rfl
theorem mk_c99 (D : Mem) (i : Int) : mk D 99 i = D 99 i := rfl
theorem mu_99 (D : Mem) (i v : Int) : mU (mk D) 99 i v = mk (mU D 99 i v) := mU_mk ⟨by decide, fun h => absurd h (by decide), fun _ => ⟨by decide, by decide, by decide, by decide, by decide, rfl, fun h => absurd h.1 (by decide)⟩⟩
theorem mk_k100 (D : Mem) : mk D (-100) 0 = 15 := rfl
theorem mk_100_0 (D : Mem) : mk D 100 0 = 101 := rfl
theorem mk_100_1 (D : Mem) : mk D 100 1 = D 100 1 := rfl
theorem mu_100_1 (D : Mem) (v : Int) : mU (mk D) 100 1 v = mk (mU D 100 1 v) := mU_mk ⟨by decide, fun h => absurd h (by decide), fun _ => ⟨by decide, by decide, by decide, by decide, by decide, rfl, by decide⟩⟩
theorem mk_k101 (D : Mem) : mk D (-101) 0 = 1 := rfl
theorem mk_l101 (D : Mem) : mk D (-101) 1 = 12 := rfl
theorem mk_c101 (D : Mem) (i : Int) : mk D 101 i = D 101 i := rfl
theorem mu_101 (D : Mem) (i v : Int) : mU (mk D) 101 i v = mk (mU D 101 i v) := mU_mk ⟨by decide, fun h => absurd h (by decide), fun _ => ⟨by decide, by decide, by decide, by decide, by decide, rfl, fun h => absurd h.1 (by decide)⟩⟩
theorem mk_k102 (D : Mem) : mk D (-102) 0 = 15 := rfl
theorem mk_102_0 (D : Mem) : mk D 102 0 = 103 := rfl
theorem mk_102_1 (D : Mem) : mk D 102 1 = D 102 1 := rfl
theorem mu_102_1 (D : Mem) (v : Int) : mU (mk D) 102 1 v = mk (mU D 102 1 v) := mU_mk ⟨by decide, fun h => absurd h (by decide), fun _ => ⟨by decide, by decide, by decide, by decide, by decide, rfl, by decide⟩⟩
theorem mk_k103 (D : Mem) : mk D (-103) 0 = 1 := rfl
theorem mk_l103 (D : Mem) : mk D (-103) 1 = 60 := rfl
theorem mk_c103 (D : Mem) (i : Int) : mk D 103 i = D 103 i := rfl
theorem mu_103 (D : Mem) (i v : Int) : mU (mk D) 103 i v = mk (mU D 103 i v) := mU_mk ⟨by decide, fun h => absurd h (by decide), fun _ => ⟨by decide, by decide, by decide, by decide, by decide, rfl, fun h => absurd h.1 (by decide)⟩⟩
theorem mk_k104 (D : Mem) : mk D (-104) 0 = 1 := rfl
theorem mk_l104 (D : Mem) : mk D (-104) 1 = 5 := rfl
theorem mk_c104 (D : Mem) (i : Int) : mk D 104 i = D 104 i := rfl
theorem mu_104 (D : Mem) (i v : Int) : mU (mk D) 104 i v = mk (mU D 104 i v) := mU_mk ⟨by decide, fun h => absurd h (by decide), fun _ => ⟨by decide, by decide, by decide, by decide, by decide, rfl, fun h => absurd h.1 (by decide)⟩⟩
theorem mk_k105 (D : Mem) : mk D (-105) 0 = 1 := rfl
theorem mk_l105 (D : Mem) : mk D (-105) 1 = 4 := rfl
theorem mk_c105 (D : Mem) (i : Int) : mk D 105 i = D 105 i := rfl
theorem mu_105 (D : Mem) (i v : Int) : mU (mk D) 105 i v = mk (mU D 105 i v) := mU_mk ⟨by decide, fun h => absurd h (by decide), fun _ => ⟨by decide, by decide, by decide, by decide, by decide, rfl, fun h => absurd h.1 (by decide)⟩⟩
theorem mk_k106 (D : Mem) : mk D (-106) 0 = 20 := rfl
theorem mk_106_0 (D : Mem) : mk D 106 0 = 107 := rfl
theorem mk_106_1 (D : Mem) : mk D 106 1 = 108 := rfl
theorem mk_106_2 (D : Mem) : mk D 106 2 = 109 := rfl
theorem mk_106_3 (D : Mem) : mk D 106 3 = 110 := rfl
theorem mk_106_4 (D : Mem) : mk D 106 4 = 111 := rfl
theorem mk_106_5 (D : Mem) : mk D 106 5 = 112 := rfl
theorem mk_106_6 (D : Mem) : mk D 106 6 = D 106 6 := rfl
theorem mu_106_6 (D : Mem) (v : Int) : mU (mk D) 106 6 v = mk (mU D 106 6 v) := mU_mk ⟨by decide, fun h => absurd h (by decide), fun _ => ⟨by decide, by decide, by decide, by decide, by decide, rfl, by decide⟩⟩
theorem mk_106_7 (D : Mem) : mk D 106 7 = 113 := rfl
theorem mk_106_8 (D : Mem) : mk D 106 8 = D 106 8 := rfl
theorem mu_106_8 (D : Mem) (v : Int) : mU (mk D) 106 8 v = mk (mU D 106 8 v) := mU_mk ⟨by decide, fun h => absurd h (by decide), fun _ => ⟨by decide, by decide, by decide, by decide, by decide, rfl, by decide⟩⟩
theorem mk_106_9 (D : Mem) : mk D 106 9 = D 106 9 := rfl
theorem mu_106_9 (D : Mem) (v : Int) : mU (mk D) 106 9 v = mk (mU D 106 9 v) := mU_mk ⟨by decide, fun h => absurd h (by decide), fun _ => ⟨by decide, by decide, by decide, by decide, by decide, rfl, by decide⟩⟩
theorem mk_106_10 (D : Mem) : mk D 106 10 = 114 := rfl
theorem mk_106_11 (D : Mem) : mk D 106 11 = 115 := rfl
theorem mk_106_12 (D : Mem) : mk D 106 12 = D 106 12 := rfl
theorem mu_106_12 (D : Mem) (v : Int) : mU (mk D) 106 12 v = mk (mU D 106 12 v) := mU_mk ⟨by decide, fun h => absurd h (by decide), fun _ => ⟨by decide, by decide, by decide, by decide, by decide, rfl, by decide⟩⟩
theorem mk_106_13 (D : Mem) : mk D 106 13 = 116 := rfl
theorem mk_106_14 (D : Mem) : mk D 106 14 = D 106 14 := rfl
theorem mu_106_14 (D : Mem) (v : Int) : mU (mk D) 106 14 v = mk (mU D 106 14 v) := mU_mk ⟨by decide, fun h => absurd h (by decide), fun _ => ⟨by decide, by decide, by decide, by decide, by decide, rfl, by decide⟩⟩
theorem mk_106_15 (D : Mem) : mk D 106 15 = 117 := rfl
theorem mk_106_16 (D : Mem) : mk D 106 16 = D 106 16 := rfl
theorem mu_106_16 (D : Mem) (v : Int) : mU (mk D) 106 16 v = mk (mU D 106 16 v) := mU_mk ⟨by decide, fun h => absurd h (by decide), fun _ => ⟨by decide, by decide, by decide, by decide, by decide, rfl, by decide⟩⟩
theorem mk_106_17 (D : Mem) : mk D 106 17 = 118 := rfl
theorem mk_106_18 (D : Mem) : mk D 106 18 = 119 := rfl
theorem mk_106_19 (D : Mem) : mk D 106 19 = 120 := rfl
theorem mk_106_20 (D : Mem) : mk D 106 20 = 121 := rfl
theorem mk_106_21 (D : Mem) : mk D 106 21 = D 106 21 := rfl
theorem mu_106_21 (D : Mem) (v : Int) : mU (mk D) 106 21 v = mk (mU D 106 21 v) := mU_mk ⟨by decide, fun h => absurd h (by decide), fun _ => ⟨by decide, by decide, by decide, by decide, by decide, rfl, by decide⟩⟩
theorem mk_106_22 (D : Mem) : mk D 106 22 = D 106 22 := rfl
theorem mu_106_22 (D : Mem) (v : Int) : mU (mk D) 106 22 v = mk (mU D 106 22 v) := mU_mk ⟨by decide, fun h => absurd h (by decide), fun _ => ⟨by decide, by decide, by decide, by decide, by decide, rfl, by decide⟩⟩
theorem mk_106_23 (D : Mem) : mk D 106 23 = 122 := rfl
theorem mk_106_24 (D : Mem) : mk D 106 24 = 123 := rfl
theorem mk_106_25 (D : Mem) : mk D 106 25 = D 106 25 := rfl
theorem mu_106_25 (D : Mem) (v : Int) : mU (mk D) 106 25 v = mk (mU D 106 25 v) := mU_mk ⟨by decide, fun h => absurd h (by decide), fun _ => ⟨by decide, by decide, by decide, by decide, by decide, rfl, by decide⟩⟩
theorem mk_106_26 (D : Mem) : mk D 106 26 = 124 := rfl
theorem mk_106_27 (D : Mem) : mk D 106 27 = D 106 27 := rfl
theorem mu_106_27 (D : Mem) (v : Int) : mU (mk D) 106 27 v = mk (mU D 106 27 v) := mU_mk ⟨by decide, fun h => absurd h (by decide), fun _ => ⟨by decide, by decide, by decide, by decide, by decide, rfl, by decide⟩⟩
theorem mk_106_28 (D : Mem) : mk D 106 28 = 125 := rfl
theorem mk_106_29 (D : Mem) : mk D 106 29 = 126 := rfl
theorem mk_106_30 (D : Mem) : mk D 106 30 = D 106 30 := rfl
theorem mu_106_30 (D : Mem) (v : Int) : mU (mk D) 106 30 v = mk (mU D 106 30 v) := mU_mk ⟨by decide, fun h => absurd h (by decide), fun _ => ⟨by decide, by decide, by decide, by decide, by decide, rfl, by decide⟩⟩
theorem mk_106_31 (D : Mem) : mk D 106 31 = 127 := rfl
theorem mk_106_32 (D : Mem) : mk D 106 32 = 128 := rfl
theorem mk_106_33 (D : Mem) : mk D 106 33 = 129 := rfl
theorem mk_106_34 (D : Mem) : mk D 106 34 = 130 := rfl
theorem mk_k107 (D : Mem) : mk D (-107) 0 = 1 := rfl
theorem mk_l107 (D : Mem) : mk D (-107) 1 = 26 := rfl
theorem mk_c107 (D : Mem) (i : Int) : mk D 107 i = D 107 i := rfl
theorem mu_107 (D : Mem) (i v : Int) : mU (mk D) 107 i v = mk (mU D 107 i v) := mU_mk ⟨by decide, fun h => absurd h (by decide), fun _ => ⟨by decide, by decide, by decide, by decide, by decide, rfl, fun h => absurd h.1 (by decide)⟩⟩
theorem mk_k108 (D : Mem) : mk D (-108) 0 = 1 := rfl
theorem mk_l108 (D : Mem) : mk D (-108) 1 = 800 := rfl
theorem mk_c108 (D : Mem) (i : Int) : mk D 108 i = D 108 i := rfl
theorem mu_108 (D : Mem) (i v : Int) : mU (mk D) 108 i v = mk (mU D 108 i v) := mU_mk ⟨by decide, fun h => absurd h (by decide), fun _ => ⟨by decide, by decide, by decide, by decide, by decide, rfl, fun h => absurd h.1 (by decide)⟩⟩
theorem mk_k109 (D : Mem) : mk D (-109) 0 = 1 := rfl
theorem mk_l109 (D : Mem) : mk D (-109) 1 = 80 := rfl
theorem mk_c109 (D : Mem) (i : Int) : mk D 109 i = D 109 i := rfl
theorem mu_109 (D : Mem) (i v : Int) : mU (mk D) 109 i v = mk (mU D 109 i v) := mU_mk ⟨by decide, fun h => absurd h (by decide), fun _ => ⟨by decide, by decide, by decide, by decide, by decide, rfl, fun h => absurd h.1 (by decide)⟩⟩
theorem mk_k110 (D : Mem) : mk D (-110) 0 = 1 := rfl
theorem mk_l110 (D : Mem) : mk D (-110) 1 = 80 := rfl
theorem mk_c110 (D : Mem) (i : Int) : mk D 110 i = D 110 i := rfl
theorem mu_110 (D : Mem) (i v : Int) : mU (mk D) 110 i v = mk (mU D 110 i v) := mU_mk ⟨by decide, fun h => absurd h (by decide), fun _ => ⟨by decide, by decide, by decide, by decide, by decide, rfl, fun h => absurd h.1 (by decide)⟩⟩
theorem mk_k111 (D : Mem) : mk D (-111) 0 = 1 := rfl
theorem mk_l111 (D : Mem) : mk D (-111) 1 = 80 := rfl
theorem mk_c111 (D : Mem) (i : Int) : mk D 111 i = D 111 i := rfl
theorem mu_111 (D : Mem) (i v : Int) : mU (mk D) 111 i v = mk (mU D 111 i v) := mU_mk ⟨by decide, fun h => absurd h (by decide), fun _ => ⟨by decide, by decide, by decide, by decide, by decide, rfl, fun h => absurd h.1 (by decide)⟩⟩
theorem mk_k112 (D : Mem) : mk D (-112) 0 = 6 := rfl
theorem mk_l112 (D : Mem) : mk D (-112) 1 = 80 := rfl
theorem mk_c112 (D : Mem) (i : Int) : mk D 112 i = D 112 i := rfl
theorem mu_112 (D : Mem) (i v : Int) : mU (mk D) 112 i v = mk (mU D 112 i v) := mU_mk ⟨by decide, fun h => absurd h (by decide), fun _ => ⟨by decide, by decide, by decide, by decide, by decide, rfl, fun h => absurd h.1 (by decide)⟩⟩
theorem mk_k113 (D : Mem) : mk D (-113) 0 = 1 := rfl
theorem mk_l113 (D : Mem) : mk D (-113) 1 = 6400 := rfl
theorem mk_c113 (D : Mem) (i : Int) : mk D 113 i = D 113 i := rfl
theorem mu_113 (D : Mem) (i v : Int) : mU (mk D) 113 i v = mk (mU D 113 i v) := mU_mk ⟨by decide, fun h => absurd h (by decide), fun _ => ⟨by decide, by decide, by decide, by decide, by decide, rfl, fun h => absurd h.1 (by decide)⟩⟩
theorem mk_k114 (D : Mem) : mk D (-114) 0 = 1 := rfl
theorem mk_l114 (D : Mem) : mk D (-114) 1 = 3 := rfl
theorem mk_c114 (D : Mem) (i : Int) : mk D 114 i = D 114 i := rfl
theorem mu_114 (D : Mem) (i v : Int) : mU (mk D) 114 i v = mk (mU D 114 i v) := mU_mk ⟨by decide, fun h => absurd h (by decide), fun _ => ⟨by decide, by decide, by decide, by decide, by decide, rfl, fun h => absurd h.1 (by decide)⟩⟩
theorem mk_k115 (D : Mem) : mk D (-115) 0 = 1 := rfl
theorem mk_l115 (D : Mem) : mk D (-115) 1 = 10 := rfl
theorem mk_c115 (D : Mem) (i : Int) : mk D 115 i = D 115 i := rfl
theorem mu_115 (D : Mem) (i v : Int) : mU (mk D) 115 i v = mk (mU D 115 i v) := mU_mk ⟨by decide, fun h => absurd h (by decide), fun _ => ⟨by decide, by decide, by decide, by decide, by decide, rfl, fun h => absurd h.1 (by decide)⟩⟩
theorem mk_k116 (D : Mem) : mk D (-116) 0 = 1 := rfl
theorem mk_l116 (D : Mem) : mk D (-116) 1 = 12 := rfl
theorem mk_c116 (D : Mem) (i : Int) : mk D 116 i = D 116 i := rfl
theorem mu_116 (D : Mem) (i v : Int) : mU (mk D) 116 i v = mk (mU D 116 i v) := mU_mk ⟨by decide, fun h => absurd h (by decide), fun _ => ⟨by decide, by decide, by decide, by decide, by decide, rfl, fun h => absurd h.1 (by decide)⟩⟩
theorem mk_k117 (D : Mem) : mk D (-117) 0 = 1 := rfl
theorem mk_l117 (D : Mem) : mk D (-117) 1 = 60 := rfl
theorem mk_c117 (D : Mem) (i : Int) : mk D 117 i = D 117 i := rfl
theorem mu_117 (D : Mem) (i v : Int) : mU (mk D) 117 i v = mk (mU D 117 i v) := mU_mk ⟨by decide, fun h => absurd h (by decide), fun _ => ⟨by decide, by decide, by decide, by decide, by decide, rfl, fun h => absurd h.1 (by decide)⟩⟩
theorem mk_k118 (D : Mem) : mk D (-118) 0 = 1 := rfl
theorem mk_l118 (D : Mem) : mk D (-118) 1 = 80 := rfl
theorem mk_c118 (D : Mem) (i : Int) : mk D 118 i = D 118 i := rfl
theorem mu_118 (D : Mem) (i v : Int) : mU (mk D) 118 i v = mk (mU D 118 i v) := mU_mk ⟨by decide, fun h => absurd h (by decide), fun _ => ⟨by decide, by decide, by decide, by decide, by decide, rfl, fun h => absurd h.1 (by decide)⟩⟩
theorem mk_k119 (D : Mem) : mk D (-119) 0 = 1 := rfl
theorem mk_l119 (D : Mem) : mk D (-119) 1 = 8 := rfl
theorem mk_c119 (D : Mem) (i : Int) : mk D 119 i = D 119 i := rfl
theorem mu_119 (D : Mem) (i v : Int) : mU (mk D) 119 i v = mk (mU D 119 i v) := mU_mk ⟨by decide, fun h => absurd h (by decide), fun _ => ⟨by decide, by decide, by decide, by decide, by decide, rfl, fun h => absurd h.1 (by decide)⟩⟩
theorem mk_k120 (D : Mem) : mk D (-120) 0 = 1 := rfl
theorem mk_l120 (D : Mem) : mk D (-120) 1 = 8 := rfl
theorem mk_c120 (D : Mem) (i : Int) : mk D 120 i = D 120 i := rfl
theorem mu_120 (D : Mem) (i v : Int) : mU (mk D) 120 i v = mk (mU D 120 i v) := mU_mk ⟨by decide, fun h => absurd h (by decide), fun _ => ⟨by decide, by decide, by decide, by decide, by decide, rfl, fun h => absurd h.1 (by decide)⟩⟩
theorem mk_k121 (D : Mem) : mk D (-121) 0 = 1 := rfl
theorem mk_l121 (D : Mem) : mk D (-121) 1 = 8 := rfl
theorem mk_c121 (D : Mem) (i : Int) : mk D 121 i = D 121 i := rfl
theorem mu_121 (D : Mem) (i v : Int) : mU (mk D) 121 i v = mk (mU D 121 i v) := mU_mk ⟨by decide, fun h => absurd h (by decide), fun _ => ⟨by decide, by decide, by decide, by decide, by decide, rfl, fun h => absurd h.1 (by decide)⟩⟩
theorem mk_k122 (D : Mem) : mk D (-122) 0 = 1 := rfl
theorem mk_l122 (D : Mem) : mk D (-122) 1 = 5 := rfl
theorem mk_c122 (D : Mem) (i : Int) : mk D 122 i = D 122 i := rfl
theorem mu_122 (D : Mem) (i v : Int) : mU (mk D) 122 i v = mk (mU D 122 i v) := mU_mk ⟨by decide, fun h => absurd h (by decide), fun _ => ⟨by decide, by decide, by decide, by decide, by decide, rfl, fun h => absurd h.1 (by decide)⟩⟩
theorem mk_k123 (D : Mem) : mk D (-123) 0 = 1 := rfl
theorem mk_l123 (D : Mem) : mk D (-123) 1 = 10 := rfl
theorem mk_c123 (D : Mem) (i : Int) : mk D 123 i = D 123 i := rfl
theorem mu_123 (D : Mem) (i v : Int) : mU (mk D) 123 i v = mk (mU D 123 i v) := mU_mk ⟨by decide, fun h => absurd h (by decide), fun _ => ⟨by decide, by decide, by decide, by decide, by decide, rfl, fun h => absurd h.1 (by decide)⟩⟩
theorem mk_k124 (D : Mem) : mk D (-124) 0 = 1 := rfl
theorem mk_l124 (D : Mem) : mk D (-124) 1 = 12 := rfl
theorem mk_c124 (D : Mem) (i : Int) : mk D 124 i = D 124 i := rfl
theorem mu_124 (D : Mem) (i v : Int) : mU (mk D) 124 i v = mk (mU D 124 i v) := mU_mk ⟨by decide, fun h => absurd h (by decide), fun _ => ⟨by decide, by decide, by decide, by decide, by decide, rfl, fun h => absurd h.1 (by decide)⟩⟩
theorem mk_k125 (D : Mem) : mk D (-125) 0 = 1 := rfl
theorem mk_l125 (D : Mem) : mk D (-125) 1 = 80 := rfl
theorem mk_c125 (D : Mem) (i : Int) : mk D 125 i = D 125 i := rfl
theorem mu_125 (D : Mem) (i v : Int) : mU (mk D) 125 i v = mk (mU D 125 i v) := mU_mk ⟨by decide, fun h => absurd h (by decide), fun _ => ⟨by decide, by decide, by decide, by decide, by decide, rfl, fun h => absurd h.1 (by decide)⟩⟩
theorem mk_k126 (D : Mem) : mk D (-126) 0 = 1 := rfl
theorem mk_l126 (D : Mem) : mk D (-126) 1 = 80 := rfl
theorem mk_c126 (D : Mem) (i : Int) : mk D 126 i = D 126 i := rfl
theorem mu_126 (D : Mem) (i v : Int) : mU (mk D) 126 i v = mk (mU D 126 i v) := mU_mk ⟨by decide, fun h => absurd h (by decide), fun _ => ⟨by decide, by decide, by decide, by decide, by decide, rfl, fun h => absurd h.1 (by decide)⟩⟩
theorem mk_k127 (D : Mem) : mk D (-127) 0 = 1 := rfl
theorem mk_l127 (D : Mem) : mk D (-127) 1 = 244 := rfl
theorem mk_c127 (D : Mem) (i : Int) : mk D 127 i = D 127 i := rfl
theorem mu_127 (D : Mem) (i v : Int) : mU (mk D) 127 i v = mk (mU D 127 i v) := mU_mk ⟨by decide, fun h => absurd h (by decide), fun _ => ⟨by decide, by decide, by decide, by decide, by decide, rfl, fun h => absurd h.1 (by decide)⟩⟩
theorem mk_k128 (D : Mem) : mk D (-128) 0 = 1 := rfl
theorem mk_l128 (D : Mem) : mk D (-128) 1 = 26 := rfl
theorem mk_c128 (D : Mem) (i : Int) : mk D 128 i = D 128 i := rfl
theorem mu_128 (D : Mem) (i v : Int) : mU (mk D) 128 i v = mk (mU D 128 i v) := mU_mk ⟨by decide, fun h => absurd h (by decide), fun _ => ⟨by decide, by decide, by decide, by decide, by decide, rfl, fun h => absurd h.1 (by decide)⟩⟩
theorem mk_k129 (D : Mem) : mk D (-129) 0 = 1 := rfl
theorem mk_l129 (D : Mem) : mk D (-129) 1 = 676 := rfl
theorem mk_c129 (D : Mem) (i : Int) : mk D 129 i = D 129 i := rfl
theorem mu_129 (D : Mem) (i v : Int) : mU (mk D) 129 i v = mk (mU D 129 i v) := mU_mk ⟨by decide, fun h => absurd h (by decide), fun _ => ⟨by decide, by decide, by decide, by decide, by decide, rfl, fun h => absurd h.1 (by decide)⟩⟩
theorem mk_k130 (D : Mem) : mk D (-130) 0 = 1 := rfl
theorem mk_l130 (D : Mem) : mk D (-130) 1 = 270 := rfl
theorem mk_c130 (D : Mem) (i : Int) : mk D 130 i = D 130 i := rfl
theorem mu_130 (D : Mem) (i v : Int) : mU (mk D) 130 i v = mk (mU D 130 i v) := mU_mk ⟨by decide, fun h => absurd h (by decide), fun _ => ⟨by decide, by decide, by decide, by decide, by decide, rfl, fun h => absurd h.1 (by decide)⟩⟩
