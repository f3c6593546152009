/-! the constructors: the pure machine on memory held as data (the cells from 2 on: kind, length, what was written; the slots used) -/
abbrev Cel : Type := Int × Int × List (Int × Int)
abbrev Dat : Type := List Cel × Int
def look : List (Int × Int) → Int → Int
  | [], _ => 0
  | p :: r, i => if i = p.1 then p.2 else look r i
def cel (d : Dat) (q : Int) : Cel := (d.1[(q - 2).toNat]?).getD (0, 0, [])
def den (L : Nat) (xs : Nat → Int32) (d : Dat) : Mem := fun a i => if a = 1 ∨ a = -1 then mu0 L xs a i else if a = 0 then (if i = 2 then 2 + (d.1.length : Int) else if i = 3 then d.2 else 0) else if a < 0 then (if i = 0 then (cel d (-a)).1 else if i = 1 then (cel d (-a)).2.1 else 0) else look (cel d a).2.2 i
def mdf : List Cel → Nat → Int → Int → List Cel
  | [], _, _, _ => []
  | c :: r, 0, i, v => (c.1, c.2.1, (i, v) :: c.2.2) :: r
  | c :: r, n + 1, i, v => c :: mdf r n i v
def dU (d : Dat) (q i v : Int) : Dat := (mdf d.1 (q - 2).toNat i v, d.2)
def dNew (d : Dat) (k n : Int) : Dat := (d.1 ++ [(k, n, [])], d.2 + n)
def rws : Nat → Int → Int → List (Int × Int)
  | 0, _, _ => []
  | n + 1, q, j => (j, q + 1 + j) :: rws n q (j + 1)
def dGrid (d : Dat) (n1 n2 : Int) : Dat := (d.1 ++ ((5, n1, rws n1.toNat (2 + (d.1.length : Int)) 0) :: List.replicate n1.toNat (1, n2, [])), d.2 + n1 + n1 * n2)
theorem mdf_len : ∀ (l : List Cel) (n : Nat) (i v : Int), (mdf l n i v).length = l.length
  | [], _, _, _ => rfl
  | _ :: _, 0, _, _ => rfl
  | c :: r, n + 1, i, v => by show (mdf r n i v).length + 1 = r.length + 1; rw [mdf_len r n i v]
theorem mdf_ne : ∀ (l : List Cel) (n m : Nat) (i v : Int), m ≠ n → (mdf l n i v)[m]? = l[m]?
  | [], _, _, _, _, _ => rfl
  | c :: r, 0, 0, _, _, h => absurd rfl h
  | c :: r, 0, m + 1, _, _, _ => rfl
  | c :: r, n + 1, 0, _, _, _ => rfl
  | c :: r, n + 1, m + 1, i, v, h => by
    show (mdf r n i v)[m]? = r[m]?
    exact mdf_ne r n m i v (by omega)
theorem mdf_eq : ∀ (l : List Cel) (n : Nat) (i v : Int), n < l.length → (mdf l n i v)[n]? = some (((l[n]?).getD (0, 0, [])).1, ((l[n]?).getD (0, 0, [])).2.1, (i, v) :: ((l[n]?).getD (0, 0, [])).2.2)
  | [], _, _, _, h => absurd h (Nat.not_lt_zero _)
  | c :: r, 0, _, _, _ => rfl
  | c :: r, n + 1, i, v, h => by
    show (mdf r n i v)[n]? = _
    exact mdf_eq r n i v (Nat.lt_of_succ_lt_succ h)
theorem den_U {L : Nat} {xs : Nat → Int32} {d : Dat} {q i v : Int} (h0 : 2 ≤ q) (h1 : q < 2 + (d.1.length : Int)) : mU (den L xs d) q i v = den L xs (dU d q i v) := by
  have hl : (dU d q i v).1.length = d.1.length := mdf_len _ _ _ _
  have ce : cel (dU d q i v) q = ((cel d q).1, (cel d q).2.1, (i, v) :: (cel d q).2.2) := by
    show ((mdf d.1 (q - 2).toNat i v)[(q - 2).toNat]?).getD (0, 0, []) = _
    rw [mdf_eq _ _ _ _ (by omega)]
    rfl
  have cn : ∀ a, 2 ≤ a → a ≠ q → cel (dU d q i v) a = cel d a := fun a a0 hne => by
    show ((mdf d.1 (q - 2).toNat i v)[(a - 2).toNat]?).getD (0, 0, []) = _
    rw [mdf_ne _ _ _ _ _ (by omega)]
    rfl
  funext a j
  by_cases c1 : a = 1 ∨ a = -1
  · rw [mU_r (by omega)]
    unfold den
    rw [if_pos c1, if_pos c1]
  · by_cases c2 : a = 0
    · rw [mU_r (by omega)]
      unfold den
      rw [if_neg c1, if_neg c1, if_pos c2, if_pos c2, hl]
      rfl
    · by_cases c3 : a < 0
      · rw [mU_r (by omega)]
        unfold den
        rw [if_neg c1, if_neg c1, if_neg c2, if_neg c2, if_pos c3, if_pos c3]
        by_cases e : -a = q
        · rw [e, ce]
        · rw [cn _ (by omega) e]
      · by_cases e : a = q
        · rw [e]
          have : den L xs (dU d q i v) q j = if j = i then v else look (cel d q).2.2 j := by
            unfold den
            rw [if_neg (by omega), if_neg (by omega), if_neg (by omega), ce]
            rfl
          rw [this]
          by_cases z : j = i
          · rw [if_pos z, z]; exact mU_s
          · rw [if_neg z, mU_other (by omega)]
            unfold den
            rw [if_neg (by omega), if_neg (by omega), if_neg (by omega)]
        · rw [mU_r e]
          unfold den
          rw [if_neg c1, if_neg c1, if_neg c2, if_neg c2, if_neg c3, if_neg c3, cn _ (by omega) e]
theorem den_02 (L : Nat) (xs : Nat → Int32) (d : Dat) : den L xs d 0 2 = 2 + (d.1.length : Int) := rfl
theorem den_03 (L : Nat) (xs : Nat → Int32) (d : Dat) : den L xs d 0 3 = d.2 := rfl
theorem den_k (L : Nat) (xs : Nat → Int32) (d : Dat) {q : Int} (h : 2 ≤ q) : den L xs d (-q) 0 = (cel d q).1 := by
  unfold den
  rw [if_neg (by omega), if_neg (by omega), if_pos (by omega), if_pos rfl, Int.neg_neg]
theorem den_l (L : Nat) (xs : Nat → Int32) (d : Dat) {q : Int} (h : 2 ≤ q) : den L xs d (-q) 1 = (cel d q).2.1 := by
  unfold den
  rw [if_neg (by omega), if_neg (by omega), if_pos (by omega), if_neg (by decide), if_pos rfl, Int.neg_neg]
theorem den_c (L : Nat) (xs : Nat → Int32) (d : Dat) {q : Int} (h : 2 ≤ q) (i : Int) : den L xs d q i = look (cel d q).2.2 i := by
  unfold den
  rw [if_neg (by omega), if_neg (by omega), if_neg (by omega)]
theorem den_n (L : Nat) (xs : Nat → Int32) (d : Dat) {a : Int} (h : a ≤ -2) (j : Int) : den L xs d a j = if j = 0 then (cel d (-a)).1 else if j = 1 then (cel d (-a)).2.1 else 0 := by
  unfold den
  rw [if_neg (by omega), if_neg (by omega), if_pos (by omega)]
theorem den_0 (L : Nat) (xs : Nat → Int32) (d : Dat) (j : Int) : den L xs d 0 j = if j = 2 then 2 + (d.1.length : Int) else if j = 3 then d.2 else 0 := rfl
theorem den_1 (L : Nat) (xs : Nat → Int32) (d : Dat) {a : Int} (h : a = 1 ∨ a = -1) (j : Int) : den L xs d a j = mu0 L xs a j := if_pos h
theorem cel_app {d : Dat} {l : List Cel} {s : Int} {a : Int} (a0 : 2 ≤ a) : cel (d.1 ++ l, s) a = if a < 2 + (d.1.length : Int) then cel d a else (l[(a - 2 - (d.1.length : Int)).toNat]?).getD (0, 0, []) := by
  show ((d.1 ++ l)[(a - 2).toNat]?).getD (0, 0, []) = _
  by_cases c : a < 2 + (d.1.length : Int)
  · rw [if_pos c, List.getElem?_append_left (by omega)]; rfl
  · rw [if_neg c, List.getElem?_append_right (by omega), show (a - 2).toNat - d.1.length = (a - 2 - (d.1.length : Int)).toNat by omega]
theorem cel_out {d : Dat} {a : Int} (h : 2 + (d.1.length : Int) ≤ a) : cel d a = (0, 0, []) := by
  show (d.1[(a - 2).toNat]?).getD (0, 0, []) = _
  rw [List.getElem?_eq_none (by omega)]
  rfl
theorem den_new (L : Nat) (xs : Nat → Int32) (d : Dat) (k n : Int) : mNew (den L xs d) k n = den L xs (dNew d k n) := by
  have hl : (dNew d k n).1.length = d.1.length + 1 := by show (d.1 ++ [(k, n, [])]).length = _; rw [List.length_append]; rfl
  have ce : ∀ a, 2 ≤ a → cel (dNew d k n) a = if a = 2 + (d.1.length : Int) then (k, n, []) else cel d a := fun a a0 => by
    unfold dNew
    rw [cel_app a0]
    by_cases c : a < 2 + (d.1.length : Int)
    · rw [if_pos c, if_neg (by omega)]
    · by_cases e : a = 2 + (d.1.length : Int)
      · rw [if_neg c, if_pos e, show (a - 2 - (d.1.length : Int)).toNat = 0 by omega]; rfl
      · rw [if_neg c, if_neg e, cel_out (by omega), List.getElem?_eq_none (by show 1 ≤ _; omega)]; rfl
  funext b j
  unfold mNew
  rw [den_02, den_03]
  by_cases c0 : b = 2 + (d.1.length : Int)
  · rw [if_pos c0, den_c _ _ _ (by omega), ce _ (by omega), if_pos c0]; rfl
  · rw [if_neg c0]
    by_cases c1 : b = -(2 + (d.1.length : Int))
    · rw [if_pos c1, den_n _ _ _ (by omega), ce _ (by omega), if_pos (show -b = 2 + (d.1.length : Int) by omega)]
    · rw [if_neg c1]
      by_cases c2 : b = 0
      · rw [c2]
        by_cases j2 : j = 2
        · rw [if_pos ⟨rfl, j2⟩, j2, den_02, hl]; omega
        · rw [if_neg (by omega)]
          by_cases j3 : j = 3
          · rw [if_pos ⟨rfl, j3⟩, j3]; rfl
          · rw [if_neg (by omega)]
            rw [den_0, den_0, if_neg j2, if_neg j2, if_neg j3, if_neg j3]
      · rw [if_neg (by omega), if_neg (by omega)]
        by_cases c3 : b = 1 ∨ b = -1
        · rw [den_1 _ _ _ c3, den_1 _ _ _ c3]
        · by_cases c4 : b < 0
          · rw [den_n _ _ _ (by omega), den_n _ _ _ (by omega), ce _ (by omega), if_neg (show ¬ -b = 2 + (d.1.length : Int) by omega)]
          · rw [den_c _ _ _ (by omega), den_c _ _ _ (by omega), ce _ (by omega), if_neg c0]
theorem look_rws : ∀ (n : Nat) (q j i : Int), look (rws n q j) i = if j ≤ i ∧ i < j + n then q + 1 + i else 0
  | 0, _, _, _ => by rw [if_neg (by omega)]; rfl
  | n + 1, q, j, i => by
    show (if i = j then q + 1 + j else look (rws n q (j + 1)) i) = _
    by_cases c : i = j
    · rw [if_pos c, if_pos (by omega), c]
    · rw [if_neg c, look_rws n q (j + 1) i]
      by_cases e : j ≤ i ∧ i < j + (n + 1 : Nat)
      · rw [if_pos e, if_pos (by omega)]
      · rw [if_neg e, if_neg (by omega)]
theorem den_grid (L : Nat) (xs : Nat → Int32) (d : Dat) {n1 n2 : Int} (h : 1 ≤ n1) : mGrid (den L xs d) n1 n2 = den L xs (dGrid d n1 n2) := by
  have hl : ((dGrid d n1 n2).1.length : Int) = d.1.length + 1 + n1 := by
    show ((d.1 ++ _ :: List.replicate n1.toNat _).length : Int) = _
    rw [List.length_append, List.length_cons, List.length_replicate]
    omega
  have ce : ∀ a, 2 ≤ a → cel (dGrid d n1 n2) a = if a = 2 + (d.1.length : Int) then (5, n1, rws n1.toNat (2 + (d.1.length : Int)) 0) else if 2 + (d.1.length : Int) < a ∧ a ≤ 2 + (d.1.length : Int) + n1 then (1, n2, []) else cel d a := fun a a0 => by
    unfold dGrid
    rw [cel_app a0]
    by_cases c : a < 2 + (d.1.length : Int)
    · rw [if_pos c, if_neg (by omega), if_neg (by omega)]
    · by_cases e : a = 2 + (d.1.length : Int)
      · rw [if_neg c, if_pos e, show (a - 2 - (d.1.length : Int)).toNat = 0 by omega]; rfl
      · rw [if_neg c, if_neg e]
        obtain ⟨m, hm⟩ : ∃ m : Nat, (a - 2 - (d.1.length : Int)).toNat = m + 1 := ⟨(a - 2 - (d.1.length : Int)).toNat - 1, by omega⟩
        rw [hm, List.getElem?_cons_succ]
        by_cases f : 2 + (d.1.length : Int) < a ∧ a ≤ 2 + (d.1.length : Int) + n1
        · rw [if_pos f, List.getElem?_replicate, if_pos (by omega)]; rfl
        · rw [if_neg f, List.getElem?_replicate, if_neg (by omega), cel_out (by omega)]; rfl
  funext b j
  unfold mGrid
  rw [den_02, den_03]
  by_cases c0 : b = 2 + (d.1.length : Int)
  · rw [if_pos c0, den_c _ _ _ (by omega), ce _ (by omega), if_pos c0]
    show _ = look (rws n1.toNat (2 + (d.1.length : Int)) 0) j
    rw [look_rws]
    by_cases z : 0 ≤ j ∧ j < n1
    · rw [if_pos z, if_pos (by omega)]
    · rw [if_neg z, if_neg (by omega)]
  · rw [if_neg c0]
    by_cases c5 : 2 + (d.1.length : Int) < b ∧ b ≤ 2 + (d.1.length : Int) + n1
    · rw [if_pos c5, den_c _ _ _ (by omega), ce _ (by omega), if_neg c0, if_pos c5]; rfl
    · rw [if_neg c5]
      by_cases c1 : b = -(2 + (d.1.length : Int))
      · rw [if_pos c1, den_n _ _ _ (by omega), ce _ (by omega), if_pos (show -b = 2 + (d.1.length : Int) by omega)]
      · rw [if_neg c1]
        by_cases c6 : -(2 + (d.1.length : Int)) - n1 ≤ b ∧ b < -(2 + (d.1.length : Int))
        · rw [if_pos c6, den_n _ _ _ (by omega), ce _ (by omega), if_neg (show ¬ -b = 2 + (d.1.length : Int) by omega), if_pos (show 2 + (d.1.length : Int) < -b ∧ -b ≤ 2 + (d.1.length : Int) + n1 by omega)]
        · rw [if_neg c6]
          by_cases c2 : b = 0
          · rw [c2]
            by_cases j2 : j = 2
            · rw [if_pos ⟨rfl, j2⟩, j2, den_02, hl]; omega
            · rw [if_neg (by omega)]
              by_cases j3 : j = 3
              · rw [if_pos ⟨rfl, j3⟩, j3]; rfl
              · rw [if_neg (by omega)]
                rw [den_0, den_0, if_neg j2, if_neg j2, if_neg j3, if_neg j3]
          · rw [if_neg (by omega), if_neg (by omega)]
            by_cases c3 : b = 1 ∨ b = -1
            · rw [den_1 _ _ _ c3, den_1 _ _ _ c3]
            · by_cases c4 : b < 0
              · rw [den_n _ _ _ (by omega), den_n _ _ _ (by omega), ce _ (by omega), if_neg (show ¬ -b = 2 + (d.1.length : Int) by omega), if_neg (show ¬ (2 + (d.1.length : Int) < -b ∧ -b ≤ 2 + (d.1.length : Int) + n1) by omega)]
              · rw [den_c _ _ _ (by omega), den_c _ _ _ (by omega), ce _ (by omega), if_neg c0, if_neg c5]
