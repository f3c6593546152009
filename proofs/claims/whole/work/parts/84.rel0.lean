theorem zr (L : Nat) (xs : Nat → Int32) {y : Int} (y0 : 2 ≤ y) (h : (cel dZ y).2.2 = []) (i : Int) : den L xs dZ y i = 0 := by
  rw [den_c _ _ _ y0, h]; rfl
theorem chk4 : (List.range 26).all (fun n => decide (1 ≤ look (cel dZ 107).2.2 (n : Int)) && decide (look (cel dZ 107).2.2 (n : Int) ≤ 9)) = true := by decide +kernel
theorem chk38 : (List.range 3).all (fun n => decide (0 ≤ look (cel dZ 114).2.2 (n : Int)) && decide (look (cel dZ 114).2.2 (n : Int) ≤ 100000)) = true := by decide +kernel
theorem chk15 : (List.range 8).all (fun n => decide (look (cel dZ (15 + 2 * (n : Int))).2.2 1 = 0)) = true := by decide +kernel
theorem smD (L : Nat) (xs : Nat → Int32) {y z : Int} (y0 : 2 ≤ y) (z0 : 2 ≤ z) (h : (cel dZ y).2.2 = (cel dZ z).2.2) : den L xs dZ y = den L xs dZ z := by
  funext i
  rw [den_c _ _ _ y0, den_c _ _ _ z0, h]
theorem Rel_0 (L : Nat) (xs : Nat → Int32) : Rel (den L xs dZ) 0 := by
  have f6 : den L xs dZ 106 6 = 0 := rfl
  have f8 : den L xs dZ 106 8 = 0 := rfl
  have f9 : den L xs dZ 106 9 = 30 := rfl
  have f12 : den L xs dZ 106 12 = 0 := rfl
  have f14 : den L xs dZ 106 14 = 0 := rfl
  have f16 : den L xs dZ 106 16 = 0 := rfl
  have f21 : den L xs dZ 106 21 = 0 := rfl
  have f22 : den L xs dZ 106 22 = 0 := rfl
  have g2 : den L xs dZ 5 2 = 0 := rfl
  have g3 : den L xs dZ 5 3 = 0 := rfl
  have g4 : den L xs dZ 5 4 = 0 := rfl
  have g7 : den L xs dZ 7 3 = 0 := rfl
  have g11 : den L xs dZ 11 3 = 0 := rfl
  have g98 : den L xs dZ 98 1 = 0 := rfl
  have g100 : den L xs dZ 100 1 = 0 := rfl
  have g102 : den L xs dZ 102 1 = 0 := rfl
  have g31 : den L xs dZ 31 10 = 30 := rfl
  have g03 : den L xs dZ 0 3 = 12001 := rfl
  have z13 : ∀ i, den L xs dZ 13 i = 0 := zr L xs (by decide) (by decide)
  have z14 : ∀ i, den L xs dZ 14 i = 0 := zr L xs (by decide) (by decide)
  have z113 : ∀ i, den L xs dZ 113 i = 0 := zr L xs (by decide) (by decide)
  refine ⟨⟨smD L xs (by decide) (by decide) (by decide), fun l l0 l1 => ?_⟩, ⟨⟨by rw [g2, f6], by rw [f6]; decide, by rw [f6]; decide⟩, ⟨by rw [g4, f8], by rw [f8]; decide, by rw [f8]; decide⟩, fun w w0 w1 => by rw [f6] at w1; omega, ⟨by rw [g3, f6, S_0], by rw [g3]; decide⟩, fun v w v0 v1 w1 => by rw [f6] at w1; omega⟩, ⟨by rw [g7]; decide, fun p p0 p1 => by rw [g7] at p1; omega, fun p q p0 p1 q1 => by rw [g7] at q1; omega, fun a b _ _ _ _ _ => z113 _⟩, ⟨⟨by rw [g98, f12], by rw [f12]; decide, by rw [f12]; decide, smD L xs (by decide) (by decide) (by decide), fun i i0 i1 => by rw [f12] at i1; omega⟩, ⟨by rw [g100, f14], by rw [f14]; decide, by rw [f14]; decide, smD L xs (by decide) (by decide) (by decide), fun i i0 i1 => by rw [f14] at i1; omega⟩, ⟨by rw [g102, f16], by rw [f16]; decide, by rw [f16]; decide, smD L xs (by decide) (by decide) (by decide), fun i i0 i1 => by rw [f16] at i1; omega⟩, ⟨by rw [g31, f9], by rw [f9]; decide, by rw [f9]; decide⟩, smD L xs (by decide) (by decide) (by decide), fun i i0 i1 => ?_⟩, ⟨by rw [g03, f6]; decide, ⟨by rw [g11, f22], by rw [f22]; decide, by rw [f22]; decide⟩, ⟨by rw [f21]; decide, by rw [f21]; decide, ?_⟩, fun n n0 n1 => ⟨?_, Or.inl ⟨z13 n, z14 n⟩⟩, fun c c0 c1 => by rw [f21] at c1; omega, fun c d c0 c1 d1 => by rw [f21] at d1; omega, fun m n m0 m1 n1 h => by rw [z13] at h; omega⟩⟩
  · have h := List.all_eq_true.mp chk4 l.toNat (List.mem_range.mpr (by omega))
    rw [Bool.and_eq_true, decide_eq_true_eq, decide_eq_true_eq, show ((l.toNat : Nat) : Int) = l by omega] at h
    rw [den_c _ _ _ (by decide)]
    exact h
  · have h := List.all_eq_true.mp chk38 i.toNat (List.mem_range.mpr (by omega))
    rw [Bool.and_eq_true, decide_eq_true_eq, decide_eq_true_eq, show ((i.toNat : Nat) : Int) = i by omega] at h
    rw [den_c _ _ _ (by decide)]
    exact h
  · rw [f21]
    exact S_zero fun n _ _ => by rw [z13]; rfl
  · have h := List.all_eq_true.mp chk15 n.toNat (List.mem_range.mpr (by omega))
    rw [decide_eq_true_eq, show ((n.toNat : Nat) : Int) = n by omega] at h
    rw [den_c _ _ _ (by omega), h]
    decide
