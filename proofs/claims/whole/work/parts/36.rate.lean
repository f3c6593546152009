/-! floats: no NaN comes out of a rate -/
section floats
theorem dec_pos {n : Nat} (h : n ≤ 0x7f800000) : FP.Core.decode FP.Core.b32 n = .inf false ∨ ∃ c q, FP.Core.decode FP.Core.b32 n = .fin false c q := by
  have ht : FP.Core.Fmt.tails FP.Core.b32 = 8388608 := rfl
  have he : FP.Core.Fmt.exps FP.Core.b32 = 256 := rfl
  have hS : FP.Core.fieldS FP.Core.b32 n = false := by
    unfold FP.Core.fieldS; rw [ht, he]
    have : n / 8388608 / 256 % 2 = 0 := by omega
    rw [this]; rfl
  unfold FP.Core.decode
  rw [hS]
  by_cases c1 : FP.Core.fieldE FP.Core.b32 n = FP.Core.Fmt.exps FP.Core.b32 - 1
  · rw [if_pos c1]
    have c2 : FP.Core.fieldT FP.Core.b32 n = 0 := by
      unfold FP.Core.fieldE at c1; unfold FP.Core.fieldT; rw [ht, he] at c1; rw [ht]; omega
    rw [if_pos c2]; exact Or.inl rfl
  · rw [if_neg c1]
    by_cases c2 : FP.Core.fieldE FP.Core.b32 n = 0
    · rw [if_pos c2]; exact Or.inr ⟨_, _, rfl⟩
    · rw [if_neg c2]; exact Or.inr ⟨_, _, rfl⟩
theorem dec_fin {n : Nat} (h : n < 0x7f800000) : ∃ c q, FP.Core.decode FP.Core.b32 n = .fin false c q := by
  rcases dec_pos (Nat.le_of_lt h) with e | e
  · exfalso
    have ht : FP.Core.Fmt.tails FP.Core.b32 = 8388608 := rfl
    have he : FP.Core.Fmt.exps FP.Core.b32 = 256 := rfl
    have hE : ¬ FP.Core.fieldE FP.Core.b32 n = FP.Core.Fmt.exps FP.Core.b32 - 1 := by unfold FP.Core.fieldE; rw [ht, he]; omega
    unfold FP.Core.decode at e
    rw [if_neg hE] at e
    by_cases c2 : FP.Core.fieldE FP.Core.b32 n = 0
    · rw [if_pos c2] at e; exact FP.Core.Datum.noConfusion e
    · rw [if_neg c2] at e; exact FP.Core.Datum.noConfusion e
  · exact e
theorem enc_bound {c : Nat} {q : Int} (hc : c < 16777216) : FP.Core.encode FP.Core.b32 (FP.Core.bound FP.Core.b32 false c q) ≤ 0x7f800000 ∧ (q ≤ 104 → FP.Core.encode FP.Core.b32 (FP.Core.bound FP.Core.b32 false c q) < 0x7f800000) := by
  have ht : FP.Core.Fmt.tails FP.Core.b32 = 8388608 := rfl
  have he : FP.Core.Fmt.exps FP.Core.b32 = 256 := rfl
  have hq : FP.Core.Fmt.qmax FP.Core.b32 = 104 := by decide
  have hm : FP.Core.Fmt.qmin FP.Core.b32 = -149 := by decide
  unfold FP.Core.bound
  rw [hq]
  have main : q ≤ 104 → FP.Core.encode FP.Core.b32 (.fin false c q) < 0x7f800000 := fun h => by
    show (if c < FP.Core.Fmt.tails FP.Core.b32 then FP.Core.assemble FP.Core.b32 false 0 c else FP.Core.assemble FP.Core.b32 false ((q - FP.Core.Fmt.qmin FP.Core.b32).toNat + 1) (c - FP.Core.Fmt.tails FP.Core.b32)) < _
    unfold FP.Core.assemble
    rw [ht, he, hm]
    have : Bool.toNat false = 0 := rfl
    rw [this]
    by_cases c1 : c < 8388608
    · rw [if_pos c1]; omega
    · rw [if_neg c1]; omega
  by_cases h : q ≤ 104
  · rw [if_pos h]; exact ⟨Nat.le_of_lt (main h), main⟩
  · rw [if_neg h]; exact ⟨by decide, fun g => absurd g h⟩
theorem enc_settle {c : Nat} {q : Int} : FP.Core.encode FP.Core.b32 (FP.Core.settle FP.Core.b32 false c q) ≤ 0x7f800000 ∧ (q ≤ 103 → FP.Core.encode FP.Core.b32 (FP.Core.settle FP.Core.b32 false c q) < 0x7f800000) := by
  have hp : 2 ^ FP.Core.Fmt.p FP.Core.b32 = 16777216 := rfl
  have ht : FP.Core.Fmt.tails FP.Core.b32 = 8388608 := rfl
  unfold FP.Core.settle
  rw [hp, ht]
  by_cases h : c < 16777216
  · rw [if_pos h]; exact ⟨(enc_bound h).1, fun g => (enc_bound h).2 (by omega)⟩
  · rw [if_neg h]; exact ⟨(enc_bound (by decide)).1, fun g => (enc_bound (by decide)).2 (by omega)⟩
theorem enc_ratio (num den : Nat) (e : Int) : FP.Core.encode FP.Core.b32 (FP.Core.roundRatio FP.Core.b32 false num den e) ≤ 0x7f800000 := by
  unfold FP.Core.roundRatio
  by_cases h : num = 0
  · rw [if_pos h]; decide
  · rw [if_neg h]; exact enc_settle.1
theorem enc_int {i : Int} (h0 : 0 ≤ i) (h1 : i ≤ 1000000) : FP.Core.fromInt FP.Core.b32 i < 0x7f800000 := by
  unfold FP.Core.fromInt FP.Core.ofInt
  have hs : decide (i < 0) = false := by simp; omega
  rw [hs]
  show FP.Core.encode FP.Core.b32 (FP.Core.roundRatio FP.Core.b32 false i.natAbs 1 0) < _
  unfold FP.Core.roundRatio
  by_cases h : i.natAbs = 0
  · rw [if_pos h]; decide
  · rw [if_neg h]
    refine enc_settle.2 ?_
    unfold FP.Core.quantum
    have hm : FP.Core.Fmt.qmin FP.Core.b32 = -149 := by decide
    have hp : ((FP.Core.Fmt.p FP.Core.b32 : Nat) : Int) = 24 := rfl
    have hl : i.natAbs.log2 < 20 := (Nat.log2_lt h).2 (by have : (2 : Nat) ^ 20 = 1048576 := rfl; omega)
    have h1 : Nat.log2 1 = 0 := by decide
    have hle : FP.Core.leading i.natAbs 1 ≤ 20 := by
      unfold FP.Core.leading
      simp only [h1]
      split <;> omega
    rw [hm, hp]; omega
theorem enc_mul {x y : Nat} (hx : x < 0x7f800000) (hy : y < 0x7f800000) : FP.Core.mul FP.Core.b32 x y ≤ 0x7f800000 := by
  obtain ⟨c, q, e1⟩ := dec_fin hx
  obtain ⟨d, r, e2⟩ := dec_fin hy
  unfold FP.Core.mul
  rw [e1, e2]
  exact enc_ratio _ _ _
theorem enc_add {x y : Nat} (hx : x ≤ 0x7f800000) (hy : y ≤ 0x7f800000) : FP.Core.add FP.Core.b32 x y ≤ 0x7f800000 := by
  have hi : FP.Core.encode FP.Core.b32 (.inf false) ≤ 0x7f800000 := by decide
  unfold FP.Core.add
  rcases dec_pos hx with e1 | ⟨c, q, e1⟩ <;> rcases dec_pos hy with e2 | ⟨d, r, e2⟩ <;> rw [e1, e2]
  · exact hi
  · exact hi
  · exact hi
  · show FP.Core.encode FP.Core.b32 (FP.Core.roundRatio FP.Core.b32 (FP.Core.sumSign false false (FP.Core.sumUnits false c q false d r (min q r))) (FP.Core.sumUnits false c q false d r (min q r)).natAbs 1 (min q r)) ≤ _
    have : FP.Core.sumSign false false (FP.Core.sumUnits false c q false d r (min q r)) = false := by
      unfold FP.Core.sumSign FP.Core.sumUnits FP.Core.signed
      simp
      intro h; omega
    rw [this]
    exact enc_ratio _ _ _
theorem dec_100 : FP.Core.decode FP.Core.b32 1120403456 = .fin false 13107200 (-17) := by decide
theorem enc_div {x : Nat} (hx : x ≤ 0x7f800000) : FP.Core.div FP.Core.b32 x 1120403456 ≤ 0x7f800000 := by
  have hi : FP.Core.encode FP.Core.b32 (.inf false) ≤ 0x7f800000 := by decide
  unfold FP.Core.div
  rw [dec_100]
  rcases dec_pos hx with e1 | ⟨c, q, e1⟩ <;> rw [e1]
  · exact hi
  · exact enc_ratio _ _ _
theorem enc_mul100 {x : Nat} (hx : x ≤ 0x7f800000) : FP.Core.mul FP.Core.b32 x 1120403456 ≤ 0x7f800000 := by
  have hi : FP.Core.encode FP.Core.b32 (.inf false) ≤ 0x7f800000 := by decide
  unfold FP.Core.mul
  rw [dec_100]
  rcases dec_pos hx with e1 | ⟨c, q, e1⟩ <;> rw [e1]
  · exact hi
  · exact enc_ratio _ _ _
theorem fN_ok {n : Nat} (h : n ≤ 0x7f800000) : fN (UInt32.ofNat n) = some (n : Int) := by
  have e : (UInt32.ofNat n).toNat = n := by rw [UInt32.toNat_ofNat']; omega
  unfold fN
  have : UInt32.ofNat n &&& 0x7fffffff ≤ 0x7f800000 := by
    rw [UInt32.le_iff_toNat_le, UInt32.toNat_and, e]
    exact Nat.le_trans Nat.and_le_left h
  rw [if_pos this, e]
theorem u32_nn {n : Nat} (h : n ≤ 0x7f800000) : (u32 (n : Int)).toNat = n := by
  unfold u32; rw [UInt32.toNat_ofNat']; omega
end floats
theorem bF_mul {a b : Int} (a0 : 0 ≤ a) (a1 : a ≤ 1000000) (b0 : 0 ≤ b) (b1 : b ≤ 1000000) : ∃ n : Nat, n ≤ 0x7f800000 ∧ bF 1 ((FP.i2f (Int32.ofInt a)).toNat : Int) ((FP.i2f (Int32.ofInt b)).toNat : Int) = some (n : Int) := by
  have ia : (Int32.ofInt a).toInt = a := by rw [Int32.toInt_ofInt, show Int32.size = 4294967296 from rfl, Int.bmod_def]; omega
  have ib : (Int32.ofInt b).toInt = b := by rw [Int32.toInt_ofInt, show Int32.size = 4294967296 from rfl, Int.bmod_def]; omega
  have ha := enc_int a0 a1
  have hb := enc_int b0 b1
  have ea : (FP.i2f (Int32.ofInt a)).toNat = FP.Core.fromInt FP.Core.b32 a := by
    show (UInt32.ofNat (FP.Core.fromInt FP.Core.b32 (Int32.ofInt a).toInt)).toNat = _
    rw [ia, UInt32.toNat_ofNat']; omega
  have eb : (FP.i2f (Int32.ofInt b)).toNat = FP.Core.fromInt FP.Core.b32 b := by
    show (UInt32.ofNat (FP.Core.fromInt FP.Core.b32 (Int32.ofInt b).toInt)).toNat = _
    rw [ib, UInt32.toNat_ofNat']; omega
  refine ⟨_, enc_mul ha hb, ?_⟩
  show fN (UInt32.ofNat (FP.Core.mul FP.Core.b32 (u32 _).toNat (u32 _).toNat)) = _
  rw [ea, eb, u32_nn (Nat.le_of_lt ha), u32_nn (Nat.le_of_lt hb)]
  exact fN_ok (enc_mul ha hb)
theorem bF_add {a b : Nat} (a1 : a ≤ 0x7f800000) (b1 : b ≤ 0x7f800000) : ∃ n : Nat, n ≤ 0x7f800000 ∧ bF 0 (a : Int) (b : Int) = some (n : Int) := by
  refine ⟨_, enc_add a1 b1, ?_⟩
  show fN (UInt32.ofNat (FP.Core.add FP.Core.b32 (u32 _).toNat (u32 _).toNat)) = _
  rw [u32_nn a1, u32_nn b1]
  exact fN_ok (enc_add a1 b1)
theorem bF_div {a : Nat} (a1 : a ≤ 0x7f800000) : ∃ n : Nat, n ≤ 0x7f800000 ∧ bF 2 (a : Int) 1120403456 = some (n : Int) := by
  refine ⟨_, enc_div a1, ?_⟩
  show fN (UInt32.ofNat (FP.Core.div FP.Core.b32 (u32 _).toNat (u32 ((1120403456 : Nat) : Int)).toNat)) = _
  rw [u32_nn a1, u32_nn (by decide)]
  exact fN_ok (enc_div a1)
theorem bF_m100 {a : Nat} (a1 : a ≤ 0x7f800000) : ∃ n : Nat, n ≤ 0x7f800000 ∧ bF 1 (a : Int) 1120403456 = some (n : Int) := by
  refine ⟨_, enc_mul100 a1, ?_⟩
  show fN (UInt32.ofNat (FP.Core.mul FP.Core.b32 (u32 _).toNat (u32 ((1120403456 : Nat) : Int)).toNat)) = _
  rw [u32_nn a1, u32_nn (by decide)]
  exact fN_ok (enc_mul100 a1)
/-- a rate: the float's chain as both sides have it -/
def rt (c p s : Int) : Option (Int × Int) := (bF 1 ((FP.i2f (Int32.ofInt c)).toNat : Int) ((FP.i2f (Int32.ofInt (w32 (100 - s)))).toNat : Int)).bind fun z1 => (bF 1 ((FP.i2f (Int32.ofInt p)).toNat : Int) ((FP.i2f (Int32.ofInt s)).toNat : Int)).bind fun z2 => (bF 0 z1 z2).bind fun z3 => (bF 2 z3 1120403456).bind fun z4 => (bF 1 z4 1120403456).bind fun z5 => some (z4, (FP.f2i (u32 z5)).toInt)
def rate (c p s : Int) : Int := ((rt c p s).getD (0, 0)).2
theorem rt_ok {c p s : Int} (c0 : 0 ≤ c) (c1 : c ≤ 1000000) (p0 : 0 ≤ p) (p1 : p ≤ 1000000) (s0 : 0 ≤ s) (s1 : s ≤ 100) : ∃ z1 z2 z3 z4 z5, bF 1 ((FP.i2f (Int32.ofInt c)).toNat : Int) ((FP.i2f (Int32.ofInt (w32 (100 - s)))).toNat : Int) = some z1 ∧ bF 1 ((FP.i2f (Int32.ofInt p)).toNat : Int) ((FP.i2f (Int32.ofInt s)).toNat : Int) = some z2 ∧ bF 0 z1 z2 = some z3 ∧ bF 2 z3 1120403456 = some z4 ∧ bF 1 z4 1120403456 = some z5 ∧ (FP.f2i (u32 z5)).toInt = rate c p s := by
  have e : w32 (100 - s) = 100 - s := w32_id (by omega) (by omega)
  obtain ⟨n1, b1, h1⟩ := bF_mul (a := c) (b := w32 (100 - s)) c0 c1 (by omega) (by omega)
  obtain ⟨n2, b2, h2⟩ := bF_mul (a := p) (b := s) p0 p1 (by omega) (by omega)
  obtain ⟨n3, b3, h3⟩ := bF_add b1 b2
  obtain ⟨n4, b4, h4⟩ := bF_div b3
  obtain ⟨n5, b5, h5⟩ := bF_m100 b4
  refine ⟨n1, n2, n3, n4, n5, h1, h2, h3, h4, h5, ?_⟩
  unfold rate rt
  rw [h1, h2]
  simp only [Option.bind_some, h3, h4, h5, Option.getD_some]
theorem rate_bd (c p s : Int) : -2147483648 ≤ rate c p s ∧ rate c p s < 2147483648 := by
  unfold rate
  cases h : rt c p s with
  | none => decide
  | some v =>
    unfold rt at h
    simp only [Option.bind_eq_some_iff] at h
    obtain ⟨z1, _, z2, _, z3, _, z4, _, z5, _, e⟩ := h
    cases e
    have h1 := Int32.le_toInt (FP.f2i (u32 z5))
    have h2 := Int32.toInt_lt (FP.f2i (u32 z5))
    simp only [Option.getD_some]
    omega
