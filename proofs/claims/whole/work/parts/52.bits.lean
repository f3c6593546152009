/-! longs: shifts and bits; rows of keys packed -/
theorem b_of {a : Nat} (h : a < 2 ^ 63) : (Int64.ofInt (a : Int)).toBitVec.toNat = a := by
  have e : (Int64.ofInt (a : Int)).toBitVec = BitVec.ofInt 64 (a : Int) := rfl
  rw [e, BitVec.toNat_ofInt]
  omega
theorem b_to {x : Int64} (h : x.toBitVec.toNat < 2 ^ 63) : x.toInt = (x.toBitVec.toNat : Int) := by
  show x.toBitVec.toInt = _
  rw [BitVec.toInt_eq_toNat_cond]
  rw [if_pos (by omega)]
theorem b_or {a b : Nat} (ha : a < 2 ^ 63) (hb : b < 2 ^ 63) : (Int64.ofInt (a : Int) ||| Int64.ofInt (b : Int)).toInt = ((a ||| b : Nat) : Int) := by
  have e : (Int64.ofInt (a : Int) ||| Int64.ofInt (b : Int)).toBitVec.toNat = a ||| b := by
    rw [Int64.toBitVec_or, BitVec.toNat_or, b_of ha, b_of hb]
  rw [b_to (by rw [e]; exact Nat.or_lt_two_pow ha hb), e]
theorem b_and {a b : Nat} (ha : a < 2 ^ 63) (hb : b < 2 ^ 63) : (Int64.ofInt (a : Int) &&& Int64.ofInt (b : Int)).toInt = ((a &&& b : Nat) : Int) := by
  have e : (Int64.ofInt (a : Int) &&& Int64.ofInt (b : Int)).toBitVec.toNat = a &&& b := by
    rw [Int64.toBitVec_and, BitVec.toNat_and, b_of ha, b_of hb]
  rw [b_to (by rw [e]; exact Nat.and_lt_two_pow _ hb), e]
theorem b_sh {n : Nat} (hn : n < 64) : (((Int32.ofInt (n : Int)).toInt64 &&& 63)).toBitVec.toNat = n := by
  have h : ∀ n : Fin 64, (((Int32.ofInt ((n.val : Nat) : Int)).toInt64 &&& 63)).toBitVec.toNat = n.val := by decide
  exact h ⟨n, hn⟩
theorem b_shu {n : Nat} (hn : n < 64) : (((Int32.ofInt (n : Int)).toInt64.toUInt64 &&& Int64.toUInt64 63)).toNat = n := by
  have h : ∀ n : Fin 64, (((Int32.ofInt ((n.val : Nat) : Int)).toInt64.toUInt64 &&& Int64.toUInt64 63)).toNat = n.val := by decide
  exact h ⟨n, hn⟩
theorem b_shm {n : Nat} (hn : n < 64) : ((((Int32.ofInt (n : Int)).toInt64 &&& 63)).toBitVec.smod (64 : BitVec 64)).toNat = n := by
  have h : ∀ n : Fin 64, ((((Int32.ofInt ((n.val : Nat) : Int)).toInt64 &&& 63)).toBitVec.smod (64 : BitVec 64)).toNat = n.val := by decide
  exact h ⟨n, hn⟩
theorem b_lshl {a n : Nat} (hn : n < 64) (h : a * 2 ^ n < 2 ^ 63) : lshl (a : Int) (n : Int) = ((a * 2 ^ n : Nat) : Int) := by
  have ha : a < 2 ^ 63 := Nat.lt_of_le_of_lt (Nat.le_mul_of_pos_right a (Nat.two_pow_pos n)) h
  unfold lshl
  have e : (Int64.ofInt (a : Int) <<< ((Int32.ofInt (n : Int)).toInt64 &&& 63)).toBitVec.toNat = a * 2 ^ n := by
    rw [Int64.toBitVec_shiftLeft, BitVec.shiftLeft_eq', b_shm hn, BitVec.toNat_shiftLeft, b_of ha, Nat.shiftLeft_eq]
    exact Nat.mod_eq_of_lt (Nat.lt_trans h (by decide))
  rw [b_to (by rw [e]; exact h), e]
theorem b_lushr {a n : Nat} (hn : n < 64) (h : a < 2 ^ 63) : lushr (a : Int) (n : Int) = ((a / 2 ^ n : Nat) : Int) := by
  unfold lushr
  have e : (((Int64.ofInt (a : Int)).toUInt64 >>> ((Int32.ofInt (n : Int)).toInt64.toUInt64 &&& Int64.toUInt64 63)).toInt64).toBitVec.toNat = a / 2 ^ n := by
    show ((Int64.ofInt (a : Int)).toUInt64 >>> ((Int32.ofInt (n : Int)).toInt64.toUInt64 &&& Int64.toUInt64 63)).toNat = _
    rw [UInt64.toNat_shiftRight, b_shu hn, show ((Int64.ofInt (a : Int)).toUInt64).toNat = (Int64.ofInt (a : Int)).toBitVec.toNat from rfl, b_of h, Nat.mod_eq_of_lt hn, Nat.shiftRight_eq_div_pow]
  rw [b_to (by rw [e]; exact Nat.lt_of_le_of_lt (Nat.div_le_self _ _) h), e]

def pkN (f : Int → Int) : Nat → Int
  | 0 => 0
  | n + 1 => 16 * pkN f n + f n
/-- m keys packed, the last one lowest -/
def P (f : Int → Int) (m : Int) : Int := pkN f m.toNat
theorem P_0 (f : Int → Int) : P f 0 = 0 := rfl
theorem P_neg (f : Int → Int) {m : Int} (h : m ≤ 0) : P f m = 0 := by unfold P; rw [show m.toNat = 0 by omega]; rfl
theorem P_succ (f : Int → Int) {m : Int} (h : 0 ≤ m) : P f (m + 1) = 16 * P f m + f m := by
  unfold P
  rw [show (m + 1).toNat = m.toNat + 1 by omega]
  show 16 * pkN f m.toNat + f (m.toNat : Int) = _
  rw [show (m.toNat : Int) = m by omega]
theorem P_congr {f g : Int → Int} {m : Int} (h : ∀ i, 0 ≤ i → i < m → f i = g i) : P f m = P g m := by
  by_cases c : 0 ≤ m
  · have : ∀ n, 0 ≤ n → n ≤ m → P f n = P g n := i_up (P := fun n => n ≤ m → P f n = P g n) (fun _ => rfl) (fun i i0 ih i1 => by rw [P_succ f i0, P_succ g i0, ih (by omega), h i i0 (by omega)])
    exact this m c (by omega)
  · rw [P_neg f (by omega), P_neg g (by omega)]
/-- keys: from 1 to 9 -/
def keysOK (f : Int → Int) (m : Int) : Prop := ∀ i, 0 ≤ i → i < m → 1 ≤ f i ∧ f i ≤ 9
theorem P_nn {f : Int → Int} {m : Int} (hf : keysOK f m) : 0 ≤ P f m := by
  by_cases c : 0 ≤ m
  · have : ∀ n, 0 ≤ n → n ≤ m → 0 ≤ P f n := i_up (P := fun n => n ≤ m → 0 ≤ P f n) (fun _ => Int.le_refl 0) (fun i i0 ih i1 => by rw [P_succ f i0]; have := ih (by omega); have := hf i i0 (by omega); omega)
    exact this m c (by omega)
  · rw [P_neg f (by omega)]; omega
theorem P_pos {f : Int → Int} {m : Int} (hf : keysOK f m) (h : 0 < m) : 0 < P f m := by
  have e : P f m = 16 * P f (m - 1) + f (m - 1) := by
    have := P_succ f (m := m - 1) (by omega)
    rw [show m - 1 + 1 = m by omega] at this; exact this
  have a := P_nn (f := f) (m := m - 1) (fun i i0 i1 => hf i i0 (by omega))
  have b := hf (m - 1) (by omega) (by omega)
  omega
theorem P_lt {f : Int → Int} {m : Int} (hf : keysOK f m) (h1 : m ≤ 15) : P f m < 1152921504606846976 := by
  by_cases c : 0 ≤ m
  · have : ∀ n, 0 ≤ n → n ≤ m → P f n + 1 ≤ 16 ^ n.toNat := i_up (P := fun n => n ≤ m → P f n + 1 ≤ 16 ^ n.toNat) (fun _ => by rw [P_0]; decide) (fun i i0 ih i1 => by
      rw [P_succ f i0, show (i + 1).toNat = i.toNat + 1 by omega, Int.pow_succ]
      have := ih (by omega); have := hf i i0 (by omega); omega)
    have h := this m c (by omega)
    have hp : (16 : Int) ^ m.toNat ≤ 16 ^ 15 := by
      have : (16 : Nat) ^ m.toNat ≤ 16 ^ 15 := Nat.pow_le_pow_right (by decide) (by omega)
      exact_mod_cast this
    have : (16 : Int) ^ 15 = 1152921504606846976 := by decide
    omega
  · rw [P_neg f (by omega)]; omega
theorem P_inj {f g : Int → Int} {m n : Int} (hf : keysOK f m) (hg : keysOK g n) (m0 : 0 ≤ m) (n0 : 0 ≤ n) (h : P f m = P g n) : m = n ∧ ∀ i, 0 ≤ i → i < m → f i = g i := by
  have main : ∀ m, 0 ≤ m → ∀ n, 0 ≤ n → keysOK f m → keysOK g n → P f m = P g n → m = n ∧ ∀ i, 0 ≤ i → i < m → f i = g i := i_up (P := fun m => ∀ n, 0 ≤ n → keysOK f m → keysOK g n → P f m = P g n → m = n ∧ ∀ i, 0 ≤ i → i < m → f i = g i)
    (fun n n0 _ hg h => by
      by_cases c : n = 0
      · exact ⟨c.symm, fun i i0 i1 => by omega⟩
      · have := P_pos hg (by omega); rw [P_0] at h; omega)
    (fun m m0 ih n n0 hf hg h => by
      by_cases c : n = 0
      · have := P_pos hf (by omega); rw [c, P_0] at h; omega
      · have e : P g n = 16 * P g (n - 1) + g (n - 1) := by
          have := P_succ g (m := n - 1) (by omega)
          rw [show n - 1 + 1 = n by omega] at this; exact this
        have a := hf m m0 (by omega)
        have b := hg (n - 1) (by omega) (by omega)
        rw [P_succ f m0, e] at h
        obtain ⟨i1, i2⟩ := ih (n - 1) (by omega) (fun i i0 i1 => hf i i0 (by omega)) (fun i i0 i1 => hg i i0 (by omega)) (by omega)
        refine ⟨by omega, fun i i0 i3 => ?_⟩
        by_cases q : i = m
        · rw [q]; have : n - 1 = m := by omega
          rw [this] at h b; omega
        · exact i2 i i0 (by omega))
  exact main m m0 n n0 hf hg h
theorem P_div {f : Int → Int} {m j : Int} (hf : keysOK f m) (j0 : 0 ≤ j) : ((P f m).toNat / 2 ^ (4 * j.toNat) : Nat) = (P f (m - j)).toNat := by
  have step : ∀ n, keysOK f n → (P f n).toNat / 16 = (P f (n - 1)).toNat := fun n hn => by
    by_cases c : 0 < n
    · have e : P f n = 16 * P f (n - 1) + f (n - 1) := by
        have := P_succ f (m := n - 1) (by omega)
        rw [show n - 1 + 1 = n by omega] at this; exact this
      have a := hn (n - 1) (by omega) (by omega)
      have b := P_nn (f := f) (m := n - 1) (fun i i0 i1 => hn i i0 (by omega))
      omega
    · rw [P_neg f (by omega), P_neg f (by omega)]; rfl
  have : ∀ j, 0 ≤ j → ((P f m).toNat / 2 ^ (4 * j.toNat) : Nat) = (P f (m - j)).toNat := i_up (P := fun j => ((P f m).toNat / 2 ^ (4 * j.toNat) : Nat) = (P f (m - j)).toNat) (by show (P f m).toNat / 2 ^ 0 = (P f (m - 0)).toNat; rw [Int.sub_zero]; omega) (fun i i0 ih => by
    rw [show 4 * (i + 1).toNat = 4 * i.toNat + 4 by omega, Nat.pow_add, ← Nat.div_div_eq_div_mul, ih, show (2 : Nat) ^ 4 = 16 from rfl, step _ (fun k k0 k1 => hf k k0 (by omega)), show m - i - 1 = m - (i + 1) by omega])
  exact this j j0
theorem P_shr {f : Int → Int} {m j : Int} (hf : keysOK f m) (h1 : m ≤ 15) (j0 : 0 ≤ j) (j1 : j < 16) : lushr (P f m) (4 * j) = P f (m - j) := by
  have a := P_nn hf
  have b := P_lt hf h1
  have c := P_nn (f := f) (m := m - j) (fun i i0 i1 => hf i i0 (by omega))
  have e := b_lushr (a := (P f m).toNat) (n := 4 * j.toNat) (by omega) (by have : (2 : Nat) ^ 63 = 9223372036854775808 := rfl; omega)
  rw [show (((P f m).toNat : Nat) : Int) = P f m by omega, show ((4 * j.toNat : Nat) : Int) = 4 * j by omega, P_div hf j0] at e
  rw [e]; omega
theorem sp_14 {x k : Int} (μ : Mem) (x0 : 0 ≤ x) (x1 : x < 72057594037927936) (k0 : 0 ≤ k) (k1 : k < 16) : qR 14 [(1, x), (0, k)] μ = some ((1, 16 * x + k), μ) := by
  have e1 := b_lshl (a := x.toNat) (n := 4) (by decide) (by have : (2 : Nat) ^ 63 = 9223372036854775808 := rfl; have : (2 : Nat) ^ 4 = 16 := rfl; omega)
  rw [show ((x.toNat : Nat) : Int) = x by omega, show ((4 : Nat) : Int) = 4 from rfl] at e1
  have e2 := b_or (a := x.toNat * 2 ^ 4) (b := k.toNat) (by have : (2 : Nat) ^ 63 = 9223372036854775808 := rfl; have : (2 : Nat) ^ 4 = 16 := rfl; omega) (by have : (2 : Nat) ^ 63 = 9223372036854775808 := rfl; omega)
  have e3 : x.toNat * 2 ^ 4 ||| k.toNat = x.toNat * 2 ^ 4 + k.toNat := by
    have := Nat.shiftLeft_add_eq_or_of_lt (b := k.toNat) (i := 4) (by have : (2 : Nat) ^ 4 = 16 := rfl; omega) x.toNat
    rw [Nat.shiftLeft_eq] at this
    exact this.symm
  rw [r_14, e1]
  rw [e3, show ((k.toNat : Nat) : Int) = k by omega] at e2
  rw [e2]
  have : (2 : Nat) ^ 4 = 16 := rfl
  have : ((x.toNat * 2 ^ 4 + k.toNat : Nat) : Int) = 16 * x + k := by omega
  rw [this]
theorem sp_16 {f : Int → Int} {m : Int} (μ : Mem) (hf : keysOK f m) (m0 : 0 ≤ m) (h1 : m ≤ 15) : qR 16 [(1, P f m)] μ = some ((0, m), μ) := by
  have e4 : ∀ i, 0 ≤ i → i < 16 → w32 (4 * i) = 4 * i := fun i i0 i1 => w32_id (by omega) (by omega)
  rw [r_16, it_up (fun i => qE 16 2 [(1, P f m), (9, 0), (0, i)] [] μ) m0 (fun i i0 i1 => ?_)]
  · show qE 16 2 [(1, P f m), (9, 0), (0, m)] [] μ = _
    rw [e_16_2, if_pos (by omega), e4 m m0 (by omega), P_shr hf h1 m0 (by omega), P_neg f (by omega), if_pos (by decide)]
  · show qE 16 2 [(1, P f m), (9, 0), (0, i)] [] μ = qE 16 2 [(1, P f m), (9, 0), (0, i + 1)] [] μ
    have hp := P_pos (f := f) (m := m - i) (fun k k0 k1 => hf k k0 (by omega)) (by omega)
    have hc : ¬ cmpL (P f (m - i)) 0 = 0 := by unfold cmpL; rw [if_neg (by omega), if_neg (by omega)]; decide
    rw [e_16_2, if_pos (by omega), e4 i i0 (by omega), P_shr hf h1 i0 (by omega), if_neg hc, w32_id (by omega) (by omega)]
theorem cmpL_eq (x y : Int) : cmpL x y = 0 ↔ x = y := by
  unfold cmpL
  by_cases c : x < y
  · rw [if_pos c]; constructor
    · intro h; omega
    · intro h; omega
  · rw [if_neg c]
    by_cases d : x = y
    · rw [if_pos d]; exact ⟨fun _ => d, fun _ => rfl⟩
    · rw [if_neg d]; exact ⟨fun h => by omega, fun h => absurd h d⟩
/-- keyAt, from the end -/
theorem sp_17 {f : Int → Int} {m p : Int} (μ : Mem) (hf : keysOK f m) (h1 : m ≤ 15) (p0 : 0 ≤ p) (p1 : p < m) : qR 17 [(1, P f m), (0, p)] μ = some ((0, f (m - p - 1)), μ) := by
  have e4 : w32 (4 * p) = 4 * p := w32_id (by omega) (by omega)
  have a := P_nn (f := f) (m := m - p) (fun i i0 i1 => hf i i0 (by omega))
  have b := P_lt (f := f) (m := m - p) (fun i i0 i1 => hf i i0 (by omega)) (by omega)
  have e := b_and (a := (P f (m - p)).toNat) (b := 15) (by have : (2 : Nat) ^ 63 = 9223372036854775808 := rfl; omega) (by decide)
  have e15 : (P f (m - p)).toNat &&& 15 = (P f (m - p)).toNat % 16 := Nat.and_two_pow_sub_one_eq_mod (P f (m - p)).toNat 4
  rw [e15, show (((P f (m - p)).toNat : Nat) : Int) = P f (m - p) by omega, show ((15 : Nat) : Int) = 15 from rfl] at e
  have es : P f (m - p) = 16 * P f (m - p - 1) + f (m - p - 1) := by
    have := P_succ f (m := m - p - 1) (by omega)
    rw [show m - p - 1 + 1 = m - p by omega] at this; exact this
  have hk := hf (m - p - 1) (by omega) (by omega)
  have c := P_nn (f := f) (m := m - p - 1) (fun i i0 i1 => hf i i0 (by omega))
  have ev : (((P f (m - p)).toNat % 16 : Nat) : Int) = f (m - p - 1) := by omega
  rw [r_17, e4, P_shr hf h1 p0 (by omega), e, ev, w32_id (by omega) (by omega)]
