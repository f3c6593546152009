/-! packed rows: without, common starts, slips -/
def dropI (f : Int → Int) (d i : Int) : Int := if i < d then f i else f (i + 1)
theorem dropI_ok {f : Int → Int} {m d : Int} (hf : keysOK f m) (d0 : 0 ≤ d) : keysOK (dropI f d) (m - 1) := fun i i0 i1 => by
  unfold dropI
  by_cases c : i < d
  · rw [if_pos c]; exact hf i i0 (by omega)
  · rw [if_neg c]; exact hf (i + 1) (by omega) (by omega)
theorem P_wo {f : Int → Int} {m d : Int} (hf : keysOK f m) (d0 : 0 ≤ d) : ∀ p, 0 ≤ p → d + 1 + p ≤ m → (P f d).toNat * 2 ^ (4 * p.toNat) + (P f (d + 1 + p)).toNat % 2 ^ (4 * p.toNat) = (P (dropI f d) (d + p)).toNat := by
  refine i_up (P := fun p => d + 1 + p ≤ m → (P f d).toNat * 2 ^ (4 * p.toNat) + (P f (d + 1 + p)).toNat % 2 ^ (4 * p.toNat) = (P (dropI f d) (d + p)).toNat) (fun _ => ?_) (fun p p0 ih hp => ?_)
  · show (P f d).toNat * 1 + (P f (d + 1 + 0)).toNat % 1 = (P (dropI f d) (d + 0)).toNat
    rw [Nat.mod_one, Int.add_zero, P_congr (f := dropI f d) (g := f) (fun i i0 i1 => by unfold dropI; rw [if_pos i1])]; omega
  · have h := ih (by omega)
    have a := P_nn (f := f) (m := d + 1 + p) (fun i i0 i1 => hf i i0 (by omega))
    have b := P_nn (f := dropI f d) (m := d + p) (fun i i0 i1 => dropI_ok hf d0 i i0 (by omega))
    have k := hf (d + 1 + p) (by omega) (by omega)
    have g1 : dropI f d (d + p) = f (d + 1 + p) := by unfold dropI; rw [if_neg (by omega), show d + p + 1 = d + 1 + p by omega]
    have e1 : (P f (d + 1 + (p + 1))).toNat = 16 * (P f (d + 1 + p)).toNat + (f (d + 1 + p)).toNat := by
      rw [show d + 1 + (p + 1) = (d + 1 + p) + 1 by omega, P_succ f (by omega)]; omega
    have e2 : (P (dropI f d) (d + (p + 1))).toNat = 16 * (P (dropI f d) (d + p)).toNat + (f (d + 1 + p)).toNat := by
      rw [show d + (p + 1) = (d + p) + 1 by omega, P_succ _ (by omega), g1]; omega
    have e3 : 2 ^ (4 * (p + 1).toNat) = 16 * 2 ^ (4 * p.toNat) := by
      rw [show 4 * (p + 1).toNat = 4 * p.toNat + 4 by omega, Nat.pow_add, Nat.mul_comm]
    rw [e1, e2, e3, Nat.mod_mul, ← h]
    have m1 : (16 * (P f (d + 1 + p)).toNat + (f (d + 1 + p)).toNat) % 16 = (f (d + 1 + p)).toNat := by omega
    have m2 : (16 * (P f (d + 1 + p)).toNat + (f (d + 1 + p)).toNat) / 16 = (P f (d + 1 + p)).toNat := by omega
    rw [m1, m2, Nat.mul_add, Nat.mul_left_comm]
    omega
theorem sp_18 {f : Int → Int} {m p : Int} (μ : Mem) (hf : keysOK f m) (h1 : m ≤ 15) (p0 : 0 ≤ p) (p1 : p < m) : qR 18 [(1, P f m), (0, p)] μ = some ((1, P (dropI f (m - p - 1)) (m - 1)), μ) := by
  have e4 : w32 (4 * p) = 4 * p := w32_id (by omega) (by omega)
  have hw := P_wo hf (d := m - p - 1) (by omega) p p0 (by omega)
  rw [show m - p - 1 + 1 + p = m by omega, show m - p - 1 + p = m - 1 by omega] at hw
  have gok := dropI_ok (d := m - p - 1) hf (by omega)
  have a := P_nn hf
  have b := P_lt hf h1
  have c := P_nn gok
  have c' := P_lt gok (by omega)
  have d := P_nn (f := f) (m := m - p - 1) (fun i i0 i1 => hf i i0 (by omega))
  have big : (2 : Nat) ^ 63 = 9223372036854775808 := rfl
  have s1 : lushr (lushr (P f m) (4 * p)) 4 = P f (m - p - 1) := by
    rw [P_shr hf h1 p0 (by omega)]
    have := P_shr (f := f) (m := m - p) (j := 1) (fun i i0 i1 => hf i i0 (by omega)) (by omega) (by decide) (by decide)
    exact this
  have q4 : ((4 * p.toNat : Nat) : Int) = 4 * p := by omega
  have s2 := b_lshl (a := (P f (m - p - 1)).toNat) (n := 4 * p.toNat) (by omega) (by omega)
  rw [q4, show (((P f (m - p - 1)).toNat : Nat) : Int) = P f (m - p - 1) by omega] at s2
  have p16 : 2 ^ (4 * p.toNat) < 2 ^ 63 := Nat.pow_lt_pow_right (by decide) (by omega)
  have pp : 0 < 2 ^ (4 * p.toNat) := Nat.two_pow_pos _
  have s3 := b_lshl (a := 1) (n := 4 * p.toNat) (by omega) (by omega)
  rw [q4, show ((1 : Nat) : Int) = 1 from rfl, Nat.one_mul] at s3
  have s4 : w64 (((2 ^ (4 * p.toNat) : Nat) : Int) - 1) = ((2 ^ (4 * p.toNat) - 1 : Nat) : Int) := by
    rw [w64_id (by omega) (by omega)]; omega
  have s5 := b_and (a := (P f m).toNat) (b := 2 ^ (4 * p.toNat) - 1) (by omega) (by omega)
  rw [Nat.and_two_pow_sub_one_eq_mod, show (((P f m).toNat : Nat) : Int) = P f m by omega] at s5
  have lt1 : (P f m).toNat % 2 ^ (4 * p.toNat) < 2 ^ (4 * p.toNat) := Nat.mod_lt _ pp
  have s6 := b_or (a := (P f (m - p - 1)).toNat * 2 ^ (4 * p.toNat)) (b := (P f m).toNat % 2 ^ (4 * p.toNat)) (by omega) (by omega)
  have s7 : (P f (m - p - 1)).toNat * 2 ^ (4 * p.toNat) ||| (P f m).toNat % 2 ^ (4 * p.toNat) = (P f (m - p - 1)).toNat * 2 ^ (4 * p.toNat) + (P f m).toNat % 2 ^ (4 * p.toNat) := by
    have := Nat.shiftLeft_add_eq_or_of_lt (b := (P f m).toNat % 2 ^ (4 * p.toNat)) (i := 4 * p.toNat) lt1 (P f (m - p - 1)).toNat
    rw [Nat.shiftLeft_eq] at this
    exact this.symm
  rw [s7, hw] at s6
  rw [r_18, e4, s1, s2, s3, s4, s5, s6, show (((P (dropI f (m - p - 1)) (m - 1)).toNat : Nat) : Int) = P (dropI f (m - p - 1)) (m - 1) by omega]
/-- s is how many keys two rows have in common from the first on -/
def isCS (f : Int → Int) (m : Int) (g : Int → Int) (n s : Int) : Prop := 0 ≤ s ∧ s ≤ m ∧ s ≤ n ∧ (∀ i, 0 ≤ i → i < s → f i = g i) ∧ ((s = m ∨ s = n) ∨ f s ≠ g s)
theorem cs_ex (f : Int → Int) {m : Int} (g : Int → Int) {n : Int} (m0 : 0 ≤ m) (n0 : 0 ≤ n) : ∃ s, isCS f m g n s := by
  have main : ∀ t, 0 ≤ t → t ≤ m → t ≤ n → (t = m ∨ t = n) → ∃ s, isCS f m g n s := fun t t0 t1 t2 t3 => by
    by_cases h : ∀ i, 0 ≤ i → i < t → f i = g i
    · exact ⟨t, t0, t1, t2, h, Or.inl t3⟩
    · obtain ⟨p, p0, p1, p2, p3⟩ := first_not _ h
      exact ⟨p, p0, by omega, by omega, p3, Or.inr p2⟩
  by_cases c : m ≤ n
  · exact main m m0 (by omega) c (Or.inl rfl)
  · exact main n n0 (by omega) (by omega) (Or.inr rfl)
theorem cs_one {f g : Int → Int} {m n s t : Int} (h : isCS f m g n s) (k : isCS f m g n t) : s = t := by
  obtain ⟨a1, a2, a3, a4, a5⟩ := h
  obtain ⟨b1, b2, b3, b4, b5⟩ := k
  by_cases c : s < t
  · rcases a5 with q | q
    · omega
    · exact absurd (b4 s a1 c) q
  · by_cases d : t < s
    · rcases b5 with q | q
      · omega
      · exact absurd (a4 t b1 d) q
    · omega
theorem sp_19 {f g : Int → Int} {m n s : Int} (μ : Mem) (hf : keysOK f m) (hg : keysOK g n) (m0 : 0 ≤ m) (m1 : m ≤ 15) (n0 : 0 ≤ n) (n1 : n ≤ 15) (h : isCS f m g n s) : qR 19 [(1, P f m), (1, P g n)] μ = some ((0, s), μ) := by
  obtain ⟨h0, h1, h2, h3, h4⟩ := h
  obtain ⟨t, ht, t0, t1, t2, t3⟩ : ∃ t, t = (if m ≤ n then m else n) ∧ 0 ≤ t ∧ t ≤ m ∧ t ≤ n ∧ (t = m ∨ t = n) := by
    by_cases c : m ≤ n
    · exact ⟨m, by rw [if_pos c], by omega, by omega, by omega, by omega⟩
    · exact ⟨n, by rw [if_neg c], by omega, by omega, by omega, by omega⟩
  have e217 : qR 217 [(0, m), (0, n)] μ = some ((0, t), μ) := by
    rw [r_217, ht]
    by_cases c : m ≤ n
    · rw [if_pos c, if_pos c]
    · rw [if_neg c, if_neg c]
  have fk : ∀ k, k ≤ m → keysOK f k := fun k hk i i0 i1 => hf i i0 (by omega)
  have gk : ∀ k, k ≤ n → keysOK g k := fun k hk i i0 i1 => hg i i0 (by omega)
  have x1 : w32 (m - t) = m - t := w32_id (by omega) (by omega)
  have x2 : w32 (n - t) = n - t := w32_id (by omega) (by omega)
  have x3 : w32 (4 * (m - t)) = 4 * (m - t) := w32_id (by omega) (by omega)
  have x4 : w32 (4 * (n - t)) = 4 * (n - t) := w32_id (by omega) (by omega)
  rw [r_19, sp_16 μ hf m0 m1]
  simp only [Option.bind_some, psh_0]
  rw [e_19_4, sp_16 μ hg n0 n1]
  simp only [Option.bind_some, psh_0]
  rw [e_19_10, e217]
  simp only [Option.bind_some, psh_0]
  rw [e_19_19, x1, x2, x3, x4, P_shr hf m1 (by omega) (by omega), P_shr hg n1 (by omega) (by omega), show m - (m - t) = t by omega, show n - (n - t) = t by omega]
  have st : s ≤ t := by omega
  rw [it_dn (fun i => qE 19 43 [(1, P f m), (9, 0), (1, P g n), (9, 0), (0, m), (0, n), (0, i), (1, P f i), (9, 0), (1, P g i), (9, 0)] [] μ) st (fun i i0 i1 => ?_)]
  · show qE 19 43 [(1, P f m), (9, 0), (1, P g n), (9, 0), (0, m), (0, n), (0, s), (1, P f s), (9, 0), (1, P g s), (9, 0)] [] μ = _
    rw [e_19_43]
    by_cases c : s ≤ 0
    · rw [if_pos c]
    · rw [if_neg c, if_pos ((cmpL_eq _ _).2 (P_congr h3))]
  · show qE 19 43 [(1, P f m), (9, 0), (1, P g n), (9, 0), (0, m), (0, n), (0, i), (1, P f i), (9, 0), (1, P g i), (9, 0)] [] μ = qE 19 43 [(1, P f m), (9, 0), (1, P g n), (9, 0), (0, m), (0, n), (0, i - 1), (1, P f (i - 1)), (9, 0), (1, P g (i - 1)), (9, 0)] [] μ
    have ne : ¬ cmpL (P f i) (P g i) = 0 := fun q => by
      have := (P_inj (fk i (by omega)) (gk i (by omega)) (by omega) (by omega) ((cmpL_eq _ _).1 q)).2 s h0 (by omega)
      rcases h4 with z | z
      · omega
      · exact z this
    have y1 : lushr (P f i) 4 = P f (i - 1) := P_shr (j := 1) (fk i (by omega)) (by omega) (by decide) (by decide)
    have y2 : lushr (P g i) 4 = P g (i - 1) := P_shr (j := 1) (gk i (by omega)) (by omega) (by decide) (by decide)
    rw [e_19_43, if_neg (by omega), if_neg ne, y1, y2, show i + -1 = i - 1 by omega, w32_id (by omega) (by omega)]
/-- the first row is a start of the second -/
def pre (f : Int → Int) (m : Int) (g : Int → Int) (n : Int) : Prop := m ≤ n ∧ ∀ i, 0 ≤ i → i < m → f i = g i
theorem sp_20 {f g : Int → Int} {m n : Int} (μ : Mem) (hf : keysOK f m) (hg : keysOK g n) (m0 : 0 ≤ m) (m1 : m ≤ 15) (n0 : 0 ≤ n) (n1 : n ≤ 15) : (pre f m g n → qR 20 [(1, P g n), (1, P f m)] μ = some ((0, 1), μ)) ∧ (¬ pre f m g n → qR 20 [(1, P g n), (1, P f m)] μ = some ((0, 0), μ)) := by
  obtain ⟨s, hs⟩ := cs_ex g f n0 m0
  have main : qR 20 [(1, P g n), (1, P f m)] μ = if s = m then some ((0, 1), μ) else some ((0, 0), μ) := by
    rw [r_20, sp_19 μ hg hf n0 n1 m0 m1 hs]
    simp only [Option.bind_some, psh_0]
    rw [e_20_5, sp_16 μ hf m0 m1]
    simp only [Option.bind_some, psh_0]
    rw [e_20_9]
  obtain ⟨a1, a2, a3, a4, a5⟩ := hs
  rw [main]
  constructor
  · rintro ⟨p1, p2⟩
    rw [if_pos]
    rcases a5 with q | q
    · omega
    · by_cases c : s = m
      · exact c
      · exact absurd (p2 s a1 (by omega)).symm q
  · intro hp
    rw [if_neg]
    intro e
    exact hp ⟨by omega, fun i i0 i1 => (a4 i i0 (by omega)).symm⟩
/-- slips: one key beside; one key left out of the row; one key twice in the row -/
def slB (f : Int → Int) (m : Int) (g : Int → Int) (n : Int) : Prop := m = n ∧ ∃ p, 0 ≤ p ∧ p < m ∧ bes (f p) (g p) = 1 ∧ ∀ i, 0 ≤ i → i < m → i ≠ p → f i = g i
def slL (f : Int → Int) (m : Int) (g : Int → Int) (n : Int) : Prop := n = m + 1 ∧ ∃ d, 0 ≤ d ∧ d < n ∧ ∀ i, 0 ≤ i → i < m → f i = dropI g d i
def slT (f : Int → Int) (m : Int) (g : Int → Int) (n : Int) : Prop := m = n + 1 ∧ ∃ d, 1 ≤ d ∧ d < m ∧ f d = f (d - 1) ∧ ∀ i, 0 ≤ i → i < n → dropI f d i = g i
theorem bes_01 (a b : Int) : bes a b = 0 ∨ bes a b = 1 := by unfold bes; split <;> omega
theorem bes_ne {a b : Int} (h : bes a b = 1) : a ≠ b := fun e => by
  subst e
  unfold bes at h
  rw [Int.sub_self, Int.sub_self] at h
  rw [if_neg (by omega)] at h
  omega
theorem sp_23 {f g : Int → Int} {m n : Int} (μ : Mem) (hf : keysOK f m) (hg : keysOK g n) (m0 : 0 ≤ m) (n0 : 0 ≤ n) (n1 : n ≤ 15) (e : n = m + 1) : (slL f m g n → qR 23 [(1, P f m), (1, P g n)] μ = some ((0, 1), μ)) ∧ (¬ slL f m g n → qR 23 [(1, P f m), (1, P g n)] μ = some ((0, 0), μ)) := by
  have eqd : ∀ d, 0 ≤ d → d < n → (P (dropI g d) (n - 1) = P f m ↔ ∀ i, 0 ≤ i → i < m → f i = dropI g d i) := fun d d0 d1 => by
    constructor
    · intro h i i0 i1
      exact ((P_inj (dropI_ok hg d0) hf (by omega) m0 h).2 i i0 (by omega)).symm
    · intro h
      rw [show n - 1 = m by omega]
      exact P_congr fun i i0 i1 => (h i i0 i1).symm
  have hd : qR 23 [(1, P f m), (1, P g n)] μ = qE 23 9 [(1, P f m), (9, 0), (1, P g n), (9, 0), (0, n), (0, 0)] [] μ := by
    rw [r_23, sp_16 μ hg n0 n1]
    simp only [Option.bind_some, psh_0]
    rw [e_23_4]
  have step : ∀ p, 0 ≤ p → p < n → qE 23 9 [(1, P f m), (9, 0), (1, P g n), (9, 0), (0, n), (0, p)] [] μ = if cmpL (P (dropI g (n - p - 1)) (n - 1)) (P f m) = 0 then some ((0, 1), μ) else qE 23 9 [(1, P f m), (9, 0), (1, P g n), (9, 0), (0, n), (0, p + 1)] [] μ := fun p p0 p1 => by
    rw [e_23_9, if_pos p1, sp_18 μ hg n1 p0 p1]
    simp only [Option.bind_some, psh_1]
    rw [e_23_22, w32_id (by omega) (by omega)]
  rw [hd]
  constructor
  · rintro ⟨_, d, d0, d1, hd⟩
    by_cases h : ∀ p, 0 ≤ p → p < n → ¬ P (dropI g (n - p - 1)) (n - 1) = P f m
    · exact absurd ((eqd d d0 d1).2 hd) (by have := h (n - d - 1) (by omega) (by omega); rw [show n - (n - d - 1) - 1 = d by omega] at this; exact this)
    · obtain ⟨p, p0, p1, p2, p3⟩ := first_not _ h
      rw [it_up (fun p => qE 23 9 [(1, P f m), (9, 0), (1, P g n), (9, 0), (0, n), (0, p)] [] μ) p0 (fun i i0 i1 => ?_)]
      · show qE 23 9 [(1, P f m), (9, 0), (1, P g n), (9, 0), (0, n), (0, p)] [] μ = _
        rw [step p p0 p1, if_pos ((cmpL_eq _ _).2 (Classical.byContradiction p2))]
      · show qE 23 9 [(1, P f m), (9, 0), (1, P g n), (9, 0), (0, n), (0, i)] [] μ = qE 23 9 [(1, P f m), (9, 0), (1, P g n), (9, 0), (0, n), (0, i + 1)] [] μ
        rw [step i i0 (by omega), if_neg (fun q => p3 i i0 i1 ((cmpL_eq _ _).1 q))]
  · intro hno
    rw [it_up (fun p => qE 23 9 [(1, P f m), (9, 0), (1, P g n), (9, 0), (0, n), (0, p)] [] μ) n0 (fun i i0 i1 => ?_)]
    · show qE 23 9 [(1, P f m), (9, 0), (1, P g n), (9, 0), (0, n), (0, n)] [] μ = _
      rw [e_23_9, if_neg (by omega)]
    · show qE 23 9 [(1, P f m), (9, 0), (1, P g n), (9, 0), (0, n), (0, i)] [] μ = qE 23 9 [(1, P f m), (9, 0), (1, P g n), (9, 0), (0, n), (0, i + 1)] [] μ
      rw [step i i0 i1, if_neg (fun q => hno ⟨e, n - i - 1, by omega, by omega, (eqd _ (by omega) (by omega)).1 ((cmpL_eq _ _).1 q)⟩)]
theorem sp_24 {f g : Int → Int} {m n : Int} (μ : Mem) (hf : keysOK f m) (hg : keysOK g n) (m0 : 0 ≤ m) (m1 : m ≤ 15) (n0 : 0 ≤ n) (e : m = n + 1) : (slT f m g n → qR 24 [(1, P f m), (1, P g n)] μ = some ((0, 1), μ)) ∧ (¬ slT f m g n → qR 24 [(1, P f m), (1, P g n)] μ = some ((0, 0), μ)) := by
  have eqd : ∀ d, 0 ≤ d → d < m → (P (dropI f d) (m - 1) = P g n ↔ ∀ i, 0 ≤ i → i < n → dropI f d i = g i) := fun d d0 d1 => by
    constructor
    · intro h i i0 i1
      exact (P_inj (dropI_ok hf d0) hg (by omega) n0 h).2 i i0 (by omega)
    · intro h
      rw [show m - 1 = n by omega]
      exact P_congr fun i i0 i1 => h i i0 i1
  have hd : qR 24 [(1, P f m), (1, P g n)] μ = qE 24 9 [(1, P f m), (9, 0), (1, P g n), (9, 0), (0, m), (0, 0)] [] μ := by
    rw [r_24, sp_16 μ hf m0 m1]
    simp only [Option.bind_some, psh_0]
    rw [e_24_4]
  have step : ∀ p, 0 ≤ p → p < m - 1 → qE 24 9 [(1, P f m), (9, 0), (1, P g n), (9, 0), (0, m), (0, p)] [] μ = if f (m - p - 1) = f (m - p - 1 - 1) then (if cmpL (P (dropI f (m - p - 1)) (m - 1)) (P g n) = 0 then some ((0, 1), μ) else qE 24 9 [(1, P f m), (9, 0), (1, P g n), (9, 0), (0, m), (0, p + 1)] [] μ) else qE 24 9 [(1, P f m), (9, 0), (1, P g n), (9, 0), (0, m), (0, p + 1)] [] μ := fun p p0 p1 => by
    have e1 : w32 (p + 1) = p + 1 := w32_id (by omega) (by omega)
    rw [e_24_9, e1, if_pos (by omega), sp_17 μ hf m1 p0 (by omega)]
    simp only [Option.bind_some, psh_0]
    rw [e_24_24, e1, sp_17 μ hf m1 (p := p + 1) (by omega) (by omega)]
    simp only [Option.bind_some, psh_0]
    rw [e_24_32, e1, sp_18 μ hf m1 p0 (by omega), show m - (p + 1) - 1 = m - p - 1 - 1 by omega]
    simp only [Option.bind_some, psh_1]
    rw [e_24_41, e1]
  rw [hd]
  constructor
  · rintro ⟨_, d, d0, d1, d2, hd⟩
    by_cases h : ∀ p, 0 ≤ p → p < m - 1 → ¬ (f (m - p - 1) = f (m - p - 1 - 1) ∧ P (dropI f (m - p - 1)) (m - 1) = P g n)
    · have hh := h (m - d - 1) (by omega) (by omega)
      rw [show m - (m - d - 1) - 1 = d by omega] at hh
      exact absurd ⟨d2, (eqd d (by omega) d1).2 hd⟩ hh
    · obtain ⟨p, p0, p1, p2, p3⟩ := first_not _ h
      have p2' := Classical.byContradiction p2
      rw [it_up (fun p => qE 24 9 [(1, P f m), (9, 0), (1, P g n), (9, 0), (0, m), (0, p)] [] μ) p0 (fun i i0 i1 => ?_)]
      · show qE 24 9 [(1, P f m), (9, 0), (1, P g n), (9, 0), (0, m), (0, p)] [] μ = _
        rw [step p p0 p1, if_pos p2'.1, if_pos ((cmpL_eq _ _).2 p2'.2)]
      · show qE 24 9 [(1, P f m), (9, 0), (1, P g n), (9, 0), (0, m), (0, i)] [] μ = qE 24 9 [(1, P f m), (9, 0), (1, P g n), (9, 0), (0, m), (0, i + 1)] [] μ
        rw [step i i0 (by omega)]
        by_cases c : f (m - i - 1) = f (m - i - 1 - 1)
        · rw [if_pos c, if_neg (fun q => p3 i i0 i1 ⟨c, (cmpL_eq _ _).1 q⟩)]
        · rw [if_neg c]
  · intro hno
    rw [it_up (fun p => qE 24 9 [(1, P f m), (9, 0), (1, P g n), (9, 0), (0, m), (0, p)] [] μ) (show (0 : Int) ≤ m - 1 by omega) (fun i i0 i1 => ?_)]
    · show qE 24 9 [(1, P f m), (9, 0), (1, P g n), (9, 0), (0, m), (0, m - 1)] [] μ = _
      rw [e_24_9, w32_id (by omega) (by omega), if_neg (by omega)]
    · show qE 24 9 [(1, P f m), (9, 0), (1, P g n), (9, 0), (0, m), (0, i)] [] μ = qE 24 9 [(1, P f m), (9, 0), (1, P g n), (9, 0), (0, m), (0, i + 1)] [] μ
      rw [step i i0 i1]
      by_cases c : f (m - i - 1) = f (m - i - 1 - 1)
      · rw [if_pos c, if_neg (fun q => hno ⟨e, m - i - 1, by omega, by omega, c, (eqd _ (by omega) (by omega)).1 ((cmpL_eq _ _).1 q)⟩)]
      · rw [if_neg c]
theorem sp_147 (D : Mem) {a b : Int} (h1 : 1 ≤ a ∧ a ≤ 9) (h2 : 1 ≤ b ∧ b ≤ 9) : qR 147 [(3, 106), (0, a), (0, b)] (mk D) = some ((0, bes a b), mk D) := by
  have key : ∀ a, 1 ≤ a → a ≤ 9 → ∀ b, 1 ≤ b → b ≤ 9 → bes a b = if (w32 ((w32 ((w32 ((w32 (Int.tdiv (w32 (a - 1)) 3)) - (w32 (Int.tdiv (w32 (b - 1)) 3)))) * (w32 ((w32 (Int.tdiv (w32 (a - 1)) 3)) - (w32 (Int.tdiv (w32 (b - 1)) 3)))))) + (w32 ((w32 ((w32 ((w32 (a - 1)) - Int.tdiv (w32 (a - 1)) 3 * 3)) - (w32 ((w32 (b - 1)) - Int.tdiv (w32 (b - 1)) 3 * 3)))) * (w32 ((w32 ((w32 (a - 1)) - Int.tdiv (w32 (a - 1)) 3 * 3)) - (w32 ((w32 (b - 1)) - Int.tdiv (w32 (b - 1)) 3 * 3)))))))) = 1 then 1 else 0 :=
    nine (P := fun a => ∀ b, 1 ≤ b → b ≤ 9 → bes a b = _) (fun k => nine (P := fun b => bes ((k.val : Int) + 1) b = _) (by revert k; decide))
  rw [key a h1.1 h1.2 b h2.1 h2.2]
  simp only [r_147, sp_142, psh_0, e_147_7, e_147_17, h1, h2, and_self, if_true, Option.bind_some]
  rw [if_neg (by decide), if_neg (by decide)]
  split <;> rfl
theorem sp_22 {f g : Int → Int} {m : Int} (μ : Mem) (hf : keysOK f m) (hg : keysOK g m) (m0 : 0 ≤ m) (m1 : m ≤ 15) : (slB f m g m → qR 22 [(1, P f m), (1, P g m)] μ = some ((0, 1), μ)) ∧ (¬ slB f m g m → qR 22 [(1, P f m), (1, P g m)] μ = some ((0, 0), μ)) := by
  have hd : qR 22 [(1, P f m), (1, P g m)] μ = qE 22 12 [(1, P f m), (9, 0), (1, P g m), (9, 0), (0, m), (0, -1), (0, 0)] [] μ := by
    rw [r_22, sp_16 μ hf m0 m1]
    simp only [Option.bind_some, psh_0]
    rw [e_22_4]
  have step : ∀ x p, 0 ≤ p → p < m → qE 22 12 [(1, P f m), (9, 0), (1, P g m), (9, 0), (0, m), (0, x), (0, p)] [] μ = if f (m - p - 1) = g (m - p - 1) then qE 22 12 [(1, P f m), (9, 0), (1, P g m), (9, 0), (0, m), (0, x), (0, p + 1)] [] μ else (if x < 0 then qE 22 12 [(1, P f m), (9, 0), (1, P g m), (9, 0), (0, m), (0, p), (0, p + 1)] [] μ else some ((0, 0), μ)) := fun x p p0 p1 => by
    rw [e_22_12, if_pos p1, sp_17 μ hf m1 p0 p1]
    simp only [Option.bind_some, psh_0]
    rw [e_22_25, sp_17 μ hg m1 p0 p1]
    simp only [Option.bind_some, psh_0]
    rw [e_22_31, w32_id (by omega) (by omega)]
  have run : ∀ x a b, 0 ≤ a → a ≤ b → b ≤ m → (∀ p, a ≤ p → p < b → f (m - p - 1) = g (m - p - 1)) → qE 22 12 [(1, P f m), (9, 0), (1, P g m), (9, 0), (0, m), (0, x), (0, a)] [] μ = qE 22 12 [(1, P f m), (9, 0), (1, P g m), (9, 0), (0, m), (0, x), (0, b)] [] μ := fun x a b a0 ab bm h =>
    it_up (fun p => qE 22 12 [(1, P f m), (9, 0), (1, P g m), (9, 0), (0, m), (0, x), (0, p)] [] μ) ab (fun i i0 i1 => by
      show qE 22 12 [(1, P f m), (9, 0), (1, P g m), (9, 0), (0, m), (0, x), (0, i)] [] μ = qE 22 12 [(1, P f m), (9, 0), (1, P g m), (9, 0), (0, m), (0, x), (0, i + 1)] [] μ
      rw [step x i (by omega) (by omega), if_pos (h i i0 i1)])
  rw [hd]
  by_cases A : ∀ p, 0 ≤ p → p < m → f (m - p - 1) = g (m - p - 1)
  · have no : ¬ slB f m g m := fun ⟨_, p, p0, p1, p2, _⟩ => by
      have := A (m - p - 1) (by omega) (by omega)
      rw [show m - (m - p - 1) - 1 = p by omega] at this
      exact bes_ne p2 this
    refine ⟨fun h => absurd h no, fun _ => ?_⟩
    rw [run (-1) 0 m (by omega) m0 (by omega) A, e_22_12, if_neg (by omega), if_pos (by decide)]
  · obtain ⟨q, q0, q1, q2, q3⟩ := first_not _ A
    have st1 : qE 22 12 [(1, P f m), (9, 0), (1, P g m), (9, 0), (0, m), (0, -1), (0, 0)] [] μ = qE 22 12 [(1, P f m), (9, 0), (1, P g m), (9, 0), (0, m), (0, q), (0, q + 1)] [] μ := by
      rw [run (-1) 0 q (by omega) q0 (by omega) q3, step (-1) q q0 q1, if_neg q2, if_pos (by decide)]
    rw [st1]
    by_cases B : ∀ p, 0 ≤ p → p < m → (q < p → f (m - p - 1) = g (m - p - 1))
    · have ev : qE 22 12 [(1, P f m), (9, 0), (1, P g m), (9, 0), (0, m), (0, q), (0, q + 1)] [] μ = some ((0, bes (f (m - q - 1)) (g (m - q - 1))), μ) := by
        rw [run q (q + 1) m (by omega) (by omega) (by omega) (fun p p0 p1 => B p (by omega) p1 (by omega)), e_22_12, if_neg (by omega), if_neg (by omega), sp_17 μ hf m1 q0 q1]
        simp only [Option.bind_some, psh_0]
        rw [e_22_62, sp_17 μ hg m1 q0 q1]
        simp only [Option.bind_some, psh_0]
        rw [e_22_68, sp_134]
        simp only [Option.bind_some, psh_0]
        rw [e_22_71]
        rcases bes_01 (f (m - q - 1)) (g (m - q - 1)) with b | b
        · rw [b, if_pos rfl]
        · rw [b, if_neg (by decide)]
      rw [ev]
      constructor
      · rintro ⟨_, p, p0, p1, p2, p3⟩
        have e : m - q - 1 = p := by
          by_cases c : m - q - 1 = p
          · exact c
          · exact absurd (p3 (m - q - 1) (by omega) (by omega) c) q2
        rw [e, p2]
      · intro no
        rcases bes_01 (f (m - q - 1)) (g (m - q - 1)) with b | b
        · rw [b]
        · refine absurd ⟨rfl, m - q - 1, by omega, by omega, b, fun i i0 i1 ne => ?_⟩ no
          by_cases c : m - i - 1 < q
          · have := q3 (m - i - 1) (by omega) c
            rw [show m - (m - i - 1) - 1 = i by omega] at this; exact this
          · have := B (m - i - 1) (by omega) (by omega) (by omega)
            rw [show m - (m - i - 1) - 1 = i by omega] at this; exact this
    · obtain ⟨r, r0, r1, r2, r3⟩ := first_not _ B
      have rq : q < r := Classical.byContradiction fun c => r2 fun z => absurd z c
      have rne : ¬ f (m - r - 1) = g (m - r - 1) := fun z => r2 fun _ => z
      have no : ¬ slB f m g m := fun ⟨_, p, p0, p1, p2, p3⟩ => by
        by_cases c : m - q - 1 = p
        · exact rne (p3 (m - r - 1) (by omega) (by omega) (by omega))
        · exact q2 (p3 (m - q - 1) (by omega) (by omega) c)
      refine ⟨fun h => absurd h no, fun _ => ?_⟩
      rw [run q (q + 1) r (by omega) (by omega) (by omega) (fun p p0 p1 => r3 p (by omega) p1 (by omega)), step q r r0 r1, if_neg rne, if_neg (by omega)]
/-- which slip leads from a row to keys: 0, 1, 2, or -1 -/
theorem sp_21 {f g : Int → Int} {m n : Int} (μ : Mem) (hf : keysOK f m) (hg : keysOK g n) (m0 : 0 ≤ m) (m1 : m ≤ 15) (n0 : 0 ≤ n) (n1 : n ≤ 15) : ∃ v, qR 21 [(1, P f m), (1, P g n)] μ = some ((0, v), μ) ∧ ((v = 0 ∧ slB f m g n) ∨ (v = 1 ∧ slL f m g n) ∨ (v = 2 ∧ slT f m g n) ∨ (v = -1 ∧ ¬ slB f m g n ∧ ¬ slL f m g n ∧ ¬ slT f m g n)) := by
  have e1 : w32 (m - n) = m - n := w32_id (by omega) (by omega)
  have hd : qR 21 [(1, P f m), (1, P g n)] μ = qE 21 8 [(1, P f m), (9, 0), (1, P g n), (9, 0), (9, 0)] [(0, n), (0, m)] μ := by
    rw [r_21, sp_16 μ hf m0 m1]
    simp only [Option.bind_some, psh_0]
    rw [e_21_4, sp_16 μ hg n0 n1]
    simp only [Option.bind_some, psh_0]
  rw [hd, e_21_8, e1]
  by_cases c0 : m = n
  · subst c0
    have nl : ¬ slL f m g m := fun h => by have := h.1; omega
    have nt : ¬ slT f m g m := fun h => by have := h.1; omega
    rw [if_pos (by omega)]
    by_cases b : slB f m g m
    · refine ⟨0, ?_, Or.inl ⟨rfl, b⟩⟩
      rw [(sp_22 μ hf hg m0 m1).1 b]
      simp only [Option.bind_some, psh_0]
      rw [e_21_21, if_neg (by decide)]
    · refine ⟨-1, ?_, Or.inr (Or.inr (Or.inr ⟨rfl, b, nl, nt⟩))⟩
      rw [(sp_22 μ hf hg m0 m1).2 b]
      simp only [Option.bind_some, psh_0]
      rw [e_21_21, if_pos rfl, if_neg (by omega), e_21_42, if_neg (by omega)]
  · have nb : ¬ slB f m g n := fun h => c0 h.1
    rw [if_neg (by omega)]
    by_cases c1 : n = m + 1
    · have nt : ¬ slT f m g n := fun h => by have := h.1; omega
      rw [if_pos (by omega)]
      by_cases b : slL f m g n
      · refine ⟨1, ?_, Or.inr (Or.inl ⟨rfl, b⟩)⟩
        rw [(sp_23 μ hf hg m0 n0 n1 c1).1 b]
        simp only [Option.bind_some, psh_0]
        rw [e_21_37, if_neg (by decide)]
      · refine ⟨-1, ?_, Or.inr (Or.inr (Or.inr ⟨rfl, nb, b, nt⟩))⟩
        rw [(sp_23 μ hf hg m0 n0 n1 c1).2 b]
        simp only [Option.bind_some, psh_0]
        rw [e_21_37, if_pos rfl, e_21_42, if_neg (by omega)]
    · have nl : ¬ slL f m g n := fun h => c1 h.1
      rw [if_neg (by omega), e_21_42]
      by_cases c2 : m = n + 1
      · rw [if_pos (by omega)]
        by_cases b : slT f m g n
        · refine ⟨2, ?_, Or.inr (Or.inr (Or.inl ⟨rfl, b⟩))⟩
          rw [(sp_24 μ hf hg m0 m1 n0 c2).1 b]
          simp only [Option.bind_some, psh_0]
          rw [e_21_53, if_neg (by decide)]
        · refine ⟨-1, ?_, Or.inr (Or.inr (Or.inr ⟨rfl, nb, nl, b⟩))⟩
          rw [(sp_24 μ hf hg m0 m1 n0 c2).2 b]
          simp only [Option.bind_some, psh_0]
          rw [e_21_53, if_pos rfl]
      · exact ⟨-1, by rw [if_neg (by omega)], Or.inr (Or.inr (Or.inr ⟨rfl, nb, nl, fun h => c2 h.1⟩))⟩
