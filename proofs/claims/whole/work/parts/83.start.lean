/-! the memory behind the constructors -/
theorem chkK : (List.range 131).all (fun n => decide (n < 2) || (decide ((cel dZ (n : Int)).1 = kT.getD n 0) && decide ((cel dZ (n : Int)).2.1 = lT.getD n 0))) = true := by decide +kernel
theorem chkR : (List.range 131).all (fun n => (List.range 35).all fun m => match rT (n : Int) (m : Int) with
  | some r => decide (2 ≤ n) && decide (look (cel dZ (n : Int)).2.2 (m : Int) = r)
  | none => true) = true := by decide +kernel
theorem rT_dom {a i r : Int} (h : rT a i = some r) : (0 ≤ a ∧ a < 131) ∧ 0 ≤ i ∧ i < 35 := by
  constructor
  · by_cases c : 0 ≤ a ∧ a < 131
    · exact c
    · exfalso
      unfold rT at h
      rw [if_neg (by omega), if_neg (by omega), if_neg (by omega), if_neg (by omega), if_neg (by omega), if_neg (by omega), if_neg (by omega), if_neg (by omega), if_neg (by omega), if_neg (by omega), if_neg (by omega), if_neg (by omega), if_neg (by omega), if_neg (by omega), if_neg (by omega), if_neg (by omega), if_neg (by omega), if_neg (by omega), if_neg (by omega), if_neg (by omega)] at h
      cases h
  · by_cases c : 0 ≤ i ∧ i < 35
    · exact c
    · exfalso
      have ne : ∀ n : Int, 0 ≤ n → n < 35 → (i = n) = False := fun n n0 n1 => eq_false (by omega)
      unfold rT at h
      simp only [ne 0 (by decide) (by decide), ne 1 (by decide) (by decide), ne 2 (by decide) (by decide), ne 3 (by decide) (by decide), ne 4 (by decide) (by decide), ne 5 (by decide) (by decide), ne 6 (by decide) (by decide), ne 7 (by decide) (by decide), ne 8 (by decide) (by decide), ne 9 (by decide) (by decide), ne 10 (by decide) (by decide), ne 11 (by decide) (by decide), ne 13 (by decide) (by decide), ne 15 (by decide) (by decide), ne 17 (by decide) (by decide), ne 18 (by decide) (by decide), ne 19 (by decide) (by decide), ne 20 (by decide) (by decide), ne 23 (by decide) (by decide), ne 24 (by decide) (by decide), ne 26 (by decide) (by decide), ne 28 (by decide) (by decide), ne 29 (by decide) (by decide), ne 31 (by decide) (by decide), ne 32 (by decide) (by decide), ne 33 (by decide) (by decide), ne 34 (by decide) (by decide), if_false, ite_self] at h
      cases h
theorem cK {q : Int} (q0 : 2 ≤ q) (q1 : q < 131) : (cel dZ q).1 = kT.getD q.toNat 0 ∧ (cel dZ q).2.1 = lT.getD q.toNat 0 := by
  have h := List.all_eq_true.mp chkK q.toNat (List.mem_range.mpr (by omega))
  rw [Bool.or_eq_true, Bool.and_eq_true, decide_eq_true_eq, decide_eq_true_eq, decide_eq_true_eq, show ((q.toNat : Nat) : Int) = q by omega] at h
  rcases h with h | h
  · omega
  · exact h
theorem cR {a i r : Int} (h : rT a i = some r) : 2 ≤ a ∧ look (cel dZ a).2.2 i = r := by
  obtain ⟨⟨a0, a1⟩, i0, i1⟩ := rT_dom h
  have z := List.all_eq_true.mp (List.all_eq_true.mp chkR a.toNat (List.mem_range.mpr (by omega))) i.toNat (List.mem_range.mpr (by omega))
  rw [show ((a.toNat : Nat) : Int) = a by omega, show ((i.toNat : Nat) : Int) = i by omega, h] at z
  dsimp only at z
  rw [Bool.and_eq_true, decide_eq_true_eq, decide_eq_true_eq] at z
  exact ⟨by omega, z.2⟩
theorem dlen : dF.length = 129 := by decide +kernel
theorem den_mk (L : Nat) (xs : Nat → Int32) : mk (den L xs dZ) = den L xs dZ := by
  have e52 : den L xs dZ 5 2 = 0 := rfl
  funext a i
  unfold mk
  by_cases c : a < 0
  · rw [if_pos c]
    by_cases i0 : i = 0
    · rw [if_pos i0, i0]
      unfold mkK
      by_cases c1 : a = -1
      · rw [c1]; rfl
      · by_cases c2 : -a < 131
        · rw [if_pos c2, den_n _ _ _ (by omega), if_pos rfl, (cK (by omega) c2).1]
        · rw [if_neg c2, e52, if_neg (by omega), den_n _ _ _ (by omega), if_pos rfl, cel_out (by show 2 + (dF.length : Int) ≤ -a; rw [dlen]; omega)]
    · rw [if_neg i0]
      by_cases i1 : i = 1
      · rw [if_pos i1, i1]
        unfold mkL
        by_cases c1 : -a = 1 ∨ 131 ≤ -a
        · rw [if_pos c1, Int.neg_neg]
        · rw [if_neg c1, den_n _ _ _ (by omega), if_neg (by decide), if_pos rfl, (cK (by omega) (by omega)).2]
      · rw [if_neg i1]
  · rw [if_neg c]
    unfold mkC
    rw [e52]
    by_cases c1 : 131 ≤ a
    · rw [if_pos c1, if_neg (by omega)]
    · rw [if_neg c1]
      by_cases c2 : a = 0
      · rw [if_pos c2, c2]
        by_cases i2 : i = 2
        · rw [if_pos i2, i2, den_02]
          show (131 : Int) + 3 * 0 = 2 + (dF.length : Int)
          rw [dlen]; rfl
        · rw [if_neg i2]
      · rw [if_neg c2]
        by_cases c6 : a = 6
        · rw [if_pos c6, c6, if_neg (by omega)]; rfl
        · rw [if_neg c6]
          by_cases c12 : a = 12
          · rw [if_pos c12, c12, den_c _ _ _ (by decide), show (cel dZ 12).2.2 = [(7, 29), (6, 27), (5, 25), (4, 23), (3, 21), (2, 19), (1, 17), (0, 15)] by decide]
            unfold look look look look look look look look look
            dsimp only
            repeat' split
            all_goals omega
          · rw [if_neg c12]
            by_cases c46 : a = 46
            · rw [if_pos c46, c46, den_c _ _ _ (by decide), show (cel dZ 46).2.2 = rws 26 46 0 by decide, look_rws]
              by_cases z : 0 ≤ i ∧ i < 26
              · rw [if_pos z, if_pos (by omega)]; omega
              · rw [if_neg z, if_neg (by omega)]
            · rw [if_neg c46]
              by_cases c73 : a = 73
              · rw [if_pos c73, c73, den_c _ _ _ (by decide), show (cel dZ 73).2.2 = rws 11 73 0 by decide, look_rws]
                by_cases z : 0 ≤ i ∧ i < 11
                · rw [if_pos z, if_pos (by omega)]; omega
                · rw [if_neg z, if_neg (by omega)]
              · rw [if_neg c73]
                by_cases c85 : a = 85
                · rw [if_pos c85, c85, den_c _ _ _ (by decide), show (cel dZ 85).2.2 = rws 11 85 0 by decide, look_rws]
                  by_cases z : 0 ≤ i ∧ i < 11
                  · rw [if_pos z, if_pos (by omega)]; omega
                  · rw [if_neg z, if_neg (by omega)]
                · rw [if_neg c85]
                  match hr : rT a i with
                  | none => rfl
                  | some r =>
                    obtain ⟨h1, h2⟩ := cR hr
                    rw [den_c _ _ _ h1, h2]
