/-! best: the system -/
theorem LW_le {K : Int → Int → Int} (hK : ∀ a m, 0 ≤ a → a ≤ 26 → 0 ≤ m → a + m ≤ 26 → 0 ≤ K a m ∧ K a m ≤ 1000000) {W : Int} (hW : 100000000 ≤ W) {s : Nat} (hs : s ≤ 9) {a : Int} (a0 : 0 ≤ a) (a1 : a ≤ 26) : 0 ≤ LW K W s a ∧ LW K W s a ≤ W := by
  have h := LW_both hK hW hW s hs a a0 a1
  by_cases f : fea s a
  · have := h.1 f; omega
  · have := h.2 f; omega
theorem stz_le {K : Int → Int → Int} {W : Int} {p : Int → Int} {a : Int} : ∀ m : Nat, (stz K W p a m).1 ≤ W
  | 0 => Int.le_refl _
  | m + 1 => by
    have := stz_le (K := K) (W := W) (p := p) (a := a) m
    rw [stz_s]
    by_cases c : K a ((m : Int) + 1) + p (a + ((m : Int) + 1)) < (stz K W p a m).1
    · rw [if_pos c]; show _ + _ ≤ _; omega
    · rw [if_neg c]; exact this
theorem sp_88 {D M : Mem} {a : Int} (hR : rOK D) (a0 : 0 ≤ a) (a1 : a < 26) (hT : ∀ l, 0 ≤ l → l < 26 → M 45 l = S (tT D l) (D 106 16)) (hC : ∀ x y, 0 ≤ x → x < 26 → 0 ≤ y → y < 26 → M (47 + x) y = S (cT D x y) (D 106 16)) (hL : ∀ k x, 1 ≤ k → k ≤ 10 → a < x → x ≤ 26 → M (74 + k) x = LW (KK D) 268435456 (10 - k).toNat x) (hI : ∀ k, 1 ≤ k → k ≤ 9 → M (74 + k) a = 268435456) : ∃ E, qR 88 [(3, 44), (0, a)] (mk M) = some ((9, 0), mk E) ∧ (∀ k, 1 ≤ k → k ≤ 9 → E (74 + k) a = LW (KK D) 268435456 (10 - k).toNat a ∧ (1 ≤ LA (KK D) 268435456 (9 - k).toNat a → E (86 + k) a = LA (KK D) 268435456 (9 - k).toNat a)) ∧ ∀ y i, ¬ ((75 ≤ y ∧ y ≤ 83) ∧ i = a) → ¬ ((87 ≤ y ∧ y ≤ 95) ∧ i = a) → E y i = M y i := by
  have kb := KK_b hR
  have c3 := hR.2.2.2.2.1
  have lwb := fun (s : Nat) (hs : s ≤ 9) x (x0 : 0 ≤ x) (x1 : x ≤ 26) => LW_le kb (W := 268435456) (by decide) hs x0 x1
  obtain ⟨⟨E, v4, v5⟩, e, h1, h2⟩ := it_inv (fun m (s : Mem × PV × PV) => qE 88 4 [(3, 44), (0, a), (0, KK D a m), (0, a + m), s.2.1, s.2.2] [] (mk s.1)) (fun m s => (∀ k, 1 ≤ k → k ≤ 9 → s.1 (74 + k) a = (stz (KK D) 268435456 (LW (KK D) 268435456 (9 - k).toNat) a m.toNat).1 ∧ (1 ≤ (stz (KK D) 268435456 (LW (KK D) 268435456 (9 - k).toNat) a m.toNat).2 → s.1 (86 + k) a = (stz (KK D) 268435456 (LW (KK D) 268435456 (9 - k).toNat) a m.toNat).2)) ∧ ∀ y i, ¬ ((75 ≤ y ∧ y ≤ 83) ∧ i = a) → ¬ ((87 ≤ y ∧ y ≤ 95) ∧ i = a) → s.1 y i = M y i) (a := 0) (n := 26 - a) (by omega)
    (fun m s m0 m1 ⟨h1, h2⟩ => by
      obtain ⟨E, v4, v5⟩ := s
      replace h1 : ∀ k, 1 ≤ k → k ≤ 9 → E (74 + k) a = (stz (KK D) 268435456 (LW (KK D) 268435456 (9 - k).toNat) a m.toNat).1 ∧ (1 ≤ (stz (KK D) 268435456 (LW (KK D) 268435456 (9 - k).toNat) a m.toNat).2 → E (86 + k) a = (stz (KK D) 268435456 (LW (KK D) 268435456 (9 - k).toNat) a m.toNat).2) := h1
      replace h2 : ∀ y i, ¬ ((75 ≤ y ∧ y ≤ 83) ∧ i = a) → ¬ ((87 ≤ y ∧ y ≤ 95) ∧ i = a) → E y i = M y i := h2
      have kkm := kb a m a0 (by omega) m0 (by omega)
      have kkm1 := kb a (m + 1) a0 (by omega) (by omega) (by omega)
      have tb := tT_b hR (a + m) c3.1 (Int.le_refl _)
      have e45 : E 45 (a + m) = S (tT D (a + m)) (D 106 16) := by rw [h2 _ _ (by omega) (by omega)]; exact hT _ (by omega) (by omega)
      have p0 : 0 ≤ S (tT D (a + m)) (D 106 16) * (m + 1) := Int.mul_nonneg tb.1 (by omega)
      have p1 : S (tT D (a + m)) (D 106 16) * (m + 1) ≤ 600 * 26 := Int.mul_le_mul (by omega) (by omega) (by omega) (by omega)
      have cs : ∀ j, 0 ≤ j → 0 ≤ S (fun j => S (cT D (a + j) (a + m)) (D 106 16)) j ∧ S (fun j => S (cT D (a + j) (a + m)) (D 106 16)) j ≤ 600 * j := fun j j0 => by
        have := S_bd (f := fun j => S (cT D (a + j) (a + m)) (D 106 16)) (n := j) (a := 0) (b := 600) j0 (fun i i0 i1 => by
          have := cT_b hR (a + i) (a + m) c3.1 (Int.le_refl _)
          constructor <;> omega)
        omega
      have kks : KK D a (m + 1) = KK D a m + (S (tT D (a + m)) (D 106 16) * (m + 1) + S (fun j => S (cT D (a + j) (a + m)) (D 106 16)) (m + 1)) := by unfold KK; rw [S_succ _ m0]
      -- the sum with the next letter
      have st : ∀ v4, qE 88 4 [(3, 44), (0, a), (0, KK D a m), (0, a + m), v4, v5] [] (mk E) = qE 88 55 [(3, 44), (0, a), (0, KK D a (m + 1)), (0, a + m), (0, 1), v5] [] (mk E) := fun v4 => by
        rw [e_88_4, if_pos (by omega), if_pos (by omega), e45, w32_id (x := a + m - a) (by omega) (by omega), show a + m - a = m by omega, w32_id (x := m + 1) (by omega) (by omega), w32_id (x := S (tT D (a + m)) (D 106 16) * (m + 1)) (by omega) (by omega), w32_id (x := KK D a m + S (tT D (a + m)) (D 106 16) * (m + 1)) (by omega) (by omega)]
        have h0 : qE 88 28 [(3, 44), (0, a), (0, KK D a m + S (tT D (a + m)) (D 106 16) * (m + 1)), (0, a + m), (0, a), v5] [] (mk E) = qE 88 28 [(3, 44), (0, a), (0, KK D a m + S (tT D (a + m)) (D 106 16) * (m + 1) + S (fun j => S (cT D (a + j) (a + m)) (D 106 16)) 0), (0, a + m), (0, a + 0), v5] [] (mk E) := by rw [S_0, Int.add_zero, Int.add_zero]
        rw [h0, it_up (fun j => qE 88 28 [(3, 44), (0, a), (0, KK D a m + S (tT D (a + m)) (D 106 16) * (m + 1) + S (fun j => S (cT D (a + j) (a + m)) (D 106 16)) j), (0, a + m), (0, a + j), v5] [] (mk E)) (show (0 : Int) ≤ m + 1 by omega) (fun j j0 j1 => ?_)]
        · show qE 88 28 [(3, 44), (0, a), (0, KK D a m + S (tT D (a + m)) (D 106 16) * (m + 1) + S (fun j => S (cT D (a + j) (a + m)) (D 106 16)) (m + 1)), (0, a + m), (0, a + (m + 1)), v5] [] (mk E) = _
          rw [e_88_28, if_neg (by omega), kks, Int.add_assoc]
        · show qE 88 28 [(3, 44), (0, a), (0, KK D a m + S (tT D (a + m)) (D 106 16) * (m + 1) + S (fun j => S (cT D (a + j) (a + m)) (D 106 16)) j), (0, a + m), (0, a + j), v5] [] (mk E) = qE 88 28 [(3, 44), (0, a), (0, KK D a m + S (tT D (a + m)) (D 106 16) * (m + 1) + S (fun j => S (cT D (a + j) (a + m)) (D 106 16)) (j + 1)), (0, a + m), (0, a + (j + 1)), v5] [] (mk E)
          have rng : (47 ≤ 47 + (a + j) ∧ 47 + (a + j) ≤ 72) ∨ (74 ≤ 47 + (a + j) ∧ 47 + (a + j) ≤ 84) ∨ (86 ≤ 47 + (a + j) ∧ 47 + (a + j) ≤ 97) := by omega
          have cj := cs j j0
          have cj1 := cT_b hR (a + j) (a + m) c3.1 (Int.le_refl _)
          rw [e_88_28, if_pos (by omega), if_pos (by omega), ta_46 E (by omega) (by omega), ta_k E rng, ta_l26 E (by omega), if_pos ⟨rfl, by omega, by omega⟩, ta_c E rng, h2 _ _ (by omega) (by omega), hC _ _ (by omega) (by omega) (by omega) (by omega), w32_id (x := KK D a m + S (tT D (a + m)) (D 106 16) * (m + 1) + S (fun j => S (cT D (a + j) (a + m)) (D 106 16)) j + S (cT D (a + j) (a + m)) (D 106 16)) (by omega) (by omega), S_succ _ j0, Int.add_assoc (KK D a m + S (tT D (a + m)) (D 106 16) * (m + 1)), w32_id (x := a + j + 1) (by omega) (by omega), show a + j + 1 = a + (j + 1) by omega]
      obtain ⟨⟨F, u5⟩, f, f1, f2, f3⟩ := it_inv (fun k (s : Mem × PV) => qE 88 55 [(3, 44), (0, a), (0, KK D a (m + 1)), (0, a + m), (0, k), s.2] [] (mk s.1)) (fun k s => (∀ q, 1 ≤ q → q < k → s.1 (74 + q) a = (stz (KK D) 268435456 (LW (KK D) 268435456 (9 - q).toNat) a (m + 1).toNat).1 ∧ (1 ≤ (stz (KK D) 268435456 (LW (KK D) 268435456 (9 - q).toNat) a (m + 1).toNat).2 → s.1 (86 + q) a = (stz (KK D) 268435456 (LW (KK D) 268435456 (9 - q).toNat) a (m + 1).toNat).2)) ∧ (∀ q, k ≤ q → q ≤ 9 → s.1 (74 + q) a = E (74 + q) a ∧ s.1 (86 + q) a = E (86 + q) a) ∧ ∀ y i, ¬ ((75 ≤ y ∧ y ≤ 83) ∧ i = a) → ¬ ((87 ≤ y ∧ y ≤ 95) ∧ i = a) → s.1 y i = M y i) (a := 1) (n := 10) (by decide)
        (fun k s k0 k1 ⟨f1, f2, f3⟩ => by
          obtain ⟨F, u5⟩ := s
          replace f1 : ∀ q, 1 ≤ q → q < k → F (74 + q) a = (stz (KK D) 268435456 (LW (KK D) 268435456 (9 - q).toNat) a (m + 1).toNat).1 ∧ (1 ≤ (stz (KK D) 268435456 (LW (KK D) 268435456 (9 - q).toNat) a (m + 1).toNat).2 → F (86 + q) a = (stz (KK D) 268435456 (LW (KK D) 268435456 (9 - q).toNat) a (m + 1).toNat).2) := f1
          replace f2 : ∀ q, k ≤ q → q ≤ 9 → F (74 + q) a = E (74 + q) a ∧ F (86 + q) a = E (86 + q) a := f2
          replace f3 : ∀ y i, ¬ ((75 ≤ y ∧ y ≤ 83) ∧ i = a) → ¬ ((87 ≤ y ∧ y ≤ 95) ∧ i = a) → F y i = M y i := f3
          obtain ⟨p, hp⟩ : ∃ p, p = LW (KK D) 268435456 (9 - k).toNat := ⟨_, rfl⟩
          have rk : (47 ≤ 74 + k ∧ 74 + k ≤ 72) ∨ (74 ≤ 74 + k ∧ 74 + k ≤ 84) ∨ (86 ≤ 74 + k ∧ 74 + k ≤ 97) := by omega
          have rk1 : (47 ≤ 74 + (k + 1) ∧ 74 + (k + 1) ≤ 72) ∨ (74 ≤ 74 + (k + 1) ∧ 74 + (k + 1) ≤ 84) ∨ (86 ≤ 74 + (k + 1) ∧ 74 + (k + 1) ≤ 97) := by omega
          have rs : (47 ≤ 86 + k ∧ 86 + k ≤ 72) ∨ (74 ≤ 86 + k ∧ 86 + k ≤ 84) ∨ (86 ≤ 86 + k ∧ 86 + k ≤ 97) := by omega
          have nx : F (74 + (k + 1)) (a + m + 1) = p (a + (m + 1)) := by
            rw [f3 _ _ (by omega) (by omega), hL (k + 1) (a + m + 1) (by omega) (by omega) (by omega) (by omega), hp, show 10 - (k + 1) = 9 - k by omega, show a + m + 1 = a + (m + 1) by omega]
          have pb := lwb (9 - k).toNat (by omega) (a + (m + 1)) (by omega) (by omega)
          rw [← hp] at pb
          have cur : F (74 + k) a = (stz (KK D) 268435456 p a m.toNat).1 := by rw [(f2 k (by omega) (by omega)).1, hp]; exact (h1 k k0 (by omega)).1
          have sn : stz (KK D) 268435456 p a (m + 1).toNat = if KK D a (m + 1) + p (a + (m + 1)) < (stz (KK D) 268435456 p a m.toNat).1 then (KK D a (m + 1) + p (a + (m + 1)), m + 1) else stz (KK D) 268435456 p a m.toNat := by
            rw [show (m + 1).toNat = m.toNat + 1 by omega, stz_s, show ((m.toNat : Nat) : Int) = m by omega]
          have e1 : w32 (k + 1) = k + 1 := w32_id (by omega) (by omega)
          have e2 : w32 (a + m + 1) = a + m + 1 := w32_id (by omega) (by omega)
          have e3 : w32 (KK D a (m + 1) + p (a + (m + 1))) = KK D a (m + 1) + p (a + (m + 1)) := w32_id (by omega) (by omega)
          have hd : qE 88 55 [(3, 44), (0, a), (0, KK D a (m + 1)), (0, a + m), (0, k), u5] [] (mk F) = if KK D a (m + 1) + p (a + (m + 1)) < (stz (KK D) 268435456 p a m.toNat).1 then qE 88 104 [(3, 44), (0, a), (0, KK D a (m + 1)), (0, a + m), (0, k), (0, KK D a (m + 1) + p (a + (m + 1)))] [] (mk (mU F (74 + k) a (KK D a (m + 1) + p (a + (m + 1))))) else qE 88 118 [(3, 44), (0, a), (0, KK D a (m + 1)), (0, a + m), (0, k), (0, KK D a (m + 1) + p (a + (m + 1)))] [] (mk F) := by
            rw [e_88_55, if_pos (by omega), e1, if_pos (by omega), ta_73 F (a := k + 1) (by omega) (by omega), ta_k F rk1, ta_l27 F (by omega), e2, if_pos ⟨rfl, by omega, by omega⟩, if_pos (by omega), ta_73 F (a := k) (by omega) (by omega), ta_k F rk, ta_l27 F (by omega), if_pos ⟨rfl, by omega, by omega⟩, ta_c F rk1, ta_c F rk, nx, cur, e3, if_pos (show 0 ≤ k ∧ k < 11 by omega), if_pos (show 74 + k ≠ 1 ∧ aPut (mk F) 1 1 (0, KK D a (m + 1) + p (a + (m + 1))) = true ∧ 0 ≤ a ∧ a < 27 from ⟨by omega, rfl, by omega, by omega⟩), ta_u F rk]
          by_cases c : KK D a (m + 1) + p (a + (m + 1)) < (stz (KK D) 268435456 p a m.toNat).1
          · rw [if_pos c] at sn hd
            obtain ⟨G, hG⟩ : ∃ G, G = mU F (74 + k) a (KK D a (m + 1) + p (a + (m + 1))) := ⟨_, rfl⟩
            rw [← hG] at hd
            refine ⟨(mU G (86 + k) a (m + 1), (0, KK D a (m + 1) + p (a + (m + 1)))), ?_, fun q q0 q1 => ?_, fun q q0 q1 => ?_, fun y i y1 y2 => ?_⟩
            · show qE 88 55 [(3, 44), (0, a), (0, KK D a (m + 1)), (0, a + m), (0, k), u5] [] (mk F) = qE 88 55 [(3, 44), (0, a), (0, KK D a (m + 1)), (0, a + m), (0, k + 1), (0, KK D a (m + 1) + p (a + (m + 1)))] [] (mk (mU G (86 + k) a (m + 1)))
              rw [hd, e_88_104, if_pos (by omega), ta_85 G (by omega) (by omega), ta_k G rs, ta_l27 G (by omega), w32_id (x := a + m - a) (by omega) (by omega), show a + m - a = m by omega, w32_id (x := m + 1) (by omega) (by omega), if_pos ⟨by omega, rfl, by omega, by omega⟩, ta_u G rs, e_88_118, e1]
            · show mU G (86 + k) a (m + 1) (74 + q) a = _ ∧ (_ → mU G (86 + k) a (m + 1) (86 + q) a = _)
              by_cases z : q = k
              · rw [z, mU_r (by omega), mU_s, hG, mU_s, ← hp, sn]
                exact ⟨rfl, fun _ => rfl⟩
              · rw [mU_r (by omega), mU_r (by omega), hG, mU_r (by omega), mU_r (by omega)]
                exact f1 q q0 (by omega)
            · show mU G (86 + k) a (m + 1) (74 + q) a = _ ∧ mU G (86 + k) a (m + 1) (86 + q) a = _
              rw [mU_r (by omega), mU_r (by omega), hG, mU_r (by omega), mU_r (by omega)]
              exact f2 q (by omega) q1
            · show mU G (86 + k) a (m + 1) y i = M y i
              rw [mU_other (by omega), hG, mU_other (by omega)]; exact f3 y i y1 y2
          · rw [if_neg c] at sn hd
            refine ⟨(F, (0, KK D a (m + 1) + p (a + (m + 1)))), ?_, fun q q0 q1 => ?_, fun q q0 q1 => f2 q (by omega) q1, f3⟩
            · show qE 88 55 [(3, 44), (0, a), (0, KK D a (m + 1)), (0, a + m), (0, k), u5] [] (mk F) = qE 88 55 [(3, 44), (0, a), (0, KK D a (m + 1)), (0, a + m), (0, k + 1), (0, KK D a (m + 1) + p (a + (m + 1)))] [] (mk F)
              rw [hd, e_88_118, e1]
            · show F (74 + q) a = _ ∧ (_ → F (86 + q) a = _)
              by_cases z : q = k
              · rw [z, ← hp, sn, cur]
                refine ⟨rfl, fun w => ?_⟩
                rw [(f2 k (by omega) (by omega)).2, hp]
                rw [hp] at w
                exact (h1 k k0 (by omega)).2 w
              · exact f1 q q0 (by omega))
        (s0 := (E, v5)) ⟨fun q q0 q1 => by omega, fun q q0 q1 => ⟨rfl, rfl⟩, h2⟩
      replace f1 : ∀ q, 1 ≤ q → q < 10 → F (74 + q) a = (stz (KK D) 268435456 (LW (KK D) 268435456 (9 - q).toNat) a (m + 1).toNat).1 ∧ (1 ≤ (stz (KK D) 268435456 (LW (KK D) 268435456 (9 - q).toNat) a (m + 1).toNat).2 → F (86 + q) a = (stz (KK D) 268435456 (LW (KK D) 268435456 (9 - q).toNat) a (m + 1).toNat).2) := f1
      replace f3 : ∀ y i, ¬ ((75 ≤ y ∧ y ≤ 83) ∧ i = a) → ¬ ((87 ≤ y ∧ y ≤ 95) ∧ i = a) → F y i = M y i := f3
      refine ⟨(F, (0, 10), u5), ?_, fun k k0 k1 => f1 k k0 (by omega), f3⟩
      show qE 88 4 [(3, 44), (0, a), (0, KK D a m), (0, a + m), v4, v5] [] (mk E) = qE 88 4 [(3, 44), (0, a), (0, KK D a (m + 1)), (0, a + (m + 1)), (0, 10), u5] [] (mk F)
      rw [st v4]
      refine f.trans ?_
      show qE 88 55 [(3, 44), (0, a), (0, KK D a (m + 1)), (0, a + m), (0, 10), u5] [] (mk F) = _
      rw [e_88_55, if_neg (by decide), w32_id (by omega) (by omega), show a + m + 1 = a + (m + 1) by omega])
    (s0 := (M, (9, 0), (9, 0))) ⟨fun k k0 k1 => ⟨hI k k0 k1, fun h => by have : (1 : Int) ≤ 0 := h; omega⟩, fun _ _ _ _ => rfl⟩
  replace h1 : ∀ k, 1 ≤ k → k ≤ 9 → E (74 + k) a = (stz (KK D) 268435456 (LW (KK D) 268435456 (9 - k).toNat) a (26 - a).toNat).1 ∧ (1 ≤ (stz (KK D) 268435456 (LW (KK D) 268435456 (9 - k).toNat) a (26 - a).toNat).2 → E (86 + k) a = (stz (KK D) 268435456 (LW (KK D) 268435456 (9 - k).toNat) a (26 - a).toNat).2) := h1
  replace h2 : ∀ y i, ¬ ((75 ≤ y ∧ y ≤ 83) ∧ i = a) → ¬ ((87 ≤ y ∧ y ≤ 95) ∧ i = a) → E y i = M y i := h2
  refine ⟨E, ?_, fun k k0 k1 => ⟨?_, (h1 k k0 k1).2⟩, h2⟩
  · have h0 : qE 88 4 [(3, 44), (0, a), (0, 0), (0, a), (9, 0), (9, 0)] [] (mk M) = qE 88 4 [(3, 44), (0, a), (0, KK D a 0), (0, a + 0), (9, 0), (9, 0)] [] (mk M) := by rw [Int.add_zero]; rfl
    rw [r_88, h0]
    refine e.trans ?_
    show qE 88 4 [(3, 44), (0, a), (0, KK D a (26 - a)), (0, a + (26 - a)), v4, v5] [] (mk E) = _
    rw [e_88_4, if_neg (by omega)]
  · rw [show (10 - k).toNat = (9 - k).toNat + 1 by omega, LW_s]; exact (h1 k k0 k1).1
