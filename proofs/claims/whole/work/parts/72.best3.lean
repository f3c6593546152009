/-! best: the reference -/
theorem sq_206 {D E : Mem} {a b : Int} (hR : rOK D) (a0 : 0 ≤ a) (ab : a ≤ b) (b1 : b < 26) (hT : ∀ l, 0 ≤ l → l < 26 → E 128 l = S (tT D l) (D 106 16)) (hF : ∀ x y, 0 ≤ x → x < 26 → 0 ≤ y → y < 26 → E 129 (26 * x + y) = S (foT D x y) (D 106 16)) : qR 206 [(3, 106), (0, a), (0, b)] (mk E) = some ((0, KK D a (b - a + 1)), mk E) := by
  have c3 := hR.2.2.2.2.1
  obtain ⟨m, hm⟩ : ∃ m, m = b - a + 1 := ⟨_, rfl⟩
  have hb : b = a + m - 1 := by omega
  rw [← hm, KK_KR D a m (by omega)]
  have gs : ∀ i j, 0 ≤ j → 0 ≤ S (fun j => S (foT D (a + i) (a + j)) (D 106 16)) j ∧ S (fun j => S (foT D (a + i) (a + j)) (D 106 16)) j ≤ 600 * j := fun i j j0 => by
    have := S_bd (f := fun j => S (foT D (a + i) (a + j)) (D 106 16)) (n := j) (a := 0) (b := 600) j0 (fun q q0 q1 => by
      have := foT_b hR (a + i) (a + q) c3.1 (Int.le_refl _)
      constructor <;> omega)
    omega
  have tb : ∀ i, 0 ≤ i → i < m → 0 ≤ S (tT D (a + i)) (D 106 16) * (i + 1) ∧ S (tT D (a + i)) (D 106 16) * (i + 1) ≤ 600 * 26 := fun i i0 i1 => by
    have t := tT_b hR (a + i) c3.1 (Int.le_refl _)
    exact ⟨Int.mul_nonneg t.1 (by omega), Int.mul_le_mul (by omega) (by omega) (by omega) (by omega)⟩
  have fs : ∀ i, 0 ≤ i → i ≤ m → 0 ≤ S (fun i => S (tT D (a + i)) (D 106 16) * (i + 1) + S (fun j => S (foT D (a + i) (a + j)) (D 106 16)) m) i ∧ S (fun i => S (tT D (a + i)) (D 106 16) * (i + 1) + S (fun j => S (foT D (a + i) (a + j)) (D 106 16)) m) i ≤ 31200 * i := fun i i0 i1 => by
    have := S_bd (f := fun i => S (tT D (a + i)) (D 106 16) * (i + 1) + S (fun j => S (foT D (a + i) (a + j)) (D 106 16)) m) (n := i) (a := 0) (b := 31200) i0 (fun q q0 q1 => by
      have t := tb q q0 (by omega)
      have g := gs q m (by omega)
      constructor <;> omega)
    omega
  obtain ⟨v5, e, _⟩ := it_inv (fun i (v5 : PV) => qE 206 5 [(3, 106), (0, a), (0, b), (0, S (fun i => S (tT D (a + i)) (D 106 16) * (i + 1) + S (fun j => S (foT D (a + i) (a + j)) (D 106 16)) m) i), (0, a + i), v5] [] (mk E)) (fun _ _ => True) (a := 0) (n := m) (by omega)
    (fun i v5 i0 i1 _ => by
      refine ⟨(0, a + m), ?_, trivial⟩
      show qE 206 5 [(3, 106), (0, a), (0, b), (0, S (fun i => S (tT D (a + i)) (D 106 16) * (i + 1) + S (fun j => S (foT D (a + i) (a + j)) (D 106 16)) m) i), (0, a + i), v5] [] (mk E) = qE 206 5 [(3, 106), (0, a), (0, b), (0, S (fun i => S (tT D (a + i)) (D 106 16) * (i + 1) + S (fun j => S (foT D (a + i) (a + j)) (D 106 16)) m) (i + 1)), (0, a + (i + 1)), (0, a + m)] [] (mk E)
      have sb := fs i i0 (by omega)
      have t := tb i i0 i1
      rw [S_succ _ i0]
      obtain ⟨Z, hZ⟩ : ∃ Z, Z = S (fun i => S (tT D (a + i)) (D 106 16) * (i + 1) + S (fun j => S (foT D (a + i) (a + j)) (D 106 16)) m) i := ⟨_, rfl⟩
      rw [← hZ] at sb ⊢
      rw [e_206_5, if_pos (by omega), if_pos (by omega), hT _ (by omega) (by omega), w32_id (x := a + i - a) (by omega) (by omega), show a + i - a = i by omega, w32_id (x := i + 1) (by omega) (by omega), w32_id (x := S (tT D (a + i)) (D 106 16) * (i + 1)) (by omega) (by omega), w32_id (x := Z + S (tT D (a + i)) (D 106 16) * (i + 1)) (by omega) (by omega)]
      obtain ⟨Y, hY⟩ : ∃ Y, Y = Z + S (tT D (a + i)) (D 106 16) * (i + 1) := ⟨_, rfl⟩
      have h0 : qE 206 31 [(3, 106), (0, a), (0, b), (0, Y), (0, a + i), (0, a)] [] (mk E) = qE 206 31 [(3, 106), (0, a), (0, b), (0, Y + S (fun j => S (foT D (a + i) (a + j)) (D 106 16)) 0), (0, a + i), (0, a + 0)] [] (mk E) := by rw [S_0, Int.add_zero, Int.add_zero]
      rw [← hY, h0, it_up (fun j => qE 206 31 [(3, 106), (0, a), (0, b), (0, Y + S (fun j => S (foT D (a + i) (a + j)) (D 106 16)) j), (0, a + i), (0, a + j)] [] (mk E)) (show (0 : Int) ≤ m by omega) (fun j j0 j1 => by
        show qE 206 31 [(3, 106), (0, a), (0, b), (0, Y + S (fun j => S (foT D (a + i) (a + j)) (D 106 16)) j), (0, a + i), (0, a + j)] [] (mk E) = qE 206 31 [(3, 106), (0, a), (0, b), (0, Y + S (fun j => S (foT D (a + i) (a + j)) (D 106 16)) (j + 1)), (0, a + i), (0, a + (j + 1))] [] (mk E)
        have g := gs i j j0
        have f := foT_b hR (a + i) (a + j) c3.1 (Int.le_refl _)
        have ei : w32 (w32 (26 * (a + i)) + (a + j)) = 26 * (a + i) + (a + j) := by rw [w32_id (x := 26 * (a + i)) (by omega) (by omega), w32_id (by omega) (by omega)]
        rw [e_206_31, if_pos (by omega), ei, if_pos (by omega), hF _ _ (by omega) (by omega) (by omega) (by omega), S_succ _ j0, Int.add_assoc, w32_id (x := Y + (S (fun j => S (foT D (a + i) (a + j)) (D 106 16)) j + S (foT D (a + i) (a + j)) (D 106 16))) (by omega) (by omega), w32_id (x := a + j + 1) (by omega) (by omega), show a + j + 1 = a + (j + 1) by omega])]
      show qE 206 31 [(3, 106), (0, a), (0, b), (0, Y + S (fun j => S (foT D (a + i) (a + j)) (D 106 16)) m), (0, a + i), (0, a + m)] [] (mk E) = _
      rw [e_206_31, if_neg (by omega), w32_id (x := a + i + 1) (by omega) (by omega), show a + i + 1 = a + (i + 1) by omega, hY, Int.add_assoc])
    (s0 := (9, 0)) trivial
  have h0 : qE 206 5 [(3, 106), (0, a), (0, b), (0, 0), (0, a), (9, 0)] [] (mk E) = qE 206 5 [(3, 106), (0, a), (0, b), (0, S (fun i => S (tT D (a + i)) (D 106 16) * (i + 1) + S (fun j => S (foT D (a + i) (a + j)) (D 106 16)) m) 0), (0, a + 0), (9, 0)] [] (mk E) := by rw [S_0, Int.add_zero]
  rw [r_206, h0]
  refine e.trans ?_
  show qE 206 5 [(3, 106), (0, a), (0, b), (0, KR D a m), (0, a + m), v5] [] (mk E) = _
  rw [e_206_5, if_neg (by omega)]
