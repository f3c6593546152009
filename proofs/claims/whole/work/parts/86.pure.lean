/-! the law by the pure machine -/
theorem Inv_dZ {L : Nat} {xs : Nat → Int32} (hL : L ≤ 3072) : Inv (den L xs dZ) := by
  obtain ⟨d, h1, h2, h3⟩ := dB_ex
  have c1 : qR 94 [(3, 2)] (den L xs dA) = some ((9, 0), den L xs d) := qE_iff.mpr ⟨700, qXD_ok _ _ _ _ _ _ _ h1⟩
  have c2 : qR 141 [(3, 106)] (den L xs (dNew d 20 35)) = some ((9, 0), den L xs dZ) := qE_iff.mpr ⟨900, qXD_ok _ _ _ _ _ _ _ h3⟩
  have nil : okSt [] := fun v hv => by cases hv
  have i0 : Inv (den L xs dA) := by
    have : Inv (mNew (den L xs ([], 0)) 19 11) := Inv_mNew (by rw [den_mu0]; exact Inv_mu0 hL) (by decide) ⟨by decide, by decide⟩
    rw [den_new] at this
    exact this
  have i1 := (qR_keep i0 (okSt_cons.mpr ⟨⟨by decide, by show (0 : Int) ≤ 2; decide⟩, nil⟩) c1).1
  have i2 : Inv (den L xs (dNew d 20 35)) := by
    rw [← den_new]
    exact Inv_mNew i1 (by decide) ⟨by decide, by decide⟩
  exact (qR_keep i2 (okSt_cons.mpr ⟨⟨by decide, by show (0 : Int) ≤ 106; decide⟩, nil⟩) c2).1
theorem law_run (L : Nat) (xs : Nat → Int32) (hL : L ≤ 3072) : ∃ μ : Mem, qR qLaw [(3, 1)] (mu0 L xs) = some ((0, 1), μ) ∧ μ 0 2 ≤ 371 ∧ μ 0 3 ≤ 101280 := by
  have s0 : ∀ i, den L xs dZ 1 i = mu0 L xs 1 i := fun i => den_1 L xs dZ (Or.inl rfl) i
  have l0 : den L xs dZ (-1) 1 = (L : Int) := by rw [den_1 L xs dZ (Or.inr rfl)]; rfl
  obtain ⟨n, hn⟩ : ∃ n : Int, n = (L : Int) / 6 := ⟨_, rfl⟩
  obtain ⟨D, e, hR, hI, hs, hl⟩ := it_inv (fun k (D : Mem) => qE 219 18 [(3, 1), (3, 2), (3, 106), (0, 6 * k)] [] (mk D)) (fun k D => Rel D k ∧ Inv (mk D) ∧ (∀ i, D 1 i = mu0 L xs 1 i) ∧ D (-1) 1 = (L : Int)) (a := 0) (n := n) (by omega)
    (fun k D k0 k1 ⟨hR, hI, hs, hl⟩ => by
      obtain ⟨D2, h1, h2, h3, h4, h5⟩ := law_step (x := 6 * k) hR (by omega) hI (by omega) (by omega) (by omega) (fun i => by rw [hs]; exact in32_mu0 L xs i) ((Int32.ofInt (D 1 (6 * k)) &&& Int32.ofInt 63).toInt)
      refine ⟨D2, ?_, h2, h3, fun i => by rw [h4]; exact hs i, by rw [h5]; exact hl⟩
      show qE 219 18 [(3, 1), (3, 2), (3, 106), (0, 6 * k)] [] (mk D) = qE 219 18 [(3, 1), (3, 2), (3, 106), (0, 6 * (k + 1))] [] (mk D2)
      rw [e_219_18, hl, w32_id (by omega) (by omega), if_pos (by omega), if_pos (by omega), h1, e_219_1073, w32_id (by omega) (by omega), show 6 * k + 6 = 6 * (k + 1) by omega])
    (s0 := den L xs dZ) ⟨Rel_0 L xs, by rw [den_mk]; exact Inv_dZ hL, s0, l0⟩
  have hw := hR.2.1.1
  have hsl := hR.2.2.2.2.1
  refine ⟨mk D, ?_, ?_, ?_⟩
  · rw [law_in]
    have h0 : qE 219 18 [(3, 1), (3, 2), (3, 106), (0, 0)] [] (den L xs dZ) = qE 219 18 [(3, 1), (3, 2), (3, 106), (0, 6 * 0)] [] (mk (den L xs dZ)) := by rw [den_mk]; rfl
    rw [h0]
    refine e.trans ?_
    show qE 219 18 [(3, 1), (3, 2), (3, 106), (0, 6 * n)] [] (mk D) = _
    rw [e_219_18, hl, w32_id (by omega) (by omega), if_neg (by omega)]
  · show 131 + 3 * D 5 2 ≤ 371
    omega
  · show D 0 3 ≤ 101280
    omega
