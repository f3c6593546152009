/-! pairs forgotten -/
def remP (D : Mem) (p : Int) : Mem := mU (mU (mU (mU D 7 3 (D 7 3 - 1)) 8 p (D 8 (D 7 3 - 1))) 9 p (D 9 (D 7 3 - 1))) 10 p (D 10 (D 7 3 - 1))
theorem sp_46 {D : Mem} {p : Int} (h0 : 0 ≤ p) (h1 : p < D 7 3) (h2 : D 7 3 ≤ 150) : qR 46 [(3, 7), (0, p)] (mk D) = some ((9, 0), mk (remP D p)) := by
  have e1 : w32 (D 7 3 - 1) = D 7 3 - 1 := w32_id (by omega) (by omega)
  have a0 : ∀ v, mU D 7 3 v 7 3 = v := fun v => mU_s
  have a1 : ∀ v i, mU D 7 3 v 8 i = D 8 i := fun v i => mU_r (by decide)
  have a2 : ∀ v i, mU D 7 3 v 9 i = D 9 i := fun v i => mU_r (by decide)
  have a3 : ∀ v i, mU D 7 3 v 10 i = D 10 i := fun v i => mU_r (by decide)
  have b1 : ∀ (E : Mem) i v j, mU E 8 i v 7 j = E 7 j := fun E i v j => mU_r (by decide)
  have b2 : ∀ (E : Mem) i v j, mU E 8 i v 9 j = E 9 j := fun E i v j => mU_r (by decide)
  have b3 : ∀ (E : Mem) i v j, mU E 8 i v 10 j = E 10 j := fun E i v j => mU_r (by decide)
  have b4 : ∀ (E : Mem) i v j, mU E 9 i v 7 j = E 7 j := fun E i v j => mU_r (by decide)
  have b5 : ∀ (E : Mem) i v j, mU E 9 i v 10 j = E 10 j := fun E i v j => mU_r (by decide)
  have g1 : ¬ p < 0 := by omega
  have g2 : 0 ≤ D 7 3 - 1 ∧ D 7 3 - 1 < 150 := by omega
  have g3 : 0 ≤ p ∧ p < 150 := by omega
  rw [r_46]
  simp only [e1, a0, a1, a2, a3, b1, b2, b3, b4, b5, if_neg g1, if_pos h1, if_pos g2, if_pos g3]
  rfl
