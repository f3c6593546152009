/-! the calls deal, letter, beside -/
theorem mU_row {D : Mem} {a i v b : Int} (h : b ≠ a) : mU D a i v b = D b := funext fun _ => mU_r h
theorem ca_deal {D : Mem} {k : Int} (hR : Rel D k) (a b : Int) : CaseOK D k 95 144 [(0, a), (0, b)] := by
  by_cases h1 : 0 ≤ a ∧ a < 26
  · have h1' : 0 ≤ a ∧ a ≤ 25 := by omega
    by_cases h2 : 1 ≤ b ∧ b ≤ 9
    · obtain ⟨⟨k1, k2⟩, k3, k4, k5, k6⟩ := hR
      refine ⟨if D 4 a = b then 0 else 1, mU D 4 a b, mU (mU D 4 a b) 107 a b, ?_, ?_, ?_, fun i => ?_, fun i => ?_⟩
      · by_cases c : D 4 a = b <;> simp [r_95, sp_130, sp_131, psh_0, e_95_4, e_95_11, e_95_25, sp_27 _ _ h1, h1, h2, c]
      · have e : mU D 4 a b 107 a = D 4 a := by rw [mU_r (by decide), k1]
        by_cases c : D 4 a = b <;> simp [r_144, sp_142, psh_0, e_144_7, e_144_17, h1, h1', h2, e, c]
      · have hf : ∀ x i, x ≠ 4 → x ≠ 107 → mU (mU D 4 a b) 107 a b x i = D x i := fun x i q1 q2 => by rw [mU_r q2, mU_r q1]
        refine ⟨⟨?_, fun l a1 a2 => ?_⟩, RW_mono (RW_congr (fun x i q => hf x i (by unfold supW at q; omega) (by unfold supW at q; omega)) k3), RP_congr (fun x i q => hf x i (by unfold supP at q; omega) (by unfold supP at q; omega)) k4, RS_congr (fun x i q => hf x i (by unfold supS at q; omega) (by unfold supS at q; omega)) k5, RN_mono (RN_congr (fun x i q => hf x i (by unfold supN at q; omega) (by unfold supN at q; omega)) k6)⟩
        · funext i
          rw [mU_r (by decide)]
          unfold mU
          simp [k1]
        · by_cases e : l = a
          · subst e; rw [mU_s]; exact h2
          · rw [mU_c e, mU_r (by decide)]; exact k2 l a1 a2
      · rw [mU_r (by decide), mU_r (by decide)]
      · rw [mU_r (by decide), mU_r (by decide)]
    · exact case_same (v := -1) hR (by simp [r_95, sp_130, sp_131, psh_0, e_95_4, e_95_11, h1, h2]) (by simp [r_144, sp_142, psh_0, e_144_7, e_144_17, h1', h2])
  · have h1' : ¬ (0 ≤ a ∧ a ≤ 25) := by omega
    exact case_same (v := -1) hR (by simp [r_95, sp_130, psh_0, e_95_4, h1]) (by simp [r_144, sp_142, psh_0, e_144_7, h1'])
theorem ca_beside {D : Mem} {k : Int} (hR : Rel D k) (a b : Int) : CaseOK D k 97 147 [(0, a), (0, b)] := by
  have hb : bes a b = 0 ∨ bes a b = 1 := by unfold bes; split <;> simp
  refine case_same (v := bes a b) hR ?_ ?_
  · rcases hb with h | h <;> simp [r_97, sp_134, psh_0, e_97_5, h]
  · by_cases h1 : 1 ≤ a ∧ a ≤ 9
    · by_cases h2 : 1 ≤ b ∧ b ≤ 9
      · have key : ∀ a, 1 ≤ a → a ≤ 9 → ∀ b, 1 ≤ b → b ≤ 9 → bes a b = if (w32 ((w32 ((w32 ((w32 (Int.tdiv (w32 (a - 1)) 3)) - (w32 (Int.tdiv (w32 (b - 1)) 3)))) * (w32 ((w32 (Int.tdiv (w32 (a - 1)) 3)) - (w32 (Int.tdiv (w32 (b - 1)) 3)))))) + (w32 ((w32 ((w32 ((w32 (a - 1)) - Int.tdiv (w32 (a - 1)) 3 * 3)) - (w32 ((w32 (b - 1)) - Int.tdiv (w32 (b - 1)) 3 * 3)))) * (w32 ((w32 ((w32 (a - 1)) - Int.tdiv (w32 (a - 1)) 3 * 3)) - (w32 ((w32 (b - 1)) - Int.tdiv (w32 (b - 1)) 3 * 3)))))))) = 1 then 1 else 0 :=
          nine (P := fun a => ∀ b, 1 ≤ b → b ≤ 9 → bes a b = _) (fun k => nine (P := fun b => bes ((k.val : Int) + 1) b = _) (by revert k; decide))
        rw [key a h1.1 h1.2 b h2.1 h2.2]
        simp only [r_147, sp_142, psh_0, e_147_7, e_147_17, h1, h2, and_self, if_true, Option.bind_some]
        rw [if_neg (by decide), if_neg (by decide)]
        split <;> rfl
      · have : bes a b = 0 := by unfold bes; rw [if_neg (fun q => h2 ⟨q.2.2.1, q.2.2.2.1⟩)]
        simp [r_147, sp_142, psh_0, e_147_7, e_147_17, h1, h2, this]
    · have : bes a b = 0 := by unfold bes; rw [if_neg (fun q => h1 ⟨q.1, q.2.1⟩)]
      simp [r_147, sp_142, psh_0, e_147_7, h1, this]
