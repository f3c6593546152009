/-! swap: the system -/
theorem xch_m (M : Mem) (y a b : Int) : mU (mU M y a (M y b)) y b (M y a) y = xch (M y) a b := by
  funext l
  unfold xch
  by_cases z1 : l = b
  · rw [z1, mU_s, if_pos rfl]
  · rw [mU_other (by omega), if_neg z1]
    by_cases z2 : l = a
    · rw [z2, mU_s, if_pos rfl]
    · rw [mU_other (by omega), if_neg z2]
theorem xch_o (M : Mem) {y a b z i : Int} (h : z ≠ y) : mU (mU M y a (M y b)) y b (M y a) z i = M z i := by rw [mU_r h, mU_r h]
theorem xch_twice (M : Mem) (y a b : Int) (N : Mem) (hN : N = mU (mU M y a (M y b)) y b (M y a)) : mU (mU N y a (N y b)) y b (N y a) = M := by
  funext z i
  by_cases c : z = y
  · have h := xch_m N y a b
    have h2 := xch_m M y a b
    rw [← hN] at h2
    rw [c, h]
    unfold xch
    rw [h2]
    unfold xch
    by_cases z1 : i = b
    · by_cases z3 : a = b
      · rw [if_pos z1, z1, if_pos z3, z3]
      · rw [if_pos z1, if_neg z3, if_pos rfl, z1]
    · by_cases z2 : i = a
      · rw [if_neg z1, if_pos z2, if_pos rfl, z2]
      · rw [if_neg z1, if_neg z2, if_neg z1, if_neg z2]
  · rw [xch_o N c, hN, xch_o M c]
theorem sp_92 {D M : Mem} {k x : Int} (hR : rOK D) (x0 : 0 ≤ x) (x1 : x < 26) (hC : ∀ x y, 0 ≤ x → x < 26 → 0 ≤ y → y < 26 → M (47 + x) y = S (cT D x y) (D 106 16)) : qR 92 [(3, 44), (0, k), (0, x), (3, 3)] (mk M) = some ((0, S (fun q => if M 4 q = k then S (cT D q x) (D 106 16) else 0) (x + 1)), mk M) := by
  have h0 : qE 92 6 [(3, 44), (0, k), (0, x), (3, 3), (0, 0), (0, 0)] [] (mk M) = qE 92 6 [(3, 44), (0, k), (0, x), (3, 3), (0, S (fun q => if M 4 q = k then S (cT D q x) (D 106 16) else 0) 0), (0, 0)] [] (mk M) := by rw [S_0]
  rw [r_92, h0, it_up (fun q => qE 92 6 [(3, 44), (0, k), (0, x), (3, 3), (0, S (fun q => if M 4 q = k then S (cT D q x) (D 106 16) else 0) q), (0, q)] [] (mk M)) (show (0 : Int) ≤ x + 1 by omega) (fun q q0 q1 => ?_)]
  · show qE 92 6 [(3, 44), (0, k), (0, x), (3, 3), (0, S (fun q => if M 4 q = k then S (cT D q x) (D 106 16) else 0) (x + 1)), (0, x + 1)] [] (mk M) = _
    rw [e_92_6, if_neg (by omega)]
  · show qE 92 6 [(3, 44), (0, k), (0, x), (3, 3), (0, S (fun q => if M 4 q = k then S (cT D q x) (D 106 16) else 0) q), (0, q)] [] (mk M) = qE 92 6 [(3, 44), (0, k), (0, x), (3, 3), (0, S (fun q => if M 4 q = k then S (cT D q x) (D 106 16) else 0) (q + 1)), (0, q + 1)] [] (mk M)
    have b1 := (fK_b hR (M 4) x0 x1).2.1 k q q0 (by omega)
    have c3 := hR.2.2.2.2.1
    have b2 := cT_b hR q x c3.1 (Int.le_refl _)
    have rng : (47 ≤ 47 + q ∧ 47 + q ≤ 72) ∨ (74 ≤ 47 + q ∧ 47 + q ≤ 84) ∨ (86 ≤ 47 + q ∧ 47 + q ≤ 97) := by omega
    rw [S_succ _ q0]
    obtain ⟨Z, hZ⟩ : ∃ Z, Z = S (fun q => if M 4 q = k then S (cT D q x) (D 106 16) else 0) q := ⟨_, rfl⟩
    rw [← hZ] at b1 ⊢
    rw [e_92_6, if_pos (by omega), if_pos x1, sp_26, if_pos ⟨q0, by omega⟩]
    simp only [Option.bind_some, psh_0]
    rw [e_92_26, w32_id (x := q + 1) (by omega) (by omega)]
    by_cases c : M 4 q = k
    · rw [if_pos c, if_pos c, if_pos (by omega), ta_46 M (by omega) (by omega), ta_k M rng, ta_l26 M (by omega), if_pos ⟨rfl, by omega, by omega⟩, ta_c M rng, hC _ _ (by omega) (by omega) (by omega) (by omega), w32_id (by omega) (by omega)]
    · rw [if_neg c, if_neg c, w32_id (by omega) (by omega)]
theorem sp_91 {D M : Mem} (hR : rOK D) (hT : ∀ l, 0 ≤ l → l < 26 → M 45 l = S (tT D l) (D 106 16)) (hC : ∀ x y, 0 ≤ x → x < 26 → 0 ≤ y → y < 26 → M (47 + x) y = S (cT D x y) (D 106 16)) (k : Int) : qR 91 [(3, 44), (0, k), (3, 3)] (mk M) = some ((0, prK D (M 4) k), mk M) := by
  have h0 : qE 91 8 [(3, 44), (0, k), (3, 3), (0, 0), (0, 0), (0, 0)] [] (mk M) = qE 91 8 [(3, 44), (0, k), (3, 3), (0, S (fun x => if M 4 x = k then fK D (M 4) x else 0) 0), (0, S (fun j => if M 4 j = k then 1 else 0) 0), (0, 0)] [] (mk M) := by rw [S_0, S_0]
  rw [r_91, h0, it_up (fun x => qE 91 8 [(3, 44), (0, k), (3, 3), (0, S (fun x => if M 4 x = k then fK D (M 4) x else 0) x), (0, S (fun j => if M 4 j = k then 1 else 0) x), (0, x)] [] (mk M)) (show (0 : Int) ≤ 26 by decide) (fun x x0 x1 => ?_)]
  · show qE 91 8 [(3, 44), (0, k), (3, 3), (0, S (fun x => if M 4 x = k then fK D (M 4) x else 0) 26), (0, S (fun j => if M 4 j = k then 1 else 0) 26), (0, 26)] [] (mk M) = _
    rw [e_91_8, if_neg (by decide)]
    rfl
  · show qE 91 8 [(3, 44), (0, k), (3, 3), (0, S (fun x => if M 4 x = k then fK D (M 4) x else 0) x), (0, S (fun j => if M 4 j = k then 1 else 0) x), (0, x)] [] (mk M) = qE 91 8 [(3, 44), (0, k), (3, 3), (0, S (fun x => if M 4 x = k then fK D (M 4) x else 0) (x + 1)), (0, S (fun j => if M 4 j = k then 1 else 0) (x + 1)), (0, x + 1)] [] (mk M)
    have b1 := prK_b hR (M 4) k x0 (by omega : x ≤ 26)
    obtain ⟨b2, b3, b4⟩ := fK_b hR (M 4) x0 x1
    have b5 := S_if_bd (fun j => M 4 j = k) x0
    have b3' := b3 k (x + 1) (by omega) (by omega)
    rw [S_succ _ x0]
    obtain ⟨Z, hZ⟩ : ∃ Z, Z = S (fun x => if M 4 x = k then fK D (M 4) x else 0) x := ⟨_, rfl⟩
    rw [← hZ] at b1 ⊢
    rw [e_91_8, if_pos x1, sp_26, if_pos ⟨x0, x1⟩]
    simp only [Option.bind_some, psh_0]
    rw [e_91_21, w32_id (x := x + 1) (by omega) (by omega)]
    by_cases c : M 4 x = k
    · have ps : S (fun j => if M 4 j = k then 1 else 0) x + 1 = posK (M 4) x := by
        unfold posK
        rw [c, S_succ _ x0, if_pos c]
      have fe : fK D (M 4) x = posK (M 4) x * S (tT D x) (D 106 16) + S (fun q => if M 4 q = k then S (cT D q x) (D 106 16) else 0) (x + 1) := by
        unfold fK
        rw [c]
      have sx : S (fun j => if M 4 j = k then 1 else 0) (x + 1) = posK (M 4) x := by rw [S_succ _ x0, if_pos c, ps]
      have pb := posK_bd (M 4) x0
      rw [if_pos c, if_pos c, if_pos ⟨x0, x1⟩, if_pos ⟨x0, x1⟩, hT x x0 x1, ps, sx, w32_id (x := posK (M 4) x) (by omega) (by omega), Int.mul_comm (S (tT D x) (D 106 16)), w32_id (x := posK (M 4) x * S (tT D x) (D 106 16)) (by omega) (by omega), w32_id (x := Z + posK (M 4) x * S (tT D x) (D 106 16)) (by omega) (by omega)]
      by_cases d : S (tT D x) (D 106 16) = 0
      · have z0 : S (fun q => if M 4 q = k then S (cT D q x) (D 106 16) else 0) (x + 1) = 0 := S_zero fun q _ _ => by rw [cT_nil hR d q]; split <;> rfl
        rw [if_pos d, e_91_64, fe, z0, w32_id (x := x + 1) (by omega) (by omega), w32_id (x := Z + posK (M 4) x * S (tT D x) (D 106 16) + 0) (by omega) (by omega), Int.add_assoc]
      · rw [if_neg d, sp_92 hR x0 x1 hC]
        simp only [Option.bind_some, psh_0]
        rw [e_91_64, fe, w32_id (x := x + 1) (by omega) (by omega), Int.add_assoc, w32_id (x := Z + (posK (M 4) x * S (tT D x) (D 106 16) + S (fun q => if M 4 q = k then S (cT D q x) (D 106 16) else 0) (x + 1))) (by omega) (by omega)]
    · rw [if_neg c, if_neg c, S_succ _ x0, if_neg c, Int.add_zero, Int.add_zero]
def sv (D : Mem) (K : Int → Int) (a b : Int) : Int := if K a = K b then 0 else S (fK D K) 26 - S (fK D (xch K a b)) 26
theorem sp_90 {D M : Mem} {a b : Int} (hR : rOK D) (hT : ∀ l, 0 ≤ l → l < 26 → M 45 l = S (tT D l) (D 106 16)) (hC : ∀ x y, 0 ≤ x → x < 26 → 0 ≤ y → y < 26 → M (47 + x) y = S (cT D x y) (D 106 16)) (hK : ∀ l, 0 ≤ l → l < 26 → 1 ≤ M 4 l ∧ M 4 l ≤ 9) (h9 : ∀ k, 1 ≤ k → k ≤ 9 → M 97 k = prK D (M 4) k) (ha : 0 ≤ a ∧ a < 26) (hb : 0 ≤ b ∧ b < 26) : qR 90 [(3, 44), (0, a), (0, b), (3, 3)] (mk M) = some ((0, sv D (M 4) a b), mk M) := by
  have ka := hK a ha.1 ha.2
  have kb := hK b hb.1 hb.2
  rw [r_90, sp_26, if_pos ha]
  simp only [Option.bind_some, psh_0]
  rw [e_90_5, sp_26, if_pos hb]
  simp only [Option.bind_some, psh_0]
  rw [e_90_12]
  unfold sv
  by_cases c : M 4 a = M 4 b
  · rw [if_pos c, if_pos c]
  · rw [if_neg c, if_neg c, sp_131, if_pos ka]
    simp only [Option.bind_some, psh_0]
    rw [e_90_26, if_neg (by decide), sp_131, if_pos kb]
    simp only [Option.bind_some, psh_0]
    obtain ⟨N, hN⟩ : ∃ N, N = mU (mU M 4 a (M 4 b)) 4 b (M 4 a) := ⟨_, rfl⟩
    have N4 : N 4 = xch (M 4) a b := by rw [hN]; exact xch_m M 4 a b
    have No : ∀ y i, y ≠ 4 → N y i = M y i := fun y i h => by rw [hN]; exact xch_o M h
    rw [e_90_34, if_neg (by decide), sp_28 M ha hb, ← hN]
    simp only [Option.bind_some, psh_9]
    have q91 := sp_91 (M := N) hR (fun l l0 l1 => by rw [No _ _ (by decide)]; exact hT l l0 l1) (fun x y x0 x1 y0 y1 => by rw [No _ _ (by omega)]; exact hC x y x0 x1 y0 y1)
    rw [e_90_45, q91]
    simp only [Option.bind_some, psh_0]
    rw [e_90_52, q91]
    simp only [Option.bind_some, psh_0]
    rw [e_90_59, sp_28 N ha hb, xch_twice M 4 a b N hN]
    simp only [Option.bind_some, psh_9]
    have x := xch_keys (D := D) (M 4) c
    have p1 := prK_b hR (xch (M 4) a b) (M 4 a) (m := 26) (by decide) (by decide)
    have p2 := prK_b hR (xch (M 4) a b) (M 4 b) (m := 26) (by decide) (by decide)
    have p3 := prK_b hR (M 4) (M 4 a) (m := 26) (by decide) (by decide)
    have p4 := prK_b hR (M 4) (M 4 b) (m := 26) (by decide) (by decide)
    replace p1 : 0 ≤ prK D (xch (M 4) a b) (M 4 a) ∧ prK D (xch (M 4) a b) (M 4 a) ≤ 811200 := p1
    replace p2 : 0 ≤ prK D (xch (M 4) a b) (M 4 b) ∧ prK D (xch (M 4) a b) (M 4 b) ≤ 811200 := p2
    replace p3 : 0 ≤ prK D (M 4) (M 4 a) ∧ prK D (M 4) (M 4 a) ≤ 811200 := p3
    replace p4 : 0 ≤ prK D (M 4) (M 4 b) ∧ prK D (M 4) (M 4 b) ≤ 811200 := p4
    rw [e_90_68, if_pos (by omega), if_pos (by omega), h9 _ ka.1 ka.2, h9 _ kb.1 kb.2, N4, w32_id (x := prK D (M 4) (M 4 a) + prK D (M 4) (M 4 b)) (by omega) (by omega), w32_id (x := prK D (xch (M 4) a b) (M 4 a) + prK D (xch (M 4) a b) (M 4 b)) (by omega) (by omega), w32_id (by omega) (by omega)]
    congr 3
    omega
