theorem sq_207 {D : Mem} (hR : rOK D) : ∃ E, qR 207 [(3, 106)] (mk D) = some ((0, LW (KK D) 100000000 9 0 + S (bT D) (D 106 16)), mk E) ∧ E 107 = kyF (KK D) 100000000 (D 107) 9 ∧ ∀ y i, y ≠ 107 → y ≠ 128 → y ≠ 129 → y ≠ 130 → E y i = D y i := by
  have kb := KK_b hR
  have c3 := hR.2.2.2.2.1
  have lwb := fun (s : Nat) (hs : s ≤ 9) x (x0 : 0 ≤ x) (x1 : x ≤ 26) => LW_le kb (W := 100000000) (by decide) hs x0 x1
  have bb := bT_b D c3.1
  obtain ⟨Z, z1, z2, z3, z4⟩ := sq_205 hR
  obtain ⟨B, hB⟩ : ∃ B, B = S (bT D) (D 106 16) := ⟨_, rfl⟩
  rw [← hB] at z1 bb ⊢
  have q206 : ∀ (M : Mem) a b, (∀ y i, y ≠ 107 → y ≠ 130 → M y i = Z y i) → 0 ≤ a → a ≤ b → b < 26 → qR 206 [(3, 106), (0, a), (0, b)] (mk M) = some ((0, KK D a (b - a + 1)), mk M) := fun M a b h a0 ab b1 => sq_206 hR a0 ab b1 (fun l l0 l1 => by rw [h _ _ (by decide) (by decide)]; exact z2 l l0 l1) (fun x y x0 x1 y0 y1 => by rw [h _ _ (by decide) (by decide)]; exact z3 x y x0 x1 y0 y1)
  -- the first table
  obtain ⟨⟨A, v3⟩, a1, a2, a3⟩ := it_inv (fun s (t : Mem × PV) => qE 207 7 [(3, 106), (0, B), (0, s), t.2, (9, 0), (9, 0)] [] (mk t.1)) (fun s t => (∀ x, 0 ≤ x → x < 27 * s → t.1 130 x = if x = 26 then 0 else 100000000) ∧ ∀ y i, y ≠ 130 → t.1 y i = Z y i) (a := 0) (n := 10) (by decide)
    (fun s t s0 s1 ⟨h1, h2⟩ => by
      obtain ⟨M, v3⟩ := t
      replace h1 : ∀ x, 0 ≤ x → x < 27 * s → M 130 x = if x = 26 then 0 else 100000000 := h1
      replace h2 : ∀ y i, y ≠ 130 → M y i = Z y i := h2
      obtain ⟨N, n1, n2, n3⟩ := it_inv (fun a (N : Mem) => qE 207 15 [(3, 106), (0, B), (0, s), (0, a), (9, 0), (9, 0)] [] (mk N)) (fun a N => (∀ x, 0 ≤ x → x < 27 * s + a → N 130 x = if x = 26 then 0 else 100000000) ∧ ∀ y i, y ≠ 130 → N y i = Z y i) (a := 0) (n := 27) (by decide)
        (fun a N a0 a1 ⟨n2, n3⟩ => by
          have ei : w32 (w32 (27 * s) + a) = 27 * s + a := by rw [w32_id (x := 27 * s) (by omega) (by omega), w32_id (by omega) (by omega)]
          refine ⟨mU N 130 (27 * s + a) (if 27 * s + a = 26 then 0 else 100000000), ?_, fun x x0 x1 => ?_, fun y i hy => ?_⟩
          · show qE 207 15 [(3, 106), (0, B), (0, s), (0, a), (9, 0), (9, 0)] [] (mk N) = qE 207 15 [(3, 106), (0, B), (0, s), (0, a + 1), (9, 0), (9, 0)] [] (mk (mU N 130 (27 * s + a) (if 27 * s + a = 26 then 0 else 100000000)))
            rw [e_207_15, if_pos (by omega), ei, w32_id (x := a + 1) (by omega) (by omega)]
            by_cases c : s = 0
            · by_cases c2 : a = 26
              · rw [if_pos c, if_pos c2, if_pos (by omega), if_pos (by omega)]
              · rw [if_pos c, if_neg c2, if_pos (by omega), if_neg (by omega)]
            · rw [if_neg c, if_pos (by omega), if_neg (by omega)]
          · show mU N 130 (27 * s + a) (if 27 * s + a = 26 then 0 else 100000000) 130 x = _
            by_cases z : x = 27 * s + a
            · rw [z, mU_s]
            · rw [mU_other (by omega)]; exact n2 x x0 (by omega)
          · show mU N 130 (27 * s + a) (if 27 * s + a = 26 then 0 else 100000000) y i = _
            rw [mU_r hy]; exact n3 y i hy)
        (s0 := M) ⟨fun x x0 x1 => h1 x x0 (by omega), h2⟩
      refine ⟨(N, (0, 27)), ?_, fun x x0 x1 => n2 x x0 (by omega), n3⟩
      show qE 207 7 [(3, 106), (0, B), (0, s), v3, (9, 0), (9, 0)] [] (mk M) = qE 207 7 [(3, 106), (0, B), (0, s + 1), (0, 27), (9, 0), (9, 0)] [] (mk N)
      rw [e_207_7, if_pos (by omega)]
      refine n1.trans ?_
      show qE 207 15 [(3, 106), (0, B), (0, s), (0, 27), (9, 0), (9, 0)] [] (mk N) = _
      rw [e_207_15, if_neg (by decide), w32_id (by omega) (by omega)])
    (s0 := (Z, (9, 0))) ⟨fun x x0 x1 => by omega, fun _ _ _ => rfl⟩
  replace a2 : ∀ x, 0 ≤ x → x < 27 * 10 → A 130 x = if x = 26 then 0 else 100000000 := a2
  replace a3 : ∀ y i, y ≠ 130 → A y i = Z y i := a3
  -- the least sums
  obtain ⟨⟨C, w3, w4, w5⟩, c1, c2, c2', c3'⟩ := it_inv (fun s (t : Mem × PV × PV × PV) => qE 207 62 [(3, 106), (0, B), (0, s), t.2.1, t.2.2.1, t.2.2.2] [] (mk t.1)) (fun s t => (∀ q x, 0 ≤ q → q < s → 0 ≤ x → x ≤ 26 → t.1 130 (27 * q + x) = LW (KK D) 100000000 q.toNat x) ∧ (∀ q x, s ≤ q → q ≤ 9 → 0 ≤ x → x ≤ 26 → t.1 130 (27 * q + x) = 100000000) ∧ ∀ y i, y ≠ 130 → t.1 y i = Z y i) (a := 1) (n := 10) (by decide)
    (fun s t s0 s1 ⟨h1, h1', h2⟩ => by
      obtain ⟨M, v3, v4, v5⟩ := t
      replace h1 : ∀ q x, 0 ≤ q → q < s → 0 ≤ x → x ≤ 26 → M 130 (27 * q + x) = LW (KK D) 100000000 q.toNat x := h1
      replace h1' : ∀ q x, s ≤ q → q ≤ 9 → 0 ≤ x → x ≤ 26 → M 130 (27 * q + x) = 100000000 := h1'
      replace h2 : ∀ y i, y ≠ 130 → M y i = Z y i := h2
      obtain ⟨n, hn⟩ : ∃ n : Nat, n = (s - 1).toNat := ⟨_, rfl⟩
      have hs : s = (n : Int) + 1 := by omega
      obtain ⟨⟨N, u4, u5⟩, n1, n2, n3⟩ := it_inv (fun a (t : Mem × PV × PV) => qE 207 70 [(3, 106), (0, B), (0, s), (0, a), t.2.1, t.2.2] [] (mk t.1)) (fun a t => (∀ x, 0 ≤ x → x < a → t.1 130 (27 * s + x) = LW (KK D) 100000000 (n + 1) x) ∧ ∀ y i, ¬ (y = 130 ∧ 27 * s ≤ i ∧ i < 27 * s + a) → t.1 y i = M y i) (a := 0) (n := 26) (by decide)
        (fun a t a0 a1 ⟨n2, n3⟩ => by
          obtain ⟨N, u4, u5⟩ := t
          replace n2 : ∀ x, 0 ≤ x → x < a → N 130 (27 * s + x) = LW (KK D) 100000000 (n + 1) x := n2
          replace n3 : ∀ y i, ¬ (y = 130 ∧ 27 * s ≤ i ∧ i < 27 * s + a) → N y i = M y i := n3
          obtain ⟨⟨F, u5'⟩, f1, f2, f3⟩ := it_inv (fun m (t : Mem × PV) => qE 207 79 [(3, 106), (0, B), (0, s), (0, a), (0, a + m), t.2] [] (mk t.1)) (fun m t => t.1 130 (27 * s + a) = (stz (KK D) 100000000 (LW (KK D) 100000000 n) a m.toNat).1 ∧ ∀ y i, ¬ (y = 130 ∧ i = 27 * s + a) → t.1 y i = N y i) (a := 0) (n := 26 - a) (by omega)
            (fun m t m0 m1 ⟨f2, f3⟩ => by
              obtain ⟨F, u5'⟩ := t
              replace f2 : F 130 (27 * s + a) = (stz (KK D) 100000000 (LW (KK D) 100000000 n) a m.toNat).1 := f2
              replace f3 : ∀ y i, ¬ (y = 130 ∧ i = 27 * s + a) → F y i = N y i := f3
              have q := q206 F a (a + m) (fun y i y1 y2 => by rw [f3 _ _ (by omega), n3 _ _ (by omega)]; exact h2 y i y2) a0 (by omega) (by omega)
              rw [show a + m - a + 1 = m + 1 by omega] at q
              have kkm := kb a (m + 1) a0 (by omega) (by omega) (by omega)
              have pb := lwb n (by omega) (a + (m + 1)) (by omega) (by omega)
              have nx : F 130 (27 * (n : Int) + (a + (m + 1))) = LW (KK D) 100000000 n (a + (m + 1)) := by
                rw [f3 _ _ (by omega), n3 _ _ (by omega), h1 _ _ (by omega) (by omega) (by omega) (by omega), show ((n : Int)).toNat = n by omega]
              have e1 : w32 (w32 (w32 (27 * w32 (s - 1)) + (a + m)) + 1) = 27 * (n : Int) + (a + (m + 1)) := by
                rw [w32_id (x := s - 1) (by omega) (by omega), w32_id (x := 27 * (s - 1)) (by omega) (by omega), w32_id (x := 27 * (s - 1) + (a + m)) (by omega) (by omega), w32_id (by omega) (by omega)]; omega
              have e2 : w32 (w32 (27 * s) + a) = 27 * s + a := by rw [w32_id (x := 27 * s) (by omega) (by omega), w32_id (by omega) (by omega)]
              have e3 : w32 (KK D a (m + 1) + LW (KK D) 100000000 n (a + (m + 1))) = KK D a (m + 1) + LW (KK D) 100000000 n (a + (m + 1)) := w32_id (by omega) (by omega)
              have sn : stz (KK D) 100000000 (LW (KK D) 100000000 n) a (m + 1).toNat = if KK D a (m + 1) + LW (KK D) 100000000 n (a + (m + 1)) < (stz (KK D) 100000000 (LW (KK D) 100000000 n) a m.toNat).1 then (KK D a (m + 1) + LW (KK D) 100000000 n (a + (m + 1)), m + 1) else stz (KK D) 100000000 (LW (KK D) 100000000 n) a m.toNat := by
                rw [show (m + 1).toNat = m.toNat + 1 by omega, stz_s, show ((m.toNat : Nat) : Int) = m by omega]
              refine ⟨(mU F 130 (27 * s + a) (stz (KK D) 100000000 (LW (KK D) 100000000 n) a (m + 1).toNat).1, (0, KK D a (m + 1) + LW (KK D) 100000000 n (a + (m + 1)))), ?_, ?_, fun y i hy => ?_⟩
              · show qE 207 79 [(3, 106), (0, B), (0, s), (0, a), (0, a + m), u5'] [] (mk F) = qE 207 79 [(3, 106), (0, B), (0, s), (0, a), (0, a + (m + 1)), (0, KK D a (m + 1) + LW (KK D) 100000000 n (a + (m + 1)))] [] (mk (mU F 130 (27 * s + a) (stz (KK D) 100000000 (LW (KK D) 100000000 n) a (m + 1).toNat).1))
                rw [e_207_79, if_pos (by omega), q]
                simp only [Option.bind_some, psh_0]
                rw [e_207_93, e1, e2, if_pos (by omega), if_pos (by omega), nx, e3, f2, sn, w32_id (x := a + m + 1) (by omega) (by omega), show a + m + 1 = a + (m + 1) by omega]
                by_cases c : KK D a (m + 1) + LW (KK D) 100000000 n (a + (m + 1)) < (stz (KK D) 100000000 (LW (KK D) 100000000 n) a m.toNat).1
                · rw [if_pos c, if_pos c, if_pos (by omega)]
                · rw [if_neg c, if_neg c, if_pos (by omega), if_pos (by omega)]
              · exact mU_s
              · show mU F 130 (27 * s + a) _ y i = _
                rw [mU_other hy]; exact f3 y i hy)
            (s0 := (N, u5)) ⟨by show N 130 (27 * s + a) = 100000000; rw [n3 _ _ (by omega)]; exact h1' s a (by omega) (by omega) a0 (by omega), fun _ _ _ => rfl⟩
          replace f2 : F 130 (27 * s + a) = (stz (KK D) 100000000 (LW (KK D) 100000000 n) a (26 - a).toNat).1 := f2
          replace f3 : ∀ y i, ¬ (y = 130 ∧ i = 27 * s + a) → F y i = N y i := f3
          refine ⟨(F, (0, 26), u5'), ?_, fun x x0 x1 => ?_, fun y i hy => ?_⟩
          · show qE 207 70 [(3, 106), (0, B), (0, s), (0, a), u4, u5] [] (mk N) = qE 207 70 [(3, 106), (0, B), (0, s), (0, a + 1), (0, 26), u5'] [] (mk F)
            have h0 : qE 207 79 [(3, 106), (0, B), (0, s), (0, a), (0, a), u5] [] (mk N) = qE 207 79 [(3, 106), (0, B), (0, s), (0, a), (0, a + 0), u5] [] (mk N) := by rw [Int.add_zero]
            rw [e_207_70, if_pos a1, h0]
            refine f1.trans ?_
            show qE 207 79 [(3, 106), (0, B), (0, s), (0, a), (0, a + (26 - a)), u5'] [] (mk F) = _
            rw [show a + (26 - a) = 26 by omega, e_207_79, if_neg (by decide), w32_id (by omega) (by omega)]
          · show F 130 (27 * s + x) = _
            by_cases z : x = a
            · rw [z, LW_s]; exact f2
            · rw [f3 _ _ (by omega)]; exact n2 x x0 (by omega)
          · show F y i = _
            rw [f3 _ _ (by omega)]; exact n3 y i (by omega))
        (s0 := (M, v4, v5)) ⟨fun x x0 x1 => by omega, fun _ _ _ => rfl⟩
      replace n2 : ∀ x, 0 ≤ x → x < 26 → N 130 (27 * s + x) = LW (KK D) 100000000 (n + 1) x := n2
      replace n3 : ∀ y i, ¬ (y = 130 ∧ 27 * s ≤ i ∧ i < 27 * s + 26) → N y i = M y i := n3
      refine ⟨(N, (0, 26), u4, u5), ?_, fun q x q0 q1 x0 x1 => ?_, fun q x q0 q1 x0 x1 => ?_, fun y i hy => ?_⟩
      · show qE 207 62 [(3, 106), (0, B), (0, s), v3, v4, v5] [] (mk M) = qE 207 62 [(3, 106), (0, B), (0, s + 1), (0, 26), u4, u5] [] (mk N)
        rw [e_207_62, if_pos (by omega)]
        refine n1.trans ?_
        show qE 207 70 [(3, 106), (0, B), (0, s), (0, 26), u4, u5] [] (mk N) = _
        rw [e_207_70, if_neg (by decide), w32_id (by omega) (by omega)]
      · show N 130 (27 * q + x) = _
        by_cases z : q = s
        · rw [z, show s.toNat = n + 1 by omega]
          by_cases z2 : x = 26
          · rw [z2, n3 _ _ (by omega), h1' s 26 (by omega) (by omega) (by decide) (by decide), LW_s]; rfl
          · exact n2 x x0 (by omega)
        · rw [n3 _ _ (by omega)]; exact h1 q x q0 (by omega) x0 x1
      · show N 130 (27 * q + x) = _
        rw [n3 _ _ (by omega)]; exact h1' q x (by omega) q1 x0 x1
      · show N y i = _
        rw [n3 y i (by omega)]; exact h2 y i hy)
    (s0 := (A, v3, (9, 0), (9, 0))) ⟨fun q x q0 q1 x0 x1 => by
      show A 130 (27 * q + x) = _
      have : q = 0 := by omega
      rw [a2 _ (by omega) (by omega), this, show (0 : Int).toNat = 0 from rfl, LW_0, show 27 * 0 + x = x by omega], fun q x q0 q1 x0 x1 => by
      show A 130 (27 * q + x) = _
      rw [a2 _ (by omega) (by omega), if_neg (by omega)], a3⟩
  replace c2 : ∀ q x, 0 ≤ q → q < 10 → 0 ≤ x → x ≤ 26 → C 130 (27 * q + x) = LW (KK D) 100000000 q.toNat x := c2
  replace c3' : ∀ y i, y ≠ 130 → C y i = Z y i := c3'
  -- the letters to the keys
  obtain ⟨⟨G, t4, t5⟩, g1, g2, g3⟩ := it_inv (fun i (t : Mem × PV × PV) => qE 207 178 [(3, 106), (0, B), (0, psn (KK D) 100000000 i.toNat), (0, 9 - i), t.2.1, t.2.2] [] (mk t.1)) (fun i t => t.1 107 = kyF (KK D) 100000000 (D 107) i.toNat ∧ ∀ y j, y ≠ 107 → t.1 y j = C y j) (a := 0) (n := 9) (by decide)
    (fun i t i0 i1 ⟨g2, g3⟩ => by
      obtain ⟨G, t4, t5⟩ := t
      replace g2 : G 107 = kyF (KK D) 100000000 (D 107) i.toNat := g2
      replace g3 : ∀ y j, y ≠ 107 → G y j = C y j := g3
      obtain ⟨n, hn⟩ : ∃ n : Nat, n = i.toNat := ⟨_, rfl⟩
      have hi : i = (n : Int) := by omega
      obtain ⟨p0, pf⟩ := psn_fea kb (W := 100000000) (by decide) n (by omega)
      obtain ⟨p, hp⟩ : ∃ p, p = psn (KK D) 100000000 n := ⟨_, rfl⟩
      rw [← hp] at p0 pf
      rw [show 9 - n = (8 - n) + 1 by omega] at pf
      obtain ⟨_, l1, l2, _, l4, l5⟩ := LA_both kb (W := 100000000) (V := 100000000) (by decide) (by decide) (8 - n) (by omega) p0 pf
      have pn : psn (KK D) 100000000 (n + 1) = p + LA (KK D) 100000000 (8 - n) p := by rw [hp]; rfl
      obtain ⟨m, hm⟩ : ∃ m, m = LA (KK D) 100000000 (8 - n) p := ⟨_, rfl⟩
      rw [← hm] at l1 l2 l4 l5 pn
      have gq := fun b (b0 : p ≤ b) (b1 : b < 26) => q206 G p b (fun y i y1 y2 => by rw [g3 _ _ y1]; exact c3' y i y2) p0 b0 b1
      have Gc : ∀ q x, 0 ≤ q → q < 10 → 0 ≤ x → x ≤ 26 → G 130 (27 * q + x) = LW (KK D) 100000000 q.toNat x := fun q x q0 q1 x0 x1 => by rw [g3 _ _ (by decide)]; exact c2 q x q0 q1 x0 x1
      have head : ∀ j, 1 ≤ j → p + j ≤ 26 → ∀ v5, qE 207 185 [(3, 106), (0, B), (0, p), (0, 9 - i), (0, p + j - 1), v5] [] (mk G) = if KK D p j + LW (KK D) 100000000 (8 - n) (p + j) = LW (KK D) 100000000 (8 - n + 1) p then qE 207 232 [(3, 106), (0, B), (0, p), (0, 9 - i), (0, p + j - 1), (0, p)] [] (mk G) else qE 207 185 [(3, 106), (0, B), (0, p), (0, 9 - i), (0, p + j), v5] [] (mk G) := fun j j0 j1 v5 => by
        have kkm := kb p j p0 (by omega) (by omega) (by omega)
        have pb := lwb (8 - n) (by omega) (p + j) (by omega) (by omega)
        have e1 : w32 (w32 (w32 (27 * w32 (9 - i - 1)) + (p + j - 1)) + 1) = 27 * (8 - i) + (p + j) := by
          rw [w32_id (x := 9 - i - 1) (by omega) (by omega), w32_id (x := 27 * (9 - i - 1)) (by omega) (by omega), w32_id (x := 27 * (9 - i - 1) + (p + j - 1)) (by omega) (by omega), w32_id (by omega) (by omega)]; omega
        have e2 : w32 (w32 (27 * (9 - i)) + p) = 27 * (9 - i) + p := by rw [w32_id (x := 27 * (9 - i)) (by omega) (by omega), w32_id (by omega) (by omega)]
        rw [e_207_185, gq _ (by omega) (by omega)]
        simp only [Option.bind_some, psh_0]
        rw [e_207_192, e1, e2, if_pos (by omega), if_pos (by omega), Gc _ _ (by omega) (by omega) (by omega) (by omega), Gc _ _ (by omega) (by omega) (by omega) (by omega), show (8 - i).toNat = 8 - n by omega, show (9 - i).toNat = 8 - n + 1 by omega, show p + j - 1 - p + 1 = j by omega, w32_id (x := KK D p j + LW (KK D) 100000000 (8 - n) (p + j)) (by omega) (by omega), w32_id (x := p + j - 1 + 1) (by omega) (by omega), show p + j - 1 + 1 = p + j by omega]
      have srch : ∀ v5, qE 207 185 [(3, 106), (0, B), (0, p), (0, 9 - i), (0, p), v5] [] (mk G) = qE 207 232 [(3, 106), (0, B), (0, p), (0, 9 - i), (0, p + m - 1), (0, p)] [] (mk G) := fun v5 => by
        have h0 : qE 207 185 [(3, 106), (0, B), (0, p), (0, 9 - i), (0, p), v5] [] (mk G) = qE 207 185 [(3, 106), (0, B), (0, p), (0, 9 - i), (0, p + 1 - 1), v5] [] (mk G) := by rw [show p + 1 - 1 = p by omega]
        rw [h0, it_up (fun j => qE 207 185 [(3, 106), (0, B), (0, p), (0, 9 - i), (0, p + j - 1), v5] [] (mk G)) l1 (fun j j0 j1 => by
          show qE 207 185 [(3, 106), (0, B), (0, p), (0, 9 - i), (0, p + j - 1), v5] [] (mk G) = qE 207 185 [(3, 106), (0, B), (0, p), (0, 9 - i), (0, p + (j + 1) - 1), v5] [] (mk G)
          rw [head j j0 (by omega), if_neg (l5 j j0 j1), show p + (j + 1) - 1 = p + j by omega])]
        show qE 207 185 [(3, 106), (0, B), (0, p), (0, 9 - i), (0, p + m - 1), v5] [] (mk G) = _
        rw [head m l1 l2, if_pos l4.symm]
      obtain ⟨H, h1, h2, h3⟩ := it_inv (fun x (H : Mem) => qE 207 232 [(3, 106), (0, B), (0, p), (0, 9 - i), (0, p + m - 1), (0, x)] [] (mk H)) (fun x H => (∀ l, H 107 l = if p ≤ l ∧ l < x then i + 1 else G 107 l) ∧ ∀ y j, y ≠ 107 → H y j = C y j) (a := p) (n := p + m) (by omega)
        (fun x H x0 x1 ⟨h2, h3⟩ => by
          refine ⟨mU H 107 x (i + 1), ?_, fun l => ?_, fun y j hy => ?_⟩
          · show qE 207 232 [(3, 106), (0, B), (0, p), (0, 9 - i), (0, p + m - 1), (0, x)] [] (mk H) = qE 207 232 [(3, 106), (0, B), (0, p), (0, 9 - i), (0, p + m - 1), (0, x + 1)] [] (mk (mU H 107 x (i + 1)))
            rw [e_207_232, if_pos (by omega), if_pos (by omega), w32_id (x := x + 1) (by omega) (by omega), w32_id (x := 10 - (9 - i)) (by omega) (by omega), show 10 - (9 - i) = i + 1 by omega]
          · show mU H 107 x (i + 1) 107 l = _
            by_cases z : l = x
            · rw [z, mU_s, if_pos ⟨by omega, by omega⟩]
            · rw [mU_other (by omega), h2 l]
              by_cases c : p ≤ l ∧ l < x
              · rw [if_pos c, if_pos ⟨c.1, by omega⟩]
              · rw [if_neg c, if_neg (by omega)]
          · show mU H 107 x (i + 1) y j = _
            rw [mU_r hy]; exact h3 y j hy)
        (s0 := G) ⟨fun l => by rw [if_neg (by omega)], g3⟩
      refine ⟨(H, (0, p + m - 1), (0, p + m)), ?_, ?_, h3⟩
      · show qE 207 178 [(3, 106), (0, B), (0, psn (KK D) 100000000 i.toNat), (0, 9 - i), t4, t5] [] (mk G) = qE 207 178 [(3, 106), (0, B), (0, psn (KK D) 100000000 (i + 1).toNat), (0, 9 - (i + 1)), (0, p + m - 1), (0, p + m)] [] (mk H)
        rw [← hn, ← hp, show (i + 1).toNat = n + 1 by omega, pn, e_207_178, if_neg (by omega), srch]
        refine h1.trans ?_
        show qE 207 232 [(3, 106), (0, B), (0, p), (0, 9 - i), (0, p + m - 1), (0, p + m)] [] (mk H) = _
        rw [e_207_232, if_neg (by omega), w32_id (x := p + m - 1 + 1) (by omega) (by omega), w32_id (x := 9 - i + -1) (by omega) (by omega), show p + m - 1 + 1 = p + m by omega, show 9 - i + -1 = 9 - (i + 1) by omega]
      · show H 107 = kyF (KK D) 100000000 (D 107) (i + 1).toNat
        rw [show (i + 1).toNat = n + 1 by omega]
        funext l
        show H 107 l = if psn (KK D) 100000000 n ≤ l ∧ l < psn (KK D) 100000000 (n + 1) then (n : Int) + 1 else kyF (KK D) 100000000 (D 107) n l
        rw [h2 l, pn, ← hp, hi, g2, ← hn])
    (s0 := (C, w4, w5)) ⟨by show C 107 = D 107; exact funext fun j => (c3' 107 j (by decide)).trans (z4 107 j (by decide) (by decide)), fun _ _ _ => rfl⟩
  replace g2 : G 107 = kyF (KK D) 100000000 (D 107) 9 := g2
  replace g3 : ∀ y j, y ≠ 107 → G y j = C y j := g3
  have fin : G 130 243 = LW (KK D) 100000000 9 0 := by rw [g3 _ _ (by decide)]; exact c2 9 0 (by decide) (by decide) (by decide) (by decide)
  have l90 := lwb 9 (by decide) 0 (by decide) (by decide)
  refine ⟨G, ?_, g2, fun y i y1 y2 y3 y4 => by rw [g3 y i y1, c3' y i y4, z4 y i y2 y3]⟩
  rw [r_207, z1]
  simp only [Option.bind_some, psh_0]
  rw [e_207_4]
  refine a1.trans ?_
  show qE 207 7 [(3, 106), (0, B), (0, 10), v3, (9, 0), (9, 0)] [] (mk A) = _
  rw [e_207_7, if_neg (by decide)]
  refine c1.trans ?_
  show qE 207 62 [(3, 106), (0, B), (0, 10), w3, w4, w5] [] (mk C) = _
  rw [e_207_62, if_neg (by decide)]
  refine g1.trans ?_
  show qE 207 178 [(3, 106), (0, B), (0, psn (KK D) 100000000 9), (0, 0), t4, t5] [] (mk G) = _
  rw [e_207_178, if_pos (by decide), if_pos (by decide), fin, w32_id (by omega) (by omega)]
