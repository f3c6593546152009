/-! best: the deal by both -/
/-- where key i + 1's letters begin -/
def psn (K : Int → Int → Int) (W : Int) : Nat → Int
  | 0 => 0
  | i + 1 => psn K W i + LA K W (8 - i) (psn K W i)
/-- the keys behind the first i stretches -/
def kyF (K : Int → Int → Int) (W : Int) (f : Int → Int) : Nat → Int → Int
  | 0 => f
  | i + 1 => fun l => if psn K W i ≤ l ∧ l < psn K W (i + 1) then (i : Int) + 1 else kyF K W f i l
theorem psn_fea {K : Int → Int → Int} (hK : ∀ a m, 0 ≤ a → a ≤ 26 → 0 ≤ m → a + m ≤ 26 → 0 ≤ K a m ∧ K a m ≤ 1000000) {W : Int} (hW : 100000000 ≤ W) : ∀ i : Nat, i ≤ 9 → 0 ≤ psn K W i ∧ fea (9 - i) (psn K W i)
  | 0, _ => ⟨Int.le_refl 0, by show (0 : Int) + (9 : Nat) ≤ 26; decide, fun h => by omega⟩
  | i + 1, h => by
    obtain ⟨a, b⟩ := psn_fea hK hW i (by omega)
    have e : 9 - i = (8 - i) + 1 := by omega
    rw [e] at b
    obtain ⟨_, l1, _, l2, _⟩ := LA_both hK hW hW (8 - i) (by omega) a b
    rw [show 9 - (i + 1) = 8 - i by omega]
    exact ⟨by show 0 ≤ psn K W i + LA K W (8 - i) (psn K W i); omega, l2⟩
theorem psn_W {K : Int → Int → Int} (hK : ∀ a m, 0 ≤ a → a ≤ 26 → 0 ≤ m → a + m ≤ 26 → 0 ≤ K a m ∧ K a m ≤ 1000000) {W V : Int} (hW : 100000000 ≤ W) (hV : 100000000 ≤ V) : ∀ i : Nat, i ≤ 9 → psn K W i = psn K V i
  | 0, _ => rfl
  | i + 1, h => by
    have ih := psn_W hK hW hV i (by omega)
    obtain ⟨a, b⟩ := psn_fea hK hW i (by omega)
    have e : 9 - i = (8 - i) + 1 := by omega
    rw [e] at b
    obtain ⟨l0, _⟩ := LA_both hK hW hV (8 - i) (by omega) a b
    show psn K W i + LA K W (8 - i) (psn K W i) = psn K V i + LA K V (8 - i) (psn K V i)
    rw [← ih, l0]
theorem kyF_W {K : Int → Int → Int} (hK : ∀ a m, 0 ≤ a → a ≤ 26 → 0 ≤ m → a + m ≤ 26 → 0 ≤ K a m ∧ K a m ≤ 1000000) {W V : Int} (hW : 100000000 ≤ W) (hV : 100000000 ≤ V) (f : Int → Int) : ∀ i : Nat, i ≤ 9 → kyF K W f i = kyF K V f i
  | 0, _ => rfl
  | i + 1, h => by
    funext l
    show (if psn K W i ≤ l ∧ l < psn K W (i + 1) then (i : Int) + 1 else kyF K W f i l) = (if psn K V i ≤ l ∧ l < psn K V (i + 1) then (i : Int) + 1 else kyF K V f i l)
    rw [kyF_W hK hW hV f i (by omega), psn_W hK hW hV i (by omega), psn_W hK hW hV (i + 1) h]
theorem kyF_b {K : Int → Int → Int} {W : Int} {f : Int → Int} (hf : ∀ l, 0 ≤ l → l < 26 → 1 ≤ f l ∧ f l ≤ 9) : ∀ i : Nat, i ≤ 9 → ∀ l, 0 ≤ l → l < 26 → 1 ≤ kyF K W f i l ∧ kyF K W f i l ≤ 9
  | 0, _ => hf
  | i + 1, h => fun l l0 l1 => by
    show 1 ≤ (if psn K W i ≤ l ∧ l < psn K W (i + 1) then (i : Int) + 1 else kyF K W f i l) ∧ (if psn K W i ≤ l ∧ l < psn K W (i + 1) then (i : Int) + 1 else kyF K W f i l) ≤ 9
    split
    · omega
    · exact kyF_b hf i (by omega) l l0 l1
theorem sp_87 {D M : Mem} (hR : rOK D) (hT : ∀ l, 0 ≤ l → l < 26 → M 45 l = S (tT D l) (D 106 16)) (hC : ∀ x y, 0 ≤ x → x < 26 → 0 ≤ y → y < 26 → M (47 + x) y = S (cT D x y) (D 106 16)) (hB : M 44 2 = S (bT D) (D 106 16)) : ∃ E, qR 87 [(3, 44), (3, 3)] (mk M) = some ((0, S (bT D) (D 106 16) + LW (KK D) 268435456 9 0), mk E) ∧ E 4 = kyF (KK D) 268435456 (M 4) 9 ∧ ∀ y i, y ≠ 4 → ¬ (74 ≤ y ∧ y ≤ 84) → ¬ (86 ≤ y ∧ y ≤ 96) → E y i = M y i := by
  have kb := KK_b hR
  have c3 := hR.2.2.2.2.1
  have lwb := fun (s : Nat) (hs : s ≤ 9) x (x0 : 0 ≤ x) (x1 : x ≤ 26) => LW_le kb (W := 268435456) (by decide) hs x0 x1
  -- filled
  obtain ⟨A, a1, a2, a3⟩ := it_inv (fun k (A : Mem) => qE 87 2 [(3, 44), (3, 3), (0, k), (9, 0), (9, 0)] [] (mk A)) (fun k A => (∀ q x, 1 ≤ q → q < k → 0 ≤ x → x < 27 → A (74 + q) x = 268435456) ∧ ∀ y i, ¬ (74 ≤ y ∧ y ≤ 84) → A y i = M y i) (a := 1) (n := 11) (by decide)
    (fun k A k0 k1 ⟨a2, a3⟩ => by
      have rk : (47 ≤ 74 + k ∧ 74 + k ≤ 72) ∨ (74 ≤ 74 + k ∧ 74 + k ≤ 84) ∨ (86 ≤ 74 + k ∧ 74 + k ≤ 97) := by omega
      obtain ⟨B, b1, b2, b3⟩ := sp_218 (a := 74 + k) (n := 27) (v := 268435456) A (by omega) (fun E => ta_k E rk) (fun E => ta_l27 E (by omega)) (fun E i v => ta_u E rk i v) (by decide) (by decide)
      refine ⟨B, ?_, fun q x q0 q1 x0 x1 => ?_, fun y i hy => ?_⟩
      · show qE 87 2 [(3, 44), (3, 3), (0, k), (9, 0), (9, 0)] [] (mk A) = qE 87 2 [(3, 44), (3, 3), (0, k + 1), (9, 0), (9, 0)] [] (mk B)
        rw [e_87_2, if_pos (by omega), if_pos (by omega), ta_73 A (by omega) (by omega), b1]
        simp only [Option.bind_some, psh_9]
        rw [e_87_19, w32_id (by omega) (by omega)]
      · by_cases z : q = k
        · rw [z]; exact b2 x x0 x1
        · rw [b3 _ _ (by omega)]; exact a2 q x q0 (by omega) x0 x1
      · rw [b3 y i (by omega)]; exact a3 y i hy)
    (s0 := M) ⟨fun q x q0 q1 => by omega, fun _ _ _ => rfl⟩
  have r84 : (47 ≤ (84 : Int) ∧ (84 : Int) ≤ 72) ∨ (74 ≤ (84 : Int) ∧ (84 : Int) ≤ 84) ∨ (86 ≤ (84 : Int) ∧ (84 : Int) ≤ 97) := by omega
  obtain ⟨B, hB'⟩ : ∃ B, B = mU A 84 26 0 := ⟨_, rfl⟩
  have st1 : qR 87 [(3, 44), (3, 3)] (mk M) = qE 87 39 [(3, 44), (3, 3), (0, 25), (9, 0), (9, 0)] [] (mk B) := by
    rw [r_87]
    refine a1.trans ?_
    show qE 87 2 [(3, 44), (3, 3), (0, 11), (9, 0), (9, 0)] [] (mk A) = _
    rw [e_87_2, if_neg (by decide), if_pos (by decide), ta_73 A (by decide) (by decide), show (74 : Int) + 10 = 84 from rfl, ta_k A r84, ta_l27 A (by omega), if_pos ⟨by decide, rfl, by decide, by decide⟩, ta_u A r84, ← hB', e_87_36]
  have Bv : ∀ k x, 1 ≤ k → k ≤ 10 → 0 ≤ x → x ≤ 26 → B (74 + k) x = if k = 10 ∧ x = 26 then 0 else 268435456 := fun k x k0 k1 x0 x1 => by
    rw [hB']
    by_cases c : k = 10 ∧ x = 26
    · rw [if_pos c, c.1, c.2]; exact mU_s
    · rw [if_neg c, mU_other (by omega)]; exact a2 k x k0 (by omega) x0 (by omega)
  have Bo : ∀ y i, ¬ (74 ≤ y ∧ y ≤ 84) → B y i = M y i := fun y i hy => by rw [hB', mU_r (by omega)]; exact a3 y i hy
  -- the tables, from the last letter to the first
  obtain ⟨C, c1, c2, c2b, c4⟩ := it_invd (fun a (C : Mem) => qE 87 39 [(3, 44), (3, 3), (0, a), (9, 0), (9, 0)] [] (mk C)) (fun a C => (∀ k x, 1 ≤ k → k ≤ 10 → a < x → 0 ≤ x → x ≤ 26 → C (74 + k) x = LW (KK D) 268435456 (10 - k).toNat x) ∧ (∀ k x, 1 ≤ k → k ≤ 9 → a < x → 0 ≤ x → x < 26 → 1 ≤ LA (KK D) 268435456 (9 - k).toNat x → C (86 + k) x = LA (KK D) 268435456 (9 - k).toNat x) ∧ ((∀ k x, 1 ≤ k → k ≤ 10 → 0 ≤ x → x ≤ a → C (74 + k) x = 268435456) ∧ ∀ y i, ¬ (74 ≤ y ∧ y ≤ 84) → ¬ (86 ≤ y ∧ y ≤ 96) → C y i = M y i)) (a := -1) (n := 25) (by decide)
    (fun a C a0 a1' ⟨h1, h2, h3, h4⟩ => by
      obtain ⟨E, e1, e2, e3⟩ := sp_88 (D := D) (M := C) (a := a) hR (by omega) (by omega) (fun l l0 l1 => by rw [h4 _ _ (by omega) (by omega)]; exact hT l l0 l1) (fun x y x0 x1 y0 y1 => by rw [h4 _ _ (by omega) (by omega)]; exact hC x y x0 x1 y0 y1) (fun k x k0 k1 x0 x1 => h1 k x k0 k1 x0 (by omega) x1) (fun k k0 k1 => h3 k a k0 (by omega) (by omega) (by omega))
      refine ⟨E, ?_, fun k x k0 k1 x0 x1 x2 => ?_, fun k x k0 k1 x0 x1 x2 w => ?_, fun k x k0 k1 x0 x1 => ?_, fun y i y1 y2 => ?_⟩
      · show qE 87 39 [(3, 44), (3, 3), (0, a), (9, 0), (9, 0)] [] (mk C) = qE 87 39 [(3, 44), (3, 3), (0, a - 1), (9, 0), (9, 0)] [] (mk E)
        rw [e_87_39, if_neg (by omega), e1]
        simp only [Option.bind_some, psh_9]
        rw [e_87_48, show a + -1 = a - 1 by omega, w32_id (by omega) (by omega)]
      · by_cases z : x = a
        · rw [z]
          by_cases z2 : k = 10
          · rw [z2, e3 _ _ (by omega) (by omega)]
            rw [show (10 - 10 : Int).toNat = 0 from rfl, LW_0, if_neg (by omega)]
            exact h3 10 a (by decide) (by decide) (by omega) (by omega)
          · exact (e2 k k0 (by omega)).1
        · rw [e3 _ _ (by omega) (by omega)]; exact h1 k x k0 k1 (by omega) x1 x2
      · by_cases z : x = a
        · rw [z] at w ⊢; exact (e2 k k0 k1).2 w
        · rw [e3 _ _ (by omega) (by omega)]; exact h2 k x k0 k1 (by omega) x1 x2 w
      · rw [e3 _ _ (by omega) (by omega)]; exact h3 k x k0 k1 x0 (by omega)
      · rw [e3 y i (by omega) (by omega)]; exact h4 y i y1 y2)
    (s0 := B) ⟨fun k x k0 k1 x0 x1 x2 => by
      have ex : x = 26 := by omega
      rw [Bv k x k0 k1 x1 x2, ex]
      by_cases z : k = 10
      · rw [if_pos ⟨z, rfl⟩, z]; rfl
      · rw [if_neg (fun q => z q.1), show (10 - k).toNat = (9 - k).toNat + 1 by omega, LW_s]; rfl, fun k x k0 k1 x0 x1 x2 => by omega, fun k x k0 k1 x0 x1 => by rw [Bv k x k0 k1 x0 (by omega), if_neg (by omega)], fun y i y1 y2 => Bo y i y1⟩
  replace c2 : ∀ k x, 1 ≤ k → k ≤ 10 → -1 < x → 0 ≤ x → x ≤ 26 → C (74 + k) x = LW (KK D) 268435456 (10 - k).toNat x := c2
  replace c2b : ∀ k x, 1 ≤ k → k ≤ 9 → -1 < x → 0 ≤ x → x < 26 → 1 ≤ LA (KK D) 268435456 (9 - k).toNat x → C (86 + k) x = LA (KK D) 268435456 (9 - k).toNat x := c2b
  have c5 : ∀ y i, ¬ (74 ≤ y ∧ y ≤ 84) → ¬ (86 ≤ y ∧ y ≤ 96) → C y i = M y i := c4.2
  -- the letters to the keys
  obtain ⟨⟨G, v4⟩, g1, g2, g3⟩ := it_inv (fun k (s : Mem × PV) => qE 87 58 [(3, 44), (3, 3), (0, psn (KK D) 268435456 (k - 1).toNat), (0, k), s.2] [] (mk s.1)) (fun k s => s.1 4 = kyF (KK D) 268435456 (M 4) (k - 1).toNat ∧ ∀ y i, y ≠ 4 → s.1 y i = C y i) (a := 1) (n := 10) (by decide)
    (fun k s k0 k1 ⟨g2, g3⟩ => by
      obtain ⟨G, v4⟩ := s
      replace g2 : G 4 = kyF (KK D) 268435456 (M 4) (k - 1).toNat := g2
      replace g3 : ∀ y i, y ≠ 4 → G y i = C y i := g3
      obtain ⟨n, hn⟩ : ∃ n : Nat, n = (k - 1).toNat := ⟨_, rfl⟩
      have hk : k = (n : Int) + 1 := by omega
      obtain ⟨p0, pf⟩ := psn_fea kb (W := 268435456) (by decide) n (by omega)
      obtain ⟨p, hp⟩ : ∃ p, p = psn (KK D) 268435456 n := ⟨_, rfl⟩
      rw [← hp] at p0 pf
      rw [show 9 - n = (8 - n) + 1 by omega] at pf
      obtain ⟨_, l1, l2, _⟩ := LA_both kb (W := 268435456) (V := 268435456) (by decide) (by decide) (8 - n) (by omega) p0 pf
      obtain ⟨m, hm⟩ : ∃ m, m = LA (KK D) 268435456 (8 - n) p := ⟨_, rfl⟩
      rw [← hm] at l1 l2
      have e86 : G (86 + k) p = m := by
        have e9 : (9 - k).toNat = 8 - n := by omega
        have := c2b k p k0 (by omega) (by omega) p0 (by omega) (by rw [e9, ← hm]; exact l1)
        rw [g3 _ _ (by omega), this, e9, hm]
      have pn : psn (KK D) 268435456 (n + 1) = p + m := by rw [hp, hm, hp]; rfl
      have rs : (47 ≤ 86 + k ∧ 86 + k ≤ 72) ∨ (74 ≤ 86 + k ∧ 86 + k ≤ 84) ∨ (86 ≤ 86 + k ∧ 86 + k ≤ 97) := by omega
      obtain ⟨H, h1, h2, h3⟩ := it_inv (fun x (H : Mem) => qE 87 90 [(3, 44), (3, 3), (0, x), (0, k), (0, p + m)] [] (mk H)) (fun x H => (∀ l, H 4 l = if p ≤ l ∧ l < x then k else G 4 l) ∧ ∀ y i, y ≠ 4 → H y i = C y i) (a := p) (n := p + m) (by omega)
        (fun x H x0 x1 ⟨h2, h3⟩ => by
          refine ⟨mU H 4 x k, ?_, fun l => ?_, fun y i hy => ?_⟩
          · show qE 87 90 [(3, 44), (3, 3), (0, x), (0, k), (0, p + m)] [] (mk H) = qE 87 90 [(3, 44), (3, 3), (0, x + 1), (0, k), (0, p + m)] [] (mk (mU H 4 x k))
            rw [e_87_90, if_pos x1, if_pos (by omega), sp_27 H k ⟨by omega, by omega⟩]
            simp only [Option.bind_some, psh_0]
            rw [e_87_108, w32_id (by omega) (by omega)]
          · show mU H 4 x k 4 l = _
            by_cases z : l = x
            · rw [z, mU_s, if_pos ⟨by omega, by omega⟩]
            · rw [mU_other (by omega), h2 l]
              by_cases c : p ≤ l ∧ l < x
              · rw [if_pos c, if_pos ⟨c.1, by omega⟩]
              · rw [if_neg c, if_neg (by omega)]
          · show mU H 4 x k y i = _
            rw [mU_r hy]; exact h3 y i hy)
        (s0 := G) ⟨fun l => by rw [if_neg (by omega)], g3⟩
      refine ⟨(H, (0, p + m)), ?_, ?_, h3⟩
      · show qE 87 58 [(3, 44), (3, 3), (0, psn (KK D) 268435456 (k - 1).toNat), (0, k), v4] [] (mk G) = qE 87 58 [(3, 44), (3, 3), (0, psn (KK D) 268435456 (k + 1 - 1).toNat), (0, k + 1), (0, p + m)] [] (mk H)
        rw [← hn, ← hp, show (k + 1 - 1).toNat = n + 1 by omega, pn, e_87_58, if_pos (by omega), if_neg (by omega), if_pos (by omega), if_pos (by omega), ta_85 G (by omega) (by omega), ta_k G rs, ta_l27 G (by omega), if_pos ⟨rfl, by omega, by omega⟩, ta_c G rs, e86, w32_id (by omega) (by omega)]
        refine h1.trans ?_
        show qE 87 90 [(3, 44), (3, 3), (0, p + m), (0, k), (0, p + m)] [] (mk H) = _
        rw [e_87_90, if_neg (by omega), w32_id (by omega) (by omega)]
      · show H 4 = kyF (KK D) 268435456 (M 4) (k + 1 - 1).toNat
        rw [show (k + 1 - 1).toNat = n + 1 by omega]
        funext l
        show H 4 l = if psn (KK D) 268435456 n ≤ l ∧ l < psn (KK D) 268435456 (n + 1) then (n : Int) + 1 else kyF (KK D) 268435456 (M 4) n l
        rw [h2 l, pn, ← hp, hk, g2, ← hn])
    (s0 := (C, (9, 0))) ⟨by show C 4 = M 4; exact funext fun i => c5 4 i (by decide) (by decide), fun _ _ _ => rfl⟩
  replace g2 : G 4 = kyF (KK D) 268435456 (M 4) 9 := g2
  replace g3 : ∀ y i, y ≠ 4 → G y i = C y i := g3
  have r75 : (47 ≤ (75 : Int) ∧ (75 : Int) ≤ 72) ∨ (74 ≤ (75 : Int) ∧ (75 : Int) ≤ 84) ∨ (86 ≤ (75 : Int) ∧ (75 : Int) ≤ 97) := by omega
  have fin : G 75 0 = LW (KK D) 268435456 9 0 := by rw [g3 _ _ (by decide)]; exact c2 1 0 (by decide) (by decide) (by decide) (by decide) (by decide)
  have l90 := lwb 9 (by decide) 0 (by decide) (by decide)
  have bb := bT_b D c3.1
  refine ⟨G, ?_, g2, fun y i y1 y2 y3 => by rw [g3 y i y1]; exact c5 y i y2 y3⟩
  rw [st1]
  refine c1.trans ?_
  show qE 87 39 [(3, 44), (3, 3), (0, -1), (9, 0), (9, 0)] [] (mk C) = _
  rw [e_87_39, if_pos (by decide)]
  refine g1.trans ?_
  show qE 87 58 [(3, 44), (3, 3), (0, psn (KK D) 268435456 9), (0, 10), v4] [] (mk G) = _
  rw [e_87_58, if_neg (by decide), if_pos (by decide), ta_73 G (by decide) (by decide), show (74 : Int) + 1 = 75 from rfl, ta_k G r75, ta_l27 G (by omega), if_pos ⟨rfl, by decide, by decide⟩, ta_c G r75, fin, g3 44 2 (by decide), c5 44 2 (by decide) (by decide), hB, w32_id (by omega) (by omega)]
