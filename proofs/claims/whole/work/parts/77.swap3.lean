/-! swap: every pair of letters -/
def scn (v : Int → Int → Int) (x : Int) (t : Int × Int × Int) : Nat → Int × Int × Int
  | 0 => t
  | m + 1 => if v x (x + 1 + m) ≤ (scn v x t m).1 then scn v x t m else (v x (x + 1 + m), x, x + 1 + m)
def sca (v : Int → Int → Int) : Nat → Int × Int × Int
  | 0 => (0, -1, -1)
  | n + 1 => scn v n (sca v n) (25 - n)
def sok (t : Int × Int × Int) : Prop := t.1 ≤ 1000000 ∧ ((t.1 = 0 ∧ t.2.1 = -1 ∧ t.2.2 = -1) ∨ (0 < t.1 ∧ (0 ≤ t.2.1 ∧ t.2.1 < 26) ∧ 0 ≤ t.2.2 ∧ t.2.2 < 26))
theorem scn_i (v : Int → Int → Int) (x : Int) (t : Int × Int × Int) {m : Int} (m0 : 0 ≤ m) : scn v x t (m + 1).toNat = if v x (x + 1 + m) ≤ (scn v x t m.toNat).1 then scn v x t m.toNat else (v x (x + 1 + m), x, x + 1 + m) := by
  rw [show (m + 1).toNat = m.toNat + 1 by omega]
  show (if v x (x + 1 + (m.toNat : Int)) ≤ (scn v x t m.toNat).1 then scn v x t m.toNat else (v x (x + 1 + (m.toNat : Int)), x, x + 1 + (m.toNat : Int))) = _
  rw [show ((m.toNat : Nat) : Int) = m by omega]
theorem sca_i (v : Int → Int → Int) {n : Int} (n0 : 0 ≤ n) (n1 : n ≤ 25) : sca v (n + 1).toNat = scn v n (sca v n.toNat) (25 - n).toNat := by
  rw [show (n + 1).toNat = n.toNat + 1 by omega]
  show scn v (n.toNat : Int) (sca v n.toNat) (25 - n.toNat) = _
  rw [show ((n.toNat : Nat) : Int) = n by omega, show 25 - n.toNat = (25 - n).toNat by omega]
theorem scn_ok {v : Int → Int → Int} (hv : ∀ a b, v a b ≤ 1000000) {x : Int} (x0 : 0 ≤ x) {t : Int × Int × Int} (ht : sok t) : ∀ m : Nat, x + 1 + m ≤ 26 → sok (scn v x t m)
  | 0, _ => ht
  | m + 1, h => by
    have ih := scn_ok hv x0 ht m (by omega)
    show sok (if v x (x + 1 + m) ≤ (scn v x t m).1 then scn v x t m else (v x (x + 1 + m), x, x + 1 + m))
    by_cases c : v x (x + 1 + m) ≤ (scn v x t m).1
    · rw [if_pos c]; exact ih
    · rw [if_neg c]
      have := hv x (x + 1 + m)
      unfold sok at ih ⊢
      refine ⟨this, Or.inr ⟨?_, ?_, ?_⟩⟩
      · show 0 < v x (x + 1 + m); omega
      · show 0 ≤ x ∧ x < 26; omega
      · show 0 ≤ x + 1 + (m : Int) ∧ x + 1 + (m : Int) < 26; omega
theorem sca_ok {v : Int → Int → Int} (hv : ∀ a b, v a b ≤ 1000000) : ∀ n : Nat, n ≤ 26 → sok (sca v n)
  | 0, _ => ⟨by show (0 : Int) ≤ 1000000; decide, Or.inl ⟨rfl, rfl, rfl⟩⟩
  | n + 1, h => scn_ok hv (by omega) (sca_ok hv n (by omega)) _ (by omega)
theorem sv_b {D : Mem} (hR : rOK D) (K : Int → Int) (a b : Int) : sv D K a b ≤ 1000000 ∧ -1000000 ≤ sv D K a b := by
  have h1 := SfK_b hR K
  have h2 := SfK_b hR (xch K a b)
  unfold sv
  split <;> omega
theorem sp_89 {D M : Mem} (hR : rOK D) (hT : ∀ l, 0 ≤ l → l < 26 → M 45 l = S (tT D l) (D 106 16)) (hC : ∀ x y, 0 ≤ x → x < 26 → 0 ≤ y → y < 26 → M (47 + x) y = S (cT D x y) (D 106 16)) (hK : ∀ l, 0 ≤ l → l < 26 → 1 ≤ M 4 l ∧ M 4 l ≤ 9) : ∃ E, qR 89 [(3, 44), (3, 3)] (mk M) = some ((0, (sca (sv D (M 4)) 26).1), mk E) ∧ E 4 = (if (sca (sv D (M 4)) 26).1 ≤ 0 then M 4 else xch (M 4) (sca (sv D (M 4)) 26).2.1 (sca (sv D (M 4)) 26).2.2) ∧ ∀ y i, y ≠ 4 → y ≠ 97 → E y i = M y i := by
  obtain ⟨A, a1, a2, a3⟩ := it_inv (fun k (A : Mem) => qE 89 2 [(3, 44), (3, 3), (0, k), (9, 0), (9, 0), (9, 0), (9, 0), (9, 0)] [] (mk A)) (fun k A => (∀ q, 1 ≤ q → q < k → A 97 q = prK D (M 4) q) ∧ ∀ y i, y ≠ 97 → A y i = M y i) (a := 1) (n := 10) (by decide)
    (fun k A k0 k1 ⟨a2, a3⟩ => by
      have A4 : A 4 = M 4 := funext fun i => a3 4 i (by decide)
      have q := sp_91 (M := A) hR (fun l l0 l1 => by rw [a3 _ _ (by decide)]; exact hT l l0 l1) (fun x y x0 x1 y0 y1 => by rw [a3 _ _ (by omega)]; exact hC x y x0 x1 y0 y1) k
      rw [A4] at q
      refine ⟨mU A 97 k (prK D (M 4) k), ?_, fun q q0 q1 => ?_, fun y i hy => ?_⟩
      · show qE 89 2 [(3, 44), (3, 3), (0, k), (9, 0), (9, 0), (9, 0), (9, 0), (9, 0)] [] (mk A) = qE 89 2 [(3, 44), (3, 3), (0, k + 1), (9, 0), (9, 0), (9, 0), (9, 0), (9, 0)] [] (mk (mU A 97 k (prK D (M 4) k)))
        rw [e_89_2, if_pos (by omega), q]
        simp only [Option.bind_some, psh_0]
        rw [e_89_19, if_pos (by omega), w32_id (by omega) (by omega)]
      · show mU A 97 k (prK D (M 4) k) 97 q = _
        by_cases z : q = k
        · rw [z, mU_s]
        · rw [mU_other (by omega)]; exact a2 q q0 (by omega)
      · show mU A 97 k (prK D (M 4) k) y i = _
        rw [mU_r hy]; exact a3 y i hy)
    (s0 := M) ⟨fun q q0 q1 => by omega, fun _ _ _ => rfl⟩
  replace a2 : ∀ q, 1 ≤ q → q < 10 → A 97 q = prK D (M 4) q := a2
  replace a3 : ∀ y i, y ≠ 97 → A y i = M y i := a3
  have A4 : A 4 = M 4 := funext fun i => a3 4 i (by decide)
  have q90 := fun a b (ha : 0 ≤ a ∧ a < 26) (hb : 0 ≤ b ∧ b < 26) => sp_90 (M := A) (a := a) (b := b) hR (fun l l0 l1 => by rw [a3 _ _ (by decide)]; exact hT l l0 l1) (fun x y x0 x1 y0 y1 => by rw [a3 _ _ (by omega)]; exact hC x y x0 x1 y0 y1) (by rw [A4]; exact hK) (fun k k0 k1 => by rw [A4]; exact a2 k k0 (by omega)) ha hb
  rw [A4] at q90
  obtain ⟨v, hv⟩ : ∃ v, v = sv D (M 4) := ⟨_, rfl⟩
  rw [← hv] at q90 ⊢
  have vb : ∀ a b, v a b ≤ 1000000 := fun a b => by rw [hv]; exact (sv_b hR (M 4) a b).1
  have out := it_inv (fun x (s : Int × Int × PV × PV) => qE 89 36 [(3, 44), (3, 3), (0, (sca v x.toNat).1), (0, s.1), (0, s.2.1), (0, x), s.2.2.1, s.2.2.2] [] (mk A)) (fun x s => (sca v x.toNat).1 ≤ 0 ∨ (s.1 = (sca v x.toNat).2.1 ∧ s.2.1 = (sca v x.toNat).2.2)) (a := 0) (n := 26) (by decide)
    (fun x s x0 x1 hs => by
      obtain ⟨p, q, v6, v7⟩ := s
      obtain ⟨t, ht⟩ : ∃ t, t = sca v x.toNat := ⟨_, rfl⟩
      have tok : sok t := by rw [ht]; exact sca_ok vb _ (by omega)
      replace hs : t.1 ≤ 0 ∨ (p = t.2.1 ∧ q = t.2.2) := by rw [ht]; exact hs
      obtain ⟨⟨p', q', v7'⟩, e, hI⟩ := it_inv (fun m (s : Int × Int × PV) => qE 89 49 [(3, 44), (3, 3), (0, (scn v x t m.toNat).1), (0, s.1), (0, s.2.1), (0, x), (0, x + 1 + m), s.2.2] [] (mk A)) (fun m s => (scn v x t m.toNat).1 ≤ 0 ∨ (s.1 = (scn v x t m.toNat).2.1 ∧ s.2.1 = (scn v x t m.toNat).2.2)) (a := 0) (n := 25 - x) (by omega)
        (fun m s m0 m1 hs => by
          obtain ⟨p, q, v7⟩ := s
          replace hs : (scn v x t m.toNat).1 ≤ 0 ∨ (p = (scn v x t m.toNat).2.1 ∧ q = (scn v x t m.toNat).2.2) := hs
          have nx := scn_i v x t m0
          have hd : qE 89 49 [(3, 44), (3, 3), (0, (scn v x t m.toNat).1), (0, p), (0, q), (0, x), (0, x + 1 + m), v7] [] (mk A) = if v x (x + 1 + m) ≤ (scn v x t m.toNat).1 then qE 89 49 [(3, 44), (3, 3), (0, (scn v x t m.toNat).1), (0, p), (0, q), (0, x), (0, x + 1 + (m + 1)), (0, v x (x + 1 + m))] [] (mk A) else qE 89 49 [(3, 44), (3, 3), (0, v x (x + 1 + m)), (0, x), (0, x + 1 + m), (0, x), (0, x + 1 + (m + 1)), (0, v x (x + 1 + m))] [] (mk A) := by
            rw [e_89_49, if_pos (by omega), q90 x (x + 1 + m) (by omega) (by omega)]
            simp only [Option.bind_some, psh_0]
            rw [e_89_65, w32_id (x := x + 1 + m + 1) (by omega) (by omega), show x + 1 + m + 1 = x + 1 + (m + 1) by omega]
          by_cases c : v x (x + 1 + m) ≤ (scn v x t m.toNat).1
          · rw [if_pos c] at nx hd
            refine ⟨(p, q, (0, v x (x + 1 + m))), ?_, ?_⟩
            · show qE 89 49 [(3, 44), (3, 3), (0, (scn v x t m.toNat).1), (0, p), (0, q), (0, x), (0, x + 1 + m), v7] [] (mk A) = qE 89 49 [(3, 44), (3, 3), (0, (scn v x t (m + 1).toNat).1), (0, p), (0, q), (0, x), (0, x + 1 + (m + 1)), (0, v x (x + 1 + m))] [] (mk A)
              rw [hd, nx]
            · show (scn v x t (m + 1).toNat).1 ≤ 0 ∨ (p = (scn v x t (m + 1).toNat).2.1 ∧ q = (scn v x t (m + 1).toNat).2.2)
              rw [nx]; exact hs
          · rw [if_neg c] at nx hd
            refine ⟨(x, x + 1 + m, (0, v x (x + 1 + m))), ?_, ?_⟩
            · show qE 89 49 [(3, 44), (3, 3), (0, (scn v x t m.toNat).1), (0, p), (0, q), (0, x), (0, x + 1 + m), v7] [] (mk A) = qE 89 49 [(3, 44), (3, 3), (0, (scn v x t (m + 1).toNat).1), (0, x), (0, x + 1 + m), (0, x), (0, x + 1 + (m + 1)), (0, v x (x + 1 + m))] [] (mk A)
              rw [hd, nx]
            · show (scn v x t (m + 1).toNat).1 ≤ 0 ∨ (x = (scn v x t (m + 1).toNat).2.1 ∧ x + 1 + m = (scn v x t (m + 1).toNat).2.2)
              rw [nx]; exact Or.inr ⟨rfl, rfl⟩)
        (s0 := (p, q, v7)) hs
      have nx := sca_i v x0 (by omega)
      rw [← ht] at nx
      refine ⟨(p', q', (0, x + 1 + (25 - x)), v7'), ?_, ?_⟩
      · show qE 89 36 [(3, 44), (3, 3), (0, (sca v x.toNat).1), (0, p), (0, q), (0, x), v6, v7] [] (mk A) = qE 89 36 [(3, 44), (3, 3), (0, (sca v (x + 1).toNat).1), (0, p'), (0, q'), (0, x + 1), (0, x + 1 + (25 - x)), v7'] [] (mk A)
        have h0 : qE 89 49 [(3, 44), (3, 3), (0, t.1), (0, p), (0, q), (0, x), (0, x + 1), v7] [] (mk A) = qE 89 49 [(3, 44), (3, 3), (0, t.1), (0, p), (0, q), (0, x), (0, x + 1 + 0), v7] [] (mk A) := by rw [Int.add_zero]
        rw [← ht, nx, e_89_36, if_pos x1, w32_id (x := x + 1) (by omega) (by omega), h0]
        refine e.trans ?_
        show qE 89 49 [(3, 44), (3, 3), (0, (scn v x t (25 - x).toNat).1), (0, p'), (0, q'), (0, x), (0, x + 1 + (25 - x)), v7'] [] (mk A) = _
        rw [e_89_49, if_neg (by omega), w32_id (x := x + 1) (by omega) (by omega)]
      · show (sca v (x + 1).toNat).1 ≤ 0 ∨ (p' = (sca v (x + 1).toNat).2.1 ∧ q' = (sca v (x + 1).toNat).2.2)
        rw [nx]; exact hI)
    (s0 := (0, 0, (9, 0), (9, 0))) (Or.inl (Int.le_refl 0))
  obtain ⟨⟨p, q, v6, v7⟩, e, hI⟩ := out
  dsimp only at hI e
  rw [show (26 : Int).toNat = 26 from rfl] at hI e
  have tok := sca_ok vb 26 (by decide)
  have st : qR 89 [(3, 44), (3, 3)] (mk M) = qE 89 36 [(3, 44), (3, 3), (0, (sca v 26).1), (0, p), (0, q), (0, 26), v6, v7] [] (mk A) := by
    rw [r_89]
    refine a1.trans ?_
    show qE 89 2 [(3, 44), (3, 3), (0, 10), (9, 0), (9, 0), (9, 0), (9, 0), (9, 0)] [] (mk A) = _
    rw [e_89_2, if_neg (by decide)]
    exact e
  rw [st, e_89_36, if_neg (by decide)]
  by_cases c : (sca v 26).1 ≤ 0
  · refine ⟨A, ?_, ?_, fun y i y1 y2 => a3 y i y2⟩
    · rw [if_pos c, e_89_106]
    · rw [if_pos c, A4]
  · obtain ⟨h1, h2⟩ := hI.resolve_left c
    unfold sok at tok
    have t2 : (0 ≤ p ∧ p < 26) ∧ 0 ≤ q ∧ q < 26 := by rw [h1, h2]; omega
    refine ⟨mU (mU A 4 p (A 4 q)) 4 q (A 4 p), ?_, ?_, fun y i y1 y2 => ?_⟩
    · rw [if_neg c, sp_28 A t2.1 t2.2]
      simp only [Option.bind_some, psh_9]
      rw [e_89_106]
    · rw [if_neg c, xch_m, A4, h1, h2]
    · rw [xch_o A y1]; exact a3 y i y2
