/-! swap: the reference -/
theorem rOK_107 {D N : Mem} (h : ∀ y i, y ≠ 107 → N y i = D y i) (hK : ∀ l, 0 ≤ l → l < 26 → 1 ≤ N 107 l ∧ N 107 l ≤ 9) (hR : rOK D) : rOK N := by
  have e : ∀ a, a ≠ 107 → N a = D a := fun a h1 => funext fun i => h a i h1
  unfold rOK at hR ⊢
  rw [e 106 (by decide), e 108 (by decide), e 109 (by decide), e 110 (by decide), e 112 (by decide), e 113 (by decide), e 114 (by decide), e 116 (by decide), e 117 (by decide)]
  exact ⟨hR.1, hR.2.1, hR.2.2.1, hR.2.2.2.1, hR.2.2.2.2.1, hK, hR.2.2.2.2.2.2⟩
theorem xch_b {K : Int → Int} (hK : ∀ l, 0 ≤ l → l < 26 → 1 ≤ K l ∧ K l ≤ 9) {a b : Int} (ha : 0 ≤ a ∧ a < 26) (hb : 0 ≤ b ∧ b < 26) : ∀ l, 0 ≤ l → l < 26 → 1 ≤ xch K a b l ∧ xch K a b l ≤ 9 := fun l l0 l1 => by
  unfold xch
  split
  · exact hK a ha.1 ha.2
  · split
    · exact hK b hb.1 hb.2
    · exact hK l l0 l1
theorem taps_of {D N : Mem} {k : Int} (hW : RW D k) (hS : RS D) (hR : rOK D) (h : ∀ y i, y ≠ 107 → N y i = D y i) (hK : ∀ l, 0 ≤ l → l < 26 → 1 ≤ N 107 l ∧ N 107 l ≤ 9) : qR 203 [(3, 106)] (mk N) = some ((0, S (bT D) (D 106 16) + S (fK D (N 107)) 26), mk N) := by
  obtain ⟨h1, h2, h3, h4⟩ := tT_cg (D := D) (E := N) (fun y i _ hy => h y i hy)
  have hW' : RW N k := RW_congr (fun y i q => h y i (by unfold supW at q; omega)) hW
  have hS' : RS N := RS_congr (fun y i q => h y i (by unfold supS at q; omega)) hS
  have f : fK N (N 107) = fK D (N 107) := by
    funext x
    unfold fK
    rw [h1, h2, h4]
  rw [sp_203 hW' hS'.2.2.1, taps_fK (rOK_107 h hK hR), h3, h4, f]
theorem sq_209 {D : Mem} {k : Int} (hW : RW D k) (hS : RS D) (hR : rOK D) : ∃ E, qR 209 [(3, 106)] (mk D) = some ((0, (sca (sv D (D 107)) 26).1), mk E) ∧ E 107 = (if (sca (sv D (D 107)) 26).1 ≤ 0 then D 107 else xch (D 107) (sca (sv D (D 107)) 26).2.1 (sca (sv D (D 107)) 26).2.2) ∧ ∀ y i, y ≠ 107 → E y i = D y i := by
  have c3 := hR.2.2.2.2.1
  have hK := hR.2.2.2.2.2.1
  have bb := bT_b D c3.1
  have fb := SfK_b hR (D 107)
  have q0 := taps_of hW hS hR (fun _ _ _ => rfl) hK
  obtain ⟨T, hT⟩ : ∃ T, T = S (bT D) (D 106 16) + S (fK D (D 107)) 26 := ⟨_, rfl⟩
  rw [← hT] at q0
  obtain ⟨v, hv⟩ : ∃ v, v = sv D (D 107) := ⟨_, rfl⟩
  rw [← hv]
  have vb : ∀ a b, v a b ≤ 1000000 := fun a b => by rw [hv]; exact (sv_b hR (D 107) a b).1
  have vb' : ∀ a b, -1000000 ≤ v a b := fun a b => by rw [hv]; exact (sv_b hR (D 107) a b).2
  have r208 : ∀ (N : Mem) x y, 0 ≤ x ∧ x < 26 → 0 ≤ y ∧ y < 26 → qR 208 [(3, 106), (0, x), (0, y)] (mk N) = some ((9, 0), mk (mU (mU N 107 x (N 107 y)) 107 y (N 107 x))) := fun N x y hx hy => by
    rw [r_208, if_pos hx, if_pos hy, if_pos hx, if_pos hy]
  have out := it_inv (fun x (s : PV × PV) => qE 209 15 [(3, 106), (0, T), (0, T - (sca v x.toNat).1), (0, (sca v x.toNat).2.1), (0, (sca v x.toNat).2.2), (0, x), s.1, s.2] [] (mk D)) (fun _ _ => True) (a := 0) (n := 26) (by decide)
    (fun x s x0 x1 _ => by
      obtain ⟨v6, v7⟩ := s
      obtain ⟨t, ht⟩ : ∃ t, t = sca v x.toNat := ⟨_, rfl⟩
      have tok : sok t := by rw [ht]; exact sca_ok vb _ (by omega)
      obtain ⟨v7', e, _⟩ := it_inv (fun m (v7 : PV) => qE 209 28 [(3, 106), (0, T), (0, T - (scn v x t m.toNat).1), (0, (scn v x t m.toNat).2.1), (0, (scn v x t m.toNat).2.2), (0, x), (0, x + 1 + m), v7] [] (mk D)) (fun _ _ => True) (a := 0) (n := 25 - x) (by omega)
        (fun m v7 m0 m1 _ => by
          have nx := scn_i v x t m0
          have tk : sok (scn v x t m.toNat) := scn_ok vb x0 tok m.toNat (by omega)
          obtain ⟨u, hu⟩ : ∃ u, u = scn v x t m.toNat := ⟨_, rfl⟩
          rw [← hu] at nx tk
          unfold sok at tk
          have hx : 0 ≤ x ∧ x < 26 := ⟨x0, x1⟩
          have hy : 0 ≤ x + 1 + m ∧ x + 1 + m < 26 := by omega
          have e1 : w32 (x + 1 + m + 1) = x + 1 + (m + 1) := by rw [w32_id (by omega) (by omega)]; omega
          by_cases c : D 107 x = D 107 (x + 1 + m)
          · have v0 : v x (x + 1 + m) = 0 := by rw [hv]; unfold sv; rw [if_pos c]
            rw [if_pos (by omega)] at nx
            refine ⟨v7, ?_, trivial⟩
            rw [nx, ← hu, e_209_28, if_pos hy.2, if_pos hx, if_pos hy, if_pos c, e1]
          · obtain ⟨N, hN⟩ : ∃ N, N = mU (mU D 107 x (D 107 (x + 1 + m))) 107 (x + 1 + m) (D 107 x) := ⟨_, rfl⟩
            have N7 : N 107 = xch (D 107) x (x + 1 + m) := by rw [hN]; exact xch_m D 107 x (x + 1 + m)
            have q1 := taps_of (N := N) hW hS hR (fun y i h => by rw [hN]; exact xch_o D h) (by rw [N7]; exact xch_b hK hx hy)
            have v0 : S (bT D) (D 106 16) + S (fK D (N 107)) 26 = T - v x (x + 1 + m) := by
              rw [hv, N7, hT]
              unfold sv
              rw [if_neg c]
              omega
            rw [v0] at q1
            have b1 := vb x (x + 1 + m)
            have b2 := vb' x (x + 1 + m)
            refine ⟨(0, T - v x (x + 1 + m)), ?_, trivial⟩
            rw [nx, ← hu, e_209_28, if_pos hy.2, if_pos hx, if_pos hy, if_neg c, r208 D x (x + 1 + m) hx hy, ← hN]
            simp only [Option.bind_some, psh_9]
            rw [e_209_60, q1]
            simp only [Option.bind_some, psh_0]
            rw [e_209_64, r208 N x (x + 1 + m) hx hy, xch_twice D 107 x (x + 1 + m) N hN]
            simp only [Option.bind_some, psh_9]
            rw [e_209_74, e1]
            by_cases d : v x (x + 1 + m) ≤ u.1
            · rw [if_neg (by omega), if_pos d]
            · rw [if_pos (by omega), if_neg d])
        (s0 := v7) trivial
      have nx := sca_i v x0 (by omega)
      rw [← ht] at nx
      refine ⟨((0, x + 1 + (25 - x)), v7'), ?_, trivial⟩
      dsimp only at e ⊢
      have h0 : qE 209 28 [(3, 106), (0, T), (0, T - t.1), (0, t.2.1), (0, t.2.2), (0, x), (0, x + 1), v7] [] (mk D) = qE 209 28 [(3, 106), (0, T), (0, T - t.1), (0, t.2.1), (0, t.2.2), (0, x), (0, x + 1 + 0), v7] [] (mk D) := by rw [Int.add_zero]
      rw [← ht, nx, e_209_15, if_pos x1, w32_id (x := x + 1) (by omega) (by omega), h0]
      refine e.trans ?_
      rw [e_209_28, if_neg (by omega), w32_id (x := x + 1) (by omega) (by omega)])
    (s0 := ((9, 0), (9, 0))) trivial
  obtain ⟨⟨v6, v7⟩, e, _⟩ := out
  dsimp only at e
  rw [show (26 : Int).toNat = 26 from rfl] at e
  have tok := sca_ok vb 26 (by decide)
  have st : qR 209 [(3, 106)] (mk D) = qE 209 15 [(3, 106), (0, T), (0, T - (sca v 26).1), (0, (sca v 26).2.1), (0, (sca v 26).2.2), (0, 26), v6, v7] [] (mk D) := by
    rw [r_209, q0]
    simp only [Option.bind_some, psh_0]
    rw [e_209_4, ← e]
    have z : T - (sca v (0 : Int).toNat).1 = T := by
      show T - 0 = T
      omega
    rw [z]
    rfl
  obtain ⟨t, ht⟩ : ∃ t, t = sca v 26 := ⟨_, rfl⟩
  rw [← ht] at st tok ⊢
  unfold sok at tok
  have fin : w32 (T - (T - t.1)) = t.1 := by rw [w32_id (by omega) (by omega)]; omega
  rw [st, e_209_15, if_neg (by decide)]
  by_cases c : t.1 ≤ 0
  · refine ⟨D, ?_, ?_, fun _ _ _ => rfl⟩
    · rw [if_pos (by omega), e_209_113, fin]
    · rw [if_pos c]
  · refine ⟨mU (mU D 107 t.2.1 (D 107 t.2.2)) 107 t.2.2 (D 107 t.2.1), ?_, ?_, fun y i y1 => xch_o D y1⟩
    · rw [if_neg (by omega), r208 D t.2.1 t.2.2 (by omega) (by omega)]
      simp only [Option.bind_some, psh_9]
      rw [e_209_113, fin]
    · rw [if_neg c, xch_m]
theorem ca_swap {D : Mem} {k : Int} (hR : Rel D k) (hk : k ≤ 1000) : CaseOK D k 126 209 [] := by
  have hr := rOK_of hR hk
  obtain ⟨A, a1, a2, a3, a4, a5⟩ := sp_85 hR
  have A4 : A 4 = D 107 := by
    rw [← hR.1.1]
    exact funext fun i => a5 4 i (by omega) (by omega) (by omega)
  obtain ⟨E, e1, e2, e3⟩ := sp_89 hr a3 a4 (by rw [A4]; exact hR.1.2)
  rw [A4] at e1 e2
  have fE : ∀ y i, y ≠ 4 → ¬ scr y i → E y i = D y i := fun y i h1 h2 => by
    unfold scr at h2
    rw [e3 y i h1 (by omega), a5 y i (by omega) (by omega) (by omega)]
  have sE : ∀ y i, supR y i → E y i = D y i := fun y i h => fE y i (by unfold supR at h; omega) (by unfold supR at h; unfold scr; omega)
  have hrE := rOK_congr sE hr
  have hW : RW E k := RW_congr (fun y i q => fE y i (by unfold supW at q; omega) (by unfold supW at q; unfold scr; omega)) hR.2.1
  have hS : RS E := RS_congr (fun y i q => fE y i (by unfold supS at q; omega) (by unfold supS at q; unfold scr; omega)) hR.2.2.2.1
  obtain ⟨F, f1, f2, f3⟩ := sq_209 hW hS hrE
  have E107 : E 107 = D 107 := funext fun i => sE 107 i (by unfold supR; omega)
  obtain ⟨t1, t2, _, t4⟩ := tT_cg (D := D) (E := E) fun y i h _ => sE y i h
  have svE : sv E = sv D := by
    have f : fK E = fK D := by
      funext K x
      unfold fK
      rw [t1, t2, t4]
    funext K a b
    unfold sv
    rw [f]
  rw [E107, svE] at f1 f2
  have vb : ∀ a b, sv D (D 107) a b ≤ 1000000 := fun a b => (sv_b hr (D 107) a b).1
  have tok := sca_ok vb 26 (by decide)
  obtain ⟨t, ht⟩ : ∃ t, t = sca (sv D (D 107)) 26 := ⟨_, rfl⟩
  rw [← ht] at f1 f2 e1 e2 tok
  unfold sok at tok
  have fF : ∀ y i, y ≠ 4 → y ≠ 107 → ¬ scr y i → F y i = D y i := fun y i h1 h2 h3 => by rw [f3 y i h2]; exact fE y i h1 h3
  refine ⟨t.1, E, F, ?_, f1, ⟨⟨?_, fun l l0 l1 => ?_⟩, RW_mono (RW_congr (fun y i q => fF y i (by unfold supW at q; omega) (by unfold supW at q; omega) (by unfold supW at q; unfold scr; omega)) hR.2.1), RP_congr (fun y i q => fF y i (by unfold supP at q; omega) (by unfold supP at q; omega) (by unfold supP at q; unfold scr; omega)) hR.2.2.1, RS_congr (fun y i q => fF y i (by unfold supS at q; omega) (by unfold supS at q; omega) (by unfold supS at q; unfold scr; omega)) hR.2.2.2.1, RN_mono (RN_congr (fun y i q => fF y i (by unfold supN at q; omega) (by unfold supN at q; omega) (by unfold supN at q; unfold scr; omega)) hR.2.2.2.2)⟩, fun i => fF 1 i (by decide) (by decide) (by unfold scr; omega), fun i => fF (-1) i (by decide) (by decide) (by unfold scr; omega)⟩
  · rw [r_126, a1]
    simp only [Option.bind_some, psh_9]
    rw [e_126_15, e1]
    simp only [Option.bind_some, psh_0, e_126_26]
  · rw [f2, ← e2]
    exact funext fun i => f3 4 i (by decide)
  · rw [f2]
    by_cases c : t.1 ≤ 0
    · rw [if_pos c]; exact hR.1.2 l l0 l1
    · rw [if_neg c]
      exact xch_b hR.1.2 (by omega) (by omega) l l0 l1
