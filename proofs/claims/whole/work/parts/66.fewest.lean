/-! fewest, plan -/
def supF (y i : Int) : Prop := supC y i ∨ y = 117 ∨ (y = 106 ∧ i = 16)
theorem snE_cg {D E : Mem} (h : ∀ y i, supC y i → E y i = D y i) (bh w : Int) : snE E bh w = snE D bh w := by
  have : (fun t => isSN E bh w (E 106 6) t) = fun t => isSN D bh w (D 106 6) t := funext fun t => propext (by
    rw [h 106 6 (by unfold supC; omega)]
    exact ⟨isSN_cg (fun y i q => (h y i q).symm), isSN_cg h⟩)
  unfold snE
  rw [this]
theorem pc_cg {D E : Mem} (h : ∀ y i, supF y i → E y i = D y i) (i x : Int) : pc E i x = pc D i x := by
  have hc : ∀ y i, supC y i → E y i = D y i := fun y i q => h y i (Or.inl q)
  have e117 : ∀ j, E 117 j = D 117 j := fun j => h 117 j (Or.inr (Or.inl rfl))
  unfold pc bhT
  rw [e117, e117, prs_cg hc, snE_cg hc]
theorem fd_cg {D E : Mem} (h : ∀ y i, supF y i → E y i = D y i) : ∀ n, fd E n = fd D n
  | 0 => rfl
  | n + 1 => by
    funext a
    rw [fd, fd, fd_cg h n, h 106 16 (Or.inr (Or.inr ⟨rfl, rfl⟩))]
    show (mnR (fun x => pc E (D 106 16 - ((n : Int) + 1)) x + (if x = a then 0 else 1) + fd D n x) 4).1 = (mnR (fun x => pc D (D 106 16 - ((n : Int) + 1)) x + (if x = a then 0 else 1) + fd D n x) 4).1
    rw [show (fun x => pc E (D 106 16 - ((n : Int) + 1)) x + (if x = a then 0 else 1) + fd D n x) = fun x => pc D (D 106 16 - ((n : Int) + 1)) x + (if x = a then 0 else 1) + fd D n x from funext fun x => by rw [pc_cg h]]
theorem FF_cg {D E : Mem} (h : ∀ y i, supF y i → E y i = D y i) (i a : Int) : FF E i a = FF D i a := by
  unfold FF; rw [h 106 16 (Or.inr (Or.inr ⟨rfl, rfl⟩)), fd_cg h]
theorem arg_cg {D E : Mem} (h : ∀ y i, supF y i → E y i = D y i) (i a : Int) : arg E i a = arg D i a := by
  unfold arg
  rw [show gF E i a = gF D i a from funext fun x => by unfold gF; rw [pc_cg h, FF_cg h]]
theorem stands_or (D : Mem) : (stands D ∧ 0 < D 106 16) ∨ ¬ (stands D ∧ 0 < D 106 16) := Classical.em _
theorem sp_140 {D : Mem} {k : Int} (hR : Rel D k) : (stands D ∧ 0 < D 106 16 → qR 140 [(3, 2)] (mk D) = some ((0, 1), mk D)) ∧ (¬ (stands D ∧ 0 < D 106 16) → qR 140 [(3, 2)] (mk D) = some ((0, 0), mk D)) := by
  have hW := hR.2.1
  obtain ⟨c1, c2, c3, c4, c5⟩ := hR.2.2.2.1.2.2.1
  have hrow := isRow102 (D := D) (by omega) (by omega)
  have e0 : mk D 102 1 = D 106 16 := c1
  have at' : ∀ j, 0 ≤ j → j < D 106 16 → rowAt (mk D) 102 j = D 117 j := fun j j0 j1 => by
    unfold rowAt; rw [e0, if_pos ⟨j0, j1⟩, ← c4]; rfl
  have st : ∀ i v, 0 ≤ i → i < D 106 16 → qR 8 [(3, 5), (0, D 117 i)] (mk D) = some ((0, v), mk D) → qE 140 2 [(3, 2), (0, i)] [] (mk D) = if v = 0 then some ((0, 0), mk D) else qE 140 2 [(3, 2), (0, i + 1)] [] (mk D) := fun i v i0 i1 hv => by
    rw [e_140_2, row_size hrow, e0]
    simp only [Option.bind_some, psh_0]
    rw [e_140_10, if_pos i1, row_at hrow, at' i i0 i1]
    simp only [Option.bind_some, psh_0]
    rw [e_140_25, hv]
    simp only [Option.bind_some, psh_0]
    rw [e_140_28, w32_id (by omega) (by omega)]
  have fin : qE 140 2 [(3, 2), (0, D 106 16)] [] (mk D) = some ((0, if D 106 16 = 0 then 0 else 1), mk D) := by
    rw [e_140_2, row_size hrow, e0]
    simp only [Option.bind_some, psh_0]
    rw [e_140_10, if_neg (by omega), row_empty hrow, e0]
    simp only [Option.bind_some, psh_0]
    rw [e_140_46]
    by_cases z : D 106 16 = 0
    · rw [if_pos z, if_neg (by decide), if_pos z]
    · rw [if_neg z, if_pos rfl, if_neg z]
  rw [r_140]
  by_cases h : ∀ i, 0 ≤ i → i < D 106 16 → thr D (D 117 i)
  · have run : qE 140 2 [(3, 2), (0, 0)] [] (mk D) = some ((0, if D 106 16 = 0 then 0 else 1), mk D) := by
      rw [it_up (fun i => qE 140 2 [(3, 2), (0, i)] [] (mk D)) c2 (fun i i0 i1 => by
        show qE 140 2 [(3, 2), (0, i)] [] (mk D) = qE 140 2 [(3, 2), (0, i + 1)] [] (mk D)
        rw [st i 1 i0 i1 ((sp_8 hW _).1 (h i i0 i1)), if_neg (by decide)])]
      exact fin
    rw [run]
    exact ⟨fun q => by rw [if_neg (by omega)], fun q => by rw [if_pos (by have : ¬ 0 < D 106 16 := fun z => q ⟨h, z⟩; omega)]⟩
  · obtain ⟨p, p0, p1, p2, p3⟩ := first_not _ h
    refine ⟨fun q => absurd q.1 h, fun _ => ?_⟩
    rw [it_up (fun i => qE 140 2 [(3, 2), (0, i)] [] (mk D)) p0 (fun i i0 i1 => by
      show qE 140 2 [(3, 2), (0, i)] [] (mk D) = qE 140 2 [(3, 2), (0, i + 1)] [] (mk D)
      rw [st i 1 i0 (by omega) ((sp_8 hW _).1 (p3 i i0 i1)), if_neg (by decide)])]
    show qE 140 2 [(3, 2), (0, p)] [] (mk D) = _
    rw [st p 0 p0 p1 ((sp_8 hW _).2 p2), if_pos rfl]
theorem sq_199 {D : Mem} {i a : Int} {s : Int → Int} (i0 : 0 ≤ i) (i1 : i < 60) (hs : ∀ x, 0 ≤ x → x < 4 → D 127 (4 * i + x) = s x ∧ 0 ≤ s x ∧ s x ≤ 1000000) : qR 199 [(3, 106), (0, i), (0, a)] (mk D) = some ((0, (mnR (fun x => s x + (if x = a then 0 else 1)) 4).1), mk D) := by
  have e1 : w32 (4 * i) = 4 * i := w32_id (by omega) (by omega)
  obtain ⟨v5, e, -⟩ := it_inv (fun x (v : PV) => qE 199 6 [(3, 106), (0, i), (0, a), (0, (mnR (fun x => s x + (if x = a then 0 else 1)) x.toNat).1), (0, x), v] [] (mk D)) (fun _ _ => True) (show (0 : Int) ≤ 4 by decide) (fun x v x0 x1 _ => by
    obtain ⟨h1, h2, h3⟩ := hs x x0 x1
    have e2 : w32 (4 * i + x) = 4 * i + x := w32_id (by omega) (by omega)
    have f1 : w32 (x + 1) = x + 1 := w32_id (by omega) (by omega)
    have nx : mnR (fun x => s x + (if x = a then 0 else 1)) (x + 1).toNat = if s x + (if x = a then 0 else 1) < (mnR (fun x => s x + (if x = a then 0 else 1)) x.toNat).1 then (s x + (if x = a then 0 else 1), x) else mnR (fun x => s x + (if x = a then 0 else 1)) x.toNat := by
      rw [show (x + 1).toNat = x.toNat + 1 by omega, mnR, show ((x.toNat : Nat) : Int) = x by omega]
    refine ⟨(0, s x + (if x = a then 0 else 1)), ?_, trivial⟩
    show qE 199 6 [(3, 106), (0, i), (0, a), (0, (mnR (fun x => s x + (if x = a then 0 else 1)) x.toNat).1), (0, x), v] [] (mk D) = qE 199 6 [(3, 106), (0, i), (0, a), (0, (mnR (fun x => s x + (if x = a then 0 else 1)) (x + 1).toNat).1), (0, x + 1), (0, s x + (if x = a then 0 else 1))] [] (mk D)
    have st : qE 199 6 [(3, 106), (0, i), (0, a), (0, (mnR (fun x => s x + (if x = a then 0 else 1)) x.toNat).1), (0, x), v] [] (mk D) = if s x + (if x = a then 0 else 1) < (mnR (fun x => s x + (if x = a then 0 else 1)) x.toNat).1 then qE 199 6 [(3, 106), (0, i), (0, a), (0, s x + (if x = a then 0 else 1)), (0, x + 1), (0, s x + (if x = a then 0 else 1))] [] (mk D) else qE 199 6 [(3, 106), (0, i), (0, a), (0, (mnR (fun x => s x + (if x = a then 0 else 1)) x.toNat).1), (0, x + 1), (0, s x + (if x = a then 0 else 1))] [] (mk D) := by
      rw [e_199_6, if_pos x1, e1, e2, if_pos (by omega), h1]
      by_cases c : x = a
      · simp only [if_pos c]
        rw [e_199_34, w32_id (x := s x + 0) (by omega) (by omega), f1]
      · simp only [if_neg c]
        rw [e_199_34, w32_id (x := s x + 1) (by omega) (by omega), f1]
    rw [st, nx]
    by_cases q : s x + (if x = a then 0 else 1) < (mnR (fun x => s x + (if x = a then 0 else 1)) x.toNat).1
    · rw [if_pos q, if_pos q]
    · rw [if_neg q, if_neg q]) (s0 := (9, 0)) trivial
  rw [r_199]
  refine e.trans ?_
  show qE 199 6 [(3, 106), (0, i), (0, a), (0, (mnR (fun x => s x + (if x = a then 0 else 1)) 4).1), (0, 4), v5] [] (mk D) = _
  rw [e_199_6, if_neg (by decide)]
def rs3 (D E : Mem) : Prop := ∀ y i, ¬ (123 ≤ y ∧ y ≤ 127) → ¬ (y = 106 ∧ (i = 25 ∨ i = 27 ∨ i = 30)) → E y i = D y i
theorem rs3_F {D E : Mem} (h : rs3 D E) : ∀ y i, supF y i → E y i = D y i := fun y i q => h y i (by unfold supF supC at q; omega) (by unfold supF supC at q; omega)
theorem rs3_S {D E : Mem} (h : rs3 D E) : Sim D E := fun y i hs => h y i (by unfold scr at hs; omega) (by unfold scr at hs; omega)
noncomputable def sp' (D : Mem) (i x : Int) : Int := pc D i x + FF D (i + 1) x
theorem sp_min (D : Mem) (i a : Int) : (fun x => sp' D i x + (if x = a then 0 else 1)) = gF D i a := funext fun x => by unfold sp' gF; omega
theorem sq_200 {D : Mem} {k : Int} (hR : Rel D k) (hk : k ≤ 1000) : (stands D ∧ 0 < D 106 16 → ∃ E, qR 200 [(3, 106)] (mk D) = some ((0, 1), mk E) ∧ rs3 D E ∧ ∀ i x, 0 ≤ i → i < D 106 16 → 0 ≤ x → x < 4 → E 127 (4 * i + x) = sp' D i x) ∧ (¬ (stands D ∧ 0 < D 106 16) → qR 200 [(3, 106)] (mk D) = some ((0, 0), mk D)) := by
  have hW := hR.2.1
  have hn := hW.1
  obtain ⟨c1, c2, c3, c4, c5⟩ := hR.2.2.2.1.2.2.1
  have fin0 : ∀ i, 0 ≤ i → i ≤ D 106 16 → qE 200 15 [(3, 106), (0, 0), (0, i), (9, 0), (9, 0)] [] (mk D) = some ((0, 0), mk D) := fun i i0 i1 => by
    rw [it_up (fun i => qE 200 15 [(3, 106), (0, 0), (0, i), (9, 0), (9, 0)] [] (mk D)) i1 (fun j j0 j1 => by
      show qE 200 15 [(3, 106), (0, 0), (0, j), (9, 0), (9, 0)] [] (mk D) = qE 200 15 [(3, 106), (0, 0), (0, j + 1), (9, 0), (9, 0)] [] (mk D)
      rw [e_200_15, if_pos j1, if_pos rfl, w32_id (by omega) (by omega)])]
    show qE 200 15 [(3, 106), (0, 0), (0, D 106 16), (9, 0), (9, 0)] [] (mk D) = _
    rw [e_200_15, if_neg (by omega), if_pos rfl]
  have step1 : ∀ i, 0 ≤ i → i < D 106 16 → qE 200 15 [(3, 106), (0, 1), (0, i), (9, 0), (9, 0)] [] (mk D) = if D 112 (D 117 i) = 0 then qE 200 15 [(3, 106), (0, 0), (0, i + 1), (9, 0), (9, 0)] [] (mk D) else qE 200 15 [(3, 106), (0, 1), (0, i + 1), (9, 0), (9, 0)] [] (mk D) := fun i i0 i1 => by
    have := c5 i i0 i1
    rw [e_200_15, if_pos i1, if_neg (by decide), if_pos (by omega), if_pos (by omega), w32_id (by omega) (by omega)]
  constructor
  · rintro ⟨hs, t0⟩
    have pb := fun i (i0 : 0 ≤ i) (i1 : i < D 106 16) x => pc_bd hR hk hs i0 i1 x
    have fb := fun i (i0 : 0 ≤ i) (i1 : i ≤ D 106 16) x => FF_b hR hk hs i0 i1 x
    have pre : qR 200 [(3, 106)] (mk D) = qE 200 66 [(3, 106), (0, 1), (0, D 106 16 - 1), (9, 0), (9, 0)] [] (mk D) := by
      rw [r_200, if_neg (by omega), it_up (fun i => qE 200 15 [(3, 106), (0, 1), (0, i), (9, 0), (9, 0)] [] (mk D)) c2 (fun i i0 i1 => by
        show qE 200 15 [(3, 106), (0, 1), (0, i), (9, 0), (9, 0)] [] (mk D) = qE 200 15 [(3, 106), (0, 1), (0, i + 1), (9, 0), (9, 0)] [] (mk D)
        rw [step1 i i0 i1, if_neg (by have := (hs i i0 i1).2.2; omega)])]
      show qE 200 15 [(3, 106), (0, 1), (0, D 106 16), (9, 0), (9, 0)] [] (mk D) = _
      rw [e_200_15, if_neg (by omega), if_neg (by decide), w32_id (by omega) (by omega)]
    obtain ⟨⟨E, v3, v4⟩, e, h1, h2⟩ := it_invd (fun i (s : Mem × PV × PV) => qE 200 66 [(3, 106), (0, 1), (0, i), s.2.1, s.2.2] [] (mk s.1)) (fun i s => rs3 D s.1 ∧ ∀ j x, i < j → j < D 106 16 → 0 ≤ x → x < 4 → s.1 127 (4 * j + x) = sp' D j x) (a := -1) (n := D 106 16 - 1) (by omega)
      (fun i s i0 i1 ⟨h1, h2⟩ => by
        obtain ⟨E, v3, v4⟩ := s
        replace h1 : rs3 D E := h1
        replace h2 : ∀ j x, i < j → j < D 106 16 → 0 ≤ x → x < 4 → E 127 (4 * j + x) = sp' D j x := h2
        have th := hs i (by omega) (by omega)
        have bhb : bhT D i < 80 := by
          unfold bhT
          by_cases z : i = 0
          · rw [if_pos z]; decide
          · rw [if_neg z]; have := c5 (i - 1) (by omega) (by omega); omega
        obtain ⟨⟨F, v4'⟩, f, f1, f2, f3⟩ := it_inv (fun x (s : Mem × PV) => qE 200 72 [(3, 106), (0, 1), (0, i), (0, x), s.2] [] (mk s.1)) (fun x s => rs3 D s.1 ∧ (∀ j y, i < j → j < D 106 16 → 0 ≤ y → y < 4 → s.1 127 (4 * j + y) = sp' D j y) ∧ ∀ y, 0 ≤ y → y < x → s.1 127 (4 * i + y) = sp' D i y) (a := 0) (n := 4) (by decide)
          (fun x s x0 x1 ⟨f1, f2, f3⟩ => by
            obtain ⟨F, w4⟩ := s
            replace f1 : rs3 D F := f1
            replace f2 : ∀ j y, i < j → j < D 106 16 → 0 ≤ y → y < 4 → F 127 (4 * j + y) = sp' D j y := f2
            replace f3 : ∀ y, 0 ≤ y → y < x → F 127 (4 * i + y) = sp' D i y := f3
            have F16 : F 106 16 = D 106 16 := f1 _ _ (by omega) (by omega)
            have F117 : ∀ j, F 117 j = D 117 j := fun j => f1 _ _ (by omega) (by omega)
            have F6 : F 106 6 = D 106 6 := f1 _ _ (by omega) (by omega)
            have sF := rs3_S f1
            have hRF := Rel_sim hR sF
            have cF : ∀ y j, supC y j → F y j = D y j := fun y j q => rs3_F f1 y j (Or.inl q)
            have tF : thr F (D 117 i) := (thr_sim sF _).2 th
            obtain ⟨t, ht⟩ := sn_ex (rOK_of hR hk) (bhT D i) th.1 th.2.1
            obtain ⟨G, g1, g2⟩ := sq_197 (D := F) (w := D 117 i) (kind := x) (bh := bhT D i) (rOK_of hRF hk) (dst_of hRF.2.1) tF bhb (sp_194 hRF.2.1 th.1 tF.2.1) (t := t) (by rw [F6]; exact isSN_cg cF ht) (by omega)
            have g1' : qR 197 [(3, 106), (0, D 117 i), (0, x), (0, bhT D i)] (mk F) = some ((0, pc D i x), mk G) := by
              have hv : prs F (bhT D i) (D 117 i) t x = pc D i x := by rw [prs_cg cF]; unfold pc; rw [snE_ok ht]
              rw [← hv]; exact g1
            have rest : qE 200 72 [(3, 106), (0, 1), (0, i), (0, x), w4] [] (mk F) = qE 200 99 [(3, 106), (0, 1), (0, i), (0, x), w4] [(0, FF D (i + 1) x)] (mk F) := by
              rw [e_200_72, if_pos x1, w32_id (by omega) (by omega), F16]
              by_cases z : i + 1 < D 106 16
              · have s199 := sq_199 (D := F) (i := i + 1) (a := x) (s := sp' D (i + 1)) (by omega) (by omega) (fun y y0 y1 => ⟨f2 (i + 1) y (by omega) z y0 y1, by
                  have p := pb (i + 1) (by omega) z y
                  have q := fb (i + 1 + 1) (by omega) (by omega) y
                  unfold sp'; omega⟩)
                rw [sp_min, ← FF_rec z] at s199
                rw [if_pos z, s199]
                simp only [Option.bind_some, psh_0]
                rw [e_200_95]
              · rw [if_neg z, show i + 1 = D 106 16 by omega, FF_end]
            have e4 : w32 (4 * i) = 4 * i := w32_id (by omega) (by omega)
            have e5 : w32 (4 * i + x) = 4 * i + x := w32_id (by omega) (by omega)
            have p := pb i (by omega) (by omega) x
            have q := fb (i + 1) (by omega) (by omega) x
            have bq : qE 200 99 [(3, 106), (0, 1), (0, i), (0, x), w4] [(0, FF D (i + 1) x)] (mk F) = qE 200 137 [(3, 106), (0, 1), (0, i), (0, x), (0, FF D (i + 1) x)] [(0, pc D i x), (0, 4 * i + x), (3, 127)] (mk G) := by
              rw [e_200_99, if_pos (by omega), F117, e4, e5]
              by_cases z : i = 0
              · rw [if_pos z]
                have hb' : bhT D i = -1 := by unfold bhT; rw [if_pos z]
                rw [hb'] at g1'
                rw [g1']
                simp only [Option.bind_some, psh_0]
              · rw [if_neg z, w32_id (x := i - 1) (by omega) (by omega), if_pos (by omega), F117]
                have hb' : bhT D i = D 117 (i - 1) := by unfold bhT; rw [if_neg z]
                rw [hb'] at g1'
                rw [g1']
                simp only [Option.bind_some, psh_0]
            refine ⟨(mU G 127 (4 * i + x) (sp' D i x), (0, FF D (i + 1) x)), ?_, fun y j p1 p2 => ?_, fun j y j0 j1 y0 y1 => ?_, fun y y0 y1 => ?_⟩
            · show qE 200 72 [(3, 106), (0, 1), (0, i), (0, x), w4] [] (mk F) = qE 200 72 [(3, 106), (0, 1), (0, i), (0, x + 1), (0, FF D (i + 1) x)] [] (mk (mU G 127 (4 * i + x) (sp' D i x)))
              rw [rest, bq, e_200_137, if_pos (by omega), w32_id (x := x + 1) (by omega) (by omega), w32_id (x := pc D i x + FF D (i + 1) x) (by omega) (by omega)]
              rfl
            · show mU G 127 (4 * i + x) (sp' D i x) y j = D y j
              rw [mU_r (by omega), g2 y j (by omega) p2]; exact f1 y j p1 p2
            · show mU G 127 (4 * i + x) (sp' D i x) 127 (4 * j + y) = sp' D j y
              rw [mU_other (by omega), g2 _ _ (by omega) (by omega)]; exact f2 j y j0 j1 y0 y1
            · show mU G 127 (4 * i + x) (sp' D i x) 127 (4 * i + y) = sp' D i y
              by_cases z : y = x
              · rw [z, mU_s]
              · rw [mU_other (by omega), g2 _ _ (by omega) (by omega)]; exact f3 y y0 (by omega))
          (s0 := (E, v4)) ⟨h1, h2, fun y y0 y1 => by omega⟩
        replace f1 : rs3 D F := f1
        replace f2 : ∀ j y, i < j → j < D 106 16 → 0 ≤ y → y < 4 → F 127 (4 * j + y) = sp' D j y := f2
        replace f3 : ∀ y, 0 ≤ y → y < 4 → F 127 (4 * i + y) = sp' D i y := f3
        refine ⟨(F, (0, 4), v4'), ?_, f1, fun j x j0 j1 x0 x1 => ?_⟩
        · show qE 200 66 [(3, 106), (0, 1), (0, i), v3, v4] [] (mk E) = qE 200 66 [(3, 106), (0, 1), (0, i - 1), (0, 4), v4'] [] (mk F)
          rw [e_200_66, if_neg (by omega)]
          refine f.trans ?_
          show qE 200 72 [(3, 106), (0, 1), (0, i), (0, 4), v4'] [] (mk F) = _
          rw [e_200_72, if_neg (by decide), show i + -1 = i - 1 by omega, w32_id (by omega) (by omega)]
        · show F 127 (4 * j + x) = sp' D j x
          by_cases z : j = i
          · rw [z]; exact f3 x x0 x1
          · exact f2 j x (by omega) j1 x0 x1)
      (s0 := (D, (9, 0), (9, 0))) ⟨fun _ _ _ _ => rfl, fun j x j0 j1 => by omega⟩
    replace h1 : rs3 D E := h1
    replace h2 : ∀ j x, -1 < j → j < D 106 16 → 0 ≤ x → x < 4 → E 127 (4 * j + x) = sp' D j x := h2
    refine ⟨E, ?_, h1, fun i x i0 i1 x0 x1 => h2 i x (by omega) i1 x0 x1⟩
    rw [pre]
    refine e.trans ?_
    show qE 200 66 [(3, 106), (0, 1), (0, -1), v3, v4] [] (mk E) = _
    rw [e_200_66, if_pos (by decide)]
  · intro hno
    rw [r_200]
    by_cases z : D 106 16 ≤ 0
    · rw [if_pos z, fin0 0 (by omega) c2]
    · rw [if_neg z]
      have h : ¬ ∀ i, 0 ≤ i → i < D 106 16 → thr D (D 117 i) := fun q => hno ⟨q, by omega⟩
      obtain ⟨p, p0, p1, p2, p3⟩ := first_not _ h
      have t3 : D 112 (D 117 p) = 0 := by
        have := c5 p p0 p1
        rcases (thr_cl hW this.1 this.2).2 with t | t
        · exact t
        · exact absurd ⟨this.1, this.2, t⟩ p2
      rw [it_up (fun i => qE 200 15 [(3, 106), (0, 1), (0, i), (9, 0), (9, 0)] [] (mk D)) p0 (fun i i0 i1 => by
        show qE 200 15 [(3, 106), (0, 1), (0, i), (9, 0), (9, 0)] [] (mk D) = qE 200 15 [(3, 106), (0, 1), (0, i + 1), (9, 0), (9, 0)] [] (mk D)
        rw [step1 i i0 (by omega), if_neg (by have := (p3 i i0 i1).2.2; omega)])]
      show qE 200 15 [(3, 106), (0, 1), (0, p), (9, 0), (9, 0)] [] (mk D) = _
      rw [step1 p p0 p1, if_pos t3, fin0 (p + 1) (by omega) (by omega)]
theorem st_sim {D E : Mem} (h : Sim D E) : stands E ∧ 0 < E 106 16 ↔ stands D ∧ 0 < D 106 16 := by
  have e16 := h 106 16 (by unfold scr; omega)
  have e117 : ∀ i, E 117 i = D 117 i := fun i => h _ _ (by unfold scr; omega)
  unfold stands
  rw [e16]
  constructor
  · rintro ⟨a, b⟩; exact ⟨fun i i0 i1 => by have := a i i0 i1; rw [e117] at this; exact (thr_sim h _).1 this, b⟩
  · rintro ⟨a, b⟩; exact ⟨fun i i0 i1 => by rw [e117]; exact (thr_sim h _).2 (a i i0 i1), b⟩
theorem sim_F {D E : Mem} (h : Sim D E) : ∀ y i, supF y i → E y i = D y i := fun y i q => h y i (by unfold scr; unfold supF supC at q; omega)
theorem ca_fewest {D : Mem} {k : Int} (hR : Rel D k) (hk : k ≤ 1000) : CaseOK D k 122 201 [] := by
  rcases stands_or D with ⟨hs, t0⟩ | hno
  · obtain ⟨E, q1, q2, q3, q4⟩ := sp_50 hR hk hs
    have hRE := Rel_sim hR q4
    have hE := (st_sim q4).2 ⟨hs, t0⟩
    obtain ⟨F, f1, f2, f3⟩ := (sq_200 hRE hk).1 hE
    have t16 := hRE.2.2.2.1.2.2.1.2.2.1
    have s199 := sq_199 (D := F) (i := 0) (a := 0) (s := sp' E 0) (by decide) (by decide) (fun x x0 x1 => ⟨f3 0 x (by decide) hE.2 x0 x1, by
      have p := pc_bd hRE hk hE.1 (i := 0) (by decide) hE.2 x
      have q := FF_b hRE hk hE.1 (i := 0 + 1) (by decide) (by have := hE.2; omega) x
      unfold sp'; omega⟩)
    rw [sp_min, ← FF_rec hE.2, FF_cg (sim_F q4)] at s199
    refine case_sim (v := FF D 0 0) (D1 := E) (D2 := F) hR ?_ ?_ q4 (rs3_S f2)
    · rw [r_122, (sp_140 hR).1 ⟨hs, t0⟩]
      simp only [Option.bind_some, psh_0]
      rw [e_122_4, if_neg (by decide), q1]
      simp only [Option.bind_some, psh_9]
      rw [e_122_25, r_52, if_pos (by decide), q2 0 (by decide) (by decide)]
      simp only [Option.bind_some, psh_0, e_122_32]
    · rw [r_201, f1]
      simp only [Option.bind_some, psh_0]
      rw [e_201_4, if_neg (by decide), s199]
      simp only [Option.bind_some, psh_0, e_201_13]
  · exact case_same (v := -4) hR (by simp [r_122, (sp_140 hR).2 hno, psh_0, e_122_4]) (by simp [r_201, (sq_200 hR hk).2 hno, psh_0, e_201_4])
/-- the kinds of the least plan -/
noncomputable def kd (D : Mem) : Nat → Int
  | 0 => 0
  | n + 1 => arg D n (kd D n)
theorem kd_b {D : Mem} {k : Int} (hR : Rel D k) (hk : k ≤ 1000) (hs : stands D) : ∀ n : Nat, (n : Int) ≤ D 106 16 → 0 ≤ kd D n ∧ kd D n < 4
  | 0, _ => ⟨Int.le_refl 0, by show (0 : Int) < 4; decide⟩
  | n + 1, h => by
    show 0 ≤ arg D n (kd D n) ∧ arg D n (kd D n) < 4
    exact arg_b hR hk hs (by omega) (by omega) _
theorem ca_plan {D : Mem} {k : Int} (hR : Rel D k) (hk : k ≤ 1000) (x : Int) : CaseOK D k 123 202 [(0, x)] := by
  obtain ⟨c1, c2, c3, c4, c5⟩ := hR.2.2.2.1.2.2.1
  have hrow := isRow102 (D := D) (by omega) (by omega)
  have e0 : mk D 102 1 = D 106 16 := c1
  rcases stands_or D with ⟨hs, t0⟩ | hno
  · by_cases hx : 0 ≤ x ∧ x < D 106 16
    · obtain ⟨E, q1, q2, q3, q4⟩ := sp_50 hR hk hs
      have hRE := Rel_sim hR q4
      have hE := (st_sim q4).2 ⟨hs, t0⟩
      obtain ⟨F, f1, f2, f3⟩ := (sq_200 hRE hk).1 hE
      have E16 : E 106 16 = D 106 16 := q4 _ _ (by unfold scr; omega)
      have F16 : F 106 16 = D 106 16 := by rw [f2 _ _ (by omega) (by omega)]; exact E16
      have kb := fun (n : Nat) (h : (n : Int) ≤ D 106 16) => kd_b hR hk hs n h
      have kx : ∀ j, 0 ≤ j → kd D (j + 1).toNat = arg D j (kd D j.toNat) := fun j j0 => by
        rw [show (j + 1).toNat = j.toNat + 1 by omega]
        show arg D (j.toNat : Int) (kd D j.toNat) = _
        rw [show ((j.toNat : Nat) : Int) = j by omega]
      refine case_sim (v := kd D (x + 1).toNat) (D1 := E) (D2 := F) hR ?_ ?_ q4 (rs3_S f2)
      · rw [r_123, (sp_140 hR).1 ⟨hs, t0⟩]
        simp only [Option.bind_some, psh_0]
        rw [e_123_4, if_neg (by decide), if_neg (by omega), row_size hrow, e0]
        simp only [Option.bind_some, psh_0]
        rw [e_123_19, if_pos hx.2, q1]
        simp only [Option.bind_some, psh_9]
        have s53 : qR 53 [(3, 39), (0, x)] (mk E) = some ((0, kd D (x + 1).toNat), mk E) := by
          rw [r_53]
          show qE 53 4 [(3, 39), (0, x), (0, kd D (0 : Int).toNat), (0, 0)] [] (mk E) = _
          rw [it_up (fun j => qE 53 4 [(3, 39), (0, x), (0, kd D j.toNat), (0, j)] [] (mk E)) (show (0 : Int) ≤ x + 1 by omega) (fun j j0 j1 => by
            show qE 53 4 [(3, 39), (0, x), (0, kd D j.toNat), (0, j)] [] (mk E) = qE 53 4 [(3, 39), (0, x), (0, kd D (j + 1).toNat), (0, j + 1)] [] (mk E)
            have b := kb j.toNat (by omega)
            have e4 : w32 (j * 4) = 4 * j := by rw [w32_id (by omega) (by omega)]; omega
            rw [e_53_4, if_pos (by omega), if_pos (by omega), e4, w32_id (x := 4 * j + kd D j.toNat) (by omega) (by omega), if_pos (by omega), q3 j (kd D j.toNat) j0 (by omega) b.1 b.2, kx j j0, w32_id (by omega) (by omega)])]
          show qE 53 4 [(3, 39), (0, x), (0, kd D (x + 1).toNat), (0, x + 1)] [] (mk E) = _
          rw [e_53_4, if_neg (by omega)]
        rw [e_123_39, s53]
        simp only [Option.bind_some, psh_0, e_123_47]
      · have s142 : qR 142 [(0, x), (0, 0), (0, w32 (D 106 16 - 1))] (mk F) = some ((0, 1), mk F) := by rw [sp_142, w32_id (by omega) (by omega), if_pos (by omega)]
        rw [r_202, f1]
        simp only [Option.bind_some, psh_0]
        rw [e_202_4, if_neg (by decide), F16, s142]
        simp only [Option.bind_some, psh_0]
        rw [e_202_18, if_neg (by decide)]
        obtain ⟨⟨w4, w5, w6⟩, e, -⟩ := it_inv (fun j (s : PV × PV × PV) => qE 202 27 [(3, 106), (0, x), (0, kd D j.toNat), (0, j), s.1, s.2.1, s.2.2] [] (mk F)) (fun _ _ => True) (show (0 : Int) ≤ x + 1 by omega) (fun j s j0 j1 _ => by
          obtain ⟨u4, u5, u6⟩ := s
          have b := kb j.toNat (by omega)
          have jE : j < E 106 16 := by omega
          have sb : ∀ y, 0 ≤ y → y < 4 → F 127 (4 * j + y) = sp' E j y ∧ 0 ≤ sp' E j y ∧ sp' E j y ≤ 1000000 := fun y y0 y1 => ⟨f3 j y j0 jE y0 y1, by
            have p := pc_bd hRE hk hE.1 (i := j) j0 jE y
            have q := FF_b hRE hk hE.1 (i := j + 1) (by omega) (by omega) y
            unfold sp'; omega⟩
          have s199 := sq_199 (D := F) (i := j) (a := kd D j.toNat) (s := sp' E j) j0 (by omega) sb
          rw [sp_min] at s199
          have sp := mnR_spec (g := gF E j (kd D j.toNat)) (fun y => (gF_b hRE hk hE.1 j0 jE (kd D j.toNat) y).2) 4
          obtain ⟨m, hm⟩ : ∃ m, m = (mnR (gF E j (kd D j.toNat)) 4).1 := ⟨_, rfl⟩
          obtain ⟨a, ha⟩ : ∃ a, a = (mnR (gF E j (kd D j.toNat)) 4).2 := ⟨_, rfl⟩
          rw [← hm, ← ha] at sp
          rw [← hm] at s199
          obtain ⟨sp1, sp2⟩ := sp
          obtain ⟨a0, a1, am, al⟩ := sp2 (by decide)
          have aD : a = arg D j (kd D j.toNat) := by rw [ha]; exact arg_cg (sim_F q4) j (kd D j.toNat)
          have e4 : w32 (4 * j) = 4 * j := w32_id (by omega) (by omega)
          -- one comparison of the way back from 3 to 0
          have stp : ∀ y r, 0 ≤ y → y < 4 → qE 202 46 [(3, 106), (0, x), (0, kd D j.toNat), (0, j), (0, m), (0, r), (0, y)] [] (mk F) = qE 202 46 [(3, 106), (0, x), (0, kd D j.toNat), (0, j), (0, m), (0, if gF E j (kd D j.toNat) y = m then y else r), (0, y - 1)] [] (mk F) := fun y r y0 y1 => by
            have g : gF E j (kd D j.toNat) y = sp' E j y + (if y = kd D j.toNat then 0 else 1) := by unfold gF sp'; omega
            have sy := sb y y0 y1
            rw [e_202_46, if_neg (by omega), e4, w32_id (x := 4 * j + y) (by omega) (by omega), if_pos (by omega), sy.1, g]
            by_cases c : y = kd D j.toNat
            · rw [if_pos c, if_pos c, e_202_73, w32_id (x := sp' E j y + 0) (by omega) (by omega), show y + -1 = y - 1 by omega, w32_id (x := y - 1) (by omega) (by omega)]
              by_cases q : sp' E j y + 0 = m
              · rw [if_pos q, if_pos q]
              · rw [if_neg q, if_neg q]
            · rw [if_neg c, if_neg c, e_202_73, w32_id (x := sp' E j y + 1) (by omega) (by omega), show y + -1 = y - 1 by omega, w32_id (x := y - 1) (by omega) (by omega)]
              by_cases q : sp' E j y + 1 = m
              · rw [if_pos q, if_pos q]
              · rw [if_neg q, if_neg q]
          obtain ⟨r, hr, hI⟩ := it_invd (fun y (r : Int) => qE 202 46 [(3, 106), (0, x), (0, kd D j.toNat), (0, j), (0, m), (0, r), (0, y)] [] (mk F)) (fun y r => (y < a → r = a)) (a := -1) (n := 3) (by decide) (fun y r y0 y1 h => by
            refine ⟨if gF E j (kd D j.toNat) y = m then y else r, stp y r (by omega) (by omega), fun h1 => ?_⟩
            show (if gF E j (kd D j.toNat) y = m then y else r) = a
            by_cases c : y = a
            · rw [c, if_pos am.symm]
            · have : gF E j (kd D j.toNat) y ≠ m := by have := al y (by omega) (by omega); omega
              rw [if_neg this]; exact h (by omega)) (s0 := -1) (fun h => by omega)
          refine ⟨((0, m), (0, r), (0, -1)), ?_, trivial⟩
          show qE 202 27 [(3, 106), (0, x), (0, kd D j.toNat), (0, j), u4, u5, u6] [] (mk F) = qE 202 27 [(3, 106), (0, x), (0, kd D (j + 1).toNat), (0, j + 1), (0, m), (0, r), (0, -1)] [] (mk F)
          rw [e_202_27, if_pos (by omega), s199]
          simp only [Option.bind_some, psh_0]
          rw [e_202_38]
          refine hr.trans ?_
          show qE 202 46 [(3, 106), (0, x), (0, kd D j.toNat), (0, j), (0, m), (0, r), (0, -1)] [] (mk F) = _
          rw [e_202_46, if_pos (by decide), w32_id (by omega) (by omega), kx j j0, ← aD, hI (by omega)]) (s0 := ((9, 0), (9, 0), (9, 0))) trivial
        refine e.trans ?_
        show qE 202 27 [(3, 106), (0, x), (0, kd D (x + 1).toNat), (0, x + 1), w4, w5, w6] [] (mk F) = _
        rw [e_202_27, if_neg (by omega)]
    · obtain ⟨F, f1, f2, f3⟩ := (sq_200 hR hk).1 ⟨hs, t0⟩
      have F16 : F 106 16 = D 106 16 := f2 _ _ (by omega) (by omega)
      refine case_sim (v := -1) (D1 := D) (D2 := F) hR ?_ ?_ (Sim.rfl' D) (rs3_S f2)
      · rw [r_123, (sp_140 hR).1 ⟨hs, t0⟩]
        simp only [Option.bind_some, psh_0]
        rw [e_123_4, if_neg (by decide)]
        by_cases z : x < 0
        · rw [if_pos z]
        · rw [if_neg z, row_size hrow, e0]
          simp only [Option.bind_some, psh_0]
          rw [e_123_19, if_neg (by omega)]
      · have s142 : qR 142 [(0, x), (0, 0), (0, w32 (D 106 16 - 1))] (mk F) = some ((0, 0), mk F) := by rw [sp_142, w32_id (by omega) (by omega), if_neg (by omega)]
        rw [r_202, f1]
        simp only [Option.bind_some, psh_0]
        rw [e_202_4, if_neg (by decide), F16, s142]
        simp only [Option.bind_some, psh_0]
        rw [e_202_18, if_pos rfl]
  · exact case_same (v := -1) hR (by simp [r_123, (sp_140 hR).2 hno, psh_0, e_123_4]) (by simp [r_202, (sq_200 hR hk).2 hno, psh_0, e_202_4])
