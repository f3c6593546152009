/-! third -/
theorem mat_cg {D E : Mem} (h : ∀ y i, y = 108 ∨ y = 109 ∨ y = 112 ∨ y = 115 ∨ (y = 106 ∧ i = 12) → E y i = D y i) (w : Int) : mat E w ↔ mat D w := by
  unfold mat ltr
  rw [h 106 12 (by omega), show E 112 = D 112 from funext fun i => h _ _ (by omega), show E 109 = D 109 from funext fun i => h _ _ (by omega), show E 108 = D 108 from funext fun i => h _ _ (by omega), show E 115 = D 115 from funext fun i => h _ _ (by omega)]
theorem rfW_cg {D E : Mem} (h : ∀ y i, y = 112 ∨ (y = 106 ∧ (i = 6 ∨ i = 12)) → E y i = D y i) (hQ : rfW D) : rfW E := by
  unfold rfW
  rw [h 106 6 (by omega), h 106 12 (by omega), show E 112 = D 112 from funext fun i => h _ _ (by omega)]
  exact hQ
theorem cm_cg {D E : Mem} (h : ∀ y i, y = 118 ∨ y = 119 ∨ y = 115 ∨ (y = 106 ∧ i = 12) → E y i = D y i) (c : Int) : cm E c ↔ cm D c := by
  unfold cm
  rw [h 106 12 (by omega), show E 118 = D 118 from funext fun i => h _ _ (by omega), show E 119 = D 119 from funext fun i => h _ _ (by omega), show E 115 = D 115 from funext fun i => h _ _ (by omega)]
theorem rfN_cg {D E : Mem} (h : ∀ y i, y = 106 ∧ (i = 21 ∨ i = 12) → E y i = D y i) (hQ : rfN D) : rfN E := by
  unfold rfN
  rw [h 106 12 (by omega), h 106 21 (by omega)]; exact hQ
/-- the reference's search for a newcomer, on a memory with D's newcomers -/
theorem sq_185 {D E : Mem} {k : Int} (hN : RN0 D k) (hS : RSa D) (h : ∀ y i, y = 118 ∨ y = 119 ∨ y = 115 ∨ (y = 106 ∧ (i = 21 ∨ i = 12)) → E y i = D y i) : (∀ n c, 0 ≤ n → n < 8 → nm D n → 0 ≤ c → c < D 106 21 → ncEq D n c → qR 185 [(3, 106)] (mk E) = some ((0, c), mk E)) ∧ ((∀ n, 0 ≤ n → n < 8 → ¬ nm D n) → qR 185 [(3, 106)] (mk E) = some ((0, -1), mk E)) := by
  have hQ : rfN E := rfN_cg (fun y i q => h y i (by omega)) (rfN_of hN hS)
  have e21 := h 106 21 (by omega)
  have ec : ∀ c, cm E c ↔ cm D c := cm_cg (fun y i q => h y i (by omega))
  refine ⟨fun n c n0 n1 hn c0 c1 e => ?_, fun hno => ?_⟩
  · have mc := (nm_cm e hn.1).1 hn
    exact sq_185h hQ c0 (by omega) ((ec c).2 mc) (fun d d0 d1 q => cm_one hN d0 (by omega) c0 c1 ((ec d).1 q) mc)
  · exact sq_185n hQ (fun c c0 c1 q => no_cm hN hno c c0 (by omega) ((ec c).1 q))
theorem third_rel {D X : Mem} {k : Int} (hR : Rel D k) (hK : ∀ y i, y = 4 ∨ y = 107 ∨ (100 ≤ y ∧ y ≤ 101) ∨ y = 116 ∨ y = 38 ∨ y = 114 ∨ (y = 31 ∧ i = 10) ∨ (y = 106 ∧ (i = 9 ∨ i = 14)) ∨ y = 99 ∨ y = 115 → X y i = D y i) (h98 : X 98 1 = 0) (h12 : X 106 12 = 0) (hW : RW X (k + 1)) (hP : RP X) (hS : RSc X) (hN : RN X (k + 1)) : Rel X (k + 1) := by
  obtain ⟨a, b, c, d, e⟩ := hR.2.2.2.1
  refine ⟨RK_congr (fun y i q => hK y i (by omega)) hR.1, hW, hP, ⟨⟨by omega, by omega, by omega, ?_, fun i i0 i1 => by omega⟩, RSb_congr (fun y i q => hK y i (by omega)) b, hS, RSe_congr (fun y i q => hK y i (by omega)) d, RSf_congr (fun y i q => hK y i (by omega)) e⟩, hN⟩
  rw [show X 99 = D 99 from funext fun i => hK _ _ (by omega), show X 115 = D 115 from funext fun i => hK _ _ (by omega)]
  exact a.2.2.2.1
theorem ca_third {D : Mem} {k : Int} (hR : Rel D k) (hk : k ≤ 1000) : CaseOK D k 116 189 [] := by
  have hW := hR.2.1
  have hn := hW.1
  have h8 := hW.2.1
  have hP := hR.2.2.1
  obtain ⟨hSa, hSb, hSc, hSe, hSf⟩ := hR.2.2.2.1
  have hN := hR.2.2.2.2.2
  have hsl := hR.2.2.2.2.1
  have hSa' := hSa
  obtain ⟨t1, t2, t3, t4, t5⟩ := hSa'
  have hSc' := hSc
  obtain ⟨c1, c2, c3, c4, c5⟩ := hSc'
  have hrow := isRow98 (D := D) (by omega) (by omega)
  have hrow2 := isRow102 (D := D) (by omega) (by omega)
  have e98 : mk D 98 1 = D 106 12 := t1
  have e102 : mk D 102 1 = D 106 16 := c1
  have nk := hN.1
  by_cases z : D 106 12 = 0
  · exact case_same (v := -4) hR (by simp [r_116, psh_0, row_empty hrow, e98, e_116_7, z]) (by simp [r_189, z])
  have st0 : qR 116 [(3, 2)] (mk D) = (qR 9 [(3, 5), (3, 98)] (mk D)).bind fun w => qE 116 24 [(3, 2), (9, 0), (9, 0), (9, 0), (9, 0)] (psh w.1 []) w.2 := by
    rw [r_116, row_empty hrow, e98, if_neg z]
    simp only [Option.bind_some, psh_0]
    rw [e_116_7, if_pos rfl]
  rcases mat_or D with ⟨w, w0, w1, m⟩ | hno
  · -- a word of the book
    have n0 : ¬ w < 0 := by omega
    have s9 := sp_9h hW hSa w0 w1 m
    have s57 := row_full hrow2
    rw [e102] at s57
    have st1 : qR 116 [(3, 2)] (mk D) = qE 116 77 [(3, 2), (0, w), (0, 0), (0, 1), (9, 0)] [(0, if D 106 16 < 60 then 0 else 1)] (mk D) := by
      rw [st0, s9]
      simp only [Option.bind_some, psh_0]
      rw [e_116_24, if_neg n0, e_116_51, if_neg n0, e_116_60, s57]
      simp only [Option.bind_some, psh_0]
    have q185 : ∀ E : Mem, (∀ y i, y = 118 ∨ y = 119 ∨ y = 115 ∨ (y = 106 ∧ (i = 21 ∨ i = 12)) → E y i = D y i) → ∃ c, qR 185 [(3, 106)] (mk E) = some ((0, c), mk E) := fun E hE => by
      rcases nm_or D with ⟨n, a0, a1, mm⟩ | hh
      · obtain ⟨_, _, _, c, c0, c1, ec⟩ := slot_c hN a0 a1 mm.1
        exact ⟨c, (sq_185 hN hSa hE).1 n c a0 a1 mm c0 c1 ec⟩
      · exact ⟨-1, (sq_185 hN hSa hE).2 hh⟩
    by_cases full : D 106 16 = 60
    · obtain ⟨c, q⟩ := q185 D (fun _ _ _ => rfl)
      refine case_same (v := -2) hR ?_ ?_
      · rw [st1, e_116_77, if_neg (by rw [if_neg (by omega)]; decide)]
      · simp [r_189, z, sp_150h hW hSa w0 w1 m, psh_0, e_189_14, q, e_189_19, n0, full]
    · obtain ⟨E, a1, a2, a3⟩ := learn_both (V := D) (D := D) (m := k + 1) hW (by omega) hP hSc (cls_rfl D) w0 w1 (by omega) (by omega)
      have o1 : ∀ y i, ¬ (y = 98 ∧ i = 1) → mU E 98 1 0 y i = E y i := fun y i q => mU_other q
      have eR : ∀ y i, 106 ≤ y → y ≤ 130 → mU E 98 1 0 y i = D y i := fun y i q1 q2 => by rw [o1 y i (by omega)]; exact a2 y i (by omega) (by omega) (by omega) (by omega) (by omega)
      have hrk : rOK (mU E 98 1 0) := rOK_congr (fun y i q => eR y i (by unfold supR at q; omega) (by unfold supR at q; omega)) (rOK_of hR hk)
      obtain ⟨G, g1, g2, g3, g4, g5⟩ := a3 D (mU E 98 1 0) hW hP hSc (fun _ _ _ => rfl) hrk (fun y i q => eR y i (by omega) (by omega))
      obtain ⟨c, q⟩ := q185 (mU E 98 1 0) (fun y i q => eR y i (by omega) (by omega))
      have E98 : E 98 1 = D 106 12 := by rw [a2 _ _ (by omega) (by omega) (by omega) (by omega) (by omega)]; exact t1
      have rowE := isRow98 (D := E) (by omega) (by omega)
      have E12 := eR 106 12 (by omega) (by omega)
      have E16 := eR 106 16 (by omega) (by omega)
      have s150 : qR 150 [(3, 106)] (mk (mU E 98 1 0)) = some ((0, w), mk (mU E 98 1 0)) := by
        have mc := mat_cg (D := D) (E := mU E 98 1 0) (fun y i q => eR y i (by omega) (by omega))
        have e6 := eR 106 6 (by omega) (by omega)
        exact sq_150h (rfW_cg (fun y i q => eR y i (by omega) (by omega)) (rfW_of hW hSa)) w0 (by omega) ((mc w).2 m) (fun v v0 v1 q => mat_one hW v0 (by omega) w0 w1 ((mc v).1 q) m)
      have hX : ∀ y i, ¬ (y = 98 ∧ i = 1) → ¬ (y = 106 ∧ i = 12) → mU G 106 12 0 y i = mrg E G y i := fun y i p1 p2 => by
        rw [mU_other p2]
        by_cases cr : rfc y
        · rw [mrg_r _ _ cr]
        · rw [mrg_c _ _ cr, g5 y i (by unfold rfc at cr; omega) (by unfold rfc at cr; omega) (by unfold rfc at cr; omega) (by unfold rfc at cr; omega) (by unfold rfc at cr; omega), o1 y i p1]
      have hD : ∀ y i, ¬ (7 ≤ y ∧ y ≤ 10) → y < 131 → -131 < y → y ≠ 5 → ¬ (102 ≤ y ∧ y ≤ 103) → ¬ (y = 98 ∧ i = 1) → ¬ (y = 106 ∧ (i = 8 ∨ i = 12 ∨ i = 16)) → ¬ (y = 110 ∨ y = 111 ∨ y = 113 ∨ y = 117) → mU G 106 12 0 y i = D y i := fun y i p1 p2 p3 p4 p5 p6 p7 p8 => by
        rw [mU_other (by omega), g5 y i (by omega) (by omega) (by omega) (by omega) (by omega), o1 y i p6, a2 y i p1 (by omega) (by omega) (by omega) (by omega)]
      refine ⟨w, mU E 98 1 0, mU G 106 12 0, ?_, ?_, third_rel hR (fun y i q => hD y i (by omega) (by omega) (by omega) (by omega) (by omega) (by omega) (by omega) (by omega)) ?_ mU_s (RW_congr (fun y i q => hX y i (by unfold supW at q; omega) (by unfold supW at q; omega)) g2) (RP_congr (fun y i q => hX y i (by unfold supP at q; omega) (by unfold supP at q; omega)) g3) (RSc_congr (fun y i q => hX y i (by omega) (by omega)) g4) (RN_mono (RN_congr (fun y i q => hD y i (by unfold supN at q; omega) (by unfold supN at q; omega) (by unfold supN at q; omega) (by unfold supN at q; omega) (by unfold supN at q; omega) (by unfold supN at q; omega) (by unfold supN at q; omega) (by unfold supN at q; omega)) hR.2.2.2.2)), fun i => hD _ _ (by omega) (by omega) (by omega) (by omega) (by omega) (by omega) (by omega) (by omega), fun i => hD _ _ (by omega) (by omega) (by omega) (by omega) (by omega) (by omega) (by omega) (by omega)⟩
      · rw [st1, e_116_77, if_pos (by rw [if_pos (by omega)]), e_116_80, if_pos rfl, if_pos rfl, e_116_125, if_neg (by decide), a1]
        simp only [Option.bind_some, psh_9]
        rw [e_116_137, row_clear rowE, mu_98_1]
        simp only [Option.bind_some, psh_0, e_116_163]
      · rw [r_189, E12, if_neg z, s150]
        simp only [Option.bind_some, psh_0]
        rw [e_189_14, q]
        simp only [Option.bind_some, psh_0]
        rw [e_189_19, if_neg n0, E16, if_neg full, g1]
        simp only [Option.bind_some, psh_9, e_189_41]
      · rw [mU_r (by omega), g5 _ _ (by omega) (by omega) (by omega) (by omega) (by omega), mU_s]
  · have s9 := sp_9n hW hSa hno
    have s150 : ∀ E : Mem, (∀ y i, 106 ≤ y → y ≤ 130 → E y i = D y i) → qR 150 [(3, 106)] (mk E) = some ((0, -1), mk E) := fun E hE => by
      have mc := mat_cg (D := D) (E := E) (fun y i q => hE y i (by omega) (by omega))
      have e6 := hE 106 6 (by omega) (by omega)
      exact sq_150n (rfW_cg (fun y i q => hE y i (by omega) (by omega)) (rfW_of hW hSa)) (fun v v0 v1 q => hno v v0 (by omega) ((mc v).1 q))
    have st1 : ∀ t, qR 36 [(3, 11), (3, 98)] (mk D) = some ((0, t), mk D) → qR 116 [(3, 2)] (mk D) = qE 116 40 [(3, 2), (0, -1), (9, 0), (9, 0), (9, 0)] [(0, t)] (mk D) := fun t ht => by
      rw [st0, s9]
      simp only [Option.bind_some, psh_0]
      rw [e_116_24, if_pos (by decide), ht]
      simp only [Option.bind_some, psh_0]
    rcases nm_or D with ⟨n, n0, n1, mm⟩ | hnn
    · obtain ⟨tt, st2, st3, c, c0, cl, ec⟩ := slot_c hN n0 n1 mm.1
      have gn : ¬ n < 0 := by omega
      have g8 : 0 ≤ n ∧ n < 8 := ⟨n0, n1⟩
      have m8 := hN.2.1
      have gc8 : 0 ≤ c ∧ c < 8 := by omega
      have s36 : qR 36 [(3, 11), (3, 98)] (mk D) = some ((0, D 13 n), mk D) := by
        simp [r_36, sp_35h hN hSa n0 n1 mm, psh_0, e_36_5, gn, g8]
      have q185 : ∀ E : Mem, (∀ y i, 106 ≤ y → y ≤ 130 → E y i = D y i) → qR 185 [(3, 106)] (mk E) = some ((0, c), mk E) := fun E hE => (sq_185 hN hSa (fun y i q => hE y i (by omega) (by omega))).1 n c n0 n1 mm c0 cl ec
      have t120 : D 120 c = D 13 n := ec.2.1.symm
      rcases tt with tt | tt
      · -- counted the second time
        have st4 : qR 116 [(3, 2)] (mk D) = (qR 37 [(3, 11), (3, 98)] (mk D)).bind fun w => qE 116 153 [(3, 2), (0, -1), (0, 0), (0, 0), (0, -1)] (psh w.1 [(0, 100)]) w.2 := by
          rw [st1 _ s36, tt, e_116_40, if_pos (by decide), e_116_51, if_pos (by decide), if_pos rfl, e_116_80, if_pos rfl, if_pos rfl, e_116_125, if_pos rfl]
        have s37 : qR 37 [(3, 11), (3, 98)] (mk D) = some ((0, 2), mk (incE D n)) := by
          have h := sp_37e (D := D) n0 n1 (by omega) (by omega)
          rw [tt] at h
          rw [r_37, sp_35h hN hSa n0 n1 mm]
          simp only [Option.bind_some, psh_0]
          rw [e_37_5, if_neg gn, h]; rfl
        have oI : ∀ y i, ¬ (y = 13 ∧ i = n) → ¬ (y = 14 ∧ i = n) → ¬ (y = 11 ∧ i = 3) → incE D n y i = D y i := fun y i p1 p2 p3 => by unfold incE; rw [mU_other p2, mU_other p3, mU_other p1]
        have rowI := isRow98 (D := incE D n) (by rw [oI _ _ (by omega) (by omega) (by omega)]; omega) (by rw [oI _ _ (by omega) (by omega) (by omega)]; omega)
        have eI : ∀ y i, ¬ (y = 13 ∧ i = n) → ¬ (y = 14 ∧ i = n) → ¬ (y = 11 ∧ i = 3) → ¬ (y = 98 ∧ i = 1) → mU (incE D n) 98 1 0 y i = D y i := fun y i p1 p2 p3 p4 => by rw [mU_other p4, oI y i p1 p2 p3]
        have eR : ∀ y i, 106 ≤ y → y ≤ 130 → mU (incE D n) 98 1 0 y i = D y i := fun y i q1 q2 => eI y i (by omega) (by omega) (by omega) (by omega)
        have E12 := eR 106 12 (by omega) (by omega)
        have E120 := eR 120 c (by omega) (by omega)
        have fin := sq_189e (D := mU (incE D n) 98 1 0) (c := c) (x := -1) (t := 1) (q := D 106 22) gc8.1 gc8.2 (by omega) (by omega) (by omega) (eR 106 22 (by omega) (by omega)) (by omega) (by omega)
        obtain ⟨X, hX⟩ : ∃ X, X = mU (mU (mU (mU (mU (incE D n) 98 1 0) 120 c (1 + 1)) 106 22 (D 106 22 + 1)) 121 c (D 106 22 + 1)) 106 12 0 := ⟨_, rfl⟩
        rw [← hX] at fin
        have oX : ∀ y i, ¬ (y = 13 ∧ i = n) → ¬ (y = 14 ∧ i = n) → ¬ (y = 11 ∧ i = 3) → ¬ (y = 98 ∧ i = 1) → ¬ (y = 120 ∧ i = c) → ¬ (y = 121 ∧ i = c) → ¬ (y = 106 ∧ (i = 22 ∨ i = 12)) → X y i = D y i := fun y i p1 p2 p3 p4 p5 p6 p7 => by rw [hX, mU_other (by omega), mU_other p6, mU_other (by omega), mU_other p5, eI y i p1 p2 p3 p4]
        have X13 : X 13 n = 2 := by rw [hX, mU_r (by decide), mU_r (by decide), mU_r (by decide), mU_r (by decide), mU_r (by decide)]; unfold incE; rw [mU_r (by decide), mU_r (by decide), mU_s, tt]; rfl
        have X14 : X 14 n = D 106 22 + 1 := by rw [hX, mU_r (by decide), mU_r (by decide), mU_r (by decide), mU_r (by decide), mU_r (by decide)]; unfold incE; rw [mU_s, nk.1]
        have X11 : X 11 3 = D 106 22 + 1 := by rw [hX, mU_r (by decide), mU_r (by decide), mU_r (by decide), mU_r (by decide), mU_r (by decide)]; unfold incE; rw [mU_r (by decide), mU_s, nk.1]
        have X120 : X 120 c = 2 := by rw [hX, mU_r (by decide), mU_r (by decide), mU_r (by decide), mU_s]; rfl
        have X121 : X 121 c = D 106 22 + 1 := by rw [hX, mU_r (by decide), mU_s]
        have X22 : X 106 22 = D 106 22 + 1 := by rw [hX, mU_other (by decide), mU_r (by decide), mU_s]
        have X12 : X 106 12 = 0 := by rw [hX, mU_s]
        have X98 : X 98 1 = 0 := by rw [hX, mU_r (by decide), mU_r (by decide), mU_r (by decide), mU_r (by decide), mU_s]
        have hRN : RN X (k + 1) := by
          refine ⟨?_, RN_inc hN n0 n1 tt c0 cl ec X13 X14 X11 (fun y i y0 y1 p1 p2 => oX y i p1 p2 (by omega) (by omega) (by omega) (by omega) (by omega)) (oX _ _ (by omega) (by omega) (by omega) (by omega) (by omega) (by omega) (by omega)) X22 X120 X121 (fun y i y0 y1 p1 p2 => oX y i (by omega) (by omega) (by omega) (by omega) p1 p2 (by omega))⟩
          rw [oX 0 3 (by omega) (by omega) (by omega) (by omega) (by omega) (by omega) (by omega), oX 106 6 (by omega) (by omega) (by omega) (by omega) (by omega) (by omega) (by omega)]; exact hsl
        refine ⟨102, mU (incE D n) 98 1 0, X, ?_, ?_, third_rel hR (fun y i q => oX y i (by omega) (by omega) (by omega) (by omega) (by omega) (by omega) (by omega)) X98 X12 (RW_mono (RW_congr (fun y i q => oX y i (by unfold supW at q; omega) (by unfold supW at q; omega) (by unfold supW at q; omega) (by unfold supW at q; omega) (by unfold supW at q; omega) (by unfold supW at q; omega) (by unfold supW at q; omega)) hW)) (RP_congr (fun y i q => oX y i (by unfold supP at q; omega) (by unfold supP at q; omega) (by unfold supP at q; omega) (by unfold supP at q; omega) (by unfold supP at q; omega) (by unfold supP at q; omega) (by unfold supP at q; omega)) hP) (RSc_congr (fun y i q => oX y i (by omega) (by omega) (by omega) (by omega) (by omega) (by omega) (by omega)) hSc) hRN, fun i => oX _ _ (by omega) (by omega) (by omega) (by omega) (by omega) (by omega) (by omega), fun i => oX _ _ (by omega) (by omega) (by omega) (by omega) (by omega) (by omega) (by omega)⟩
        · rw [st4, s37]
          simp only [Option.bind_some, psh_0]
          rw [e_116_153, row_clear rowI, mu_98_1]
          simp only [Option.bind_some, psh_0, e_116_163]
          rfl
        · rw [r_189, E12, if_neg z, s150 _ eR]
          simp only [Option.bind_some, psh_0]
          rw [e_189_14, q185 _ eR]
          simp only [Option.bind_some, psh_0]
          rw [e_189_19, if_pos (by decide), if_neg (by omega), if_pos gc8, E120, t120, tt, if_neg (by decide), if_neg (by omega), fin]
          rfl
      · -- the third time: it comes
        sorry
    · -- the first time
      obtain ⟨C, b1, b2, b3⟩ := add_new hN hSa hk (by omega) hnn
      have s36 : qR 36 [(3, 11), (3, 98)] (mk D) = some ((0, 0), mk D) := by
        simp [r_36, sp_35n hN hSa hnn, psh_0, e_36_5]
      have st4 : qR 116 [(3, 2)] (mk D) = (qR 37 [(3, 11), (3, 98)] (mk D)).bind fun w => qE 116 153 [(3, 2), (0, -1), (0, 0), (0, 0), (0, -1)] (psh w.1 [(0, 100)]) w.2 := by
        rw [st1 _ s36, e_116_40, if_pos (by decide), e_116_51, if_pos (by decide), if_pos rfl, e_116_80, if_pos rfl, if_pos rfl, e_116_125, if_pos rfl]
      have rowC := isRow98 (D := C) (by rw [b2 _ _ (by omega)]; omega) (by rw [b2 _ _ (by omega)]; omega)
      have eI : ∀ y i, ¬ (11 ≤ y ∧ y ≤ 30) → ¬ (y = 98 ∧ i = 1) → mU C 98 1 0 y i = D y i := fun y i p1 p2 => by rw [mU_other p2, b2 y i p1]
      have eR : ∀ y i, 106 ≤ y → y ≤ 130 → mU C 98 1 0 y i = D y i := fun y i q1 q2 => eI y i (by omega) (by omega)
      obtain ⟨F, c, f1, f2, f3, f4, f5, f6, f7, f8⟩ := b3 (mU C 98 1 0) (fun y i q => eR y i (by omega) (by omega))
      have E12 := eR 106 12 (by omega) (by omega)
      have q185 := (sq_185 (E := mU C 98 1 0) hN hSa (fun y i q => eR y i (by omega) (by omega))).2 hnn
      have fin := sq_189e (D := F) (c := c) (x := -1) (t := 0) (q := D 106 22) f3 f4 f5 (by omega) (by omega) f6 (by omega) (by omega)
      obtain ⟨X, hX⟩ : ∃ X, X = mU (mU (mU (mU F 120 c (0 + 1)) 106 22 (D 106 22 + 1)) 121 c (D 106 22 + 1)) 106 12 0 := ⟨_, rfl⟩
      rw [← hX] at fin
      have oF : ∀ y i, ¬ (y = 120 ∧ i = c) → ¬ (y = 121 ∧ i = c) → ¬ (y = 106 ∧ (i = 22 ∨ i = 12)) → X y i = F y i := fun y i p5 p6 p7 => by rw [hX, mU_other (by omega), mU_other p6, mU_other (by omega), mU_other p5]
      have oX : ∀ y i, ¬ (11 ≤ y ∧ y ≤ 30) → ¬ (y = 98 ∧ i = 1) → ¬ (118 ≤ y ∧ y ≤ 121) → ¬ (y = 106 ∧ (i = 22 ∨ i = 12 ∨ i = 21)) → X y i = D y i := fun y i p1 p2 p3 p4 => by rw [oF y i (by omega) (by omega) (by omega), f7 y i p3 (by omega), eI y i p1 p2]
      have X120 : X 120 c = 1 := by rw [hX, mU_r (by decide), mU_r (by decide), mU_r (by decide), mU_s]; rfl
      have X121 : X 121 c = D 106 22 + 1 := by rw [hX, mU_r (by decide), mU_s]
      have X22 : X 106 22 = D 106 22 + 1 := by rw [hX, mU_other (by decide), mU_r (by decide), mU_s]
      have X12 : X 106 12 = 0 := by rw [hX, mU_s]
      have X98 : X 98 1 = 0 := by rw [oF _ _ (by omega) (by omega) (by omega), f7 _ _ (by omega) (by omega), mU_s]
      have hRN : RN X (k + 1) := by
        refine ⟨?_, f8 X (fun y i y0 y1 => ?_) ⟨oF _ _ (by omega) (by omega) (by omega), X22, X120, X121⟩ (fun y i y0 y1 p1 p2 => oF y i p1 p2 (by omega))⟩
        · rw [oX 0 3 (by omega) (by omega) (by omega) (by omega), oX 106 6 (by omega) (by omega) (by omega) (by omega)]; exact hsl
        · rw [oF y i (by omega) (by omega) (by omega), f7 y i (by omega) (by omega), mU_other (by omega)]
      refine ⟨101, mU C 98 1 0, X, ?_, ?_, third_rel hR (fun y i q => oX y i (by omega) (by omega) (by omega) (by omega)) X98 X12 (RW_mono (RW_congr (fun y i q => oX y i (by unfold supW at q; omega) (by unfold supW at q; omega) (by unfold supW at q; omega) (by unfold supW at q; omega)) hW)) (RP_congr (fun y i q => oX y i (by unfold supP at q; omega) (by unfold supP at q; omega) (by unfold supP at q; omega) (by unfold supP at q; omega)) hP) (RSc_congr (fun y i q => oX y i (by omega) (by omega) (by omega) (by omega)) hSc) hRN, fun i => oX _ _ (by omega) (by omega) (by omega) (by omega), fun i => oX _ _ (by omega) (by omega) (by omega) (by omega)⟩
      · rw [st4, b1]
        simp only [Option.bind_some, psh_0]
        rw [e_116_153, row_clear rowC, mu_98_1]
        simp only [Option.bind_some, psh_0, e_116_163]
        rfl
      · have e1 : w32 (F 106 21 - 1) = c := by rw [w32_id (by omega) (by omega)]; exact f2.symm
        rw [r_189, E12, if_neg z, s150 _ eR]
        simp only [Option.bind_some, psh_0]
        rw [e_189_14, q185]
        simp only [Option.bind_some, psh_0]
        rw [e_189_19, if_pos (by decide), if_pos (by decide), if_pos (by decide), f1]
        simp only [Option.bind_some, psh_9]
        rw [e_189_114, e1, fin]
        rfl
