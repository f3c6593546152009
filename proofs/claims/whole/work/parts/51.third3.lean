/-! third -/
theorem mat_cg {D E : Mem} (h : ∀ y i, y = 108 ∨ y = 109 ∨ y = 112 ∨ y = 115 ∨ (y = 106 ∧ i = 12) → E y i = D y i) (w : Int) : mat E w ↔ mat D w := by
  unfold mat ltr
  rw [h 106 12 (by omega), show E 112 = D 112 from funext fun i => h _ _ (by omega), show E 109 = D 109 from funext fun i => h _ _ (by omega), show E 108 = D 108 from funext fun i => h _ _ (by omega), show E 115 = D 115 from funext fun i => h _ _ (by omega)]
theorem rfW_cg {D E : Mem} (h : ∀ y i, y = 112 ∨ (y = 106 ∧ (i = 6 ∨ i = 12)) → E y i = D y i) (hQ : rfW D) : rfW E := by
  unfold rfW
  rw [h 106 6 (by omega), h 106 12 (by omega), show E 112 = D 112 from funext fun i => h _ _ (by omega)]
  exact hQ
theorem cm_cg {D E : Mem} (h : ∀ y i, y = 118 ∨ y = 119 ∨ y = 115 ∨ (y = 106 ∧ i = 12) → E y i = D y i) (c : Int) : cm E c ↔ cm D c := by
  unfold cm
  rw [h 106 12 (by omega), show E 118 = D 118 from funext fun i => h _ _ (by omega), show E 119 = D 119 from funext fun i => h _ _ (by omega), show E 115 = D 115 from funext fun i => h _ _ (by omega)]
theorem rfN_cg {D E : Mem} (h : ∀ y i, y = 106 ∧ (i = 21 ∨ i = 12) → E y i = D y i) (hQ : rfN D) : rfN E := by
  unfold rfN
  rw [h 106 12 (by omega), h 106 21 (by omega)]; exact hQ
/-- the reference's search for a newcomer, on a memory with D's newcomers -/
theorem sq_185 {D E : Mem} {k : Int} (hN : RN0 D k) (hS : RSa D) (h : ∀ y i, y = 118 ∨ y = 119 ∨ y = 115 ∨ (y = 106 ∧ (i = 21 ∨ i = 12)) → E y i = D y i) : (∀ n c, 0 ≤ n → n < 8 → nm D n → 0 ≤ c → c < D 106 21 → ncEq D n c → qR 185 [(3, 106)] (mk E) = some ((0, c), mk E)) ∧ ((∀ n, 0 ≤ n → n < 8 → ¬ nm D n) → qR 185 [(3, 106)] (mk E) = some ((0, -1), mk E)) := by
  have hQ : rfN E := rfN_cg (fun y i q => h y i (by omega)) (rfN_of hN hS)
  have e21 := h 106 21 (by omega)
  have ec : ∀ c, cm E c ↔ cm D c := cm_cg (fun y i q => h y i (by omega))
  refine ⟨fun n c n0 n1 hn c0 c1 e => ?_, fun hno => ?_⟩
  · have mc := (nm_cm e hn.1).1 hn
    exact sq_185h hQ c0 (by omega) ((ec c).2 mc) (fun d d0 d1 q => cm_one hN d0 (by omega) c0 c1 ((ec d).1 q) mc)
  · exact sq_185n hQ (fun c c0 c1 q => no_cm hN hno c c0 (by omega) ((ec c).1 q))
theorem third_rel {D X : Mem} {k : Int} (hR : Rel D k) (hK : ∀ y i, y = 4 ∨ y = 107 ∨ (100 ≤ y ∧ y ≤ 101) ∨ y = 116 ∨ y = 38 ∨ y = 114 ∨ (y = 31 ∧ i = 10) ∨ (y = 106 ∧ (i = 9 ∨ i = 14)) ∨ y = 99 ∨ y = 115 → X y i = D y i) (h98 : X 98 1 = 0) (h12 : X 106 12 = 0) (hW : RW X (k + 1)) (hP : RP X) (hS : RSc X) (hN : RN X (k + 1)) : Rel X (k + 1) := by
  obtain ⟨a, b, c, d, e⟩ := hR.2.2.2.1
  refine ⟨RK_congr (fun y i q => hK y i (by omega)) hR.1, hW, hP, ⟨⟨by omega, by omega, by omega, ?_, fun i i0 i1 => by omega⟩, RSb_congr (fun y i q => hK y i (by omega)) b, hS, RSe_congr (fun y i q => hK y i (by omega)) d, RSf_congr (fun y i q => hK y i (by omega)) e⟩, hN⟩
  rw [show X 99 = D 99 from funext fun i => hK _ _ (by omega), show X 115 = D 115 from funext fun i => hK _ _ (by omega)]
  exact a.2.2.2.1
theorem rOK_of2 {D : Mem} {k : Int} (hK : RK D) (hW : RW D k) (hk : k ≤ 10000) (hP : RP D) (hb : RSb D) (hc : RSc D) (he : RSe D) (hf : RSf D) : rOK D := by
  have hn := hW.1
  have h8 := hW.2.1
  refine ⟨hn.2, fun w w0 w1 => ?_, fun a b a0 a1 b0 b1 => RP_bd hP a0 a1 b0 b1, he.2, ⟨hc.2.1, hc.2.2.1, hc.2.2.2.2⟩, hK.2, ⟨hb.2.1, hb.2.2.1, hb.2.2.2.2⟩, hf.2, by omega, by omega⟩
  obtain ⟨v1, v2, v3, v4, v5⟩ := hW.2.2.1 w w0 w1
  exact ⟨v1.2.2, fun i i0 i1 => (v2 i i0 i1).2, v3.2, v5.2⟩
/-- letters counted the third time come into the book -/
theorem third_come {D : Mem} {k n c : Int} (hR : Rel D k) (hk : k ≤ 1000) (s0 : 1 ≤ D 106 12) (hno : ∀ w, 0 ≤ w → w < D 106 6 → ¬ mat D w) (n0 : 0 ≤ n) (n1 : n < 8) (mm : nm D n) (c0 : 0 ≤ c) (cl : c < D 106 21) (ec : ncEq D n c) (troom : D 106 16 < 60) (wroom : D 106 6 < 80) :
    ∃ A E R G1 G2 : Mem, qR 10 [(3, 5), (3, 98), (0, 2)] (mk (mU (mU D 13 n 0) 14 n 0)) = some ((0, D 106 6), mk A) ∧ qR 139 [(3, 2), (0, D 106 6)] (mk A) = some ((9, 0), mk E) ∧ (0 ≤ E 98 1 ∧ E 98 1 ≤ 10) ∧ (∀ y i, 106 ≤ y → y ≤ 130 → mU E 98 1 0 y i = D y i) ∧ qR 187 [(3, 106), (0, c)] (mk (mU E 98 1 0)) = some ((9, 0), mk R) ∧ qR 153 [(3, 106), (0, 2)] (mk R) = some ((0, D 106 6), mk G1) ∧ qR 183 [(3, 106), (0, D 106 6)] (mk G1) = some ((9, 0), mk G2) ∧ Rel (mU G2 106 12 0) (k + 1) ∧ (∀ i, mU G2 106 12 0 1 i = D 1 i) ∧ ∀ i, mU G2 106 12 0 (-1) i = D (-1) i := by
  have hW := hR.2.1
  have hn := hW.1
  have h8 := hW.2.1
  have hP := hR.2.2.1
  obtain ⟨hSa, hSb, hSc, hSe, hSf⟩ := hR.2.2.2.1
  have hN := hR.2.2.2.2.2
  have hsl := hR.2.2.2.2.1
  have hSa' := hSa
  obtain ⟨t1, t2, t3, t4, t5⟩ := hSa'
  have hSc' := hSc
  obtain ⟨c1, c2, c3, c4, c5⟩ := hSc'
  have m8 := hN.2.1
  obtain ⟨Da, hDa⟩ : ∃ Da, Da = mU (mU D 13 n 0) 14 n 0 := ⟨_, rfl⟩
  rw [← hDa]
  have oa : ∀ y i, ¬ (y = 13 ∧ i = n) → ¬ (y = 14 ∧ i = n) → Da y i = D y i := fun y i p1 p2 => by rw [hDa, mU_other p2, mU_other p1]
  have aW : RW Da k := RW_congr (fun y i q => oa y i (by unfold supW at q; omega) (by unfold supW at q; omega)) hW
  have aP : RP Da := RP_congr (fun y i q => oa y i (by unfold supP at q; omega) (by unfold supP at q; omega)) hP
  have aS : RSa Da := RSa_congr (fun y i q => oa y i (by omega) (by omega)) hSa
  have a6 : Da 106 6 = D 106 6 := oa _ _ (by omega) (by omega)
  have a8 : Da 106 8 = D 106 8 := oa _ _ (by omega) (by omega)
  have a12 : Da 106 12 = D 106 12 := oa _ _ (by omega) (by omega)
  have mc := mat_cg (D := D) (E := Da) (fun y i q => oa y i (by omega) (by omega))
  obtain ⟨A, q1, q2, q3, q4⟩ := ent_both (c := 2) aW aP aS hk (by omega) (by omega) (by decide) (by decide) (fun w w0 w1 q => hno w w0 (by omega) ((mc w).1 q))
  rw [a6] at q1
  have qD : ∀ y i, ¬ (7 ≤ y ∧ y ≤ 10) → y < 131 → -131 < y → y ≠ 5 → ¬ (y = 0 ∧ i = 3) → ¬ (y = 13 ∧ i = n) → ¬ (y = 14 ∧ i = n) → A y i = D y i := fun y i p1 p2 p3 p4 p5 p6 p7 => by rw [q3 y i p1 p2 p3 p4 p5, oa y i p6 p7]
  obtain ⟨G0, u1, u2, u3, u4, u5, u6, u7, u8⟩ := q4 Da (fun _ _ _ => rfl)
  have Rc : ∀ G : Mem, G 106 6 = Da 106 6 + 1 → (∀ i, G 117 i = D 117 i) → G 106 16 = D 106 16 → RSc (mrg A G) := fun G g6 g117 g16 => by
    unfold RSc
    rw [mrg_c A G (show ¬ rfc 102 by unfold rfc; omega), mrg_r A G (show rfc 106 by unfold rfc; omega), mrg_r A G (show rfc 106 by unfold rfc; omega), g6, g16, qD 102 1 (by omega) (by omega) (by omega) (by omega) (by omega) (by omega) (by omega)]
    have r117 : mrg A G 117 = D 117 := funext fun i => by rw [mrg_r _ _ (by unfold rfc; omega)]; exact g117 i
    have r103 : mrg A G 103 = D 103 := funext fun i => by rw [mrg_c _ _ (by unfold rfc; omega)]; exact qD _ _ (by omega) (by omega) (by omega) (by omega) (by omega) (by omega) (by omega)
    rw [r117, r103]
    exact ⟨c1, c2, c3, c4, fun i i0 i1 => by have := c5 i i0 i1; omega⟩
  have G0r : ∀ y i, 106 ≤ y → y ≤ 130 → ¬ (108 ≤ y ∧ y ≤ 113) → ¬ (y = 106 ∧ (i = 6 ∨ i = 8)) → G0 y i = D y i := fun y i p1 p2 p3 p4 => by rw [u8 y i p3 p4, oa y i (by omega) (by omega)]
  have V6 : mrg A G0 106 6 = D 106 6 + 1 := by rw [mrg_r _ _ (by unfold rfc; omega), u4, a6]
  have V8 : mrg A G0 106 8 = D 106 8 + 1 := by rw [mrg_r _ _ (by unfold rfc; omega), u5, a8]
  have V16 : mrg A G0 106 16 = D 106 16 := by rw [mrg_r _ _ (by unfold rfc; omega)]; exact G0r _ _ (by omega) (by omega) (by omega) (by omega)
  have S0 := Rc G0 u4 (fun i => G0r _ _ (by omega) (by omega) (by omega) (by omega)) (G0r _ _ (by omega) (by omega) (by omega) (by omega))
  obtain ⟨E, e1, e2, e3⟩ := learn_both (V := mrg A G0) (D := A) (m := k + 1) (w := D 106 6) u2 (by omega) u3 S0 (fun y i q => (mrg_c _ _ q i).symm) (by omega) (by omega) (by omega) (by omega)
  rw [V16] at e2
  have E98 : E 98 1 = D 106 12 := by rw [e2 _ _ (by omega) (by omega) (by omega) (by omega) (by omega), qD _ _ (by omega) (by omega) (by omega) (by omega) (by omega) (by omega) (by omega)]; exact t1
  have eR : ∀ y i, 106 ≤ y → y ≤ 130 → mU E 98 1 0 y i = D y i := fun y i p1 p2 => by
    rw [mU_other (by omega), e2 y i (by omega) (by omega) (by omega) (by omega) (by omega), qD y i (by omega) (by omega) (by omega) (by omega) (by omega) (by omega) (by omega)]
  obtain ⟨R, r1, r2, r3, r4⟩ := sq_187 (D := mU E 98 1 0) (c := c) (m := D 106 21) (eR _ _ (by omega) (by omega)) m8.2.1 c0 cl
  have Rr : ∀ y i, 106 ≤ y → y ≤ 130 → ¬ (118 ≤ y ∧ y ≤ 121) → ¬ (y = 106 ∧ i = 21) → R y i = D y i := fun y i p1 p2 p3 p4 => by rw [r4 y i p3 p4, eR y i p1 p2]
  obtain ⟨G1, v1, v2, v3, v4, v5, v6, v7, v8⟩ := q4 R (fun y i q => by rw [Rr y i (by omega) (by omega) (by omega) (by omega), oa y i (by omega) (by omega)])
  rw [a6] at v1
  have G1r : ∀ y i, 106 ≤ y → y ≤ 130 → ¬ (108 ≤ y ∧ y ≤ 113) → ¬ (y = 106 ∧ (i = 6 ∨ i = 8 ∨ i = 21)) → ¬ (118 ≤ y ∧ y ≤ 121) → G1 y i = D y i := fun y i p1 p2 p3 p4 p5 => by rw [v8 y i p3 (by omega), Rr y i p1 p2 p5 (by omega)]
  have S1 := Rc G1 v4 (fun i => G1r _ _ (by omega) (by omega) (by omega) (by omega) (by omega)) (G1r _ _ (by omega) (by omega) (by omega) (by omega) (by omega))
  have M1 : ∀ y i, y ≠ 5 → ¬ (7 ≤ y ∧ y ≤ 14) → y < 131 → -131 < y → ¬ (y = 0 ∧ i = 3) → ¬ (108 ≤ y ∧ y ≤ 113) → ¬ (y = 106 ∧ (i = 6 ∨ i = 8 ∨ i = 21)) → ¬ (118 ≤ y ∧ y ≤ 121) → mrg A G1 y i = D y i := fun y i p1 p2 p3 p4 p5 p6 p7 p8 => by
    by_cases cr : 106 ≤ y ∧ y ≤ 130
    · rw [mrg_r _ _ cr]; exact G1r y i cr.1 cr.2 p6 p7 p8
    · rw [mrg_c _ _ (by unfold rfc; omega)]; exact qD y i (by omega) p3 p4 p1 p5 (by omega) (by omega)
  have hrk : rOK G1 := by
    refine rOK_congr (D := mrg A G1) (fun y i q => ?_) (rOK_of2 (k := k + 1) (RK_congr (fun y i q => M1 y i (by omega) (by omega) (by omega) (by omega) (by omega) (by omega) (by omega) (by omega)) hR.1) v2 (by omega) v3 (RSb_congr (fun y i q => M1 y i (by omega) (by omega) (by omega) (by omega) (by omega) (by omega) (by omega) (by omega)) hSb) S1 (RSe_congr (fun y i q => M1 y i (by omega) (by omega) (by omega) (by omega) (by omega) (by omega) (by omega) (by omega)) hSe) (RSf_congr (fun y i q => M1 y i (by omega) (by omega) (by omega) (by omega) (by omega) (by omega) (by omega) (by omega)) hSf))
    rw [mrg_r _ _ (by unfold rfc; unfold supR at q; omega)]
  obtain ⟨G2, w1, w2, w3, w4, w5⟩ := e3 (mrg A G1) G1 v2 v3 S1 (fun y i q => by rw [mrg_c _ _ q, mrg_c _ _ q]) hrk (fun y i q => (mrg_r _ _ (by unfold rfc; omega) i).symm)
  rw [V16] at w5
  -- the last memory
  have gcl : ∀ y i, (y < 106 ∨ 130 < y) → ¬ (y = 98 ∧ i = 1) → mU G2 106 12 0 y i = E y i := fun y i p1 p2 => by
    rw [mU_other (by omega), w5 y i (by omega) (by omega) (by omega) (by omega) (by omega), v8 y i (by omega) (by omega), r4 y i (by omega) (by omega), mU_other p2]
  have hX : ∀ y i, ¬ (y = 98 ∧ i = 1) → ¬ (y = 106 ∧ i = 12) → mU G2 106 12 0 y i = mrg E G2 y i := fun y i p1 p2 => by
    by_cases cr : 106 ≤ y ∧ y ≤ 130
    · rw [mU_other p2, mrg_r _ _ cr]
    · rw [gcl y i (by omega) p1, mrg_c _ _ (by unfold rfc; omega)]
  have hcD : ∀ y i, (y < 106 ∨ 130 < y) → ¬ (y = 98 ∧ i = 1) → ¬ (7 ≤ y ∧ y ≤ 10) → y < 131 → -131 < y → y ≠ 5 → ¬ (102 ≤ y ∧ y ≤ 103) → ¬ (y = 0 ∧ i = 3) → ¬ (y = 13 ∧ i = n) → ¬ (y = 14 ∧ i = n) → mU G2 106 12 0 y i = D y i := fun y i p1 p2 p3 p4 p5 p6 p7 p8 p9 p10 => by
    rw [gcl y i p1 p2, e2 y i p3 (by omega) (by omega) (by omega) (by omega), qD y i p3 p4 p5 p6 p8 p9 p10]
  have hrD : ∀ y i, 106 ≤ y → y ≤ 130 → ¬ (108 ≤ y ∧ y ≤ 113) → ¬ (y = 106 ∧ (i = 6 ∨ i = 8 ∨ i = 21 ∨ i = 16 ∨ i = 12)) → ¬ (118 ≤ y ∧ y ≤ 121) → y ≠ 117 → mU G2 106 12 0 y i = D y i := fun y i p1 p2 p3 p4 p5 p6 => by
    rw [mU_other (by omega), w5 y i (by omega) (by omega) (by omega) (by omega) (by omega), G1r y i p1 p2 p3 (by omega) p5]
  have hrR : ∀ y i, (118 ≤ y ∧ y ≤ 121) ∨ (y = 106 ∧ (i = 21 ∨ i = 22)) → mU G2 106 12 0 y i = R y i := fun y i q => by
    rw [mU_other (by omega), w5 y i (by omega) (by omega) (by omega) (by omega) (by omega), v8 y i (by omega) (by omega)]
  refine ⟨A, E, R, G1, G2, q1, e1, by omega, eR, r1, v1, w1, third_rel hR (fun y i q => ?_) ?_ mU_s (RW_congr (fun y i q => hX y i (by unfold supW at q; omega) (by unfold supW at q; omega)) w2) (RP_congr (fun y i q => hX y i (by unfold supP at q; omega) (by unfold supP at q; omega)) w3) (RSc_congr (fun y i q => hX y i (by omega) (by omega)) w4) ⟨?_, ?_⟩, fun i => hcD _ _ (by omega) (by omega) (by omega) (by omega) (by omega) (by omega) (by omega) (by omega) (by omega) (by omega), fun i => hcD _ _ (by omega) (by omega) (by omega) (by omega) (by omega) (by omega) (by omega) (by omega) (by omega) (by omega)⟩
  · by_cases cr : 106 ≤ y ∧ y ≤ 130
    · exact hrD y i cr.1 cr.2 (by omega) (by omega) (by omega) (by omega)
    · exact hcD y i (by omega) (by omega) (by omega) (by omega) (by omega) (by omega) (by omega) (by omega) (by omega) (by omega)
  · rw [mU_r (by omega), w5 _ _ (by omega) (by omega) (by omega) (by omega) (by omega), v8 _ _ (by omega) (by omega), r4 _ _ (by omega) (by omega), mU_s]
  · have x6 : mU G2 106 12 0 106 6 = D 106 6 + 1 := by rw [mU_other (by omega), w5 _ _ (by omega) (by omega) (by omega) (by omega) (by omega), v4, a6]
    have x3 : mU G2 106 12 0 0 3 = D 0 3 + 6 + D 106 12 := by
      rw [gcl _ _ (by omega) (by omega), e2 _ _ (by omega) (by omega) (by omega) (by omega) (by omega), q2, oa _ _ (by omega) (by omega), oa _ _ (by omega) (by omega), t1]
    rw [x6, x3]; omega
  · have hd := RN_drop (X := mU G2 106 12 0) hN n0 n1 mm.1 c0 cl ec ?_ ?_ (fun y i y0 y1 z1 z2 => hcD y i (by omega) (by omega) ?_ (by omega) (by omega) (by omega) (by omega) (by omega) z1 z2) ?_ ?_ (fun d d0 d1 => ?_)
    · exact ⟨⟨hd.1.1, hd.1.2.1, by have := hd.1.2.2; omega⟩, hd.2⟩
    · rw [gcl _ _ (by omega) (by omega), e2 _ _ (by omega) (by omega) (by omega) (by omega) (by omega), q3 _ _ (by omega) (by omega) (by omega) (by omega) (by omega), hDa, mU_r (by decide), mU_s]
    · rw [gcl _ _ (by omega) (by omega), e2 _ _ (by omega) (by omega) (by omega) (by omega) (by omega), q3 _ _ (by omega) (by omega) (by omega) (by omega) (by omega), hDa, mU_s]
    · omega
    · rw [hrR _ _ (by omega)]; exact r2
    · rw [hrR _ _ (by omega), Rr _ _ (by omega) (by omega) (by omega) (by omega)]
    · obtain ⟨x1, x2, x3, x4⟩ := r3 d d0 d1
      rw [hrR _ _ (by omega), hrR _ _ (by omega), hrR _ _ (by omega), x1, x2, x3, eR _ _ (by omega) (by omega), eR _ _ (by omega) (by omega), eR _ _ (by omega) (by omega)]
      refine ⟨rfl, rfl, rfl, fun i i0 i1 => ?_⟩
      rw [hrR _ _ (by omega), x4 i i0 i1, eR _ _ (by omega) (by omega)]
theorem ca_third {D : Mem} {k : Int} (hR : Rel D k) (hk : k ≤ 1000) : CaseOK D k 116 189 [] := by
  have hW := hR.2.1
  have hn := hW.1
  have h8 := hW.2.1
  have hP := hR.2.2.1
  obtain ⟨hSa, hSb, hSc, hSe, hSf⟩ := hR.2.2.2.1
  have hN := hR.2.2.2.2.2
  have hsl := hR.2.2.2.2.1
  have hSa' := hSa
  obtain ⟨t1, t2, t3, t4, t5⟩ := hSa'
  have hSc' := hSc
  obtain ⟨c1, c2, c3, c4, c5⟩ := hSc'
  have hrow := isRow98 (D := D) (by omega) (by omega)
  have hrow2 := isRow102 (D := D) (by omega) (by omega)
  have e98 : mk D 98 1 = D 106 12 := t1
  have e102 : mk D 102 1 = D 106 16 := c1
  have nk := hN.1
  by_cases z : D 106 12 = 0
  · exact case_same (v := -4) hR (by simp [r_116, psh_0, row_empty hrow, e98, e_116_7, z]) (by simp [r_189, z])
  have st0 : qR 116 [(3, 2)] (mk D) = (qR 9 [(3, 5), (3, 98)] (mk D)).bind fun w => qE 116 24 [(3, 2), (9, 0), (9, 0), (9, 0), (9, 0)] (psh w.1 []) w.2 := by
    rw [r_116, row_empty hrow, e98, if_neg z]
    simp only [Option.bind_some, psh_0]
    rw [e_116_7, if_pos rfl]
  rcases mat_or D with ⟨w, w0, w1, m⟩ | hno
  · -- a word of the book
    have n0 : ¬ w < 0 := by omega
    have s9 := sp_9h hW hSa w0 w1 m
    have s57 := row_full hrow2
    rw [e102] at s57
    have st1 : qR 116 [(3, 2)] (mk D) = qE 116 77 [(3, 2), (0, w), (0, 0), (0, 1), (9, 0)] [(0, if D 106 16 < 60 then 0 else 1)] (mk D) := by
      rw [st0, s9]
      simp only [Option.bind_some, psh_0]
      rw [e_116_24, if_neg n0, e_116_51, if_neg n0, e_116_60, s57]
      simp only [Option.bind_some, psh_0]
    have q185 : ∀ E : Mem, (∀ y i, y = 118 ∨ y = 119 ∨ y = 115 ∨ (y = 106 ∧ (i = 21 ∨ i = 12)) → E y i = D y i) → ∃ c, qR 185 [(3, 106)] (mk E) = some ((0, c), mk E) := fun E hE => by
      rcases nm_or D with ⟨n, a0, a1, mm⟩ | hh
      · obtain ⟨_, _, _, c, c0, c1, ec⟩ := slot_c hN a0 a1 mm.1
        exact ⟨c, (sq_185 hN hSa hE).1 n c a0 a1 mm c0 c1 ec⟩
      · exact ⟨-1, (sq_185 hN hSa hE).2 hh⟩
    by_cases full : D 106 16 = 60
    · obtain ⟨c, q⟩ := q185 D (fun _ _ _ => rfl)
      refine case_same (v := -2) hR ?_ ?_
      · rw [st1, e_116_77, if_neg (by rw [if_neg (by omega)]; decide)]
      · simp [r_189, z, sp_150h hW hSa w0 w1 m, psh_0, e_189_14, q, e_189_19, n0, full]
    · obtain ⟨E, a1, a2, a3⟩ := learn_both (V := D) (D := D) (m := k + 1) hW (by omega) hP hSc (cls_rfl D) w0 w1 (by omega) (by omega)
      have o1 : ∀ y i, ¬ (y = 98 ∧ i = 1) → mU E 98 1 0 y i = E y i := fun y i q => mU_other q
      have eR : ∀ y i, 106 ≤ y → y ≤ 130 → mU E 98 1 0 y i = D y i := fun y i q1 q2 => by rw [o1 y i (by omega)]; exact a2 y i (by omega) (by omega) (by omega) (by omega) (by omega)
      have hrk : rOK (mU E 98 1 0) := rOK_congr (fun y i q => eR y i (by unfold supR at q; omega) (by unfold supR at q; omega)) (rOK_of hR hk)
      obtain ⟨G, g1, g2, g3, g4, g5⟩ := a3 D (mU E 98 1 0) hW hP hSc (fun _ _ _ => rfl) hrk (fun y i q => eR y i (by omega) (by omega))
      obtain ⟨c, q⟩ := q185 (mU E 98 1 0) (fun y i q => eR y i (by omega) (by omega))
      have E98 : E 98 1 = D 106 12 := by rw [a2 _ _ (by omega) (by omega) (by omega) (by omega) (by omega)]; exact t1
      have rowE := isRow98 (D := E) (by omega) (by omega)
      have E12 := eR 106 12 (by omega) (by omega)
      have E16 := eR 106 16 (by omega) (by omega)
      have s150 : qR 150 [(3, 106)] (mk (mU E 98 1 0)) = some ((0, w), mk (mU E 98 1 0)) := by
        have mc := mat_cg (D := D) (E := mU E 98 1 0) (fun y i q => eR y i (by omega) (by omega))
        have e6 := eR 106 6 (by omega) (by omega)
        exact sq_150h (rfW_cg (fun y i q => eR y i (by omega) (by omega)) (rfW_of hW hSa)) w0 (by omega) ((mc w).2 m) (fun v v0 v1 q => mat_one hW v0 (by omega) w0 w1 ((mc v).1 q) m)
      have hX : ∀ y i, ¬ (y = 98 ∧ i = 1) → ¬ (y = 106 ∧ i = 12) → mU G 106 12 0 y i = mrg E G y i := fun y i p1 p2 => by
        rw [mU_other p2]
        by_cases cr : rfc y
        · rw [mrg_r _ _ cr]
        · rw [mrg_c _ _ cr, g5 y i (by unfold rfc at cr; omega) (by unfold rfc at cr; omega) (by unfold rfc at cr; omega) (by unfold rfc at cr; omega) (by unfold rfc at cr; omega), o1 y i p1]
      have hD : ∀ y i, ¬ (7 ≤ y ∧ y ≤ 10) → y < 131 → -131 < y → y ≠ 5 → ¬ (102 ≤ y ∧ y ≤ 103) → ¬ (y = 98 ∧ i = 1) → ¬ (y = 106 ∧ (i = 8 ∨ i = 12 ∨ i = 16)) → ¬ (y = 110 ∨ y = 111 ∨ y = 113 ∨ y = 117) → mU G 106 12 0 y i = D y i := fun y i p1 p2 p3 p4 p5 p6 p7 p8 => by
        rw [mU_other (by omega), g5 y i (by omega) (by omega) (by omega) (by omega) (by omega), o1 y i p6, a2 y i p1 (by omega) (by omega) (by omega) (by omega)]
      refine ⟨w, mU E 98 1 0, mU G 106 12 0, ?_, ?_, third_rel hR (fun y i q => hD y i (by omega) (by omega) (by omega) (by omega) (by omega) (by omega) (by omega) (by omega)) ?_ mU_s (RW_congr (fun y i q => hX y i (by unfold supW at q; omega) (by unfold supW at q; omega)) g2) (RP_congr (fun y i q => hX y i (by unfold supP at q; omega) (by unfold supP at q; omega)) g3) (RSc_congr (fun y i q => hX y i (by omega) (by omega)) g4) (RN_mono (RN_congr (fun y i q => hD y i (by unfold supN at q; omega) (by unfold supN at q; omega) (by unfold supN at q; omega) (by unfold supN at q; omega) (by unfold supN at q; omega) (by unfold supN at q; omega) (by unfold supN at q; omega) (by unfold supN at q; omega)) hR.2.2.2.2)), fun i => hD _ _ (by omega) (by omega) (by omega) (by omega) (by omega) (by omega) (by omega) (by omega), fun i => hD _ _ (by omega) (by omega) (by omega) (by omega) (by omega) (by omega) (by omega) (by omega)⟩
      · rw [st1, e_116_77, if_pos (by rw [if_pos (by omega)]), e_116_80, if_pos rfl, if_pos rfl, e_116_125, if_neg (by decide), a1]
        simp only [Option.bind_some, psh_9]
        rw [e_116_137, row_clear rowE, mu_98_1]
        simp only [Option.bind_some, psh_0, e_116_163]
      · rw [r_189, E12, if_neg z, s150]
        simp only [Option.bind_some, psh_0]
        rw [e_189_14, q]
        simp only [Option.bind_some, psh_0]
        rw [e_189_19, if_neg n0, E16, if_neg full, g1]
        simp only [Option.bind_some, psh_9, e_189_41]
      · rw [mU_r (by omega), g5 _ _ (by omega) (by omega) (by omega) (by omega) (by omega), mU_s]
  · have s9 := sp_9n hW hSa hno
    have s150 : ∀ E : Mem, (∀ y i, 106 ≤ y → y ≤ 130 → E y i = D y i) → qR 150 [(3, 106)] (mk E) = some ((0, -1), mk E) := fun E hE => by
      have mc := mat_cg (D := D) (E := E) (fun y i q => hE y i (by omega) (by omega))
      have e6 := hE 106 6 (by omega) (by omega)
      exact sq_150n (rfW_cg (fun y i q => hE y i (by omega) (by omega)) (rfW_of hW hSa)) (fun v v0 v1 q => hno v v0 (by omega) ((mc v).1 q))
    have st1 : ∀ t, qR 36 [(3, 11), (3, 98)] (mk D) = some ((0, t), mk D) → qR 116 [(3, 2)] (mk D) = qE 116 40 [(3, 2), (0, -1), (9, 0), (9, 0), (9, 0)] [(0, t)] (mk D) := fun t ht => by
      rw [st0, s9]
      simp only [Option.bind_some, psh_0]
      rw [e_116_24, if_pos (by decide), ht]
      simp only [Option.bind_some, psh_0]
    rcases nm_or D with ⟨n, n0, n1, mm⟩ | hnn
    · obtain ⟨tt, st2, st3, c, c0, cl, ec⟩ := slot_c hN n0 n1 mm.1
      have gn : ¬ n < 0 := by omega
      have g8 : 0 ≤ n ∧ n < 8 := ⟨n0, n1⟩
      have m8 := hN.2.1
      have gc8 : 0 ≤ c ∧ c < 8 := by omega
      have s36 : qR 36 [(3, 11), (3, 98)] (mk D) = some ((0, D 13 n), mk D) := by
        simp [r_36, sp_35h hN hSa n0 n1 mm, psh_0, e_36_5, gn, g8]
      have q185 : ∀ E : Mem, (∀ y i, 106 ≤ y → y ≤ 130 → E y i = D y i) → qR 185 [(3, 106)] (mk E) = some ((0, c), mk E) := fun E hE => (sq_185 hN hSa (fun y i q => hE y i (by omega) (by omega))).1 n c n0 n1 mm c0 cl ec
      have t120 : D 120 c = D 13 n := ec.2.1.symm
      rcases tt with tt | tt
      · -- counted the second time
        have st4 : qR 116 [(3, 2)] (mk D) = (qR 37 [(3, 11), (3, 98)] (mk D)).bind fun w => qE 116 153 [(3, 2), (0, -1), (0, 0), (0, 0), (0, -1)] (psh w.1 [(0, 100)]) w.2 := by
          rw [st1 _ s36, tt, e_116_40, if_pos (by decide), e_116_51, if_pos (by decide), if_pos rfl, e_116_80, if_pos rfl, if_pos rfl, e_116_125, if_pos rfl]
        have s37 : qR 37 [(3, 11), (3, 98)] (mk D) = some ((0, 2), mk (incE D n)) := by
          have h := sp_37e (D := D) n0 n1 (by omega) (by omega)
          rw [tt] at h
          rw [r_37, sp_35h hN hSa n0 n1 mm]
          simp only [Option.bind_some, psh_0]
          rw [e_37_5, if_neg gn, h]; rfl
        have oI : ∀ y i, ¬ (y = 13 ∧ i = n) → ¬ (y = 14 ∧ i = n) → ¬ (y = 11 ∧ i = 3) → incE D n y i = D y i := fun y i p1 p2 p3 => by unfold incE; rw [mU_other p2, mU_other p3, mU_other p1]
        have rowI := isRow98 (D := incE D n) (by rw [oI _ _ (by omega) (by omega) (by omega)]; omega) (by rw [oI _ _ (by omega) (by omega) (by omega)]; omega)
        have eI : ∀ y i, ¬ (y = 13 ∧ i = n) → ¬ (y = 14 ∧ i = n) → ¬ (y = 11 ∧ i = 3) → ¬ (y = 98 ∧ i = 1) → mU (incE D n) 98 1 0 y i = D y i := fun y i p1 p2 p3 p4 => by rw [mU_other p4, oI y i p1 p2 p3]
        have eR : ∀ y i, 106 ≤ y → y ≤ 130 → mU (incE D n) 98 1 0 y i = D y i := fun y i q1 q2 => eI y i (by omega) (by omega) (by omega) (by omega)
        have E12 := eR 106 12 (by omega) (by omega)
        have E120 := eR 120 c (by omega) (by omega)
        have fin := sq_189e (D := mU (incE D n) 98 1 0) (c := c) (x := -1) (t := 1) (q := D 106 22) gc8.1 gc8.2 (by omega) (by omega) (by omega) (eR 106 22 (by omega) (by omega)) (by omega) (by omega)
        obtain ⟨X, hX⟩ : ∃ X, X = mU (mU (mU (mU (mU (incE D n) 98 1 0) 120 c (1 + 1)) 106 22 (D 106 22 + 1)) 121 c (D 106 22 + 1)) 106 12 0 := ⟨_, rfl⟩
        rw [← hX] at fin
        have oX : ∀ y i, ¬ (y = 13 ∧ i = n) → ¬ (y = 14 ∧ i = n) → ¬ (y = 11 ∧ i = 3) → ¬ (y = 98 ∧ i = 1) → ¬ (y = 120 ∧ i = c) → ¬ (y = 121 ∧ i = c) → ¬ (y = 106 ∧ (i = 22 ∨ i = 12)) → X y i = D y i := fun y i p1 p2 p3 p4 p5 p6 p7 => by rw [hX, mU_other (by omega), mU_other p6, mU_other (by omega), mU_other p5, eI y i p1 p2 p3 p4]
        have X13 : X 13 n = 2 := by rw [hX, mU_r (by decide), mU_r (by decide), mU_r (by decide), mU_r (by decide), mU_r (by decide)]; unfold incE; rw [mU_r (by decide), mU_r (by decide), mU_s, tt]; rfl
        have X14 : X 14 n = D 106 22 + 1 := by rw [hX, mU_r (by decide), mU_r (by decide), mU_r (by decide), mU_r (by decide), mU_r (by decide)]; unfold incE; rw [mU_s, nk.1]
        have X11 : X 11 3 = D 106 22 + 1 := by rw [hX, mU_r (by decide), mU_r (by decide), mU_r (by decide), mU_r (by decide), mU_r (by decide)]; unfold incE; rw [mU_r (by decide), mU_s, nk.1]
        have X120 : X 120 c = 2 := by rw [hX, mU_r (by decide), mU_r (by decide), mU_r (by decide), mU_s]; rfl
        have X121 : X 121 c = D 106 22 + 1 := by rw [hX, mU_r (by decide), mU_s]
        have X22 : X 106 22 = D 106 22 + 1 := by rw [hX, mU_other (by decide), mU_r (by decide), mU_s]
        have X12 : X 106 12 = 0 := by rw [hX, mU_s]
        have X98 : X 98 1 = 0 := by rw [hX, mU_r (by decide), mU_r (by decide), mU_r (by decide), mU_r (by decide), mU_s]
        have hRN : RN X (k + 1) := by
          refine ⟨?_, RN_inc hN n0 n1 tt c0 cl ec X13 X14 X11 (fun y i y0 y1 p1 p2 => oX y i p1 p2 (by omega) (by omega) (by omega) (by omega) (by omega)) (oX _ _ (by omega) (by omega) (by omega) (by omega) (by omega) (by omega) (by omega)) X22 X120 X121 (fun y i y0 y1 p1 p2 => oX y i (by omega) (by omega) (by omega) (by omega) p1 p2 (by omega))⟩
          rw [oX 0 3 (by omega) (by omega) (by omega) (by omega) (by omega) (by omega) (by omega), oX 106 6 (by omega) (by omega) (by omega) (by omega) (by omega) (by omega) (by omega)]; exact hsl
        refine ⟨102, mU (incE D n) 98 1 0, X, ?_, ?_, third_rel hR (fun y i q => oX y i (by omega) (by omega) (by omega) (by omega) (by omega) (by omega) (by omega)) X98 X12 (RW_mono (RW_congr (fun y i q => oX y i (by unfold supW at q; omega) (by unfold supW at q; omega) (by unfold supW at q; omega) (by unfold supW at q; omega) (by unfold supW at q; omega) (by unfold supW at q; omega) (by unfold supW at q; omega)) hW)) (RP_congr (fun y i q => oX y i (by unfold supP at q; omega) (by unfold supP at q; omega) (by unfold supP at q; omega) (by unfold supP at q; omega) (by unfold supP at q; omega) (by unfold supP at q; omega) (by unfold supP at q; omega)) hP) (RSc_congr (fun y i q => oX y i (by omega) (by omega) (by omega) (by omega) (by omega) (by omega) (by omega)) hSc) hRN, fun i => oX _ _ (by omega) (by omega) (by omega) (by omega) (by omega) (by omega) (by omega), fun i => oX _ _ (by omega) (by omega) (by omega) (by omega) (by omega) (by omega) (by omega)⟩
        · rw [st4, s37]
          simp only [Option.bind_some, psh_0]
          rw [e_116_153, row_clear rowI, mu_98_1]
          simp only [Option.bind_some, psh_0, e_116_163]
          rfl
        · rw [r_189, E12, if_neg z, s150 _ eR]
          simp only [Option.bind_some, psh_0]
          rw [e_189_14, q185 _ eR]
          simp only [Option.bind_some, psh_0]
          rw [e_189_19, if_pos (by decide), if_neg (by omega), if_pos gc8, E120, t120, tt, if_neg (by decide), if_neg (by omega), fin]
          rfl
      · -- the third time: it comes
        have s57 := row_full hrow2
        rw [e102] at s57
        have st4 : qR 116 [(3, 2)] (mk D) = qE 116 77 [(3, 2), (0, -1), (0, 1), (0, 1), (9, 0)] [(0, if D 106 16 < 60 then 0 else 1)] (mk D) := by
          rw [st1 _ s36, tt, e_116_40, if_neg (by decide), e_116_51, if_pos (by decide), if_neg (by decide), e_116_60, s57]
          simp only [Option.bind_some, psh_0]
        have rf0 : ∀ E : Mem, (∀ y i, 106 ≤ y → y ≤ 130 → E y i = D y i) → qR 189 [(3, 106)] (mk E) = if D 106 16 = 60 then some ((0, -2), mk E) else if D 106 6 = 80 then some ((0, -2), mk E) else (qR 187 [(3, 106), (0, c)] (mk E)).bind fun w => qE 189 88 [(3, 106), (0, -1), (0, c)] (psh w.1 []) w.2 := fun E hE => by
          rw [r_189, hE 106 12 (by omega) (by omega), if_neg z, s150 E hE]
          simp only [Option.bind_some, psh_0]
          rw [e_189_14, q185 E hE]
          simp only [Option.bind_some, psh_0]
          rw [e_189_19, if_pos (by decide), if_neg (by omega), if_pos gc8, hE 120 c (by omega) (by omega), t120, tt, if_pos rfl, hE 106 16 (by omega) (by omega), hE 106 6 (by omega) (by omega)]
        by_cases full : D 106 16 = 60
        · refine case_same (v := -2) hR ?_ ?_
          · rw [st4, e_116_77, if_neg (by rw [if_neg (by omega)]; decide)]
          · rw [rf0 D (fun _ _ _ _ => rfl), if_pos full]
        · have st5 : qR 116 [(3, 2)] (mk D) = qE 116 91 [(3, 2), (0, -1), (0, 1), (0, 1), (9, 0)] [(0, if D 5 2 < 80 then 0 else 1)] (mk D) := by
            rw [st4, e_116_77, if_pos (by rw [if_pos (by omega)]), e_116_80, if_neg (by decide), r_5]
            by_cases c5 : D 5 2 < 80
            · simp only [if_pos c5, Option.bind_some, psh_0]
            · simp only [if_neg c5, Option.bind_some, psh_0]
          by_cases wf : D 106 6 = 80
          · refine case_same (v := -2) hR ?_ ?_
            · rw [st5, e_116_91, if_neg (by rw [if_neg (by omega)]; decide)]
            · rw [rf0 D (fun _ _ _ _ => rfl), if_neg full, if_pos wf]
          · obtain ⟨A, E, R, G1, G2, a1, a2, a3, a4, a5, a6, a7, a8, a9, a10⟩ := third_come hR hk (by omega) hno n0 n1 mm c0 cl ec (by omega) (by omega)
            have rowE := isRow98 (D := E) a3.1 a3.2
            refine ⟨D 106 6, mU E 98 1 0, mU G2 106 12 0, ?_, ?_, a8, a9, a10⟩
            · rw [st5, e_116_91, if_pos (by rw [if_pos (by omega)]), if_neg (by decide), sp_39h hN hSa n0 n1 mm]
              simp only [Option.bind_some, psh_9]
              rw [e_116_112, a1]
              simp only [Option.bind_some, psh_0]
              rw [e_116_124, e_116_125, if_neg (by decide), a2]
              simp only [Option.bind_some, psh_9]
              rw [e_116_137, row_clear rowE, mu_98_1]
              simp only [Option.bind_some, psh_0, e_116_163]
            · rw [rf0 _ a4, if_neg full, if_neg wf, a5]
              simp only [Option.bind_some, psh_9]
              rw [e_189_88, a6]
              simp only [Option.bind_some, psh_0]
              rw [e_189_93, a7]
              simp only [Option.bind_some, psh_9, e_189_99]
    · -- the first time
      obtain ⟨C, b1, b2, b3⟩ := add_new hN hSa hk (by omega) hnn
      have s36 : qR 36 [(3, 11), (3, 98)] (mk D) = some ((0, 0), mk D) := by
        simp [r_36, sp_35n hN hSa hnn, psh_0, e_36_5]
      have st4 : qR 116 [(3, 2)] (mk D) = (qR 37 [(3, 11), (3, 98)] (mk D)).bind fun w => qE 116 153 [(3, 2), (0, -1), (0, 0), (0, 0), (0, -1)] (psh w.1 [(0, 100)]) w.2 := by
        rw [st1 _ s36, e_116_40, if_pos (by decide), e_116_51, if_pos (by decide), if_pos rfl, e_116_80, if_pos rfl, if_pos rfl, e_116_125, if_pos rfl]
      have rowC := isRow98 (D := C) (by rw [b2 _ _ (by omega)]; omega) (by rw [b2 _ _ (by omega)]; omega)
      have eI : ∀ y i, ¬ (11 ≤ y ∧ y ≤ 30) → ¬ (y = 98 ∧ i = 1) → mU C 98 1 0 y i = D y i := fun y i p1 p2 => by rw [mU_other p2, b2 y i p1]
      have eR : ∀ y i, 106 ≤ y → y ≤ 130 → mU C 98 1 0 y i = D y i := fun y i q1 q2 => eI y i (by omega) (by omega)
      obtain ⟨F, c, f1, f2, f3, f4, f5, f6, f7, f8⟩ := b3 (mU C 98 1 0) (fun y i q => eR y i (by omega) (by omega))
      have E12 := eR 106 12 (by omega) (by omega)
      have q185 := (sq_185 (E := mU C 98 1 0) hN hSa (fun y i q => eR y i (by omega) (by omega))).2 hnn
      have fin := sq_189e (D := F) (c := c) (x := -1) (t := 0) (q := D 106 22) f3 f4 f5 (by omega) (by omega) f6 (by omega) (by omega)
      obtain ⟨X, hX⟩ : ∃ X, X = mU (mU (mU (mU F 120 c (0 + 1)) 106 22 (D 106 22 + 1)) 121 c (D 106 22 + 1)) 106 12 0 := ⟨_, rfl⟩
      rw [← hX] at fin
      have oF : ∀ y i, ¬ (y = 120 ∧ i = c) → ¬ (y = 121 ∧ i = c) → ¬ (y = 106 ∧ (i = 22 ∨ i = 12)) → X y i = F y i := fun y i p5 p6 p7 => by rw [hX, mU_other (by omega), mU_other p6, mU_other (by omega), mU_other p5]
      have oX : ∀ y i, ¬ (11 ≤ y ∧ y ≤ 30) → ¬ (y = 98 ∧ i = 1) → ¬ (118 ≤ y ∧ y ≤ 121) → ¬ (y = 106 ∧ (i = 22 ∨ i = 12 ∨ i = 21)) → X y i = D y i := fun y i p1 p2 p3 p4 => by rw [oF y i (by omega) (by omega) (by omega), f7 y i p3 (by omega), eI y i p1 p2]
      have X120 : X 120 c = 1 := by rw [hX, mU_r (by decide), mU_r (by decide), mU_r (by decide), mU_s]; rfl
      have X121 : X 121 c = D 106 22 + 1 := by rw [hX, mU_r (by decide), mU_s]
      have X22 : X 106 22 = D 106 22 + 1 := by rw [hX, mU_other (by decide), mU_r (by decide), mU_s]
      have X12 : X 106 12 = 0 := by rw [hX, mU_s]
      have X98 : X 98 1 = 0 := by rw [oF _ _ (by omega) (by omega) (by omega), f7 _ _ (by omega) (by omega), mU_s]
      have hRN : RN X (k + 1) := by
        refine ⟨?_, f8 X (fun y i y0 y1 => ?_) ⟨oF _ _ (by omega) (by omega) (by omega), X22, X120, X121⟩ (fun y i y0 y1 p1 p2 => oF y i p1 p2 (by omega))⟩
        · rw [oX 0 3 (by omega) (by omega) (by omega) (by omega), oX 106 6 (by omega) (by omega) (by omega) (by omega)]; exact hsl
        · rw [oF y i (by omega) (by omega) (by omega), f7 y i (by omega) (by omega), mU_other (by omega)]
      refine ⟨101, mU C 98 1 0, X, ?_, ?_, third_rel hR (fun y i q => oX y i (by omega) (by omega) (by omega) (by omega)) X98 X12 (RW_mono (RW_congr (fun y i q => oX y i (by unfold supW at q; omega) (by unfold supW at q; omega) (by unfold supW at q; omega) (by unfold supW at q; omega)) hW)) (RP_congr (fun y i q => oX y i (by unfold supP at q; omega) (by unfold supP at q; omega) (by unfold supP at q; omega) (by unfold supP at q; omega)) hP) (RSc_congr (fun y i q => oX y i (by omega) (by omega) (by omega) (by omega)) hSc) hRN, fun i => oX _ _ (by omega) (by omega) (by omega) (by omega), fun i => oX _ _ (by omega) (by omega) (by omega) (by omega)⟩
      · rw [st4, b1]
        simp only [Option.bind_some, psh_0]
        rw [e_116_153, row_clear rowC, mu_98_1]
        simp only [Option.bind_some, psh_0, e_116_163]
        rfl
      · have e1 : w32 (F 106 21 - 1) = c := by rw [w32_id (by omega) (by omega)]; exact f2.symm
        rw [r_189, E12, if_neg z, s150 _ eR]
        simp only [Option.bind_some, psh_0]
        rw [e_189_14, q185]
        simp only [Option.bind_some, psh_0]
        rw [e_189_19, if_pos (by decide), if_pos (by decide), if_pos (by decide), f1]
        simp only [Option.bind_some, psh_9]
        rw [e_189_114, e1, fin]
        rfl
