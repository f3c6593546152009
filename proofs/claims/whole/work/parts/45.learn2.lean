/-! a word learnt by the class: D has V's class cells -/
def cls (D V : Mem) : Prop := ∀ y i, ¬ rfc y → D y i = V y i
theorem cls_rfl (D : Mem) : cls D D := fun _ _ _ => rfl
theorem sc_8 {D V : Mem} {k : Int} (hR : RW V k) (hc : cls D V) (w : Int) : (thr V w → qR 8 [(3, 5), (0, w)] (mk D) = some ((0, 1), mk D)) ∧ (¬ thr V w → qR 8 [(3, 5), (0, w)] (mk D) = some ((0, 0), mk D)) := by
  have hn := hR.1
  have h52 : D 5 2 = V 106 6 := by rw [hc 5 2 (by unfold rfc; omega)]; exact hn.1
  by_cases c : 0 ≤ w ∧ w < D 5 2
  · obtain ⟨t1, t2⟩ := thr_cl hR c.1 (by omega)
    have e1 : ¬ (131 + 3 * w = 0) := by omega
    have e2 := mk_wk c.1 c.2
    have e3 : mk D (131 + 3 * w) 3 = V 112 w := by rw [mk_wf c.1 (by decide), hc _ _ (by unfold rfc; omega)]; exact t1
    have main : qR 8 [(3, 5), (0, w)] (mk D) = if V 112 w = 0 then some ((0, 0), mk D) else some ((0, 1), mk D) := by
      rw [r_8, sp_7 (by omega), if_pos c]
      simp only [Option.bind_some, psh_3, e_8_5, if_neg e1, e2, e3, if_true]
    rw [main]
    constructor
    · intro h; rw [if_neg (by have := h.2.2; omega)]
    · intro h; rw [if_pos (by rcases t2 with t | t; exact t; exact absurd ⟨c.1, by omega, t⟩ h)]
  · have main : qR 8 [(3, 5), (0, w)] (mk D) = some ((0, 0), mk D) := by
      rw [r_8, sp_7 (by omega), if_neg c]
      simp only [Option.bind_some, psh_3, e_8_5, if_true]
    exact ⟨fun h => absurd ⟨h.1, by have := h.2.1; omega⟩ c, fun _ => main⟩
theorem sc_136 {D V : Mem} {k : Int} (hW : RW V k) (hS : RSc V) (hcl : cls D V) : qR 136 [(3, 2)] (mk D) = some ((0, lat V), mk D) := by
  have hn := hW.1
  obtain ⟨c1, s0, s1, c4, c5⟩ := hS
  have d1 : D 102 1 = V 106 16 := by rw [hcl _ _ (by unfold rfc; omega)]; exact c1
  have d2 : ∀ i, D 103 i = V 117 i := fun i => by rw [hcl _ _ (by unfold rfc; omega), c4]
  have hrow := isRow102 (D := D) (by omega) (by omega)
  have e1 : w32 (V 106 16 - 1) = V 106 16 - 1 := w32_id (by omega) (by omega)
  have e0 : mk D 102 1 = V 106 16 := d1
  rw [r_136, row_size hrow, e0]
  simp only [Option.bind_some, psh_0]
  rw [e_136_11, e1, row_at hrow]
  simp only [Option.bind_some, psh_0]
  have er : rowAt (mk D) 102 (V 106 16 - 1) = if 0 < V 106 16 then V 117 (V 106 16 - 1) else -1 := by
    unfold rowAt
    rw [e0]
    by_cases h : 0 < V 106 16
    · rw [if_pos h, if_pos (by omega), ← d2]; rfl
    · rw [if_neg h, if_neg (by omega)]
  rw [er, e_136_16]
  unfold lat
  by_cases h : 0 < V 106 16
  · have := c5 (V 106 16 - 1) (by omega) (by omega)
    obtain ⟨t1, t2⟩ := thr_cl hW this.1 this.2
    rw [if_pos h]
    rcases t2 with t | t
    · rw [(sc_8 hW hcl _).2 (fun q => by have := q.2.2; omega)]
      simp only [Option.bind_some, psh_0]
      rw [e_136_25, if_pos rfl, if_neg (by omega)]
    · rw [(sc_8 hW hcl _).1 ⟨this.1, this.2, t⟩]
      simp only [Option.bind_some, psh_0]
      rw [e_136_25, if_neg (by decide), if_pos ⟨h, t⟩]
  · rw [if_neg h, (sc_8 hW hcl _).2 (fun q => by have := q.1; omega)]
    simp only [Option.bind_some, psh_0]
    rw [e_136_25, if_pos rfl, if_neg (by omega)]
theorem sc_139 {D V : Mem} {k w : Int} (hW : RW V k) (hk : k ≤ 1001) (hP : RP V) (hS : RSc V) (hcl : cls D V) (w0 : 0 ≤ w) (w1 : w < V 106 6) (room : V 106 16 < 60) : ∃ E, qR 139 [(3, 2), (0, w)] (mk D) = some ((9, 0), mk E) ∧ LPr E (V 106 6) (lf V (V 7 3) w) ∧ E (131 + 3 * w) 1 = capm (V 110 w) ∧ E (131 + 3 * w) 2 = V 106 8 + 1 ∧ E 5 4 = V 106 8 + 1 ∧ E 102 1 = V 106 16 + 1 ∧ E 103 (V 106 16) = w ∧ ∀ y i, ¬ (7 ≤ y ∧ y ≤ 10) → ¬ (y = 131 + 3 * w ∧ (i = 1 ∨ i = 2)) → ¬ (y = 5 ∧ i = 4) → ¬ (y = 102 ∧ i = 1) → ¬ (y = 103 ∧ i = V 106 16) → E y i = D y i := by
  have hn := hW.1
  have h8 := hW.2.1
  have hw := hW.2.2.1 w w0 w1
  obtain ⟨_, _, ⟨x1, x2⟩, _⟩ := hw
  have d52 : D 5 2 = V 106 6 := by rw [hcl _ _ (by unfold rfc; omega)]; exact hn.1
  have w5 : 0 ≤ w ∧ w < D 5 2 := by omega
  have hg : ¬ (131 + 3 * w = 0) := by omega
  have d1 : D (131 + 3 * w) 1 = V 110 w := by rw [hcl _ _ (by unfold rfc; omega)]; exact x1
  have s136 := sc_136 hW hS hcl
  obtain ⟨c1, s0, s1, c4, c5⟩ := hS
  -- lat's range
  have hl : -1 ≤ lat V ∧ lat V < V 106 6 := by
    unfold lat
    by_cases h : 0 < V 106 16 ∧ V 112 (V 117 (V 106 16 - 1)) = 1
    · rw [if_pos h]; have := c5 (V 106 16 - 1) (by omega) (by omega); omega
    · rw [if_neg h]; omega
  obtain ⟨D1, hD1⟩ : ∃ D1, D1 = mU D (131 + 3 * w) 1 (capm (V 110 w)) := ⟨_, rfl⟩
  have o1 : ∀ y i, ¬ (y = 131 + 3 * w ∧ i = 1) → D1 y i = D y i := fun y i q => by rw [hD1, mU_other q]
  have L0 : LPr D1 (V 106 6) (fun a b => V 113 (80 * a + b)) := LP_congr (fun y i y0 y1 => by rw [o1 _ _ (by omega)]; exact hcl _ _ (by unfold rfc; omega)) (LP_RP hP)
  have D73 : D1 7 3 = V 7 3 := by rw [o1 _ _ (by omega)]; exact hcl _ _ (by unfold rfc; omega)
  have st : qR 13 [(3, 5), (0, w), (0, lat V)] (mk D) = qE 13 26 [(3, 5), (0, w), (0, lat V), (3, 131 + 3 * w)] [] (mk D1) := by
    have e1 : w32 (V 110 w + 1) = V 110 w + 1 := w32_id (by omega) (by omega)
    have e2 : mk D (131 + 3 * w) 1 = V 110 w := by rw [mk_wf w0 (by decide)]; exact d1
    have ec : qR 217 [(0, V 110 w + 1), (0, 1000000)] (mk D) = some ((0, capm (V 110 w)), mk D) := by
      rw [r_217]; unfold capm
      by_cases c : V 110 w < 1000000
      · rw [if_pos (by omega), if_pos c]
      · rw [if_neg (by omega), if_neg c]
    rw [r_13, sp_7 (by omega) w, if_pos w5]
    simp only [Option.bind_some, psh_3]
    rw [e_13_5, if_neg hg, if_pos (mk_wk w5.1 w5.2), e2, e1, ec]
    simp only [Option.bind_some, psh_0]
    rw [e_13_23, if_pos (mk_wk w5.1 w5.2), mu_wf w0 (by decide), ← hD1]
  have pr : ∃ H, qE 13 26 [(3, 5), (0, w), (0, lat V), (3, 131 + 3 * w)] [] (mk D1) = qE 13 55 [(3, 5), (0, w), (0, lat V), (3, 131 + 3 * w)] [] (mk H) ∧ LPr H (V 106 6) (lf V (V 7 3) w) ∧ ∀ y i, ¬ (7 ≤ y ∧ y ≤ 10) → H y i = D1 y i := by
    rw [e_13_26]
    by_cases c : lat V < 0
    · refine ⟨D1, by rw [if_pos c], ?_, fun _ _ _ => rfl⟩
      have : lf V (V 7 3) w = fun a b => V 113 (80 * a + b) := funext fun a => funext fun b => by unfold lf; rw [if_neg (by omega)]
      rw [this]; exact L0
    · have b113 := RP_bd hP (a := lat V) (b := w) (by omega) (by omega) w0 (by omega)
      have s43 : qR 43 [(3, 7), (0, lat V), (0, w)] (mk D1) = some ((0, V 113 (80 * lat V + w)), mk D1) := by
        rcases pair_or D1 (lat V) w with ⟨p, h0, h1, ha, hb⟩ | h
        · have hp : 0 ≤ p ∧ p < 150 := by have := L0.1; omega
          have hn : ¬ p < 0 := by omega
          have := (L0.2.1 p h0 h1).2.2.2
          rw [ha, hb] at this
          rw [r_43, lp_42h L0 h0 h1 ha hb]
          simp only [Option.bind_some, psh_0, e_43_6, if_neg hn, if_pos hp, this]
        · have := L0.2.2.2 (lat V) w (by omega) (by omega) w0 (by omega) h
          rw [r_43, lp_42n L0 h]
          simp [psh_0, e_43_6, this]
      have e1 : w32 (V 113 (80 * lat V + w) + 1) = V 113 (80 * lat V + w) + 1 := w32_id (by omega) (by omega)
      have ec : qR 217 [(0, V 113 (80 * lat V + w) + 1), (0, 1000000)] (mk D1) = some ((0, capm (V 113 (80 * lat V + w))), mk D1) := by
        rw [r_217]; unfold capm
        by_cases c : V 113 (80 * lat V + w) < 1000000
        · rw [if_pos (by omega), if_pos c]
        · rw [if_neg (by omega), if_neg c]
      obtain ⟨H, g1, g2, g3⟩ := sp_45 L0 hn.2.2 (a := lat V) (b := w) (c := capm (V 113 (80 * lat V + w))) (by omega) ⟨w0, w1⟩ (by unfold capm; split <;> omega)
      refine ⟨H, ?_, ?_, g3⟩
      · rw [if_neg c, s43]
        simp only [Option.bind_some, psh_0]
        rw [e_13_45, e1, ec]
        simp only [Option.bind_some, psh_0]
        rw [e_13_52, g1]
        simp only [Option.bind_some, psh_9]
      · have : lf V (V 7 3) w = fun x y => if x = lat V ∧ y = w then (if V 113 (80 * lat V + w) = 0 ∧ 150 ≤ D1 7 3 then 0 else capm (V 113 (80 * lat V + w))) else V 113 (80 * x + y) := funext fun a => funext fun b => by
          unfold lf
          rw [D73]
          by_cases e : a = lat V ∧ b = w
          · rw [if_pos ⟨by omega, e⟩, if_pos e, e.1, e.2]
          · rw [if_neg (fun q => e q.2), if_neg e]
        rw [this]; exact g2
  obtain ⟨H, p1, p2, p3⟩ := pr
  have H54 : H 5 4 = V 106 8 := by rw [p3 _ _ (by omega), o1 _ _ (by omega), hcl _ _ (by unfold rfc; omega)]; exact h8.1
  have H52 : H 5 2 = V 106 6 := by rw [p3 _ _ (by omega), o1 _ _ (by omega)]; exact d52
  have f1 : w32 (V 106 8 + 1) = V 106 8 + 1 := w32_id (by omega) (by omega)
  obtain ⟨K, hK⟩ : ∃ K, K = mU (mU H 5 4 (V 106 8 + 1)) (131 + 3 * w) 2 (V 106 8 + 1) := ⟨_, rfl⟩
  have oK : ∀ y i, ¬ (y = 5 ∧ i = 4) → ¬ (y = 131 + 3 * w ∧ i = 2) → K y i = H y i := fun y i q1 q2 => by rw [hK, mU_other q2, mU_other q1]
  have s13 : qR 13 [(3, 5), (0, w), (0, lat V)] (mk D) = some ((9, 0), mk K) := by
    have k18 : mk (mU H 5 4 (V 106 8 + 1)) (-(131 + 3 * w)) 0 = 18 := mk_wk w0 (by rw [mU_other (by omega), H52]; exact w1)
    have q4 : mU H 5 4 (V 106 8 + 1) 5 4 = V 106 8 + 1 := mU_s
    rw [st, p1, e_13_55, H54, f1, k18, if_pos rfl, q4, mu_wf w0 (by decide), ← hK, e_13_73]
  have K102 : K 102 1 = V 106 16 := by rw [oK _ _ (by omega) (by omega), p3 _ _ (by omega), o1 _ _ (by omega), hcl _ _ (by unfold rfc; omega)]; exact c1
  have rowK := isRow102 (D := K) (by omega) (by omega)
  have e0 : mk K 102 1 = V 106 16 := K102
  refine ⟨psh102 K w, ?_, LP_congr (fun y i y0 y1 => ?_) p2, ?_, ?_, ?_, ?_, ?_, fun y i q1 q2 q3 q4 q5 => ?_⟩
  · rw [r_139, s136]
    simp only [Option.bind_some, psh_0]
    rw [e_139_9, s13]
    simp only [Option.bind_some, psh_9]
    rw [e_139_12, row_push rowK (by rw [e0]; exact room), rp102]
    simp only [Option.bind_some, psh_9, e_139_20]
  · unfold psh102; rw [mU_r (by omega), mU_r (by omega), oK _ _ (by omega) (by omega)]
  · unfold psh102; rw [mU_r (by omega), mU_r (by omega), oK _ _ (by omega) (by omega), p3 _ _ (by omega), hD1, mU_s]
  · unfold psh102; rw [mU_r (by omega), mU_r (by omega), hK, mU_s]
  · unfold psh102; rw [mU_r (by omega), mU_r (by omega), hK, mU_r (by omega), mU_s]
  · unfold psh102; rw [mU_s, K102]
  · unfold psh102; rw [mU_r (by omega), K102, mU_s]
  · unfold psh102; rw [mU_other q4, K102, mU_other q5, oK _ _ q3 (by omega), p3 _ _ q1, o1 _ _ (by omega)]
/-- the relation's word part behind a learning -/
theorem RW_learn {V X : Mem} {k m w : Int} (hW : RW V k) (hm : V 106 8 + 1 ≤ 2 * m) (w0 : 0 ≤ w) (w1 : w < V 106 6)
    (a1 : X (131 + 3 * w) 1 = capm (V 110 w)) (a2 : X (131 + 3 * w) 2 = V 106 8 + 1) (a3 : X 5 4 = V 106 8 + 1) (b1 : X 110 w = capm (V 110 w)) (b2 : X 111 w = V 106 8 + 1) (b3 : X 106 8 = V 106 8 + 1)
    (hf : ∀ y i, supW y i → ¬ (y = 131 + 3 * w ∧ (i = 1 ∨ i = 2)) → ¬ (y = 5 ∧ i = 4) → ¬ (y = 110 ∧ i = w) → ¬ (y = 111 ∧ i = w) → ¬ (y = 106 ∧ i = 8) → X y i = V y i) : RW X m := by
  obtain ⟨w1', w2, w3, w4, w5⟩ := hW
  have r109 : X 109 = V 109 := funext fun i => hf 109 i (by unfold supW; omega) (by omega) (by omega) (by omega) (by omega) (by omega)
  have r108 : X 108 = V 108 := funext fun i => hf 108 i (by unfold supW; omega) (by omega) (by omega) (by omega) (by omega) (by omega)
  have r112 : X 112 = V 112 := funext fun i => hf 112 i (by unfold supW; omega) (by omega) (by omega) (by omega) (by omega) (by omega)
  have f6 : X 106 6 = V 106 6 := hf 106 6 (by unfold supW; omega) (by omega) (by omega) (by omega) (by omega) (by omega)
  refine ⟨?_, by omega, fun v g0 g1 => ?_, ?_, fun u v g0 g1 g2 g3 g4 => ?_⟩
  · rw [hf 5 2 (by unfold supW; omega) (by omega) (by omega) (by omega) (by omega) (by omega), f6]; exact w1'
  · rw [f6] at g1
    obtain ⟨v1, v2, v3, v4, v5⟩ := w3 v g0 g1
    unfold wordOK
    rw [r109, r108, r112, b3, hf (132 + 3 * v) 1 (by unfold supW; omega) (by omega) (by omega) (by omega) (by omega) (by omega), hf (-(133 + 3 * v)) 1 (by unfold supW; omega) (by omega) (by omega) (by omega) (by omega) (by omega), hf (131 + 3 * v) 3 (by unfold supW; omega) (by omega) (by omega) (by omega) (by omega) (by omega)]
    refine ⟨v1, fun i j0 j1 => ?_, ?_, ?_, v5⟩
    · rw [hf (133 + 3 * v) i (by unfold supW; omega) (by omega) (by omega) (by omega) (by omega) (by omega)]; exact v2 i j0 j1
    · by_cases e : v = w
      · rw [e, a1, b1]; rw [e] at v3; refine ⟨rfl, ?_⟩; unfold capm; split <;> omega
      · rw [hf (131 + 3 * v) 1 (by unfold supW; omega) (by omega) (by omega) (by omega) (by omega) (by omega), hf 110 v (by unfold supW; omega) (by omega) (by omega) (by omega) (by omega) (by omega)]; exact v3
    · by_cases e : v = w
      · rw [e, a2, b2]; exact ⟨rfl, by omega, by omega⟩
      · rw [hf (131 + 3 * v) 2 (by unfold supW; omega) (by omega) (by omega) (by omega) (by omega) (by omega), hf 111 v (by unfold supW; omega) (by omega) (by omega) (by omega) (by omega) (by omega)]; exact ⟨v4.1, v4.2.1, by omega⟩
  · rw [hf 5 3 (by unfold supW; omega) (by omega) (by omega) (by omega) (by omega) (by omega), r112, f6]; exact w4
  · rw [f6] at g2
    rw [r112] at g3 g4
    have := w5 u v g0 g1 g2 g3 g4
    unfold sameW at this ⊢
    rw [r109, r108]; exact this
