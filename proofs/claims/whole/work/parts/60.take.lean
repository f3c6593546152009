/-! offers, offer, take -/
/-- D's list of offers for what is pressed -/
noncomputable def lz (D : Mem) (kind limit : Int) : Int := oz D (ak D (D 116) (D 106 14) kind limit) (lat D) (D 106 6)
noncomputable def lo (D : Mem) (kind limit : Int) : Int → Int := oo D (ak D (D 116) (D 106 14) kind limit) (lat D) (D 106 6)
def supO (y i : Int) : Prop := (107 ≤ y ∧ y ≤ 110) ∨ (112 ≤ y ∧ y ≤ 114) ∨ y = 116 ∨ y = 117 ∨ (y = 106 ∧ (i = 6 ∨ i = 9 ∨ i = 14 ∨ i = 16))
theorem ak_cg {D E : Mem} (h : ∀ y i, y = 107 ∨ y = 108 ∨ y = 109 ∨ y = 114 → E y i = D y i) (f : Int → Int) (m kind limit : Int) : ak E f m kind limit = ak D f m kind limit := funext fun w => by
  have kc := kf_cg (D := D) (E := E) (fun y i q => h y i (by omega)) w kind
  unfold ak
  rw [kc.1, kc.2, show E 114 = D 114 from funext fun i => h _ _ (by omega)]
theorem off_cg {D E : Mem} (h : ∀ y i, supO y i → E y i = D y i) (ask : Int → Int) (bh n : Int) : oz E ask bh n = oz D ask bh n ∧ oo E ask bh n = oo D ask bh n := by
  unfold oz oo
  rw [offS_cg (fun y i q => h y i (by unfold supO; omega)) ask bh]
  exact ⟨rfl, rfl⟩
theorem l_cg {D E : Mem} (h : ∀ y i, supO y i → E y i = D y i) (kind limit : Int) : lz E kind limit = lz D kind limit ∧ lo E kind limit = lo D kind limit := by
  have e1 : E 116 = D 116 := funext fun i => h _ _ (by unfold supO; omega)
  have e2 : E 106 14 = D 106 14 := h _ _ (by unfold supO; omega)
  have e3 : lat E = lat D := lat_cg (fun y i q => h y i (by unfold supO; omega))
  have e4 : E 106 6 = D 106 6 := h _ _ (by unfold supO; omega)
  unfold lz lo
  rw [e1, e2, e3, e4, ak_cg (fun y i q => h y i (by unfold supO; omega))]
  exact off_cg h _ _ _
theorem l_inv {D : Mem} (hR : rOK D) (kind limit : Int) : (0 ≤ lz D kind limit ∧ lz D kind limit ≤ 80) ∧ ∀ q, 0 ≤ q → q < lz D kind limit → thr D (lo D kind limit q) := by
  have hn := hR.1
  obtain ⟨a, b⟩ := off_inv (D := D) (ak D (D 116) (D 106 14) kind limit) (lat D) (n := D 106 6) (fun w w0 w1 => (hR.2.1 w w0 w1).2.2.2) (D 106 6) hn.1 (Int.le_refl _)
  refine ⟨⟨a.1, by have : oz D (ak D (D 116) (D 106 14) kind limit) (lat D) (D 106 6) = lz D kind limit := rfl; omega⟩, fun q q0 q1 => ?_⟩
  have := b q q0 q1
  exact ⟨this.1, this.2.1, this.2.2.1⟩
theorem sp_138 {D : Mem} {k kind limit : Int} (hR : Rel D k) (hk : k ≤ 1000) (kk : kind = 1 ∨ kind = 2 ∨ kind = 3) : ∃ E, qR 138 [(3, 2), (0, kind), (0, limit)] (mk D) = some ((9, 0), mk E) ∧ Sim D E ∧ E 31 9 = lz D kind limit ∧ ∀ q, 0 ≤ q → q < lz D kind limit → E 36 q = lo D kind limit q := by
  obtain ⟨E, q1, q2, q3⟩ := sp_69 hR hk
  have sE : Sim D E := fun y i hs => q3 y i (by unfold scr at hs; omega) (by unfold scr at hs; omega)
  have hRE := Rel_sim hR sE
  have s136 := sp_136 hRE
  have hl := lat_bd hRE
  have hn := hRE.2.1.1
  obtain ⟨F, f1, f2, f3⟩ := sp_70 hRE (x := lat E) (by omega)
  have sF : Sim E F := fun y i hs => f3 y i (by unfold scr at hs; omega) (by unfold scr at hs; omega)
  have hRF := Rel_sim hRE sF
  have dF : ∀ y i, ¬ (32 ≤ y ∧ y ≤ 35) → F y i = D y i := fun y i q => by rw [f3 y i (by omega) (by omega)]; exact q3 y i (by omega) (by omega)
  have s15 := sp_15 hRF.2.2.2.1.2.1
  have hSb := hRF.2.2.2.1.2.1
  have thF : ∀ w, thr F w ↔ thr E w := fun w => thr_sim sF w
  have thE : ∀ w, thr E w ↔ thr D w := fun w => thr_sim sE w
  have latE : lat E = lat D := lat_sim sE
  obtain ⟨G, g1, g2, g3, g4⟩ := sp_74 (D := F) (kind := kind) (limit := limit) (m := F 106 14) (f := F 116) (bh := lat D) hRF hk kk hSb.2.1 hSb.2.2.1 hSb.2.2.2.2 (fun w hw => by
      have c1 := kf_cg (D := D) (E := F) (fun y i q => dF y i (by omega)) w 1
      have c2 := kf_cg (D := D) (E := F) (fun y i q => dF y i (by omega)) w 2
      rw [c1.1, c1.2, c2.1, c2.2, f3 _ _ (by decide) (by decide), f3 _ _ (by decide) (by decide)]
      exact q2 w ((thE w).1 ((thF w).1 hw))) (fun w hw => by rw [f2 w ((thF w).1 hw), latE, rate_sim sF])
  have sG : Sim F G := fun y i hs => g4 y i (by unfold scr at hs; omega) (by unfold scr at hs; omega) (by unfold scr at hs; omega)
  have sDF := sE.trans sF
  have lc := l_cg (D := D) (E := F) (fun y i q => dF y i (by unfold supO at q; omega)) kind limit
  have latF : lat F = lat D := lat_sim sDF
  unfold lz lo at lc
  rw [latF] at lc
  rw [lc.1] at g2 g3
  rw [lc.2] at g3
  refine ⟨G, ?_, sDF.trans sG, g2, g3⟩
  rw [r_138, q1]
  simp only [Option.bind_some, psh_9]
  rw [e_138_7, s136]
  simp only [Option.bind_some, psh_0]
  rw [e_138_15, f1]
  simp only [Option.bind_some, psh_9]
  rw [e_138_18, s15]
  simp only [Option.bind_some, psh_1]
  rw [e_138_29, g1]
  simp only [Option.bind_some, psh_9, e_138_34]
theorem sq_180 {D : Mem} {kind limit : Int} (hR : rOK D) (kk : kind = 1 ∨ kind = 2 ∨ kind = 3) : ∃ E, qR 180 [(3, 106), (0, kind), (0, limit)] (mk D) = some ((0, lz D kind limit), mk E) ∧ (∀ q, 0 ≤ q → q < lz D kind limit → E 125 q = lo D kind limit q) ∧ ∀ y i, ¬ (123 ≤ y ∧ y ≤ 126) → ¬ (y = 106 ∧ (i = 25 ∨ i = 27 ∨ i = 30)) → E y i = D y i := by
  obtain ⟨F, f1, f2, f3, f4⟩ := sq_170 hR
  have hRF : rOK F := rOK_congr (fun y i q => f4 y i (by unfold supR at q; omega) (by unfold supR at q; omega)) hR
  have hl := lat_q hRF
  have hn := hRF.1
  have p14 := hR.2.2.2.2.2.2.1
  obtain ⟨G, g1, g2, g3, g4⟩ := sq_179 (D := F) (kind := kind) (limit := limit) (m := F 106 14) (f := F 116) (bh := lat F) hRF kk (by rw [f2]; exact (f4 _ _ (by decide) (by omega)).symm) (by rw [f4 _ _ (by decide) (by omega)]; exact p14.1) (by rw [f4 _ _ (by decide) (by omega)]; exact p14.2.1) (fun i i0 i1 => by rw [f4 106 14 (by decide) (by omega)] at i1; rw [f3 i i0 i1, f4 _ _ (by decide) (by omega)]) (fun i i0 i1 => by rw [f4 106 14 (by decide) (by omega)] at i1; rw [f4 _ _ (by decide) (by omega)]; exact p14.2.2 i i0 i1) (by omega)
  have lc := l_cg (D := D) (E := F) (fun y i q => f4 y i (by unfold supO at q; omega) (by unfold supO at q; omega)) kind limit
  have g2' : G 106 30 = lz F kind limit := g2
  have g3' : ∀ q, 0 ≤ q → q < lz F kind limit → G 125 q = lo F kind limit q := g3
  rw [lc.1] at g2' g3'
  rw [lc.2] at g3'
  refine ⟨G, ?_, g3', fun y i y1 y2 => by rw [g4 y i (by omega) (by omega) (by omega) (by omega), f4 y i (by omega) (by omega)]⟩
  rw [r_180, sp_142, if_pos (by omega)]
  simp only [Option.bind_some, psh_0]
  rw [e_180_6, if_neg (by decide), if_neg (by omega), f1]
  simp only [Option.bind_some, psh_9]
  rw [e_180_22, sq_159 hRF]
  simp only [Option.bind_some, psh_0]
  rw [e_180_29, g1]
  simp only [Option.bind_some, psh_9]
  rw [e_180_32, g2']
theorem kind_or (D : Mem) (kind : Int) : (kind = 1 ∨ kind = 2 ∨ kind = 3) ∧ qR 135 [(0, kind)] (mk D) = some ((0, 0), mk D) ∨ ∃ v, v < 0 ∧ (v = -1 ∨ v = -5) ∧ qR 135 [(0, kind)] (mk D) = some ((0, v), mk D) ∧ ∀ (E : Mem) limit, qR 180 [(3, 106), (0, kind), (0, limit)] (mk E) = some ((0, v), mk E) := by
  by_cases c : 0 ≤ kind ∧ kind ≤ 3
  · have s132 : qR 132 [(0, kind)] (mk D) = some ((0, 1), mk D) := by rw [r_132, if_neg (by omega), if_pos (by omega)]
    by_cases z : kind = 0
    · refine Or.inr ⟨-5, by decide, by omega, ?_, fun E limit => ?_⟩
      · rw [r_135, s132]
        simp only [Option.bind_some, psh_0]
        rw [e_135_4, if_neg (by decide), if_pos z]
      · rw [r_180, sp_142, if_pos c]
        simp only [Option.bind_some, psh_0]
        rw [e_180_6, if_neg (by decide), if_pos z]
    · refine Or.inl ⟨by omega, ?_⟩
      rw [r_135, s132]
      simp only [Option.bind_some, psh_0]
      rw [e_135_4, if_neg (by decide), if_neg z]
  · have s132 : qR 132 [(0, kind)] (mk D) = some ((0, 0), mk D) := by
      rw [r_132]
      by_cases q : kind < 0
      · rw [if_pos q]
      · rw [if_neg q, if_neg (by omega)]
    refine Or.inr ⟨-1, by decide, by omega, ?_, fun E limit => ?_⟩
    · rw [r_135, s132]
      simp only [Option.bind_some, psh_0]
      rw [e_135_4, if_pos rfl]
    · rw [r_180, sp_142, if_neg c]
      simp only [Option.bind_some, psh_0]
      rw [e_180_6, if_pos rfl]
theorem ca_offers {D : Mem} {k : Int} (hR : Rel D k) (hk : k ≤ 1000) (kind limit : Int) : CaseOK D k 112 180 [(0, kind), (0, limit)] := by
  rcases kind_or D kind with ⟨kk, h⟩ | ⟨v, v0, _, h1, h2⟩
  · obtain ⟨E, q1, q2, q3, q4⟩ := sp_138 (limit := limit) hR hk kk
    have hRE := Rel_sim hR q2
    obtain ⟨F, f1, f2, f3⟩ := sq_180 (limit := limit) (rOK_of hRE hk) kk
    have lc := l_cg (D := D) (E := E) (fun y i q => q2 y i (by unfold scr; unfold supO at q; omega)) kind limit
    rw [lc.1] at f1
    refine case_sim (v := lz D kind limit) (D1 := E) (D2 := F) hR ?_ f1 q2 (fun y i hs => f3 y i (by unfold scr at hs; omega) (by unfold scr at hs; omega))
    rw [r_112, h]
    simp only [Option.bind_some, psh_0]
    rw [e_112_4, if_neg (by decide), q1]
    simp only [Option.bind_some, psh_9]
    rw [e_112_17, r_76, q3]
    simp only [Option.bind_some, psh_0, e_112_24]
  · refine case_same (v := v) hR ?_ (h2 D limit)
    rw [r_112, h1]
    simp only [Option.bind_some, psh_0]
    rw [e_112_4, if_pos v0]
theorem sp_77 {E : Mem} {z i : Int} (hz : E 31 9 = z) (z1 : z ≤ 40) : qR 77 [(3, 31), (0, i)] (mk E) = some ((0, if 0 ≤ i ∧ i < z then E 36 i else -1), mk E) := by
  rw [r_77, hz]
  by_cases c1 : i < 0
  · rw [if_pos c1, if_neg (by omega)]
  · by_cases c2 : i < z
    · rw [if_neg c1, if_pos c2, if_pos (by omega), if_pos (by omega)]
    · rw [if_neg c1, if_neg c2, if_neg (by omega)]
theorem lz40 {D : Mem} {k : Int} (hR : Rel D k) (kind limit : Int) : lz D kind limit ≤ 40 := by
  have hW := hR.2.1
  obtain ⟨a, b⟩ := off_inv (D := D) (ak D (D 116) (D 106 14) kind limit) (lat D) (n := D 106 6) (fun w w0 w1 => (thr_cl hW w0 w1).2) (D 106 6) hW.1.2.1 (Int.le_refl _)
  have h := hW.2.2.2.1
  have : oz D (ak D (D 116) (D 106 14) kind limit) (lat D) (D 106 6) = lz D kind limit := rfl
  omega
theorem ca_offer {D : Mem} {k : Int} (hR : Rel D k) (hk : k ≤ 1000) (kind limit i : Int) : CaseOK D k 113 181 [(0, kind), (0, limit), (0, i)] := by
  rcases kind_or D kind with ⟨kk, h⟩ | ⟨v, v0, _, h1, h2⟩
  · obtain ⟨E, q1, q2, q3, q4⟩ := sp_138 (limit := limit) hR hk kk
    have hRE := Rel_sim hR q2
    obtain ⟨F, f1, f2, f3⟩ := sq_180 (limit := limit) (rOK_of hRE hk) kk
    have lc := l_cg (D := D) (E := E) (fun y i q => q2 y i (by unfold scr; unfold supO at q; omega)) kind limit
    rw [lc.1] at f1 f2
    rw [lc.2] at f2
    have l40 := lz40 hR kind limit
    refine case_sim (v := if 0 ≤ i ∧ i < lz D kind limit then lo D kind limit i else -1) (D1 := E) (D2 := F) hR ?_ ?_ q2 (fun y i hs => f3 y i (by unfold scr at hs; omega) (by unfold scr at hs; omega))
    · rw [r_113, h]
      simp only [Option.bind_some, psh_0]
      rw [e_113_4, if_neg (by decide), q1]
      simp only [Option.bind_some, psh_9]
      rw [e_113_15, sp_77 q3 l40]
      simp only [Option.bind_some, psh_0, e_113_23]
      by_cases c : 0 ≤ i ∧ i < lz D kind limit
      · rw [if_pos c, if_pos c, q4 i c.1 c.2]
      · rw [if_neg c, if_neg c]
    · rw [r_181, f1]
      simp only [Option.bind_some, psh_0]
      rw [e_181_6]
      by_cases c1 : i < 0
      · rw [if_pos c1, if_neg (by omega)]
      · by_cases c2 : i < lz D kind limit
        · rw [if_neg c1, if_pos c2, if_pos (by omega), if_pos (by omega), f2 i (by omega) c2]
        · rw [if_neg c1, if_neg c2, if_neg (by omega)]
  · refine case_same (v := -1) hR ?_ ?_
    · rw [r_113, h1]
      simp only [Option.bind_some, psh_0]
      rw [e_113_4, if_pos v0]
    · rw [r_181, h2 D limit]
      simp only [Option.bind_some, psh_0]
      rw [e_181_6]
      by_cases c1 : i < 0
      · rw [if_pos c1]
      · rw [if_neg c1, if_neg (by omega)]
theorem ca_take {D : Mem} {k : Int} (hR : Rel D k) (hk : k ≤ 1000) (kind limit i : Int) : CaseOK D k 115 184 [(0, kind), (0, limit), (0, i)] := by
  rcases kind_or D kind with ⟨kk, h⟩ | ⟨v, v0, _, h1, h2⟩
  · obtain ⟨E, q1, q2, q3, q4⟩ := sp_138 (limit := limit) hR hk kk
    have hRE := Rel_sim hR q2
    have lcE := l_cg (D := D) (E := E) (fun y i q => q2 y i (by unfold scr; unfold supO at q; omega)) kind limit
    have l40 := lz40 hR kind limit
    have st : qR 115 [(3, 2), (0, kind), (0, limit), (0, i)] (mk D) = qE 115 28 [(3, 2), (0, kind), (0, limit), (0, i), (0, 0), (9, 0)] [(0, if 0 ≤ i ∧ i < lz D kind limit then lo D kind limit i else -1)] (mk E) := by
      rw [r_115, h]
      simp only [Option.bind_some, psh_0]
      rw [e_115_4, if_neg (by decide), q1]
      simp only [Option.bind_some, psh_9]
      rw [e_115_20, sp_77 q3 l40]
      simp only [Option.bind_some, psh_0]
      by_cases c : 0 ≤ i ∧ i < lz D kind limit
      · rw [if_pos c, if_pos c, q4 i c.1 c.2]
      · rw [if_neg c, if_neg c]
    by_cases c : 0 ≤ i ∧ i < lz D kind limit
    · rw [if_pos c] at st
      obtain ⟨w, hw⟩ : ∃ w, w = lo D kind limit i := ⟨_, rfl⟩
      rw [← hw] at st
      have li := l_inv (rOK_of hR hk) kind limit
      have tw := li.2 i c.1 c.2
      rw [← hw] at tw
      have w0 := tw.1
      have hWE := hRE.2.1
      have hScE := hRE.2.2.2.1.2.2.1
      have hSc' := hScE
      obtain ⟨c1, c2, c3, c4, c5⟩ := hSc'
      have e16 : E 106 16 = D 106 16 := q2 _ _ (by unfold scr; omega)
      have e6 : E 106 6 = D 106 6 := q2 _ _ (by unfold scr; omega)
      have row2 := isRow102 (D := E) (by omega) (by omega)
      have s57 := row_full row2
      rw [show mk E 102 1 = D 106 16 from by show E 102 1 = _; omega] at s57
      by_cases full : D 106 16 = 60
      · obtain ⟨F, f1, f2, f3⟩ := sq_180 (limit := limit) (rOK_of hRE hk) kk
        rw [lcE.1] at f1
        have f16 : F 106 16 = 60 := by rw [f3 _ _ (by omega) (by omega)]; omega
        refine case_sim (v := -2) (D1 := E) (D2 := F) hR ?_ ?_ q2 (fun y i hs => f3 y i (by unfold scr at hs; omega) (by unfold scr at hs; omega))
        · rw [st, e_115_28, if_neg (by omega), s57]
          simp only [Option.bind_some, psh_0]
          rw [e_115_45, if_neg (by rw [if_neg (by omega)]; decide)]
        · rw [r_184, f1]
          simp only [Option.bind_some, psh_0]
          rw [e_184_6, if_neg (by omega), if_neg (by omega), if_pos c.2, f16, if_pos rfl]
      · have h8 := hWE.2.1
        obtain ⟨A, a1, a2, a3⟩ := learn_both (V := E) (D := E) (m := k + 1) (w := w) hWE (by omega) hRE.2.2.1 hScE (cls_rfl E) w0 (by have := tw.2.1; omega) (by omega) (by omega)
        have oB : ∀ y j, ¬ (y = 100 ∧ j = 1) → mU A 100 1 0 y j = A y j := fun y j q => mU_other q
        have eR : ∀ y j, 106 ≤ y → y ≤ 130 → mU A 100 1 0 y j = E y j := fun y j p1 p2 => by rw [oB y j (by omega)]; exact a2 y j (by omega) (by omega) (by omega) (by omega) (by omega)
        have rB : rOK (mU A 100 1 0) := rOK_congr (fun y j q => eR y j (by unfold supR at q; omega) (by unfold supR at q; omega)) (rOK_of hRE hk)
        have A100 : A 100 1 = E 106 14 := by rw [a2 _ _ (by omega) (by omega) (by omega) (by omega) (by omega)]; exact hRE.2.2.2.1.2.1.1
        have hSb := hRE.2.2.2.1.2.1
        have rowA := isRow100 (D := A) (by have := hSb.2.1; omega) (by have := hSb.2.2.1; omega)
        obtain ⟨F, f1, f2, f3⟩ := sq_180 (limit := limit) rB kk
        have lcB := l_cg (D := E) (E := mU A 100 1 0) (fun y j q => eR y j (by unfold supO at q; omega) (by unfold supO at q; omega)) kind limit
        rw [lcB.1, lcE.1] at f1 f2
        rw [lcB.2, lcE.2] at f2
        have fR : ∀ y j, 106 ≤ y → y ≤ 122 ∨ 127 ≤ y → y ≤ 130 → ¬ (y = 106 ∧ (j = 25 ∨ j = 27 ∨ j = 30)) → F y j = E y j := fun y j p1 p2 p3 p4 => by rw [f3 y j (by omega) p4, eR y j p1 p3]
        have rF : rOK F := rOK_congr (fun y j q => fR y j (by unfold supR at q; omega) (by unfold supR at q; omega) (by unfold supR at q; omega) (by unfold supR at q; omega)) (rOK_of hRE hk)
        obtain ⟨G, g1, g2, g3, g4, g5⟩ := a3 E F hWE hRE.2.2.1 hScE (fun _ _ _ => rfl) rF (fun y j q => fR y j (by omega) (by omega) (by omega) (by omega))
        have f125 : F 125 i = w := by rw [f2 i c.1 c.2, ← hw]
        have f16 : F 106 16 = D 106 16 := by rw [fR _ _ (by omega) (by omega) (by omega) (by omega)]; exact e16
        -- the last memory
        have gcl : ∀ y j, (y < 106 ∨ 130 < y) → ¬ (y = 100 ∧ j = 1) → mU G 106 14 0 y j = A y j := fun y j p1 p2 => by
          rw [mU_other (by omega), g5 y j (by omega) (by omega) (by omega) (by omega) (by omega), f3 y j (by omega) (by omega), oB y j p2]
        have hX : ∀ y j, ¬ (y = 100 ∧ j = 1) → ¬ (y = 106 ∧ j = 14) → mU G 106 14 0 y j = mrg A G y j := fun y j p1 p2 => by
          by_cases cr : 106 ≤ y ∧ y ≤ 130
          · rw [mU_other p2, mrg_r _ _ cr]
          · rw [gcl y j (by omega) p1, mrg_c _ _ (by unfold rfc; omega)]
        have hE : ∀ y j, ¬ (7 ≤ y ∧ y ≤ 10) → y < 131 → -131 < y → y ≠ 5 → ¬ (102 ≤ y ∧ y ≤ 103) → ¬ (y = 100 ∧ j = 1) → ¬ (y = 106 ∧ (j = 8 ∨ j = 14 ∨ j = 16 ∨ j = 25 ∨ j = 27 ∨ j = 30)) → ¬ (y = 110 ∨ y = 111 ∨ y = 113 ∨ y = 117) → ¬ (123 ≤ y ∧ y ≤ 126) → mU G 106 14 0 y j = E y j := fun y j p1 p2 p3 p4 p5 p6 p7 p8 p9 => by
          rw [mU_other (by omega), g5 y j (by omega) (by omega) (by omega) (by omega) (by omega), f3 y j p9 (by omega), oB y j p6, a2 y j p1 (by omega) (by omega) (by omega) (by omega)]
        refine ⟨w, mU A 100 1 0, mU G 106 14 0, ?_, ?_, ⟨RK_congr (fun y j q => hE y j (by omega) (by omega) (by omega) (by omega) (by omega) (by omega) (by omega) (by omega) (by omega)) hRE.1, RW_congr (fun y j q => hX y j (by unfold supW at q; omega) (by unfold supW at q; omega)) g2, RP_congr (fun y j q => hX y j (by unfold supP at q; omega) (by unfold supP at q; omega)) g3, ⟨RSa_congr (fun y j q => hE y j (by omega) (by omega) (by omega) (by omega) (by omega) (by omega) (by omega) (by omega) (by omega)) hRE.2.2.2.1.1, ⟨?_, by rw [mU_s]; decide, by rw [mU_s]; decide, ?_, fun j j0 j1 => by rw [mU_s] at j1; omega⟩, RSc_congr (fun y j q => hX y j (by omega) (by omega)) g4, RSe_congr (fun y j q => hE y j (by omega) (by omega) (by omega) (by omega) (by omega) (by omega) (by omega) (by omega) (by omega)) hRE.2.2.2.1.2.2.2.1, RSf_congr (fun y j q => hE y j (by omega) (by omega) (by omega) (by omega) (by omega) (by omega) (by omega) (by omega) (by omega)) hRE.2.2.2.1.2.2.2.2⟩, RN_mono (RN_congr (fun y j q => hE y j (by unfold supN at q; omega) (by unfold supN at q; omega) (by unfold supN at q; omega) (by unfold supN at q; omega) (by unfold supN at q; omega) (by unfold supN at q; omega) (by unfold supN at q; omega) (by unfold supN at q; omega) (by unfold supN at q; omega)) hRE.2.2.2.2)⟩, fun j => by rw [hE _ _ (by omega) (by omega) (by omega) (by omega) (by omega) (by omega) (by omega) (by omega) (by omega)]; exact q2 _ _ (by unfold scr; omega), fun j => by rw [hE _ _ (by omega) (by omega) (by omega) (by omega) (by omega) (by omega) (by omega) (by omega) (by omega)]; exact q2 _ _ (by unfold scr; omega)⟩
        · rw [st, e_115_28, if_neg (by omega), s57]
          simp only [Option.bind_some, psh_0]
          rw [e_115_45, if_pos (by rw [if_pos (by omega)]), a1]
          simp only [Option.bind_some, psh_9]
          rw [e_115_57, row_clear rowA, mu_100_1]
          simp only [Option.bind_some, psh_0, e_115_64]
        · rw [r_184, f1]
          simp only [Option.bind_some, psh_0]
          rw [e_184_6, if_neg (by omega), if_neg (by omega), if_pos c.2, f16, if_neg full, if_pos (by omega), f125, g1]
          simp only [Option.bind_some, psh_9, e_184_55]
        · rw [mU_s, mU_r (by omega), g5 _ _ (by omega) (by omega) (by omega) (by omega) (by omega), f3 _ _ (by omega) (by omega), mU_s]
        · rw [show mU G 106 14 0 101 = E 101 from funext fun j => hE _ _ (by omega) (by omega) (by omega) (by omega) (by omega) (by omega) (by omega) (by omega) (by omega), show mU G 106 14 0 116 = E 116 from funext fun j => hE _ _ (by omega) (by omega) (by omega) (by omega) (by omega) (by omega) (by omega) (by omega) (by omega)]
          exact hSb.2.2.2.1
    · rw [if_neg c] at st
      obtain ⟨F, f1, f2, f3⟩ := sq_180 (limit := limit) (rOK_of hRE hk) kk
      rw [lcE.1] at f1
      have li := (l_inv (rOK_of hR hk) kind limit).1
      refine case_sim (v := -6) (D1 := E) (D2 := F) hR ?_ ?_ q2 (fun y i hs => f3 y i (by unfold scr at hs; omega) (by unfold scr at hs; omega))
      · rw [st, e_115_28, if_pos (by decide)]
      · rw [r_184, f1]
        simp only [Option.bind_some, psh_0]
        rw [e_184_6, if_neg (by omega)]
        by_cases c1 : i < 0
        · rw [if_pos c1]
        · rw [if_neg c1, if_neg (by omega)]
  · refine case_same (v := v) hR ?_ ?_
    · rw [r_115, h1]
      simp only [Option.bind_some, psh_0]
      rw [e_115_4, if_pos v0]
    · rw [r_184, h2 D limit]
      simp only [Option.bind_some, psh_0]
      rw [e_184_6, if_pos v0]
