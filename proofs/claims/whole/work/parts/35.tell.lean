/-! a pair told -/
theorem lp_42h {D : Mem} {n : Int} {f : Int → Int → Int} (hR : LPr D n f) {a b p : Int} (h0 : 0 ≤ p) (h1 : p < D 7 3) (ha : D 8 p = a) (hb : D 9 p = b) : qR 42 [(3, 7), (0, a), (0, b)] (mk D) = some ((0, p), mk D) := by
  obtain ⟨n, _, u, _⟩ := hR
  have hp : 0 ≤ p ∧ p < 150 := by omega
  rw [r_42, it_up (fun i => qE 42 2 [(3, 7), (0, a), (0, b), (0, i)] [] (mk D)) h0 (fun i g0 g1 => ?_)]
  · show qE 42 2 [(3, 7), (0, a), (0, b), (0, p)] [] (mk D) = _
    rw [e_42_2, if_pos h1, if_pos hp, if_pos ha, if_pos hp, if_pos hb]
  · have gi : 0 ≤ i ∧ i < 150 := by omega
    have gl : i < D 7 3 := by omega
    have e1 : w32 (i + 1) = i + 1 := w32_id (by omega) (by omega)
    have hu := u i p g0 g1 h1
    show qE 42 2 [(3, 7), (0, a), (0, b), (0, i)] [] (mk D) = qE 42 2 [(3, 7), (0, a), (0, b), (0, i + 1)] [] (mk D)
    rw [e_42_2, if_pos gl, if_pos gi, if_pos gi, e1]
    by_cases c : D 8 i = a
    · rw [if_pos c, if_neg (fun q => hu ⟨by omega, by omega⟩)]
    · rw [if_neg c]
theorem lp_42n {D : Mem} {n : Int} {f : Int → Int → Int} (hR : LPr D n f) {a b : Int} (h : ∀ p, 0 ≤ p → p < D 7 3 → ¬ (D 8 p = a ∧ D 9 p = b)) : qR 42 [(3, 7), (0, a), (0, b)] (mk D) = some ((0, -1), mk D) := by
  obtain ⟨n, _, u, _⟩ := hR
  rw [r_42, it_up (fun i => qE 42 2 [(3, 7), (0, a), (0, b), (0, i)] [] (mk D)) n.1 (fun i g0 g1 => ?_)]
  · have hn : ¬ (D 7 3 < D 7 3) := by omega
    show qE 42 2 [(3, 7), (0, a), (0, b), (0, D 7 3)] [] (mk D) = _
    rw [e_42_2, if_neg hn]
  · have gi : 0 ≤ i ∧ i < 150 := by omega
    have e1 : w32 (i + 1) = i + 1 := w32_id (by omega) (by omega)
    have hu := h i g0 g1
    show qE 42 2 [(3, 7), (0, a), (0, b), (0, i)] [] (mk D) = qE 42 2 [(3, 7), (0, a), (0, b), (0, i + 1)] [] (mk D)
    rw [e_42_2, if_pos g1, if_pos gi, if_pos gi, e1]
    by_cases c : D 8 i = a
    · rw [if_pos c, if_neg (fun q => hu ⟨c, q⟩)]
    · rw [if_neg c]
def newP (D : Mem) (a b c : Int) : Mem := mU (mU (mU (mU D 8 (D 7 3) a) 9 (D 7 3) b) 10 (D 7 3) c) 7 3 (D 7 3 + 1)
theorem newP_7 (D : Mem) (a b c : Int) : newP D a b c 7 3 = D 7 3 + 1 := by unfold newP; rw [mU_s]
theorem newP_8 (D : Mem) (a b c i : Int) : newP D a b c 8 i = if i = D 7 3 then a else D 8 i := by
  unfold newP; rw [mU_r (by decide), mU_r (by decide), mU_r (by decide)]
  by_cases e : i = D 7 3
  · rw [if_pos e, e, mU_s]
  · rw [if_neg e, mU_other (by omega)]
theorem newP_9 (D : Mem) (a b c i : Int) : newP D a b c 9 i = if i = D 7 3 then b else D 9 i := by
  unfold newP; rw [mU_r (by decide), mU_r (by decide)]
  by_cases e : i = D 7 3
  · rw [if_pos e, e, mU_s]
  · rw [if_neg e, mU_other (by omega), mU_r (by decide)]
theorem newP_10 (D : Mem) (a b c i : Int) : newP D a b c 10 i = if i = D 7 3 then c else D 10 i := by
  unfold newP; rw [mU_r (by decide)]
  by_cases e : i = D 7 3
  · rw [if_pos e, e, mU_s]
  · rw [if_neg e, mU_other (by omega), mU_r (by decide), mU_r (by decide)]
theorem newP_o (D : Mem) (a b c : Int) {y i : Int} (h : ¬ (7 ≤ y ∧ y ≤ 10)) : newP D a b c y i = D y i := by
  unfold newP; rw [mU_r (by omega), mU_r (by omega), mU_r (by omega), mU_r (by omega)]
theorem LP_new {D : Mem} {n : Int} {f : Int → Int → Int} (h : LPr D n f) {a b c : Int} (ha : 0 ≤ a ∧ a < n) (hb : 0 ≤ b ∧ b < n) (hc : 1 ≤ c ∧ c ≤ 1000000) (hl : D 7 3 < 150) (ha' : ∀ p, 0 ≤ p → p < D 7 3 → ¬ (D 8 p = a ∧ D 9 p = b)) : LPr (newP D a b c) n (fun x y => if x = a ∧ y = b then c else f x y) := by
  have hn := h.1
  unfold LPr
  simp only [newP_7, newP_8, newP_9, newP_10]
  refine ⟨by omega, fun q q0 q1 => ?_, fun q r q0 q1 r1 => ?_, fun x y x0 x1 y0 y1 q => ?_⟩
  · by_cases e : q = D 7 3
    · simp only [if_pos e]
      exact ⟨ha, hb, hc, by simp⟩
    · simp only [if_neg e]
      obtain ⟨u1, u2, u3, u4⟩ := h.2.1 q q0 (by omega)
      exact ⟨u1, u2, u3, by rw [if_neg (ha' q q0 (by omega))]; exact u4⟩
  · have e : ¬ q = D 7 3 := by omega
    simp only [if_neg e]
    by_cases e' : r = D 7 3
    · simp only [if_pos e']; exact ha' q q0 (by omega)
    · simp only [if_neg e']; exact h.2.2.1 q r q0 q1 (by omega)
  · by_cases e : x = a ∧ y = b
    · have := q (D 7 3) (by omega) (by omega)
      simp only [if_true] at this
      exact absurd ⟨e.1.symm, e.2.symm⟩ this
    · rw [if_neg e]
      refine h.2.2.2 x y x0 x1 y0 y1 fun p p0 p1 g => ?_
      have := q p p0 (by omega)
      have e' : ¬ p = D 7 3 := by omega
      simp only [if_neg e'] at this
      exact this g
theorem LP_set {D : Mem} {n : Int} {f : Int → Int → Int} (h : LPr D n f) {p c : Int} (hc : 1 ≤ c ∧ c ≤ 1000000) (p0 : 0 ≤ p) (p1 : p < D 7 3) : LPr (mU D 10 p c) n (fun x y => if x = D 8 p ∧ y = D 9 p then c else f x y) := by
  have hn := h.1
  have r7 : mU D 10 p c 7 = D 7 := funext fun i => mU_r (by decide)
  have r8 : mU D 10 p c 8 = D 8 := funext fun i => mU_r (by decide)
  have r9 : mU D 10 p c 9 = D 9 := funext fun i => mU_r (by decide)
  unfold LPr
  rw [r7, r8, r9]
  refine ⟨hn, fun q q0 q1 => ?_, h.2.2.1, fun x y x0 x1 y0 y1 q => ?_⟩
  · obtain ⟨u1, u2, u3, u4⟩ := h.2.1 q q0 (by omega)
    by_cases e : q = p
    · rw [e, mU_s]; rw [e] at u1 u2; exact ⟨u1, u2, hc, if_pos ⟨rfl, rfl⟩⟩
    · rw [mU_other (by omega)]
      exact ⟨u1, u2, u3, by show (if D 8 q = D 8 p ∧ D 9 q = D 9 p then c else f (D 8 q) (D 9 q)) = _; rw [if_neg (LP_ne h q0 q1 p0 p1 e)]; exact u4⟩
  · show (if x = D 8 p ∧ y = D 9 p then c else f x y) = 0
    rw [if_neg (fun e => q p p0 p1 ⟨e.1.symm, e.2.symm⟩)]
    exact h.2.2.2 x y x0 x1 y0 y1 q
theorem sp_45 {D : Mem} {n : Int} {f : Int → Int → Int} (h : LPr D n f) (h8 : n ≤ 80) {a b c : Int} (ha : 0 ≤ a ∧ a < n) (hb : 0 ≤ b ∧ b < n) (hc : 0 ≤ c ∧ c ≤ 1000000) : ∃ E, qR 45 [(3, 7), (0, a), (0, b), (0, c)] (mk D) = some ((9, 0), mk E) ∧ LPr E n (fun x y => if x = a ∧ y = b then (if f a b = 0 ∧ 150 ≤ D 7 3 then 0 else c) else f x y) ∧ ∀ y i, ¬ (7 ≤ y ∧ y ≤ 10) → E y i = D y i := by
  have hn := h.1
  rcases pair_or D a b with ⟨p, h0, h1, ea, eb⟩ | hno
  · have hp : 0 ≤ p ∧ p < 150 := by omega
    have hp' : ¬ p < 0 := by omega
    obtain ⟨u1, u2, u3, u4⟩ := h.2.1 p h0 h1
    have hf : ¬ f a b = 0 := by rw [ea, eb] at u4; omega
    have hf' : ¬ (f a b = 0 ∧ 150 ≤ D 7 3) := fun q => hf q.1
    by_cases c0 : c ≤ 0
    · refine ⟨remP D p, ?_, ?_, fun y i hy => remP_o _ _ hy⟩
      · rw [r_45, lp_42h h h0 h1 ea eb]
        simp only [Option.bind_some, psh_0, e_45_6, if_neg hp', if_pos c0, e_45_28, sp_46 h0 h1 hn.2, psh_9, e_45_39]
      · have := LP_rem h h0 h1
        rw [ea, eb] at this
        simp only [if_neg hf']
        have e0 : c = 0 := by omega
        rw [e0]; exact this
    · refine ⟨mU D 10 p c, ?_, ?_, fun y i hy => mU_r (by omega)⟩
      · rw [r_45, lp_42h h h0 h1 ea eb]
        simp only [Option.bind_some, psh_0, e_45_6, if_neg hp', if_neg c0, if_pos hp]
      · have := LP_set h (c := c) (by omega) h0 h1
        rw [ea, eb] at this
        simp only [if_neg hf']
        exact this
  · have hf : f a b = 0 := h.2.2.2 a b ha.1 (by omega) hb.1 (by omega) hno
    have same : ∀ g : Int → Int → Int, g = f → LPr D n g := fun g e => by rw [e]; exact h
    by_cases c0 : c ≤ 0
    · refine ⟨D, ?_, same _ (funext fun x => funext fun y => ?_), fun y i hy => rfl⟩
      · rw [r_45, lp_42n h hno]
        simp [psh_0, e_45_6, if_pos c0, e_45_28]
      · have e0 : c = 0 := by omega
        by_cases e : x = a ∧ y = b
        · rw [if_pos e, e.1, e.2, hf, e0]; split <;> rfl
        · rw [if_neg e]
    · by_cases c1 : D 7 3 < 150
      · have hf' : ¬ (f a b = 0 ∧ 150 ≤ D 7 3) := by omega
        refine ⟨newP D a b c, ?_, ?_, fun y i hy => newP_o _ _ _ _ hy⟩
        · have c2 : 0 ≤ D 7 3 ∧ D 7 3 < 150 := by omega
          have a1 : ∀ v j, mU D 8 (D 7 3) v 7 j = D 7 j := fun v j => mU_r (by decide)
          have a2 : ∀ (E : Mem) i v j, mU E 9 i v 7 j = E 7 j := fun E i v j => mU_r (by decide)
          have a3 : ∀ (E : Mem) i v j, mU E 10 i v 7 j = E 7 j := fun E i v j => mU_r (by decide)
          have e1 : w32 (D 7 3 + 1) = D 7 3 + 1 := w32_id (by omega) (by omega)
          rw [r_45, lp_42n h hno]
          simp only [Option.bind_some, psh_0, e_45_6, e_45_28, if_neg c0, if_pos c1, a1, a2, a3, e1, if_pos c2]
          rfl
        · simp only [if_neg hf']
          exact LP_new h ha hb (by omega) c1 hno
      · refine ⟨D, ?_, same _ (funext fun x => funext fun y => ?_), fun y i hy => rfl⟩
        · rw [r_45, lp_42n h hno]
          simp [psh_0, e_45_6, if_neg c0, if_neg c1, e_45_28]
        · by_cases e : x = a ∧ y = b
          · rw [if_pos e, if_pos ⟨hf, by omega⟩, e.1, e.2, hf]
          · rw [if_neg e]
theorem ca_pair {D : Mem} {k : Int} (hR : Rel D k) (a b c : Int) : CaseOK D k 103 158 [(0, a), (0, b), (0, c)] := by
  have hW := hR.2.1
  have hn := hW.1
  have hP := hR.2.2.1
  have h73 := hP.1
  have m1 := sp_143 hn.2.1 hn.2.2 a
  have m2 := sp_143 hn.2.1 hn.2.2 b
  by_cases h : 0 ≤ a ∧ a < D 106 6
  · have h5 : 0 ≤ a ∧ a < D 5 2 := by omega
    have h80 : 0 ≤ a ∧ a < 80 := by omega
    by_cases g : 0 ≤ b ∧ b < D 106 6
    · have g5 : 0 ≤ b ∧ b < D 5 2 := by omega
      have g80 : 0 ≤ b ∧ b < 80 := by omega
      by_cases hc : 0 ≤ c ∧ c ≤ 1000000
      · have c1 : ¬ c < 0 := by omega
        by_cases ta : thr D a
        · have ta' : ¬ D 112 a = 0 := by have := ta.2.2; omega
          by_cases tb : thr D b
          · have tb' : ¬ D 112 b = 0 := by have := tb.2.2; omega
            have e1 : w32 (80 * a) = 80 * a := w32_id (by omega) (by omega)
            have e2 : w32 (80 * a + b) = 80 * a + b := w32_id (by omega) (by omega)
            have e3 : 0 ≤ 80 * a + b ∧ 80 * a + b < 6400 := by omega
            have s157 : ∀ E : Mem, E 113 = D 113 → qR 157 [(3, 106)] (mk E) = some ((0, D 7 3), mk E) := fun E hE => by rw [sp_157, hE, pairs_sum hn.2.2 hP]
            by_cases full : D 113 (80 * a + b) = 0 ∧ 150 ≤ D 7 3
            · have hno : ∀ p, 0 ≤ p → p < D 7 3 → ¬ (D 8 p = a ∧ D 9 p = b) := fun p p0 p1 q => by
                obtain ⟨_, _, u3, u4⟩ := hP.2.1 p p0 p1
                rw [q.1, q.2] at u4; omega
              have s44 : qR 44 [(3, 7), (0, a), (0, b)] (mk D) = some ((0, 0), mk D) := by
                rw [r_44, if_neg (by omega), sp_42n hP hno]
                simp [psh_0, e_44_16]
              have q150 : D 7 3 = 150 := by omega
              have s150 := s157 D rfl
              rw [q150] at s150
              exact case_same (v := -2) hR (by simp [r_103, sp_6, psh_0, psh_3, e_103_8, e_103_19, e_103_42, e_103_53, e_103_66, e_103_71, r_4, h5, g5, c1, hc, (sp_8 hW a).1 ta, (sp_8 hW b).1 tb, s44]) (by simp [r_158, m1, m2, sp_142, psh_0, e_158_5, e_158_13, e_158_23, e_158_67, h, g, hc, h80, g80, ta', tb', e1, e2, e3, full.1, s150])
            · have s44 : qR 44 [(3, 7), (0, a), (0, b)] (mk D) = some ((0, 1), mk D) := by
                rw [r_44]
                by_cases c4 : D 7 3 < 150
                · rw [if_pos c4]
                · rw [if_neg c4]
                  rcases pair_or D a b with ⟨p, p0, p1, ea, eb⟩ | hno
                  · rw [sp_42h hP p0 p1 ea eb]
                    have : ¬ p < 0 := by omega
                    simp only [Option.bind_some, psh_0, e_44_16, if_neg this]
                  · exact absurd ⟨hP.2.2.2 a b h80.1 h80.2 g80.1 g80.2 hno, by omega⟩ full
              obtain ⟨E, q1, q2, q3⟩ := sp_45 (LP_RP hP) hn.2.2 h g hc
              have n6 : E 106 6 = D 106 6 := q3 _ _ (by omega)
              have m1' := sp_143 (D := E) (by omega) (by omega) a
              have m2' := sp_143 (D := E) (by omega) (by omega) b
              rw [n6] at m1' m2'
              have E112 : ∀ i, E 112 i = D 112 i := fun i => q3 _ _ (by omega)
              have E113 : ∀ i, E 113 i = D 113 i := fun i => q3 _ _ (by omega)
              have hf : ∀ y i, ¬ (7 ≤ y ∧ y ≤ 10) → ¬ (y = 113) → mU E 113 (80 * a + b) c y i = D y i := fun y i y1 y2 => by rw [mU_r y2, q3 y i y1]
              have hRP : RP (mU E 113 (80 * a + b) c) := by
                refine RP_LP (LP_congr (fun y i y0 y1 => mU_r (by omega)) q2) ?_ hn.2.2 (fun x y x0 x1 y0 y1 => ?_)
                · rw [mU_r (by omega), n6]
                · rw [if_neg full]
                  by_cases e : x = a ∧ y = b
                  · rw [if_pos e, e.1, e.2, mU_s]
                  · rw [if_neg e, mU_other (by omega), E113]
              refine ⟨1, E, mU E 113 (80 * a + b) c, ?_, ?_, ⟨RK_congr (fun y i q => hf y i (by omega) (by omega)) hR.1, RW_mono (RW_congr (fun y i q => hf y i (by unfold supW at q; omega) (by unfold supW at q; omega)) hW), hRP, RS_congr (fun y i q => hf y i (by unfold supS at q; omega) (by unfold supS at q; omega)) hR.2.2.2.1, RN_mono (RN_congr (fun y i q => hf y i (by unfold supN at q; omega) (by unfold supN at q; omega)) hR.2.2.2.2)⟩, fun i => hf _ _ (by omega) (by omega), fun i => hf _ _ (by omega) (by omega)⟩
              · simp [r_103, sp_6, psh_0, psh_3, psh_9, e_103_8, e_103_19, e_103_42, e_103_53, e_103_66, e_103_71, e_103_84, e_103_90, r_4, h5, g5, c1, hc, (sp_8 hW a).1 ta, (sp_8 hW b).1 tb, s44, q1]
              · by_cases z : D 113 (80 * a + b) = 0
                · have s150 := s157 E (funext E113)
                  have n150 : ¬ D 7 3 = 150 := by omega
                  simp [r_158, m1', m2', sp_142, psh_0, e_158_5, e_158_13, e_158_23, e_158_67, e_158_76, h, g, hc, h80, g80, E112, E113, ta', tb', e1, e2, e3, z, s150, n150]
                · simp [r_158, m1', m2', sp_142, psh_0, e_158_5, e_158_13, e_158_23, e_158_76, h, g, hc, h80, g80, E112, E113, ta', tb', e1, e2, e3, z]
          · have t3 : D 112 b = 0 := by have := (thr_cl hW g.1 g.2).2; rcases this with t | t; exact t; exact absurd ⟨g.1, g.2, t⟩ tb
            exact case_same (v := -4) hR (by simp [r_103, sp_6, psh_0, e_103_8, e_103_19, e_103_42, e_103_53, h5, g5, c1, hc, (sp_8 hW a).1 ta, (sp_8 hW b).2 tb]) (by simp [r_158, m1, m2, sp_142, psh_0, e_158_5, e_158_13, e_158_23, h, g, hc, h80, g80, ta', t3])
        · have t3 : D 112 a = 0 := by have := (thr_cl hW h.1 h.2).2; rcases this with t | t; exact t; exact absurd ⟨h.1, h.2, t⟩ ta
          exact case_same (v := -4) hR (by simp [r_103, sp_6, psh_0, e_103_8, e_103_19, e_103_42, h5, g5, c1, hc, (sp_8 hW a).2 ta]) (by simp [r_158, m1, m2, sp_142, psh_0, e_158_5, e_158_13, e_158_23, h, g, hc, h80, t3])
      · by_cases c1 : c < 0
        · exact case_same (v := -1) hR (by simp [r_103, sp_6, psh_0, e_103_8, e_103_19, h5, g5, c1]) (by simp [r_158, m1, m2, sp_142, psh_0, e_158_5, e_158_13, e_158_23, h, g, hc])
        · have c2 : ¬ c ≤ 1000000 := by omega
          exact case_same (v := -1) hR (by simp [r_103, sp_6, psh_0, e_103_8, e_103_19, h5, g5, c1, c2]) (by simp [r_158, m1, m2, sp_142, psh_0, e_158_5, e_158_13, e_158_23, h, g, hc])
    · have g5 : ¬ (0 ≤ b ∧ b < D 5 2) := by omega
      exact case_same (v := -1) hR (by simp [r_103, sp_6, psh_0, e_103_8, e_103_19, h5, g5]) (by simp [r_158, m1, m2, psh_0, e_158_5, e_158_13, h, g])
  · have h5 : ¬ (0 ≤ a ∧ a < D 5 2) := by omega
    exact case_same (v := -1) hR (by simp [r_103, sp_6, psh_0, e_103_8, h5]) (by simp [r_158, m1, psh_0, e_158_5, h])
