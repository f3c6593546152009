/-! the reference's own facts; a word learnt on both sides -/
def rOK (D : Mem) : Prop := (0 ≤ D 106 6 ∧ D 106 6 ≤ 80) ∧ (∀ w, 0 ≤ w → w < D 106 6 → (1 ≤ D 109 w ∧ D 109 w ≤ 10) ∧ (∀ i, 0 ≤ i → i < D 109 w → 0 ≤ D 108 (10 * w + i) ∧ D 108 (10 * w + i) ≤ 25) ∧ (1 ≤ D 110 w ∧ D 110 w ≤ 1000000) ∧ (D 112 w = 0 ∨ D 112 w = 1)) ∧ (∀ a b, 0 ≤ a → a < 80 → 0 ≤ b → b < 80 → 0 ≤ D 113 (80 * a + b) ∧ D 113 (80 * a + b) ≤ 1000000) ∧ (0 ≤ D 106 9 ∧ D 106 9 ≤ 100) ∧ (0 ≤ D 106 16 ∧ D 106 16 ≤ 60 ∧ ∀ i, 0 ≤ i → i < D 106 16 → 0 ≤ D 117 i ∧ D 117 i < D 106 6) ∧ (∀ l, 0 ≤ l → l < 26 → 1 ≤ D 107 l ∧ D 107 l ≤ 9) ∧ (0 ≤ D 106 14 ∧ D 106 14 ≤ 12 ∧ ∀ i, 0 ≤ i → i < D 106 14 → 1 ≤ D 116 i ∧ D 116 i ≤ 9) ∧ (∀ i, 0 ≤ i → i < 3 → 0 ≤ D 114 i ∧ D 114 i ≤ 100000) ∧ (0 ≤ D 106 8 ∧ D 106 8 ≤ 1000000)
def supR (y i : Int) : Prop := (107 ≤ y ∧ y ≤ 114) ∨ y = 116 ∨ y = 117 ∨ (y = 106 ∧ (i = 6 ∨ i = 8 ∨ i = 9 ∨ i = 14 ∨ i = 16))
theorem rOK_of {D : Mem} {k : Int} (hR : Rel D k) (hk : k ≤ 1000) : rOK D := by
  obtain ⟨hK, hW, hP, ⟨_, hb, hc, he, hf⟩, _⟩ := hR
  have hn := hW.1
  have h8 := hW.2.1
  refine ⟨hn.2, fun w w0 w1 => ?_, fun a b a0 a1 b0 b1 => RP_bd hP a0 a1 b0 b1, he.2, ⟨hc.2.1, hc.2.2.1, hc.2.2.2.2⟩, hK.2, ⟨hb.2.1, hb.2.2.1, hb.2.2.2.2⟩, hf.2, by omega, by omega⟩
  obtain ⟨v1, v2, v3, v4, v5⟩ := hW.2.2.1 w w0 w1
  exact ⟨v1.2.2, fun i i0 i1 => (v2 i i0 i1).2, v3.2, v5.2⟩
theorem rOK_congr {D E : Mem} (h : ∀ y i, supR y i → E y i = D y i) (hR : rOK D) : rOK E := by
  have e : ∀ a, (107 ≤ a ∧ a ≤ 114) ∨ a = 116 ∨ a = 117 → E a = D a := fun a h1 => funext fun i => h a i (by unfold supR; omega)
  unfold rOK
  rw [h 106 6 (by unfold supR; omega), h 106 8 (by unfold supR; omega), h 106 9 (by unfold supR; omega), h 106 14 (by unfold supR; omega), h 106 16 (by unfold supR; omega), e 107 (by omega), e 108 (by omega), e 109 (by omega), e 110 (by omega), e 112 (by omega), e 113 (by omega), e 114 (by omega), e 116 (by omega), e 117 (by omega)]
  exact hR
theorem sq_159 {D : Mem} (hR : rOK D) : qR 159 [(3, 106)] (mk D) = some ((0, lat D), mk D) := by
  obtain ⟨hn, hw, _, _, ⟨s0, s1, c5⟩, _⟩ := hR
  have e1 : w32 (D 106 16 - 1) = D 106 16 - 1 := w32_id (by omega) (by omega)
  unfold lat
  rw [r_159, e1]
  by_cases h : D 106 16 ≤ 0
  · rw [if_pos h, if_neg (by omega)]
  · have := c5 (D 106 16 - 1) (by omega) (by omega)
    have t2 := (hw _ this.1 this.2).2.2.2
    rw [if_neg h, if_pos (by omega), if_pos (by omega)]
    rcases t2 with t | t
    · rw [if_pos t, if_neg (by omega)]
    · rw [if_neg (by omega), if_pos (by omega), if_pos ⟨by omega, t⟩]
theorem lat_q {D : Mem} (hR : rOK D) : -1 ≤ lat D ∧ lat D < D 106 6 ∧ (lat D < 0 → lat D = -1) ∧ (0 ≤ lat D → thr D (lat D)) := by
  obtain ⟨hn, hw, _, _, ⟨s0, s1, c5⟩, _⟩ := hR
  unfold lat
  by_cases h : 0 < D 106 16 ∧ D 112 (D 117 (D 106 16 - 1)) = 1
  · rw [if_pos h]
    have := c5 (D 106 16 - 1) (by omega) (by omega)
    exact ⟨by omega, this.2, fun q => by omega, fun q => ⟨this.1, this.2, h.2⟩⟩
  · rw [if_neg h]; exact ⟨by omega, by omega, fun _ => rfl, fun q => by omega⟩
theorem lat_cg {D E : Mem} (h : ∀ y i, y = 112 ∨ y = 117 ∨ (y = 106 ∧ i = 16) → E y i = D y i) : lat E = lat D := by
  unfold lat
  rw [h 106 16 (by omega), h 117 _ (by omega), h 112 _ (by omega)]
def capm (x : Int) : Int := if x < 1000000 then x + 1 else 1000000
/-- the pairs behind the learning of w, P pairs ahead of it -/
def lf (D : Mem) (P w a b : Int) : Int := if 0 ≤ lat D ∧ a = lat D ∧ b = w then (if D 113 (80 * a + b) = 0 ∧ 150 ≤ P then 0 else capm (D 113 (80 * a + b))) else D 113 (80 * a + b)
theorem sr_183 {D : Mem} {P w : Int} (hR : rOK D) (hp : S (fun n => if 0 < D 113 n then 1 else 0) 6400 = P) (w0 : 0 ≤ w) (w1 : w < D 106 6) (room : D 106 16 < 60) : ∃ G, qR 183 [(3, 106), (0, w)] (mk D) = some ((9, 0), mk G) ∧ G 110 w = capm (D 110 w) ∧ G 111 w = D 106 8 + 1 ∧ G 106 8 = D 106 8 + 1 ∧ G 117 (D 106 16) = w ∧ G 106 16 = D 106 16 + 1 ∧ (∀ a b, 0 ≤ a → a < 80 → 0 ≤ b → b < 80 → G 113 (80 * a + b) = lf D P w a b) ∧ ∀ y i, ¬ (y = 110 ∧ i = w) → ¬ (y = 111 ∧ i = w) → ¬ (y = 106 ∧ (i = 8 ∨ i = 16)) → ¬ (y = 117 ∧ i = D 106 16) → y ≠ 113 → G y i = D y i := by
  have hR' := hR
  obtain ⟨hn, hw, h113, _, ⟨s0, s1, _⟩, _, _, _, h8⟩ := hR
  have hc := (hw w w0 w1).2.2.1
  have hl := lat_q hR'
  have g80 : 0 ≤ w ∧ w < 80 := by omega
  obtain ⟨D1, hD1⟩ : ∃ D1, D1 = mU D 110 w (capm (D 110 w)) := ⟨_, rfl⟩
  have o1 : ∀ y i, ¬ (y = 110 ∧ i = w) → D1 y i = D y i := fun y i q => by rw [hD1, mU_other q]
  have hcap : 1 ≤ capm (D 110 w) ∧ capm (D 110 w) ≤ 1000000 := by
    unfold capm; split <;> omega
  have hR1 : rOK D1 := by
    have e : ∀ a, (107 ≤ a ∧ a ≤ 114 ∧ a ≠ 110) ∨ a = 106 ∨ a = 116 ∨ a = 117 → D1 a = D a := fun a h1 => funext fun i => o1 a i (by omega)
    obtain ⟨p1, p2, p3⟩ := hR'
    unfold rOK
    rw [e 106 (by omega), e 107 (by omega), e 108 (by omega), e 109 (by omega), e 112 (by omega), e 113 (by omega), e 114 (by omega), e 116 (by omega), e 117 (by omega)]
    refine ⟨p1, fun v v0 v1 => ?_, p3⟩
    obtain ⟨u1, u2, u3, u4⟩ := p2 v v0 v1
    refine ⟨u1, u2, ?_, u4⟩
    by_cases e : v = w
    · rw [e, hD1, mU_s]; exact hcap
    · rw [o1 _ _ (by omega)]; exact u3
  have hlat : lat D1 = lat D := lat_cg fun y i q => o1 y i (by omega)
  have st : qR 183 [(3, 106), (0, w)] (mk D) = qE 183 34 [(3, 106), (0, w), (9, 0), (9, 0)] [(0, lat D)] (mk D1) := by
    have s159 := sq_159 hR1
    rw [hlat] at s159
    rw [r_183, if_pos g80]
    by_cases c : D 110 w < 1000000
    · have e1 : w32 (D 110 w + 1) = D 110 w + 1 := w32_id (by omega) (by omega)
      have e2 : mU D 110 w (D 110 w + 1) = D1 := by rw [hD1]; unfold capm; rw [if_pos c]
      rw [if_pos c, if_pos g80, if_pos g80, e1, e2, s159]
      simp only [Option.bind_some, psh_0]
    · have e2 : mU D 110 w 1000000 = D1 := by rw [hD1]; unfold capm; rw [if_neg c]
      rw [if_neg c, if_pos g80, e2, s159]
      simp only [Option.bind_some, psh_0]
  -- the pair's step
  have pr : ∃ H v3, qE 183 34 [(3, 106), (0, w), (9, 0), (9, 0)] [(0, lat D)] (mk D1) = qE 183 95 [(3, 106), (0, w), (0, lat D), v3] [] (mk H) ∧ (∀ a b, 0 ≤ a → a < 80 → 0 ≤ b → b < 80 → H 113 (80 * a + b) = lf D P w a b) ∧ ∀ y i, y ≠ 113 → H y i = D1 y i := by
    rw [e_183_34]
    by_cases c : lat D < 0
    · refine ⟨D1, (9, 0), by rw [if_pos c], fun a b a0 a1 b0 b1 => ?_, fun _ _ _ => rfl⟩
      unfold lf; rw [if_neg (by omega), o1 _ _ (by omega)]
    · have e1 : w32 (80 * lat D) = 80 * lat D := w32_id (by omega) (by omega)
      have e2 : w32 (80 * lat D + w) = 80 * lat D + w := w32_id (by omega) (by omega)
      have g64 : 0 ≤ 80 * lat D + w ∧ 80 * lat D + w < 6400 := by omega
      have q113 : ∀ i, D1 113 i = D 113 i := fun i => o1 _ _ (by omega)
      have b113 := h113 (lat D) w (by omega) (by omega) w0 (by omega)
      have s157 : qR 157 [(3, 106)] (mk D1) = some ((0, P), mk D1) := by rw [sp_157, ← hp, show D1 113 = D 113 from funext q113]
      have go : ∃ H, qE 183 65 [(3, 106), (0, w), (0, lat D), (0, 80 * lat D + w)] [] (mk D1) = qE 183 95 [(3, 106), (0, w), (0, lat D), (0, 80 * lat D + w)] [] (mk H) ∧ H = mU D1 113 (80 * lat D + w) (capm (D 113 (80 * lat D + w))) := by
        refine ⟨_, ?_, rfl⟩
        rw [e_183_65, if_pos g64, q113]
        unfold capm
        by_cases c2 : D 113 (80 * lat D + w) < 1000000
        · rw [if_pos c2, if_pos g64, if_pos g64, w32_id (by omega) (by omega), if_pos c2]
        · rw [if_neg c2, if_pos g64, if_neg c2]
      have fin : ∀ H, H = mU D1 113 (80 * lat D + w) (capm (D 113 (80 * lat D + w))) → ¬ (D 113 (80 * lat D + w) = 0 ∧ 150 ≤ P) → (∀ a b, 0 ≤ a → a < 80 → 0 ≤ b → b < 80 → H 113 (80 * a + b) = lf D P w a b) ∧ ∀ y i, y ≠ 113 → H y i = D1 y i := fun H hH hno => by
        refine ⟨fun a b a0 a1 b0 b1 => ?_, fun y i hy => by rw [hH, mU_r hy]⟩
        unfold lf
        by_cases e : a = lat D ∧ b = w
        · rw [if_pos ⟨by omega, e⟩, e.1, e.2, if_neg hno, hH, mU_s]
        · rw [if_neg (fun q => e q.2), hH, mU_other (by omega), q113]
      rw [if_neg c, e1, e2, if_pos g64, q113]
      by_cases z : D 113 (80 * lat D + w) ≤ 0
      · rw [if_pos z, s157]
        simp only [Option.bind_some, psh_0]
        rw [e_183_59]
        by_cases p : P < 150
        · rw [if_pos p]
          obtain ⟨H, g1, g2⟩ := go
          exact ⟨H, _, g1, fin H g2 (by omega)⟩
        · rw [if_neg p]
          refine ⟨D1, _, rfl, fun a b a0 a1 b0 b1 => ?_, fun _ _ _ => rfl⟩
          unfold lf
          rw [q113]
          by_cases e : a = lat D ∧ b = w
          · rw [if_pos ⟨by omega, e⟩, e.1, e.2, if_pos (by omega)]; omega
          · rw [if_neg (fun q => e q.2)]
      · rw [if_neg z]
        obtain ⟨H, g1, g2⟩ := go
        exact ⟨H, _, g1, fin H g2 (by omega)⟩
  obtain ⟨H, v3, p1, p2, p3⟩ := pr
  have H8 : H 106 8 = D 106 8 := by rw [p3 _ _ (by omega), o1 _ _ (by omega)]
  have H16 : H 106 16 = D 106 16 := by rw [p3 _ _ (by omega), o1 _ _ (by omega)]
  have f1 : w32 (D 106 8 + 1) = D 106 8 + 1 := w32_id (by omega) (by omega)
  have f2 : w32 (D 106 16 + 1) = D 106 16 + 1 := w32_id (by omega) (by omega)
  have a1 : ∀ (E : Mem) i v j, mU E 111 i v 106 j = E 106 j := fun E i v j => mU_r (by decide)
  have a2 : ∀ (E : Mem) i v j, mU E 117 i v 106 j = E 106 j := fun E i v j => mU_r (by decide)
  have a3 : ∀ (E : Mem) v, mU E 106 8 v 106 16 = E 106 16 := fun E v => mU_other (by decide)
  have a4 : ∀ (E : Mem) v, mU E 106 8 v 106 8 = v := fun E v => mU_s
  have g60 : 0 ≤ D 106 16 ∧ D 106 16 < 60 := by omega
  refine ⟨mU (mU (mU (mU H 106 8 (D 106 8 + 1)) 111 w (D 106 8 + 1)) 117 (D 106 16) w) 106 16 (D 106 16 + 1), ?_, ?_, ?_, ?_, ?_, mU_s, fun a b a0 a1 b0 b1 => ?_, fun y i q1 q2 q3 q4 q5 => ?_⟩
  · rw [st, p1, e_183_95, if_pos g80]
    simp only [a1, a2, a3, a4, H8, H16, f1, f2, if_pos g60]
  · rw [mU_r (by decide), mU_r (by decide), mU_r (by decide), mU_r (by decide), p3 _ _ (by omega), hD1, mU_s]
  · rw [mU_r (by decide), mU_r (by decide), mU_s]
  · rw [mU_other (by decide), mU_r (by decide), mU_r (by decide), mU_s]
  · rw [mU_r (by decide), mU_s]
  · rw [mU_r (by decide), mU_r (by decide), mU_r (by decide), mU_r (by decide)]; exact p2 a b a0 a1 b0 b1
  · rw [mU_other (by omega), mU_other (by omega), mU_other (by omega), mU_other (by omega), p3 _ _ q5, o1 _ _ (by omega)]
