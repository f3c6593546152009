/-! pairs forgotten -/
def remP (D : Mem) (p : Int) : Mem := mU (mU (mU (mU D 7 3 (D 7 3 - 1)) 8 p (D 8 (D 7 3 - 1))) 9 p (D 9 (D 7 3 - 1))) 10 p (D 10 (D 7 3 - 1))
theorem sp_46 {D : Mem} {p : Int} (h0 : 0 ≤ p) (h1 : p < D 7 3) (h2 : D 7 3 ≤ 150) : qR 46 [(3, 7), (0, p)] (mk D) = some ((9, 0), mk (remP D p)) := by
  have e1 : w32 (D 7 3 - 1) = D 7 3 - 1 := w32_id (by omega) (by omega)
  have a0 : ∀ v, mU D 7 3 v 7 3 = v := fun v => mU_s
  have a1 : ∀ v i, mU D 7 3 v 8 i = D 8 i := fun v i => mU_r (by decide)
  have a2 : ∀ v i, mU D 7 3 v 9 i = D 9 i := fun v i => mU_r (by decide)
  have a3 : ∀ v i, mU D 7 3 v 10 i = D 10 i := fun v i => mU_r (by decide)
  have b1 : ∀ (E : Mem) i v j, mU E 8 i v 7 j = E 7 j := fun E i v j => mU_r (by decide)
  have b2 : ∀ (E : Mem) i v j, mU E 8 i v 9 j = E 9 j := fun E i v j => mU_r (by decide)
  have b3 : ∀ (E : Mem) i v j, mU E 8 i v 10 j = E 10 j := fun E i v j => mU_r (by decide)
  have b4 : ∀ (E : Mem) i v j, mU E 9 i v 7 j = E 7 j := fun E i v j => mU_r (by decide)
  have b5 : ∀ (E : Mem) i v j, mU E 9 i v 10 j = E 10 j := fun E i v j => mU_r (by decide)
  have g1 : ¬ p < 0 := by omega
  have g2 : 0 ≤ D 7 3 - 1 ∧ D 7 3 - 1 < 150 := by omega
  have g3 : 0 ≤ p ∧ p < 150 := by omega
  rw [r_46]
  simp only [e1, a0, a1, a2, a3, b1, b2, b3, b4, b5, if_neg g1, if_pos h1, if_pos g2, if_pos g3]
  rfl
/-- the class's pairs are those of f -/
def LPr (D : Mem) (n : Int) (f : Int → Int → Int) : Prop := (0 ≤ D 7 3 ∧ D 7 3 ≤ 150) ∧ (∀ p, 0 ≤ p → p < D 7 3 → (0 ≤ D 8 p ∧ D 8 p < n) ∧ (0 ≤ D 9 p ∧ D 9 p < n) ∧ (1 ≤ D 10 p ∧ D 10 p ≤ 1000000) ∧ f (D 8 p) (D 9 p) = D 10 p) ∧ (∀ p q, 0 ≤ p → p < q → q < D 7 3 → ¬ (D 8 p = D 8 q ∧ D 9 p = D 9 q)) ∧ ∀ a b, 0 ≤ a → a < 80 → 0 ≤ b → b < 80 → (∀ p, 0 ≤ p → p < D 7 3 → ¬ (D 8 p = a ∧ D 9 p = b)) → f a b = 0
theorem LP_RP {D : Mem} (h : RP D) : LPr D (D 106 6) (fun a b => D 113 (80 * a + b)) := h
theorem RP_LP {D : Mem} {n : Int} {f : Int → Int → Int} (h : LPr D n f) (hn : n = D 106 6) (h8 : n ≤ 80) (hf : ∀ a b, 0 ≤ a → a < 80 → 0 ≤ b → b < 80 → D 113 (80 * a + b) = f a b) : RP D := by
  subst hn
  refine ⟨h.1, fun p p0 p1 => ?_, h.2.2.1, fun a b a0 a1 b0 b1 q => ?_⟩
  · obtain ⟨u1, u2, u3, u4⟩ := h.2.1 p p0 p1
    exact ⟨u1, u2, u3, by rw [hf _ _ u1.1 (by omega) u2.1 (by omega)]; exact u4⟩
  · rw [hf a b a0 a1 b0 b1]; exact h.2.2.2 a b a0 a1 b0 b1 q
theorem LP_congr {D E : Mem} {n : Int} {f : Int → Int → Int} (h : ∀ y i, 7 ≤ y → y ≤ 10 → E y i = D y i) (hL : LPr D n f) : LPr E n f := by
  have e : ∀ a, 7 ≤ a → a ≤ 10 → E a = D a := fun a h1 h2 => funext fun i => h a i h1 h2
  unfold LPr
  rw [e 7 (by omega) (by omega), e 8 (by omega) (by omega), e 9 (by omega) (by omega), e 10 (by omega) (by omega)]
  exact hL
theorem LP_ne {D : Mem} {n : Int} {f : Int → Int → Int} (h : LPr D n f) {p q : Int} (p0 : 0 ≤ p) (p1 : p < D 7 3) (q0 : 0 ≤ q) (q1 : q < D 7 3) (hne : p ≠ q) : ¬ (D 8 p = D 8 q ∧ D 9 p = D 9 q) := by
  by_cases c : p < q
  · exact h.2.2.1 p q p0 c q1
  · intro g
    exact h.2.2.1 q p q0 (by omega) p1 ⟨g.1.symm, g.2.symm⟩
theorem remP_7 (D : Mem) (p : Int) : remP D p 7 3 = D 7 3 - 1 := by
  unfold remP; rw [mU_r (by decide), mU_r (by decide), mU_r (by decide), mU_s]
theorem remP_8 (D : Mem) (p i : Int) : remP D p 8 i = D 8 (if i = p then D 7 3 - 1 else i) := by
  unfold remP; rw [mU_r (by decide), mU_r (by decide)]
  by_cases c : i = p
  · subst c; rw [mU_s, if_pos rfl]
  · rw [mU_other (by omega), mU_r (by decide), if_neg c]
theorem remP_9 (D : Mem) (p i : Int) : remP D p 9 i = D 9 (if i = p then D 7 3 - 1 else i) := by
  unfold remP; rw [mU_r (by decide)]
  by_cases c : i = p
  · subst c; rw [mU_s, if_pos rfl]
  · rw [mU_other (by omega), mU_r (by decide), mU_r (by decide), if_neg c]
theorem remP_10 (D : Mem) (p i : Int) : remP D p 10 i = D 10 (if i = p then D 7 3 - 1 else i) := by
  unfold remP
  by_cases c : i = p
  · subst c; rw [mU_s, if_pos rfl]
  · rw [mU_other (by omega), mU_r (by decide), mU_r (by decide), mU_r (by decide), if_neg c]
theorem remP_o (D : Mem) (p : Int) {y i : Int} (h : ¬ (7 ≤ y ∧ y ≤ 10)) : remP D p y i = D y i := by
  unfold remP; rw [mU_r (by omega), mU_r (by omega), mU_r (by omega), mU_r (by omega)]
theorem LP_rem {D : Mem} {n : Int} {f : Int → Int → Int} (h : LPr D n f) {p : Int} (p0 : 0 ≤ p) (p1 : p < D 7 3) : LPr (remP D p) n (fun a b => if a = D 8 p ∧ b = D 9 p then 0 else f a b) := by
  have hn := h.1
  unfold LPr
  simp only [remP_7, remP_8, remP_9, remP_10]
  have sg : ∀ q, 0 ≤ q → q < D 7 3 - 1 → ∃ r, (if q = p then D 7 3 - 1 else q) = r ∧ 0 ≤ r ∧ r < D 7 3 ∧ r ≠ p ∧ (q = p ∨ r = q) := by
    intro q q0 q1
    by_cases c : q = p
    · exact ⟨D 7 3 - 1, by rw [if_pos c], by omega, by omega, by omega, Or.inl c⟩
    · exact ⟨q, by rw [if_neg c], by omega, by omega, by omega, Or.inr rfl⟩
  refine ⟨by omega, fun q q0 q1 => ?_, fun q r q0 q1 r1 => ?_, fun a b a0 a1 b0 b1 q => ?_⟩
  · obtain ⟨r, e, r0, r1, r2, _⟩ := sg q q0 q1
    rw [e]
    obtain ⟨u1, u2, u3, u4⟩ := h.2.1 r r0 r1
    exact ⟨u1, u2, u3, by rw [if_neg (LP_ne h r0 r1 p0 p1 r2)]; exact u4⟩
  · have er : ∀ x, x ≠ p → (if x = p then D 7 3 - 1 else x) = x := fun x hx => if_neg hx
    by_cases cq : q = p
    · rw [er r (by omega), if_pos cq]
      exact LP_ne h (by omega) (by omega) (by omega) (by omega) (by omega)
    · rw [er q cq]
      by_cases cr : r = p
      · rw [if_pos cr]; exact LP_ne h (by omega) (by omega) (by omega) (by omega) (by omega)
      · rw [er r cr]; exact LP_ne h (by omega) (by omega) (by omega) (by omega) (by omega)
  · by_cases c : a = D 8 p ∧ b = D 9 p
    · rw [if_pos c]
    · rw [if_neg c]
      refine h.2.2.2 a b a0 a1 b0 b1 fun r r0 r1 g => ?_
      have rp : r ≠ p := fun e => c ⟨by rw [← g.1, e], by rw [← g.2, e]⟩
      by_cases cl : r = D 7 3 - 1
      · refine q p p0 (by omega) ?_
        rw [if_pos rfl, ← cl]; exact g
      · refine q r r0 (by omega) ?_
        rw [if_neg rp]; exact g
theorem sp_47 {D : Mem} {n : Int} {f : Int → Int → Int} (h : LPr D n f) (hn : n ≤ 80) (w : Int) : ∃ E, qR 47 [(3, 7), (0, w)] (mk D) = some ((9, 0), mk E) ∧ LPr E n (fun a b => if a = w ∨ b = w then 0 else f a b) ∧ ∀ y i, ¬ (7 ≤ y ∧ y ≤ 10) → E y i = D y i := by
  have h73 := h.1
  obtain ⟨E, e, ⟨g, hg, hgf⟩, h2, h3⟩ := it_invd (fun i (E : Mem) => qE 47 7 [(3, 7), (0, w), (0, i)] [] (mk E)) (fun i E => (∃ g, LPr E n g ∧ ∀ a b, ¬ (a = w ∨ b = w) → g a b = f a b) ∧ (i < E 7 3 ∧ ∀ q, i < q → q < E 7 3 → ¬ (E 8 q = w ∨ E 9 q = w)) ∧ ∀ y i, ¬ (7 ≤ y ∧ y ≤ 10) → E y i = D y i) (a := -1) (n := D 7 3 - 1) (by omega)
    (fun i E i0 i1 ⟨⟨g, hg, hgf⟩, h2, h3⟩ => by
      have hE := hg.1
      have gi : 0 ≤ i ∧ i < 150 := by omega
      have gn : ¬ i < 0 := by omega
      have e1 : w32 (i + -1) = i - 1 := w32_id (by omega) (by omega)
      by_cases c : E 8 i = w ∨ E 9 i = w
      · refine ⟨remP E i, ?_, ⟨_, LP_rem hg gi.1 (by omega), fun a b hab => ?_⟩, ?_, fun y j hy => ?_⟩
        · show qE 47 7 [(3, 7), (0, w), (0, i)] [] (mk E) = qE 47 7 [(3, 7), (0, w), (0, i - 1)] [] (mk (remP E i))
          rw [e_47_7, if_neg gn, if_pos gi, if_pos gi, sp_46 gi.1 (by omega) hE.2]
          simp only [Option.bind_some, psh_9]
          rw [e_47_36, e1]
          by_cases c1 : E 8 i = w
          · rw [if_pos c1]
          · rw [if_neg c1, if_pos (by omega)]
        · show (if a = E 8 i ∧ b = E 9 i then 0 else g a b) = f a b
          rw [if_neg (by omega)]; exact hgf a b hab
        · rw [remP_7]
          refine ⟨by omega, fun q q0 q1 => ?_⟩
          rw [remP_8, remP_9]
          by_cases cq : q = i
          · rw [if_pos cq]
            exact h2.2 _ (by omega) (by omega)
          · rw [if_neg cq]; exact h2.2 _ (by omega) (by omega)
        · rw [remP_o _ _ hy]; exact h3 y j hy
      · refine ⟨E, ?_, ⟨g, hg, hgf⟩, ⟨by omega, fun q q0 q1 => ?_⟩, h3⟩
        · show qE 47 7 [(3, 7), (0, w), (0, i)] [] (mk E) = qE 47 7 [(3, 7), (0, w), (0, i - 1)] [] (mk E)
          rw [e_47_7, if_neg gn, if_pos gi, if_pos gi, if_neg (fun q => c (Or.inl q)), if_neg (fun q => c (Or.inr q)), e_47_36, e1]
        · by_cases cq : q = i
          · subst cq; exact c
          · exact h2.2 q (by omega) q1)
    (s0 := D) ⟨⟨f, h, fun _ _ _ => rfl⟩, ⟨by omega, fun q q0 q1 => by omega⟩, fun _ _ _ => rfl⟩
  refine ⟨E, ?_, ?_, h3⟩
  · rw [r_47, w32_id (by omega) (by omega)]
    refine e.trans ?_
    show qE 47 7 [(3, 7), (0, w), (0, -1)] [] (mk E) = _
    rw [e_47_7, if_pos (by decide)]
  · refine ⟨hg.1, fun p p0 p1 => ?_, hg.2.2.1, fun a b a0 a1 b0 b1 q => ?_⟩
    · obtain ⟨u1, u2, u3, u4⟩ := hg.2.1 p p0 p1
      refine ⟨u1, u2, u3, ?_⟩
      have := h2.2 p (by omega) p1
      show (if E 8 p = w ∨ E 9 p = w then 0 else f (E 8 p) (E 9 p)) = _
      rw [if_neg this, ← hgf _ _ this]; exact u4
    · show (if a = w ∨ b = w then 0 else f a b) = 0
      by_cases c : a = w ∨ b = w
      · rw [if_pos c]
      · rw [if_neg c, ← hgf _ _ c]; exact hg.2.2.2 a b a0 a1 b0 b1 q
