/-! offers laid in their order -/
noncomputable def insP (A : Int → Prop) : Nat → Nat
  | 0 => 0
  | n + 1 => @ite Nat (A n) (Classical.propDecidable _) (insP A n) (n + 1)
theorem insP_spec (A : Int → Prop) : ∀ n : Nat, insP A n ≤ n ∧ (∀ q : Int, (insP A n : Int) ≤ q → q < n → A q) ∧ (insP A n = 0 ∨ ¬ A ((insP A n : Int) - 1))
  | 0 => ⟨Nat.le_refl 0, fun q a b => by omega, Or.inl rfl⟩
  | n + 1 => by
    obtain ⟨a, b, c⟩ := insP_spec A n
    by_cases h : A n
    · have e : insP A (n + 1) = insP A n := if_pos h
      rw [e]
      refine ⟨by omega, fun q q0 q1 => ?_, c⟩
      by_cases z : q = n
      · rw [z]; exact h
      · exact b q q0 (by omega)
    · have e : insP A (n + 1) = n + 1 := if_neg h
      rw [e]
      refine ⟨Nat.le_refl _, fun q q0 q1 => by omega, Or.inr ?_⟩
      rw [show ((n + 1 : Nat) : Int) - 1 = (n : Int) by omega]; exact h
theorem insP_one {A : Int → Prop} {n p : Int} (n0 : 0 ≤ n) (p0 : 0 ≤ p) (p1 : p ≤ n) (h1 : ∀ q, p ≤ q → q < n → A q) (h2 : p = 0 ∨ ¬ A (p - 1)) : p = (insP A n.toNat : Int) := by
  obtain ⟨a, b, c⟩ := insP_spec A n.toNat
  by_cases l : p < (insP A n.toNat : Int)
  · rcases c with c | c
    · omega
    · exact absurd (h1 _ (by omega) (by omega)) c
  · by_cases g : (insP A n.toNat : Int) < p
    · rcases h2 with h2 | h2
      · omega
      · exact absurd (b (p - 1) (by omega) (by omega)) h2
    · omega
def insI (o : Int → Int) (p v i : Int) : Int := if i < p then o i else if i = p then v else o (i - 1)
/-- behind the insertion of w with worth a into z offers: the class -/
theorem sp_75 {D : Mem} {k w a z : Int} (hW : RW D k) (w0 : 0 ≤ w) (w1 : w < D 106 6) (hz : D 31 9 = z) (z0 : 0 ≤ z) (z1 : z < 40) (ho : ∀ q, 0 ≤ q → q < z → 0 ≤ D 36 q ∧ D 36 q < D 106 6) : ∃ E p, qR 75 [(3, 31), (0, w), (0, a)] (mk D) = some ((9, 0), mk E) ∧ p = (insP (fun q => ahd D w a (D 36 q) (D 37 q)) z.toNat : Int) ∧ 0 ≤ p ∧ p ≤ z ∧ E 31 9 = z + 1 ∧ (∀ i, 0 ≤ i → i ≤ z → E 36 i = insI (D 36) p w i ∧ E 37 i = insI (D 37) p a i) ∧ ∀ y i, y ≠ 36 → y ≠ 37 → ¬ (y = 31 ∧ i = 9) → E y i = D y i := by
  have hsp := insP_spec (fun q => ahd D w a (D 36 q) (D 37 q)) z.toNat
  obtain ⟨p, hp⟩ : ∃ p : Int, p = (insP (fun q => ahd D w a (D 36 q) (D 37 q)) z.toNat : Int) := ⟨_, rfl⟩
  rw [← hp] at hsp
  obtain ⟨s1, s2, s3⟩ := hsp
  have s3' : p = 0 ∨ ¬ ahd D w a (D 36 (p - 1)) (D 37 (p - 1)) := by
    rcases s3 with q | q
    · exact Or.inl (by omega)
    · exact Or.inr q
  obtain ⟨E, e, h1, h2, h3, h4⟩ := it_invd (fun i (E : Mem) => qE 75 15 [(3, 31), (0, w), (0, a), (0, i)] [] (mk E)) (fun i E => (∀ q, 0 ≤ q → q < i → E 36 q = D 36 q ∧ E 37 q = D 37 q) ∧ (∀ q, i < q → q ≤ z → E 36 q = D 36 (q - 1) ∧ E 37 q = D 37 (q - 1)) ∧ (E 31 9 = z) ∧ ∀ y j, y ≠ 36 → y ≠ 37 → E y j = D y j) (a := p) (n := z) (by omega)
    (fun i E i0 i1 ⟨h1, h2, h3, h4⟩ => by
      have hWE : RW E k := RW_congr (fun y j q => h4 y j (by unfold supW at q; omega) (by unfold supW at q; omega)) hW
      have e1 : w32 (i - 1) = i - 1 := w32_id (by omega) (by omega)
      have e2 : w32 (i + -1) = i - 1 := w32_id (by omega) (by omega)
      have q1 := h1 (i - 1) (by omega) (by omega)
      have E6 : E 106 6 = D 106 6 := h4 _ _ (by decide) (by decide)
      have oo := ho (i - 1) (by omega) (by omega)
      have ah : ahd E w a (D 36 (i - 1)) (D 37 (i - 1)) := (ahd_cg (fun y j q => h4 y j (by omega) (by omega)) _ _ _ _).2 (s2 (i - 1) (by omega) (by omega))
      have s72 := (sp_72 (D := E) hWE w0 (by omega) oo.1 (by omega)).1 ah
      refine ⟨mU (mU E 36 i (D 36 (i - 1))) 37 i (D 37 (i - 1)), ?_, fun q q0 q1 => ?_, fun q q0 q1 => ?_, ?_, fun y j y1 y2 => ?_⟩
      · show qE 75 15 [(3, 31), (0, w), (0, a), (0, i)] [] (mk E) = qE 75 15 [(3, 31), (0, w), (0, a), (0, i - 1)] [] (mk _)
        rw [e_75_15, if_neg (by omega), e1, if_pos (by omega), if_pos (by omega), q1.1, q1.2, s72]
        simp only [Option.bind_some, psh_0]
        rw [e_75_41, if_neg (by decide), e1, e2, if_pos (by omega), if_pos (by omega), if_pos (by omega), if_pos (by omega), q1.1, mU_r (by decide), q1.2]
      · rw [mU_r (by decide), mU_other (by omega), mU_other (by omega), mU_r (by decide)]; exact h1 q q0 (by omega)
      · by_cases c : q = i
        · rw [c, mU_r (by decide), mU_s, mU_s]; exact ⟨rfl, rfl⟩
        · rw [mU_r (by decide), mU_other (by omega), mU_other (by omega), mU_r (by decide)]; exact h2 q (by omega) q1
      · rw [mU_r (by decide), mU_r (by decide)]; exact h3
      · rw [mU_r y2, mU_r y1]; exact h4 y j y1 y2)
    (s0 := D) ⟨fun q q0 q1 => ⟨rfl, rfl⟩, fun q q0 q1 => by omega, hz, fun _ _ _ _ => rfl⟩
  have g40 : 0 ≤ p ∧ p < 40 := by omega
  have fin : qE 75 15 [(3, 31), (0, w), (0, a), (0, p)] [] (mk E) = qE 75 78 [(3, 31), (0, w), (0, a), (0, p)] [] (mk E) := by
    rw [e_75_15]
    by_cases c : p ≤ 0
    · rw [if_pos c]
    · have hWE : RW E k := RW_congr (fun y j q => h4 y j (by unfold supW at q; omega) (by unfold supW at q; omega)) hW
      have e1 : w32 (p - 1) = p - 1 := w32_id (by omega) (by omega)
      have q1 := h1 (p - 1) (by omega) (by omega)
      have E6 : E 106 6 = D 106 6 := h4 _ _ (by decide) (by decide)
      have oo := ho (p - 1) (by omega) (by omega)
      have na : ¬ ahd E w a (D 36 (p - 1)) (D 37 (p - 1)) := fun q => by
        rcases s3' with z | z
        · omega
        · exact z ((ahd_cg (fun y j q => h4 y j (by omega) (by omega)) _ _ _ _).1 q)
      rw [if_neg c, e1, if_pos (by omega), if_pos (by omega), q1.1, q1.2, (sp_72 (D := E) hWE w0 (by omega) oo.1 (by omega)).2 na]
      simp only [Option.bind_some, psh_0]
      rw [e_75_41, if_pos rfl]
  refine ⟨mU (mU (mU E 36 p w) 37 p a) 31 9 (z + 1), p, ?_, hp, by omega, by omega, mU_s, fun i i0 i1 => ?_, fun y i y1 y2 y3 => ?_⟩
  · have a1 : mU (mU E 36 p w) 37 p a 31 9 = z := by rw [mU_r (by decide), mU_r (by decide)]; exact h3
    rw [r_75, hz, if_pos z1]
    refine e.trans ?_
    show qE 75 15 [(3, 31), (0, w), (0, a), (0, p)] [] (mk E) = _
    rw [fin, e_75_78, if_pos g40, if_pos g40, a1, w32_id (by omega) (by omega)]
  · have r36 : mU (mU (mU E 36 p w) 37 p a) 31 9 (z + 1) 36 i = mU E 36 p w 36 i := by rw [mU_r (by decide), mU_r (by decide)]
    have r37 : mU (mU (mU E 36 p w) 37 p a) 31 9 (z + 1) 37 i = mU (mU E 36 p w) 37 p a 37 i := mU_r (by decide)
    rw [r36, r37]
    unfold insI
    by_cases c1 : i < p
    · rw [if_pos c1, if_pos c1, mU_other (by omega), mU_other (by omega), mU_r (by decide)]; exact h1 i i0 c1
    · rw [if_neg c1, if_neg c1]
      by_cases c2 : i = p
      · rw [if_pos c2, if_pos c2, c2, mU_s, mU_s]; exact ⟨rfl, rfl⟩
      · rw [if_neg c2, if_neg c2, mU_other (by omega), mU_other (by omega), mU_r (by decide)]; exact h2 i (by omega) i1
  · rw [mU_other y3, mU_r y2, mU_r y1]; exact h4 y i y1 y2
/-- the same by the reference, from its loop's head to its next word -/
theorem sq_179i {D : Mem} {kd lm bh w a z pr : Int} (hR : rOK D) (w0 : 0 ≤ w) (w1 : w < D 106 6) (hz : D 106 30 = z) (z0 : 0 ≤ z) (z1 : z ≤ 79) (ho : ∀ q, 0 ≤ q → q < z → 0 ≤ D 125 q ∧ D 125 q < D 106 6) : ∃ E p, qE 179 50 [(3, 106), (0, kd), (0, lm), (0, bh), (0, w), (0, pr), (0, a), (0, z)] [] (mk D) = qE 179 8 [(3, 106), (0, kd), (0, lm), (0, bh), (0, w + 1), (0, pr), (0, a), (0, p)] [] (mk E) ∧ p = (insP (fun q => ahd D w a (D 125 q) (D 126 q)) z.toNat : Int) ∧ 0 ≤ p ∧ p ≤ z ∧ E 106 30 = z + 1 ∧ (∀ i, 0 ≤ i → i ≤ z → E 125 i = insI (D 125) p w i ∧ E 126 i = insI (D 126) p a i) ∧ ∀ y i, y ≠ 125 → y ≠ 126 → ¬ (y = 106 ∧ i = 30) → E y i = D y i := by
  have hn := hR.1
  have hsp := insP_spec (fun q => ahd D w a (D 125 q) (D 126 q)) z.toNat
  obtain ⟨p, hp⟩ : ∃ p : Int, p = (insP (fun q => ahd D w a (D 125 q) (D 126 q)) z.toNat : Int) := ⟨_, rfl⟩
  rw [← hp] at hsp
  obtain ⟨s1, s2, s3⟩ := hsp
  have s3' : p = 0 ∨ ¬ ahd D w a (D 125 (p - 1)) (D 126 (p - 1)) := by
    rcases s3 with q | q
    · exact Or.inl (by omega)
    · exact Or.inr q
  -- one comparison at i > 0
  have cmp : ∀ (E : Mem) i, 0 < i → i ≤ z → (∀ y j, y ≠ 125 → y ≠ 126 → E y j = D y j) → E 125 (i - 1) = D 125 (i - 1) → E 126 (i - 1) = D 126 (i - 1) → (ahd D w a (D 125 (i - 1)) (D 126 (i - 1)) → qE 179 50 [(3, 106), (0, kd), (0, lm), (0, bh), (0, w), (0, pr), (0, a), (0, i)] [] (mk E) = qE 179 101 [(3, 106), (0, kd), (0, lm), (0, bh), (0, w), (0, pr), (0, a), (0, i)] [] (mk E)) ∧ (¬ ahd D w a (D 125 (i - 1)) (D 126 (i - 1)) → qE 179 50 [(3, 106), (0, kd), (0, lm), (0, bh), (0, w), (0, pr), (0, a), (0, i)] [] (mk E) = qE 179 139 [(3, 106), (0, kd), (0, lm), (0, bh), (0, w), (0, pr), (0, a), (0, i)] [] (mk E)) := fun E i i0 i1 h4 q1 q2 => by
    have hRE : rOK E := rOK_congr (fun y j q => h4 y j (by unfold supR at q; omega) (by unfold supR at q; omega)) hR
    have e1 : w32 (i - 1) = i - 1 := w32_id (by omega) (by omega)
    have E6 : E 106 6 = D 106 6 := h4 _ _ (by decide) (by decide)
    have oo := ho (i - 1) (by omega) (by omega)
    have wc := wlt_cg (D := D) (E := E) (fun y j q => h4 y j (by omega) (by omega)) w (D 125 (i - 1))
    have s178 := sq_178 (D := E) hRE w0 (by omega) oo.1 (by omega)
    rw [e_179_50, if_neg (by omega), e1, if_pos (by omega), q1, q2]
    by_cases c1 : D 126 (i - 1) < a
    · rw [if_pos c1]
      exact ⟨fun _ => rfl, fun h => absurd (Or.inl c1) h⟩
    · rw [if_neg c1, if_pos (by omega)]
      by_cases c2 : D 126 (i - 1) = a
      · rw [if_pos c2, if_pos (by omega)]
        constructor
        · intro h
          have hw : wlt D w (D 125 (i - 1)) := by rcases h with h | h; exact absurd h c1; exact h.2
          rw [s178.1 (wc.2 hw)]
          simp only [Option.bind_some, psh_0]
          rw [e_179_98, if_neg (by decide)]
        · intro h
          have hw : ¬ wlt D w (D 125 (i - 1)) := fun q => h (Or.inr ⟨c2.symm, q⟩)
          rw [s178.2 (fun q => hw (wc.1 q))]
          simp only [Option.bind_some, psh_0]
          rw [e_179_98, if_pos rfl]
      · rw [if_neg c2]
        exact ⟨fun h => by rcases h with h | h; exact absurd h c1; exact absurd h.1.symm c2, fun _ => rfl⟩
  obtain ⟨E, e, h1, h2, h3, h4⟩ := it_invd (fun i (E : Mem) => qE 179 50 [(3, 106), (0, kd), (0, lm), (0, bh), (0, w), (0, pr), (0, a), (0, i)] [] (mk E)) (fun i E => (∀ q, 0 ≤ q → q < i → E 125 q = D 125 q ∧ E 126 q = D 126 q) ∧ (∀ q, i < q → q ≤ z → E 125 q = D 125 (q - 1) ∧ E 126 q = D 126 (q - 1)) ∧ (E 106 30 = z) ∧ ∀ y j, y ≠ 125 → y ≠ 126 → E y j = D y j) (a := p) (n := z) (by omega)
    (fun i E i0 i1 ⟨h1, h2, h3, h4⟩ => by
      have e1 : w32 (i - 1) = i - 1 := w32_id (by omega) (by omega)
      have e2 : w32 (i + -1) = i - 1 := w32_id (by omega) (by omega)
      have q1 := h1 (i - 1) (by omega) (by omega)
      refine ⟨mU (mU E 126 i (D 126 (i - 1))) 125 i (D 125 (i - 1)), ?_, fun q q0 q1 => ?_, fun q q0 q1 => ?_, ?_, fun y j y1 y2 => ?_⟩
      · show qE 179 50 [(3, 106), (0, kd), (0, lm), (0, bh), (0, w), (0, pr), (0, a), (0, i)] [] (mk E) = qE 179 50 [(3, 106), (0, kd), (0, lm), (0, bh), (0, w), (0, pr), (0, a), (0, i - 1)] [] (mk _)
        rw [(cmp E i (by omega) i1 h4 q1.1 q1.2).1 (s2 (i - 1) (by omega) (by omega)), e_179_101, e1, e2, if_pos (by omega), if_pos (by omega), if_pos (by omega), if_pos (by omega), q1.2, mU_r (by decide), q1.1]
      · rw [mU_other (by omega), mU_r (by decide), mU_r (by decide), mU_other (by omega)]; exact h1 q q0 (by omega)
      · by_cases c : q = i
        · rw [c, mU_s, mU_r (by decide), mU_s]; exact ⟨rfl, rfl⟩
        · rw [mU_other (by omega), mU_r (by decide), mU_r (by decide), mU_other (by omega)]; exact h2 q (by omega) q1
      · rw [mU_r (by decide), mU_r (by decide)]; exact h3
      · rw [mU_r y1, mU_r y2]; exact h4 y j y1 y2)
    (s0 := D) ⟨fun q q0 q1 => ⟨rfl, rfl⟩, fun q q0 q1 => by omega, hz, fun _ _ _ _ => rfl⟩
  have g80 : 0 ≤ p ∧ p < 80 := by omega
  have fin : qE 179 50 [(3, 106), (0, kd), (0, lm), (0, bh), (0, w), (0, pr), (0, a), (0, p)] [] (mk E) = qE 179 139 [(3, 106), (0, kd), (0, lm), (0, bh), (0, w), (0, pr), (0, a), (0, p)] [] (mk E) := by
    by_cases c : p ≤ 0
    · rw [e_179_50, if_pos c]
    · have q1 := h1 (p - 1) (by omega) (by omega)
      refine (cmp E p (by omega) (by omega) h4 q1.1 q1.2).2 ?_
      rcases s3' with z | z
      · omega
      · exact z
  refine ⟨mU (mU (mU E 126 p a) 125 p w) 106 30 (z + 1), p, ?_, hp, by omega, by omega, mU_s, fun i i0 i1 => ?_, fun y i y1 y2 y3 => ?_⟩
  · have a1 : mU (mU E 126 p a) 125 p w 106 30 = z := by rw [mU_r (by decide), mU_r (by decide)]; exact h3
    refine e.trans ?_
    show qE 179 50 [(3, 106), (0, kd), (0, lm), (0, bh), (0, w), (0, pr), (0, a), (0, p)] [] (mk E) = _
    rw [fin, e_179_139, if_pos g80, if_pos g80, a1, w32_id (x := z + 1) (by omega) (by omega), w32_id (x := w + 1) (by omega) (by omega)]
  · have r125 : mU (mU (mU E 126 p a) 125 p w) 106 30 (z + 1) 125 i = mU (mU E 126 p a) 125 p w 125 i := mU_r (by decide)
    have r126 : mU (mU (mU E 126 p a) 125 p w) 106 30 (z + 1) 126 i = mU E 126 p a 126 i := by rw [mU_r (by decide), mU_r (by decide)]
    rw [r125, r126]
    unfold insI
    by_cases c1 : i < p
    · rw [if_pos c1, if_pos c1, mU_other (by omega), mU_r (by decide), mU_other (by omega)]; exact h1 i i0 c1
    · rw [if_neg c1, if_neg c1]
      by_cases c2 : i = p
      · rw [if_pos c2, if_pos c2, c2, mU_s, mU_s]; exact ⟨rfl, rfl⟩
      · rw [if_neg c2, if_neg c2, mU_other (by omega), mU_r (by decide), mU_other (by omega)]; exact h2 i (by omega) i1
  · rw [mU_other y3, mU_r y1, mU_r y2]; exact h4 y i y1 y2
