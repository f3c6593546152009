/-! the relation behind the entry of a word -/
theorem RW_ent {F V : Mem} {k n s c : Int} (hW : RW F k) (hn : F 106 6 = n) (n1 : n < 80) (h40 : F 5 3 < 40) (s0 : 1 ≤ s) (s1 : s ≤ 10) (c0 : 1 ≤ c) (c1 : c ≤ 1000000) (hl : ∀ i, 0 ≤ i → i < s → 0 ≤ F 115 i ∧ F 115 i ≤ 25) (hno : ∀ v, 0 ≤ v → v < n → F 112 v = 1 → ¬ (F 109 v = s ∧ ∀ i, 0 ≤ i → i < s → F 108 (10 * v + i) = F 115 i))
    (a1 : V 5 2 = n + 1) (a2 : V 5 3 = F 5 3 + 1) (a3 : V 5 4 = F 5 4 + 1) (a4 : V (131 + 3 * n) 1 = c) (a5 : V (131 + 3 * n) 2 = F 106 8 + 1) (a6 : V (131 + 3 * n) 3 = 1) (a7 : V (132 + 3 * n) 1 = s) (a8 : V (-(133 + 3 * n)) 1 = s) (a9 : ∀ i, 0 ≤ i → i < s → V (133 + 3 * n) i = F 115 i)
    (b1 : V 106 6 = n + 1) (b2 : V 106 8 = F 106 8 + 1) (b3 : V 109 n = s) (b4 : V 110 n = c) (b5 : V 111 n = F 106 8 + 1) (b6 : V 112 n = 1) (b7 : ∀ i, 0 ≤ i → i < s → V 108 (10 * n + i) = F 115 i)
    (hf : ∀ y i, supW y i → y ≠ 5 → y < 131 + 3 * n → -(131 + 3 * n) < y → y ≠ 106 → ¬ (109 ≤ y ∧ y ≤ 112 ∧ i = n) → ¬ (y = 108 ∧ 10 * n ≤ i) → V y i = F y i) : RW V (k + 1) := by
  obtain ⟨w1, w2, w3, w4, w5⟩ := hW
  have n0 : 0 ≤ n := by omega
  have f9 : ∀ a v, 109 ≤ a → a ≤ 112 → v ≠ n → V a v = F a v := fun a v q1 q2 q3 => hf a v (by unfold supW; omega) (by omega) (by omega) (by omega) (by omega) (by omega) (by omega)
  have f8 : ∀ j, j < 10 * n → V 108 j = F 108 j := fun j q => hf 108 j (by unfold supW; omega) (by omega) (by omega) (by omega) (by omega) (by omega) (by omega)
  have fw : ∀ a i v, 0 ≤ v → v < n → (a = 131 ∨ a = 132 ∨ a = 133) → V (a + 3 * v) i = F (a + 3 * v) i ∧ V (-(a + 3 * v)) i = F (-(a + 3 * v)) i := fun a i v q1 q2 q3 => ⟨hf _ i (by unfold supW; omega) (by omega) (by omega) (by omega) (by omega) (by omega) (by omega), hf _ i (by unfold supW; omega) (by omega) (by omega) (by omega) (by omega) (by omega) (by omega)⟩
  refine ⟨by omega, by omega, fun v g0 g1 => ?_, ?_, fun u v g0 g1 g2 g3 g4 => ?_⟩
  · by_cases e : v = n
    · subst e
      unfold wordOK
      rw [b3, b4, b5, b6, a4, a5, a6, a7, a8, b2]
      refine ⟨by omega, fun i i0 i1 => ?_, by omega, by omega, by omega⟩
      rw [b7 i i0 i1, a9 i i0 i1]; exact ⟨rfl, hl i i0 i1⟩
    · obtain ⟨v1, v2, v3, v4, v5⟩ := w3 v g0 (by omega)
      have q : v < n := by omega
      unfold wordOK
      rw [f9 109 v (by omega) (by omega) e, f9 110 v (by omega) (by omega) e, f9 111 v (by omega) (by omega) e, f9 112 v (by omega) (by omega) e, (fw 131 1 v g0 q (by omega)).1, (fw 131 2 v g0 q (by omega)).1, (fw 131 3 v g0 q (by omega)).1, (fw 132 1 v g0 q (by omega)).1, (fw 133 1 v g0 q (by omega)).2, b2]
      refine ⟨v1, fun i i0 i1 => ?_, v3, by omega, v5⟩
      rw [(fw 133 i v g0 q (by omega)).1, f8 _ (by omega)]
      exact v2 i i0 i1
  · have e1 : S (V 112) (n + 1) = S (V 112) n + V 112 n := S_succ _ n0
    have e2 : S (V 112) n = S (F 112) n := S_congr fun j j0 j1 => f9 112 j (by omega) (by omega) (by omega)
    rw [a2, b1, e1, e2, b6]
    rw [hn] at w4
    omega
  · rw [b1] at g2
    rw [f9 112 u (by omega) (by omega) (by omega)] at g3
    intro hs
    unfold sameW at hs
    rw [f9 109 u (by omega) (by omega) (by omega)] at hs
    obtain ⟨⟨u1, u2, u3⟩, _⟩ := w3 u g0 (by omega)
    by_cases e : v = n
    · subst e
      rw [b3] at hs
      refine hno u g0 g1 g3 ⟨hs.1, fun i i0 i1 => ?_⟩
      have := hs.2 i i0 (by omega)
      rw [f8 _ (by omega), b7 i i0 i1] at this
      exact this
    · rw [f9 112 v (by omega) (by omega) e] at g4
      rw [f9 109 v (by omega) (by omega) e] at hs
      refine w5 u v g0 g1 (by omega) g3 g4 ⟨hs.1, fun i i0 i1 => ?_⟩
      have := hs.2 i i0 i1
      rw [f8 _ (by omega), f8 _ (by omega)] at this
      exact this
theorem LP_mono {D : Mem} {n m : Int} {f : Int → Int → Int} (h : LPr D n f) (hm : n ≤ m) : LPr D m f :=
  ⟨h.1, fun p p0 p1 => by obtain ⟨u1, u2, u3⟩ := h.2.1 p p0 p1; exact ⟨by omega, by omega, u3⟩, h.2.2⟩
theorem RN0_congr {D E : Mem} {k : Int} (h : ∀ a i, (11 ≤ a ∧ a ≤ 30) ∨ (118 ≤ a ∧ a ≤ 121) ∨ (a = 106 ∧ (i = 21 ∨ i = 22)) → E a i = D a i) (hR : RN0 D k) : RN0 E k := by
  have e : ∀ a, a = 13 ∨ a = 14 ∨ (118 ≤ a ∧ a ≤ 121) → E a = D a := fun a h1 => funext fun i => h a i (by omega)
  have nc : ∀ n c, 0 ≤ n → n < 8 → ncEq D n c → ncEq E n c := fun n c h0 h1 hR => by
    unfold ncEq at *
    rw [h 14 n (by omega), h 121 c (by omega), h 13 n (by omega), h 120 c (by omega), h (15 + 2 * n) 1 (by omega), h 119 c (by omega)]
    refine ⟨hR.1, hR.2.1, hR.2.2.1, fun i a b => ?_⟩
    rw [h (16 + 2 * n) i (by omega), h 118 _ (by omega)]
    exact hR.2.2.2 i a b
  obtain ⟨r1, r2, r3, r4, r5, r6⟩ := hR
  unfold RN0
  rw [h 11 3 (by omega), h 106 22 (by omega), h 106 21 (by omega), e 13 (by omega), e 14 (by omega), e 118 (by omega), e 119 (by omega), e 121 (by omega)]
  refine ⟨r1, r2, fun n a b => ?_, fun c a b => ?_, r5, r6⟩
  · rw [h (15 + 2 * n) 1 (by omega)]
    refine ⟨(r3 n a b).1, ?_⟩
    rcases (r3 n a b).2 with q | ⟨q1, q2, q3, c, c0, c1, q4⟩
    · exact Or.inl q
    · exact Or.inr ⟨q1, q2, q3, c, c0, c1, nc _ _ a b q4⟩
  · obtain ⟨q1, n, n0, n1, q2, q3⟩ := r4 c a b
    exact ⟨q1, n, n0, n1, q2, nc _ _ n0 n1 q3⟩
/-- a cell of the reference -/
def rfc (y : Int) : Prop := 106 ≤ y ∧ y ≤ 130
/-- class cells of A, the reference's of B -/
def mrg (A B : Mem) : Mem := fun y i => if 106 ≤ y ∧ y ≤ 130 then B y i else A y i
theorem mrg_r (A B : Mem) {y : Int} (h : rfc y) (i : Int) : mrg A B y i = B y i := if_pos h
theorem mrg_c (A B : Mem) {y : Int} (h : ¬ rfc y) (i : Int) : mrg A B y i = A y i := if_neg h
/-- entry on both sides: D ahead, class's memory A behind, reference's run on E (whose words are D's), G behind -/
theorem ent_both {D : Mem} {k c : Int} (hW : RW D k) (hP : RP D) (hS : RSa D) (hk : k ≤ 1000) (hlt : D 106 6 < 80) (s0 : 1 ≤ D 106 12) (c0 : 1 ≤ c) (c1 : c ≤ 1000000) (hno : ∀ w, 0 ≤ w → w < D 106 6 → ¬ mat D w)  :
    ∃ A, qR 10 [(3, 5), (3, 98), (0, c)] (mk D) = some ((0, D 106 6), mk A) ∧ A 0 3 = D 0 3 + 6 + D 98 1 ∧ (∀ y i, ¬ (7 ≤ y ∧ y ≤ 10) → y < 131 → -131 < y → y ≠ 5 → ¬ (y = 0 ∧ i = 3) → A y i = D y i) ∧ ∀ E : Mem, (∀ y i, (108 ≤ y ∧ y ≤ 113) ∨ y = 115 ∨ (y = 106 ∧ (i = 6 ∨ i = 8 ∨ i = 12)) → E y i = D y i) → ∃ G, qR 153 [(3, 106), (0, c)] (mk E) = some ((0, D 106 6), mk G) ∧ RW (mrg A G) (k + 1) ∧ RP (mrg A G) ∧ G 106 6 = D 106 6 + 1 ∧ G 106 8 = D 106 8 + 1 ∧ G 112 (D 106 6) = 1 ∧ (∀ v, v ≠ D 106 6 → ∀ b, G 112 v = b → b = 1 → D 112 v = 1) ∧
      (∀ y i, ¬ (108 ≤ y ∧ y ≤ 113) → ¬ (y = 106 ∧ (i = 6 ∨ i = 8)) → G y i = E y i) := by
  have hn := hW.1
  have h8 := hW.2.1
  have h53 := hW.2.2.2.1
  obtain ⟨t1, t2, t3, t4, t5⟩ := hS
  obtain ⟨C, q1, q2, q3⟩ := sp_10 hW (LP_RP hP) hn.2.2 hk ⟨t1, t2, t3, t4, t5⟩ hlt c
  have k6 : ∀ y i, ¬ (7 ≤ y ∧ y ≤ 10) → y < 131 → -131 < y → ¬ (y = 5 ∧ i = 3) → C y i = D y i := by
    rcases q3 with ⟨c40, rfl⟩ | ⟨e40, r, hr, p2, p3, p4, p5⟩
    · exact fun _ _ _ _ _ _ => rfl
    · have r0 := hr.1.1
      exact fun y i y1 y2 y3 y4 => p5 y i y1 (by omega) y4
  have C98 : C 98 1 = D 106 12 := by rw [k6 _ _ (by omega) (by omega) (by omega) (by omega)]; exact t1
  have C99 : ∀ i, C 99 i = D 115 i := fun i => by rw [k6 _ _ (by omega) (by omega) (by omega) (by omega), t4]
  have C54 : C 5 4 = D 106 8 := by rw [k6 _ _ (by omega) (by omega) (by omega) (by omega)]; omega
  have C03 : C 0 3 = D 0 3 := k6 _ _ (by omega) (by omega) (by omega) (by omega)
  have c52 : 0 ≤ C 5 2 := by omega
  refine ⟨entE C c, q1, by rw [entE_0 c52, C03, C98, t1], fun y i y1 y2 y3 y4 y5 => ?_, fun E hE => ?_⟩
  · rw [entE_o c (by omega) (by omega) y5 (by omega)]; exact k6 y i y1 y2 y3 (by omega)
  have hsame : sameR D E := ⟨hE _ _ (by omega), funext fun i => hE _ _ (by omega), funext fun i => hE _ _ (by omega), hE _ _ (by omega), hE _ _ (by omega), funext fun i => hE _ _ (by omega)⟩
  have s152 := sr_152 hW hsame
  -- the reference's memory R behind its go, and what C and R have
  have key : ∃ R, (∃ v2 v3, qR 153 [(3, 106), (0, c)] (mk E) = qE 153 66 [(3, 106), (0, c), v2, v3] [] (mk R)) ∧ RW (mrg C R) k ∧ RP (mrg C R) ∧ C 5 3 < 40 ∧ (∀ v, R 112 v = 1 → D 112 v = 1) ∧ (∀ y i, y ≠ 112 → y ≠ 113 → R y i = E y i) := by
    rcases q3 with ⟨c40, rfl⟩ | ⟨e40, r, hr, p2, p3, p4, p5⟩
    · refine ⟨E, ⟨(9, 0), (9, 0), ?_⟩, ?_, ?_, c40, fun v hv => by rw [← hE 112 v (by omega)]; exact hv, fun _ _ _ _ => rfl⟩
      · rw [r_153, s152]
        simp only [Option.bind_some, psh_0]
        rw [e_153_4, if_neg (by omega)]
      · refine RW_congr (fun y i q => ?_) hW
        by_cases cr : rfc y
        · rw [mrg_r _ _ cr]; exact hE y i (by unfold rfc at cr; unfold supW at q; omega)
        · rw [mrg_c _ _ cr]
      · refine RP_congr (fun y i q => ?_) hP
        by_cases cr : rfc y
        · rw [mrg_r _ _ cr]; exact hE y i (by unfold rfc at cr; unfold supP at q; omega)
        · rw [mrg_c _ _ cr]
    · obtain ⟨r', hr', l1⟩ := sr_153l hW hsame (some_thr hW (by omega)) c
      have er : r' = r := lu_one hr' hr
      rw [er] at l1
      have rt := hr.1
      have r0 := rt.1
      have r1 := rt.2.1
      obtain ⟨R, g1, g2, g3, g4⟩ := sp_151 (D := E) (w := r) r0 (by omega)
      have hf : ∀ y i, ¬ (7 ≤ y ∧ y ≤ 10) → y ≠ 113 → ¬ (y = 131 + 3 * r ∧ i = 3) → ¬ (y = 112 ∧ i = r) → ¬ (y = 5 ∧ i = 3) → supW y i ∨ supP y i → mrg C R y i = D y i := fun y i y1 y2 y3 y4 y5 y6 => by
        by_cases cr : rfc y
        · rw [mrg_r _ _ cr, g3 y i y2 y4]; exact hE y i (by unfold rfc at cr; unfold supW supP at y6; omega)
        · rw [mrg_c _ _ cr]; exact p5 y i y1 y3 y5
      refine ⟨R, ⟨(0, r), (0, D 106 6), ?_⟩, RW_gone hW rt ?_ ?_ ?_ (fun y i q y1 y2 y3 => hf y i (by unfold supW at q; omega) (by unfold supW at q; omega) y1 y2 y3 (Or.inl q)), RP_LP (LP_congr (fun y i y0 y1 => mrg_c _ _ (by unfold rfc; omega) i) p2) ?_ hn.2.2 (fun a b a0 a1 b0 b1 => ?_), by omega, fun v hv => ?_, fun y i y1 y2 => g3 y i y2 (by omega)⟩
      · rw [r_153, s152]
        simp only [Option.bind_some, psh_0]
        rw [e_153_4, if_pos (by omega), l1, g1]
        simp only [Option.bind_some, psh_9]
      · rw [mrg_c _ _ (by unfold rfc; omega)]; exact p3
      · rw [mrg_r _ _ (by unfold rfc; omega)]; exact g2
      · rw [mrg_c _ _ (by unfold rfc; omega)]; exact p4
      · rw [mrg_r _ _ (by unfold rfc; omega), g3 _ _ (by omega) (by omega)]; exact (hE _ _ (by omega)).symm
      · rw [mrg_r _ _ (by unfold rfc; omega), g4 a b a0 a1 b0 b1]
        by_cases cc : a = r ∨ b = r
        · rw [if_pos cc, if_pos cc]
        · rw [if_neg cc, if_neg cc]; exact hE _ _ (by omega)
      · by_cases e : v = r
        · rw [e, g2] at hv; omega
        · rw [g3 112 v (by omega) (by omega)] at hv; rw [← hE 112 v (by omega)]; exact hv
  obtain ⟨R, ⟨v2, v3, k1⟩, k2, k3, k4, k5, k7⟩ := key
  obtain ⟨G, g1, g2, g3, g4, g5, g6, g7, g8, g9⟩ := sr_153e (F := R) (n := D 106 6) (s := D 106 12) (k := D 106 8) (by rw [k7 _ _ (by omega) (by omega)]; exact hE _ _ (by omega)) hn.2.1 hlt (by rw [k7 _ _ (by omega) (by omega)]; exact hE _ _ (by omega)) t2 t3 (by rw [k7 _ _ (by omega) (by omega)]; exact hE _ _ (by omega)) h8.2.1 (by omega) c v2 v3
  have R115 : ∀ i, R 115 i = D 115 i := fun i => by rw [k7 _ _ (by omega) (by omega)]; exact hE _ _ (by omega)
  have m6 : mrg C R 106 6 = D 106 6 := by rw [mrg_r _ _ (by unfold rfc; omega), k7 _ _ (by omega) (by omega)]; exact hE _ _ (by omega)
  have m8 : mrg C R 106 8 = D 106 8 := by rw [mrg_r _ _ (by unfold rfc; omega), k7 _ _ (by omega) (by omega)]; exact hE _ _ (by omega)
  have Mr : ∀ y i, rfc y → mrg (entE C c) G y i = G y i := fun y i h => mrg_r _ _ h i
  have Mc : ∀ y i, ¬ rfc y → mrg (entE C c) G y i = entE C c y i := fun y i h => mrg_c _ _ h i
  have lt : ∀ y, 106 ≤ y → y ≤ 130 → rfc y := fun y a b => ⟨a, b⟩
  have gt : ∀ y, (y < 106 ∨ 130 < y) → ¬ rfc y := fun y a b => by unfold rfc at b; omega
  have mR : ∀ y i, 106 ≤ y → y ≤ 130 → mrg C R y i = R y i := fun y i a b => mrg_r _ _ ⟨a, b⟩ i
  have mC : ∀ y i, (y < 106 ∨ 130 < y) → mrg C R y i = C y i := fun y i a => mrg_c _ _ (gt y a) i
  refine ⟨G, by rw [k1]; exact g1, ?_, ?_, g6, g7, g5, fun v hv b hb h1 => ?_, fun y i y1 y2 => ?_⟩
  · have n52 := entE_52 c52 c
    rw [q2] at n52
    refine RW_ent (F := mrg C R) (n := D 106 6) (s := D 106 12) (c := c) k2 m6 hlt ?_ s0 t3 c0 c1 (fun i i0 i1 => ?_) (fun v v0 v1 hv hm => ?_) ?_ ?_ ?_ ?_ ?_ ?_ ?_ ?_ (fun i i0 i1 => ?_) ?_ ?_ ?_ ?_ ?_ ?_ (fun i i0 i1 => ?_) (fun y i hs y1 y2 y3 y4 y5 y6 => ?_)
    · rw [mC _ _ (by omega)]; exact k4
    · rw [mR _ _ (by omega) (by omega), R115]; exact t5 i i0 i1
    · rw [mR _ _ (by omega) (by omega)] at hv
      have h9 : mrg C R 109 v = D 109 v := by rw [mR _ _ (by omega) (by omega), k7 _ _ (by omega) (by omega)]; exact hE _ _ (by omega)
      refine hno v v0 v1 ⟨k5 v hv, by rw [← h9]; exact hm.1, fun i i0 i1 => ?_⟩
      have := hm.2 i i0 i1
      rw [mR _ _ (by omega) (by omega), mR _ _ (by omega) (by omega), R115, k7 _ _ (by omega) (by omega), hE _ _ (by omega)] at this
      exact this
    · rw [Mc _ _ (gt _ (by omega))]; exact n52
    · rw [Mc _ _ (gt _ (by omega)), entE_53 c52, mC _ _ (by omega)]
    · rw [Mc _ _ (gt _ (by omega)), entE_54 c52, mC _ _ (by omega)]
    · rw [Mc _ _ (gt _ (by omega)), ← q2, entE_a]; rfl
    · rw [Mc _ _ (gt _ (by omega)), ← q2, entE_a, m8, C54]; rfl
    · rw [Mc _ _ (gt _ (by omega)), ← q2, entE_a]; rfl
    · rw [Mc _ _ (gt _ (by omega)), ← q2, entE_b, C98]; rfl
    · rw [Mc _ _ (gt _ (by omega)), ← q2, entE_nc c52, C98]; rfl
    · rw [Mc _ _ (gt _ (by omega)), ← q2, entE_c, C98, if_pos ⟨i0, i1⟩, C99, mR _ _ (by omega) (by omega), R115]
    · rw [Mr _ _ (lt _ (by omega) (by omega))]; exact g6
    · rw [Mr _ _ (lt _ (by omega) (by omega)), m8]; exact g7
    · rw [Mr _ _ (lt _ (by omega) (by omega))]; exact g2
    · rw [Mr _ _ (lt _ (by omega) (by omega))]; exact g3
    · rw [Mr _ _ (lt _ (by omega) (by omega)), m8]; exact g4
    · rw [Mr _ _ (lt _ (by omega) (by omega))]; exact g5
    · rw [Mr _ _ (lt _ (by omega) (by omega)), mR _ _ (by omega) (by omega)]; exact g8 i i0 i1
    · by_cases cr : 106 ≤ y ∧ y ≤ 130
      · rw [Mr _ _ (lt _ cr.1 cr.2), mR _ _ cr.1 cr.2]; exact g9 y i y5 (by omega) y6
      · rw [Mc _ _ (gt _ (by omega)), mC _ _ (by omega), entE_o c (by omega) (by omega) (by unfold supW at hs; omega) (by omega)]
  · have hL : LPr (mrg (entE C c) G) (D 106 6) (fun a b => mrg C R 113 (80 * a + b)) := by
      have h1 := LP_RP k3
      rw [m6] at h1
      exact LP_congr (fun y i y0 y1 => by rw [Mc _ _ (gt _ (by omega)), mC _ _ (by omega), entE_o c (by omega) (by omega) (by omega) (by omega)]) h1
    refine RP_LP (LP_mono hL (m := D 106 6 + 1) (by omega)) ?_ (by omega) (fun a b a0 a1 b0 b1 => ?_)
    · rw [Mr _ _ (lt _ (by omega) (by omega))]; exact g6.symm
    · rw [Mr _ _ (lt _ (by omega) (by omega)), mR _ _ (by omega) (by omega)]; exact g9 _ _ (by omega) (by omega) (by omega)
  · rw [g9 112 v (by omega) (by omega) (by omega)] at hb
    exact k5 v (by omega)
  · rw [g9 y i (by omega) y2 (by omega)]; exact k7 y i (by omega) (by omega)
