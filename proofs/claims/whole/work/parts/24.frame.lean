/-! which places the relation's parts rest on -/
def supW (a i : Int) : Prop := 131 ≤ a ∨ a ≤ -131 ∨ a = 5 ∨ (108 ≤ a ∧ a ≤ 112) ∨ (a = 106 ∧ (i = 6 ∨ i = 8))
def supP (a i : Int) : Prop := (7 ≤ a ∧ a ≤ 10) ∨ a = 113 ∨ (a = 106 ∧ i = 6)
def supS (a i : Int) : Prop := (98 ≤ a ∧ a ≤ 103) ∨ (114 ≤ a ∧ a ≤ 117) ∨ a = 38 ∨ (a = 31 ∧ i = 10) ∨ (a = 106 ∧ (i = 6 ∨ i = 9 ∨ i = 12 ∨ i = 14 ∨ i = 16))
def supN (a i : Int) : Prop := (11 ≤ a ∧ a ≤ 30) ∨ (118 ≤ a ∧ a ≤ 121) ∨ (a = 106 ∧ (i = 6 ∨ i = 21 ∨ i = 22)) ∨ (a = 0 ∧ i = 3)
theorem RK_congr {D E : Mem} (h : ∀ a i, a = 4 ∨ a = 107 → E a i = D a i) (hR : RK D) : RK E := by
  have e1 : E 4 = D 4 := funext fun i => h 4 i (Or.inl rfl)
  have e2 : E 107 = D 107 := funext fun i => h 107 i (Or.inr rfl)
  unfold RK
  rw [e1, e2]
  exact hR
theorem wordOK_congr {D E : Mem} (h : ∀ a i, supW a i → E a i = D a i) {w : Int} (hw : 0 ≤ w) (hR : wordOK D w) : wordOK E w := by
  have s : ∀ a i, supW a i → E a i = D a i := h
  unfold wordOK at *
  rw [s (132 + 3 * w) 1 (by unfold supW; omega), s 109 w (by unfold supW; omega), s (-(133 + 3 * w)) 1 (by unfold supW; omega), s (131 + 3 * w) 1 (by unfold supW; omega), s 110 w (by unfold supW; omega), s (131 + 3 * w) 2 (by unfold supW; omega), s 111 w (by unfold supW; omega), s 106 8 (by unfold supW; omega), s (131 + 3 * w) 3 (by unfold supW; omega), s 112 w (by unfold supW; omega)]
  refine ⟨hR.1, fun i h0 h1 => ?_, hR.2.2⟩
  rw [s (133 + 3 * w) i (by unfold supW; omega), s 108 _ (by unfold supW; omega)]
  exact hR.2.1 i h0 h1
theorem RW_congr {D E : Mem} {k : Int} (h : ∀ a i, supW a i → E a i = D a i) (hR : RW D k) : RW E k := by
  have e : ∀ a, 108 ≤ a → a ≤ 112 → E a = D a := fun a h1 h2 => funext fun i => h a i (by unfold supW; omega)
  obtain ⟨r1, r2, r3, r4, r5⟩ := hR
  unfold RW
  rw [h 5 2 (by unfold supW; omega), h 106 6 (by unfold supW; omega), h 5 4 (by unfold supW; omega), h 106 8 (by unfold supW; omega), h 5 3 (by unfold supW; omega), e 112 (by omega) (by omega)]
  refine ⟨r1, r2, fun w h0 h1 => wordOK_congr h h0 (r3 w h0 h1), r4, ?_⟩
  unfold sameW
  rw [e 109 (by omega) (by omega), e 108 (by omega) (by omega)]
  exact r5
theorem RP_congr {D E : Mem} (h : ∀ a i, supP a i → E a i = D a i) (hR : RP D) : RP E := by
  have e : ∀ a, (8 ≤ a ∧ a ≤ 10) ∨ a = 113 → E a = D a := fun a h1 => funext fun i => h a i (by unfold supP; omega)
  unfold RP
  rw [h 7 3 (by unfold supP; omega), h 106 6 (by unfold supP; omega), e 8 (by omega), e 9 (by omega), e 10 (by omega), e 113 (by omega)]
  exact hR
theorem RSa_congr {D E : Mem} (h : ∀ a i, a = 98 ∨ a = 99 ∨ a = 115 ∨ (a = 106 ∧ i = 12) → E a i = D a i) (hR : RSa D) : RSa E := by
  have e : ∀ a, a = 99 ∨ a = 115 → E a = D a := fun a h1 => funext fun i => h a i (by omega)
  unfold RSa
  rw [h 98 1 (by omega), e 99 (by omega), e 115 (by omega), h 106 12 (by omega)]
  exact hR
theorem RSb_congr {D E : Mem} (h : ∀ a i, a = 100 ∨ a = 101 ∨ a = 116 ∨ (a = 106 ∧ i = 14) → E a i = D a i) (hR : RSb D) : RSb E := by
  have e : ∀ a, a = 101 ∨ a = 116 → E a = D a := fun a h1 => funext fun i => h a i (by omega)
  unfold RSb
  rw [h 100 1 (by omega), e 101 (by omega), e 116 (by omega), h 106 14 (by omega)]
  exact hR
theorem RSc_congr {D E : Mem} (h : ∀ a i, a = 102 ∨ a = 103 ∨ a = 117 ∨ (a = 106 ∧ (i = 16 ∨ i = 6)) → E a i = D a i) (hR : RSc D) : RSc E := by
  have e : ∀ a, a = 103 ∨ a = 117 → E a = D a := fun a h1 => funext fun i => h a i (by omega)
  unfold RSc
  rw [h 102 1 (by omega), e 103 (by omega), e 117 (by omega), h 106 16 (by omega), h 106 6 (by omega)]
  exact hR
theorem RSe_congr {D E : Mem} (h : ∀ a i, (a = 31 ∧ i = 10) ∨ (a = 106 ∧ i = 9) → E a i = D a i) (hR : RSe D) : RSe E := by
  unfold RSe
  rw [h 31 10 (by omega), h 106 9 (by omega)]
  exact hR
theorem RSf_congr {D E : Mem} (h : ∀ a i, a = 38 ∨ a = 114 → E a i = D a i) (hR : RSf D) : RSf E := by
  have e : ∀ a, a = 38 ∨ a = 114 → E a = D a := fun a h1 => funext fun i => h a i (by omega)
  unfold RSf
  rw [e 38 (by omega), e 114 (by omega)]
  exact hR
theorem RS_congr {D E : Mem} (h : ∀ a i, supS a i → E a i = D a i) (hR : RS D) : RS E :=
  ⟨RSa_congr (fun a i q => h a i (by unfold supS; omega)) hR.1, RSb_congr (fun a i q => h a i (by unfold supS; omega)) hR.2.1, RSc_congr (fun a i q => h a i (by unfold supS; omega)) hR.2.2.1, RSe_congr (fun a i q => h a i (by unfold supS; omega)) hR.2.2.2.1, RSf_congr (fun a i q => h a i (by unfold supS; omega)) hR.2.2.2.2⟩
theorem ncEq_congr {D E : Mem} (h : ∀ a i, supN a i → E a i = D a i) {n c : Int} (h0 : 0 ≤ n) (h1 : n < 8) (hR : ncEq D n c) : ncEq E n c := by
  unfold ncEq at *
  rw [h 14 n (by unfold supN; omega), h 121 c (by unfold supN; omega), h 13 n (by unfold supN; omega), h 120 c (by unfold supN; omega), h (15 + 2 * n) 1 (by unfold supN; omega), h 119 c (by unfold supN; omega)]
  refine ⟨hR.1, hR.2.1, hR.2.2.1, fun i a b => ?_⟩
  rw [h (16 + 2 * n) i (by unfold supN; omega), h 118 _ (by unfold supN; omega)]
  exact hR.2.2.2 i a b
theorem RN_congr {D E : Mem} {k : Int} (h : ∀ a i, supN a i → E a i = D a i) (hR : RN D k) : RN E k := by
  have e : ∀ a, a = 13 ∨ a = 14 ∨ (118 ≤ a ∧ a ≤ 121) → E a = D a := fun a h1 => funext fun i => h a i (by unfold supN; omega)
  obtain ⟨r0, r1, r2, r3, r4, r5, r6⟩ := hR
  unfold RN RN0
  rw [h 0 3 (by unfold supN; omega), h 106 6 (by unfold supN; omega), h 11 3 (by unfold supN; omega), h 106 22 (by unfold supN; omega), h 106 21 (by unfold supN; omega), e 13 (by omega), e 14 (by omega), e 118 (by omega), e 119 (by omega), e 121 (by omega)]
  refine ⟨r0, r1, r2, fun n a b => ?_, fun c a b => ?_, r5, r6⟩
  · rw [h (15 + 2 * n) 1 (by unfold supN; omega)]
    refine ⟨(r3 n a b).1, ?_⟩
    rcases (r3 n a b).2 with q | ⟨q1, q2, q3, c, c0, c1, q4⟩
    · exact Or.inl q
    · exact Or.inr ⟨q1, q2, q3, c, c0, c1, ncEq_congr h a b q4⟩
  · obtain ⟨q1, n, n0, n1, q2, q3⟩ := r4 c a b
    exact ⟨q1, n, n0, n1, q2, ncEq_congr h n0 n1 q3⟩
theorem RW_mono {D : Mem} {k : Int} (hR : RW D k) : RW D (k + 1) := ⟨hR.1, ⟨hR.2.1.1, hR.2.1.2.1, by have := hR.2.1.2.2; omega⟩, hR.2.2⟩
theorem RN_mono {D : Mem} {k : Int} (hR : RN D k) : RN D (k + 1) := ⟨hR.1, ⟨hR.2.1.1, hR.2.1.2.1, by have := hR.2.1.2.2; omega⟩, hR.2.2⟩
/-- scratch doesn't count -/
theorem Rel_sim {D E : Mem} {k : Int} (hR : Rel D k) (h : Sim D E) : Rel E k := by
  obtain ⟨h1, h2, h3, h4, h5⟩ := hR
  refine ⟨RK_congr (fun a i q => h a i (by unfold scr; omega)) h1, RW_congr (fun a i q => h a i (by unfold scr; unfold supW at q; omega)) h2, RP_congr (fun a i q => h a i (by unfold scr; unfold supP at q; omega)) h3, RS_congr (fun a i q => h a i (by unfold scr; unfold supS at q; omega)) h4, RN_congr (fun a i q => h a i (by unfold scr; unfold supN at q; omega)) h5⟩
theorem Rel_mono {D : Mem} {k : Int} (hR : Rel D k) : Rel D (k + 1) := ⟨hR.1, RW_mono hR.2.1, hR.2.2.1, hR.2.2.2.1, RN_mono hR.2.2.2.2⟩
/-- a call of the class and one of the reference: one answer, and they agree behind it -/
def CaseOK (D : Mem) (k : Int) (yc ym : Nat) (as : List PV) : Prop := ∃ (v : Int) (D1 D2 : Mem), qR yc ((3, 2) :: as) (mk D) = some ((0, v), mk D1) ∧ qR ym ((3, 106) :: as) (mk D1) = some ((0, v), mk D2) ∧ Rel D2 (k + 1) ∧ (∀ i, D2 1 i = D 1 i) ∧ ∀ i, D2 (-1) i = D (-1) i
theorem case_sim {D D1 D2 : Mem} {k v : Int} {yc ym : Nat} {as : List PV} (hR : Rel D k) (h1 : qR yc ((3, 2) :: as) (mk D) = some ((0, v), mk D1)) (h2 : qR ym ((3, 106) :: as) (mk D1) = some ((0, v), mk D2)) (s1 : Sim D D1) (s2 : Sim D1 D2) : CaseOK D k yc ym as :=
  ⟨v, D1, D2, h1, h2, Rel_mono (Rel_sim hR (s1.trans s2)), fun i => (s1.trans s2) 1 i (by unfold scr; omega), fun i => (s1.trans s2) (-1) i (by unfold scr; omega)⟩
theorem case_same {D : Mem} {k v : Int} {yc ym : Nat} {as : List PV} (hR : Rel D k) (h1 : qR yc ((3, 2) :: as) (mk D) = some ((0, v), mk D)) (h2 : qR ym ((3, 106) :: as) (mk D) = some ((0, v), mk D)) : CaseOK D k yc ym as := case_sim hR h1 h2 (Sim.rfl' D) (Sim.rfl' D)
