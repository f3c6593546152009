/-! best -/
theorem tT_cg {D E : Mem} (h : ∀ y i, supR y i → y ≠ 107 → E y i = D y i) : tT E = tT D ∧ cT E = cT D ∧ bT E = bT D ∧ E 106 16 = D 106 16 := by
  have h1 : E 112 = D 112 := funext fun i => h _ _ (by unfold supR; omega) (by decide)
  have h2 : E 117 = D 117 := funext fun i => h _ _ (by unfold supR; omega) (by decide)
  have h3 : E 109 = D 109 := funext fun i => h _ _ (by unfold supR; omega) (by decide)
  have h4 : E 108 = D 108 := funext fun i => h _ _ (by unfold supR; omega) (by decide)
  refine ⟨?_, ?_, ?_, h _ _ (by unfold supR; omega) (by decide)⟩
  · funext l i
    unfold tT tL wl
    rw [h1, h2, h3, h4]
  · funext a b i
    unfold cT cL wl
    rw [h1, h2, h3, h4]
  · funext i
    unfold bT
    rw [h1, h2]
theorem KK_cg {D E : Mem} (h : ∀ y i, supR y i → y ≠ 107 → E y i = D y i) : KK E = KK D := by
  obtain ⟨h1, h2, _, h4⟩ := tT_cg h
  funext a m
  unfold KK
  rw [h1, h2, h4]
theorem ca_best {D : Mem} {k : Int} (hR : Rel D k) (hk : k ≤ 1000) : CaseOK D k 125 207 [] := by
  have hr := rOK_of hR hk
  obtain ⟨A, a1, a2, a3, a4, a5⟩ := sp_85 hR
  obtain ⟨E, e1, e2, e3⟩ := sp_87 hr a3 a4 a2
  have fE : ∀ y i, y ≠ 4 → ¬ scr y i → E y i = D y i := fun y i h1 h2 => by
    unfold scr at h2
    rw [e3 y i h1 (by omega) (by omega), a5 y i (by omega) (by omega) (by omega)]
  have sE : ∀ y i, supR y i → E y i = D y i := fun y i h => fE y i (by unfold supR at h; omega) (by unfold supR at h; unfold scr; omega)
  have hrE := rOK_congr sE hr
  obtain ⟨F, f1, f2, f3⟩ := sq_207 hrE
  have kkE : KK E = KK D := KK_cg fun y i h _ => sE y i h
  obtain ⟨_, _, tb, t16⟩ := tT_cg (D := D) (E := E) fun y i h _ => sE y i h
  have kb := KK_b hr
  have lw := (LW_both kb (W := 100000000) (V := 268435456) (by decide) (by decide) 9 (by decide) 0 (by decide) (by decide)).1 ⟨by decide, fun h => by omega⟩
  rw [kkE, tb, t16, lw.1, Int.add_comm] at f1
  have E107 : E 107 = D 107 := funext fun i => sE 107 i (by unfold supR; omega)
  have A4 : A 4 = D 107 := by
    rw [← hR.1.1]
    exact funext fun i => a5 4 i (by omega) (by omega) (by omega)
  rw [kkE, E107, kyF_W kb (W := 100000000) (V := 268435456) (by decide) (by decide) _ 9 (by decide)] at f2
  rw [A4] at e2
  have fF : ∀ y i, y ≠ 4 → y ≠ 107 → ¬ scr y i → F y i = D y i := fun y i h1 h2 h3 => by
    rw [f3 y i h2 (by unfold scr at h3; omega) (by unfold scr at h3; omega) (by unfold scr at h3; omega)]; exact fE y i h1 h3
  refine ⟨S (bT D) (D 106 16) + LW (KK D) 268435456 9 0, E, F, ?_, f1, ⟨⟨?_, fun l l0 l1 => ?_⟩, RW_mono (RW_congr (fun y i q => fF y i (by unfold supW at q; omega) (by unfold supW at q; omega) (by unfold supW at q; unfold scr; omega)) hR.2.1), RP_congr (fun y i q => fF y i (by unfold supP at q; omega) (by unfold supP at q; omega) (by unfold supP at q; unfold scr; omega)) hR.2.2.1, RS_congr (fun y i q => fF y i (by unfold supS at q; omega) (by unfold supS at q; omega) (by unfold supS at q; unfold scr; omega)) hR.2.2.2.1, RN_mono (RN_congr (fun y i q => fF y i (by unfold supN at q; omega) (by unfold supN at q; omega) (by unfold supN at q; unfold scr; omega)) hR.2.2.2.2)⟩, fun i => fF 1 i (by decide) (by decide) (by unfold scr; omega), fun i => fF (-1) i (by decide) (by decide) (by unfold scr; omega)⟩
  · rw [r_125, a1]
    simp only [Option.bind_some, psh_9]
    rw [e_125_15, e1]
    simp only [Option.bind_some, psh_0, e_125_26]
  · rw [f2, ← e2]
    exact funext fun i => f3 4 i (by decide) (by decide) (by decide) (by decide)
  · rw [f2]
    exact kyF_b hR.1.2 9 (by decide) l l0 l1
