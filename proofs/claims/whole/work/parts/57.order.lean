/-! the order of offers, and priced -/
def wl (D : Mem) (w i : Int) : Int := D 108 (10 * w + i)
/-- word v's letters come ahead of word w's -/
def wlt (D : Mem) (v w : Int) : Prop := lexP (wl D v) (D 109 v) (wl D w) (D 109 w)
/-- v with worth a stands ahead of w with worth b -/
def ahd (D : Mem) (v a w b : Int) : Prop := b < a ∨ (a = b ∧ wlt D v w)
theorem lexP_cg {f f' g g' : Int → Int} {n m : Int} (hf : ∀ i, 0 ≤ i → i < n → f i = f' i) (hg : ∀ i, 0 ≤ i → i < m → g i = g' i) (h : lexP f n g m) : lexP f' n g' m := by
  obtain ⟨k, k0, k1, k2, k3, k4⟩ := h
  refine ⟨k, k0, k1, k2, fun j j0 j1 => ?_, ?_⟩
  · rw [← hf j j0 (by omega), ← hg j j0 (by omega)]; exact k3 j j0 j1
  · rcases k4 with q | q
    · exact Or.inl q
    · by_cases e : k = n
      · exact Or.inl e
      · refine Or.inr ?_
        rw [← hf k k0 (by omega), ← hg k k0 k2]; exact q
theorem wlt_cg {D E : Mem} (h : ∀ y i, y = 108 ∨ y = 109 → E y i = D y i) (v w : Int) : wlt E v w ↔ wlt D v w := by
  unfold wlt
  rw [show wl E v = wl D v from funext fun i => h _ _ (by omega), show wl E w = wl D w from funext fun i => h _ _ (by omega), h 109 v (by omega), h 109 w (by omega)]
theorem ahd_cg {D E : Mem} (h : ∀ y i, y = 108 ∨ y = 109 → E y i = D y i) (v a w b : Int) : ahd E v a w b ↔ ahd D v a w b := by
  unfold ahd; rw [wlt_cg h]
theorem sp_72 {D : Mem} {k v a w b : Int} (hW : RW D k) (v0 : 0 ≤ v) (v1 : v < D 106 6) (w0 : 0 ≤ w) (w1 : w < D 106 6) : (ahd D v a w b → qR 72 [(3, 31), (0, v), (0, a), (0, w), (0, b)] (mk D) = some ((0, 1), mk D)) ∧ (¬ ahd D v a w b → qR 72 [(3, 31), (0, v), (0, a), (0, w), (0, b)] (mk D) = some ((0, 0), mk D)) := by
  have hn := hW.1
  have v5 : 0 ≤ v ∧ v < D 5 2 := by omega
  have w5 : 0 ≤ w ∧ w < D 5 2 := by omega
  have rv := isRowW hW v0 v1
  have rw' := isRowW hW w0 w1
  have lx := row_ahead rv rw'
  have eqv : lexP (mk D (mk D (132 + 3 * v) 0)) (mk D (132 + 3 * v) 1) (mk D (mk D (132 + 3 * w) 0)) (mk D (132 + 3 * w) 1) ↔ wlt D v w := by
    rw [mk_rr v0 v5.2, mk_rr w0 w5.2, rowSzW hW v0 v1, rowSzW hW w0 w1]
    have c1 : ∀ i, 0 ≤ i → i < D 109 v → mk D (133 + 3 * v) i = wl D v i := fun i i0 i1 => by rw [mk_ac v0]; exact ((hW.2.2.1 v v0 v1).2.1 i i0 i1).1
    have c2 : ∀ i, 0 ≤ i → i < D 109 w → mk D (133 + 3 * w) i = wl D w i := fun i i0 i1 => by rw [mk_ac w0]; exact ((hW.2.2.1 w w0 w1).2.1 i i0 i1).1
    exact ⟨lexP_cg c1 c2, lexP_cg (fun i i0 i1 => (c1 i i0 i1).symm) (fun i i0 i1 => (c2 i i0 i1).symm)⟩
  rw [r_72]
  by_cases c : a = b
  · have e1 : ¬ (131 + 3 * v = 0) := by omega
    have e2 : ¬ (131 + 3 * w = 0) := by omega
    have av : ahd D v a w b ↔ wlt D v w := ⟨fun h => by rcases h with h | h; omega; exact h.2, fun h => Or.inr ⟨c, h⟩⟩
    have st : ∀ s, qR 64 [(3, 132 + 3 * v), (3, 132 + 3 * w)] (mk D) = some ((0, s), mk D) → ((qR 7 [(3, 5), (0, v)] (mk D)).bind fun x => qE 72 26 [(3, 31), (0, v), (0, a), (0, w), (0, b), (9, 0), (9, 0)] (psh x.1 []) x.2) = if s = 0 then some ((0, 0), mk D) else some ((0, 1), mk D) := fun s hs => by
      rw [sp_7 (by omega) v, if_pos v5]
      simp only [Option.bind_some, psh_3]
      rw [e_72_26, sp_7 (by omega) w, if_pos w5]
      simp only [Option.bind_some, psh_3]
      rw [e_72_36, if_neg e1, if_neg e2, if_pos (mk_wk v5.1 v5.2), if_pos (mk_wk w5.1 w5.2), mk_wr v5.1 v5.2, mk_wr w5.1 w5.2, if_pos (mk_rk v5.1 v5.2), hs]
      simp only [Option.bind_some, psh_0]
      rw [e_72_61]
    rw [if_pos c]
    constructor
    · intro h; rw [st 1 (lx.1 (eqv.2 (av.1 h))), if_neg (by decide)]
    · intro h; rw [st 0 (lx.2 (fun q => h (av.2 (eqv.1 q)))), if_pos rfl]
  · rw [if_neg c]
    constructor
    · intro h
      have : b < a := by rcases h with h | h; exact h; exact absurd h.1 c
      rw [if_neg (by omega)]
    · intro h
      have : ¬ b < a := fun q => h (Or.inl q)
      rw [if_pos (by omega)]
theorem sq_178 {D : Mem} {v w : Int} (hR : rOK D) (v0 : 0 ≤ v) (v1 : v < D 106 6) (w0 : 0 ≤ w) (w1 : w < D 106 6) : (wlt D v w → qR 178 [(3, 106), (0, v), (0, w)] (mk D) = some ((0, 1), mk D)) ∧ (¬ wlt D v w → qR 178 [(3, 106), (0, v), (0, w)] (mk D) = some ((0, 0), mk D)) := by
  have hn := hR.1
  have lv := (hR.2.1 v v0 v1).1
  have lw := (hR.2.1 w w0 w1).1
  have gv : 0 ≤ v ∧ v < 80 := by omega
  have gw : 0 ≤ w ∧ w < 80 := by omega
  have e1 : w32 (10 * v) = 10 * v := w32_id (by omega) (by omega)
  have e2 : w32 (10 * w) = 10 * w := w32_id (by omega) (by omega)
  obtain ⟨s, s0, s1, s2, s3, s4⟩ := cs_ex (wl D v) (wl D w) (m := D 109 v) (n := D 109 w) (by omega) (by omega)
  have run : qR 178 [(3, 106), (0, v), (0, w)] (mk D) = qE 178 2 [(3, 106), (0, v), (0, w), (0, s)] [] (mk D) := by
    rw [r_178]
    exact it_up (fun i => qE 178 2 [(3, 106), (0, v), (0, w), (0, i)] [] (mk D)) s0 (fun i i0 i1 => by
      show qE 178 2 [(3, 106), (0, v), (0, w), (0, i)] [] (mk D) = qE 178 2 [(3, 106), (0, v), (0, w), (0, i + 1)] [] (mk D)
      rw [e_178_2, if_pos gv, if_pos (by omega), if_pos gw, if_pos (by omega), e1, e2, w32_id (x := 10 * v + i) (by omega) (by omega), w32_id (x := 10 * w + i) (by omega) (by omega), if_pos (by omega), if_pos (by omega), if_pos (show D 108 (10 * v + i) = D 108 (10 * w + i) from s3 i i0 i1), w32_id (by omega) (by omega)])
  rw [run]
  by_cases c : s = D 109 v ∨ s = D 109 w
  · have le := lex_end (f := wl D v) (g := wl D w) s0 s1 s2 c s3
    have st : qE 178 2 [(3, 106), (0, v), (0, w), (0, s)] [] (mk D) = if D 109 v < D 109 w then some ((0, 1), mk D) else some ((0, 0), mk D) := by
      have go : qE 178 53 [(3, 106), (0, v), (0, w), (0, s)] [] (mk D) = if D 109 v < D 109 w then some ((0, 1), mk D) else some ((0, 0), mk D) := by
        rw [e_178_53, if_pos gv]
        by_cases q : s = D 109 v
        · rw [if_pos q, e_178_73, if_pos gv, if_pos gw]
        · rw [if_neg q, if_pos gw, if_pos (by omega), e_178_73, if_pos gv, if_pos gw]
      rw [e_178_2, if_pos gv]
      by_cases q : s < D 109 v
      · rw [if_pos q, if_pos gw, if_neg (by omega), go]
      · rw [if_neg q, go]
    rw [st]
    exact ⟨fun h => if_pos (le.1 h), fun h => if_neg (fun q => h (le.2 q))⟩
  · have hd : wl D v s ≠ wl D w s := by rcases s4 with q | q; exact absurd q c; exact q
    have ld := lex_diff (f := wl D v) (g := wl D w) (n := D 109 v) (m := D 109 w) s0 (by omega) (by omega) s3 hd
    have hd' : ¬ D 108 (10 * v + s) = D 108 (10 * w + s) := hd
    have st : qE 178 2 [(3, 106), (0, v), (0, w), (0, s)] [] (mk D) = if wl D v s < wl D w s then some ((0, 1), mk D) else some ((0, 0), mk D) := by
      have a1 : w32 (10 * v + s) = 10 * v + s := w32_id (by omega) (by omega)
      have a2 : w32 (10 * w + s) = 10 * w + s := w32_id (by omega) (by omega)
      rw [e_178_2, if_pos gv, if_pos (by omega), if_pos gw, if_pos (by omega), e1, e2, a1, a2, if_pos (by omega), if_pos (by omega), if_neg hd', e_178_53, if_pos gv, if_neg (by omega), if_pos gw, if_neg (by omega), e1, e2, a1, a2, if_pos (by omega), if_pos (by omega)]
      rfl
    rw [st]
    exact ⟨fun h => if_pos (ld.1 h), fun h => if_neg (fun q => h (ld.2 q))⟩
theorem ca_priced {D : Mem} {k : Int} (hR : Rel D k) (hk : k ≤ 1000) (kind w : Int) : CaseOK D k 114 182 [(0, kind), (0, w)] := by
  have hW := hR.2.1
  have hn := hW.1
  have hSb := hR.2.2.2.1.2.1
  have hf := hR.2.2.2.1.2.2.2.2
  have m1 := sp_143 hn.2.1 hn.2.2 w
  by_cases h : 0 ≤ w ∧ w < D 106 6
  · have h5 : 0 ≤ w ∧ w < D 5 2 := by omega
    by_cases hkd : 0 ≤ kind ∧ kind ≤ 3
    · have k1 : ¬ kind < 0 := by omega
      have k2 : kind < 4 := by omega
      by_cases k0 : kind = 0
      · exact case_same (v := -5) hR (by simp [r_114, sp_6, psh_0, e_114_8, r_132, e_114_15, h5, k0]) (by simp [r_182, m1, psh_0, e_182_5, sp_142, e_182_14, h, k0])
      · have kk : kind = 1 ∨ kind = 2 ∨ kind = 3 := by omega
        by_cases ht : thr D w
        · obtain ⟨E, q1, q2, q3⟩ := sp_69 hR hk
          have sE : Sim D E := fun y i hs => q3 y i (by unfold scr at hs; omega) (by unfold scr at hs; omega)
          have hRE := Rel_sim hR sE
          have rE := rOK_of hRE hk
          have s15 := sp_15 hRE.2.2.2.1.2.1
          have e116 : E 116 = D 116 := funext fun i => q3 _ _ (by decide) (by decide)
          have e14 : E 106 14 = D 106 14 := q3 _ _ (by decide) (by decide)
          have e38 : E 38 = D 114 := by rw [← hf.1]; exact funext fun i => q3 _ _ (by decide) (by decide)
          rw [e116, e14] at s15
          have rD := rOK_of hR hk
          obtain ⟨gok, g0, g1⟩ := kf_ok rD h.1 h.2 kind
          have e32 : kind ≠ 2 → E 32 w = P (kf D w kind) (kn D w kind) := fun c => by
            rw [(q2 w ht).1]; unfold kf kn; rw [if_neg (by decide), if_neg (by decide), if_neg c, if_neg c]
          have e33 : kind = 2 → E 33 w = P (kf D w kind) (kn D w kind) := fun c => by rw [(q2 w ht).2, c]
          have s73 := sp_73 (D := E) (limit := 100000) (f := D 116) (m := D 106 14) h.1 (by omega) kk hSb.2.1 hSb.2.2.1 hSb.2.2.2.2 g0 g1 gok e32 e33
          rw [e38] at s73
          obtain ⟨F, f1, f2, f3, f4⟩ := sq_170 rE
          have sF : Sim E F := fun y i hs => f4 y i (by unfold scr at hs; omega) (by unfold scr at hs; omega)
          have hRF := Rel_sim hRE sF
          have dF : ∀ y i, y = 107 ∨ y = 108 ∨ y = 109 ∨ y = 114 ∨ y = 112 ∨ (y = 106 ∧ i = 6) → F y i = D y i := fun y i q => by rw [f4 y i (by omega) (by omega)]; exact q3 y i (by omega) (by omega)
          have kc := kf_cg (D := D) (E := F) (fun y i q => dF y i (by omega)) w kind
          have E6 : E 106 6 = D 106 6 := q3 _ _ (by decide) (by decide)
          have m2 := sp_143 (D := E) (by omega) (by omega) w
          rw [E6] at m2
          obtain ⟨G, g1', g2'⟩ := sq_177 (D := F) (w := w) (kind := kind) (limit := 100000) (m := D 106 14) (f := D 116) (rOK_of hRF hk) h.1 (by rw [dF _ _ (by omega)]; exact h.2) (by rw [dF _ _ (by omega)]; exact ht.2.2) kk (by rw [f2, e14]) hSb.2.1 hSb.2.2.1 (fun i i0 i1 => by rw [f3 i i0 (by omega), e116]) hSb.2.2.2.2
          rw [kc.1, kc.2, show F 114 = D 114 from funext fun i => dF _ _ (by omega)] at g1'
          have sG : Sim F G := fun y i hs => g2' y i (by unfold scr at hs; omega) (by unfold scr at hs; omega)
          refine case_sim (v := askF (D 114) (D 116) (D 106 14) (kf D w kind) (kn D w kind) kind 100000) (D1 := E) (D2 := G) hR ?_ ?_ sE (sF.trans sG)
          · rw [r_114, sp_6, if_pos h5]
            simp only [Option.bind_some, psh_0]
            rw [e_114_8, if_neg (by decide), r_132, if_neg k1, if_pos k2]
            simp only [Option.bind_some, psh_0]
            rw [e_114_15, if_neg (by decide), if_neg k0, (sp_8 hW w).1 ht]
            simp only [Option.bind_some, psh_0]
            rw [e_114_36, if_neg (by decide), q1]
            simp only [Option.bind_some, psh_9]
            rw [e_114_48, s15]
            simp only [Option.bind_some, psh_1]
            rw [e_114_60, s73]
            simp only [Option.bind_some, psh_0, e_114_66]
          · rw [r_182, m2, if_pos h]
            simp only [Option.bind_some, psh_0]
            rw [e_182_5, if_neg (by decide), sp_142, if_pos hkd]
            simp only [Option.bind_some, psh_0]
            rw [e_182_14, if_neg (by decide), if_neg k0, f1]
            simp only [Option.bind_some, psh_9]
            rw [e_182_31, g1']
            simp only [Option.bind_some, psh_0, e_182_39]
        · have t3 : D 112 w = 0 := by have := (thr_cl hW h.1 h.2).2; rcases this with t | t; exact t; exact absurd ⟨h.1, h.2, t⟩ ht
          obtain ⟨F, f1, f2, f3, f4⟩ := sq_170 (rOK_of hR hk)
          have g80 : 0 ≤ w ∧ w < 80 := by omega
          have t4 : F 112 w = 0 := by rw [f4 _ _ (by decide) (by omega)]; exact t3
          refine case_sim (v := -1) (D1 := D) (D2 := F) hR ?_ ?_ (Sim.rfl' D) (fun y i hs => f4 y i (by unfold scr at hs; omega) (by unfold scr at hs; omega))
          · simp [r_114, sp_6, psh_0, e_114_8, r_132, e_114_15, e_114_36, h5, k0, k1, k2, (sp_8 hW w).2 ht]
          · simp [r_182, m1, psh_0, psh_9, e_182_5, sp_142, e_182_14, e_182_31, e_182_39, r_177, f1, h, hkd, k0, g80, t4]
    · have kq : qR 132 [(0, kind)] (mk D) = some ((0, 0), mk D) := by
        rw [r_132]
        by_cases c : kind < 0
        · rw [if_pos c]
        · rw [if_neg c, if_neg (by omega)]
      exact case_same (v := -2) hR (by simp [r_114, sp_6, psh_0, e_114_8, kq, e_114_15, h5]) (by simp [r_182, m1, psh_0, e_182_5, sp_142, e_182_14, h, hkd])
  · have h5 : ¬ (0 ≤ w ∧ w < D 5 2) := by omega
    exact case_same (v := -2) hR (by simp [r_114, sp_6, psh_0, e_114_8, h5]) (by simp [r_182, m1, psh_0, e_182_5, h])
