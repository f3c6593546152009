/-! presses of a word by each kind: the reference; cost -/
def supC (y i : Int) : Prop := (107 ≤ y ∧ y ≤ 110) ∨ y = 112 ∨ y = 113 ∨ (y = 106 ∧ (i = 6 ∨ i = 9))
theorem rate_cg {D E : Mem} (h : ∀ y i, supC y i → E y i = D y i) (v bh : Int) : rateD E v bh = rateD D v bh := by
  unfold rateD; rw [h 110 v (by unfold supC; omega), h 113 _ (by unfold supC; omega), h 106 9 (by unfold supC; omega)]
theorem aw_cg {D E : Mem} (h : ∀ y i, supC y i → E y i = D y i) (bh v w : Int) : aw E bh v w ↔ aw D bh v w := by
  unfold aw; rw [rate_cg h, rate_cg h]; exact ahd_cg (fun y i q => h y i (by unfold supC; omega)) _ _ _ _
theorem cnt_cg {D E : Mem} (h : ∀ y i, supC y i → E y i = D y i) (bh kind w : Int) : cnt E bh kind w = cnt D bh kind w := by
  have kc := fun v => kf_cg (D := D) (E := E) (fun y i q => h y i (by unfold supC; omega)) v kind
  unfold cnt
  rw [h 106 6 (by unfold supC; omega)]
  refine S_congr fun v _ _ => ?_
  unfold cntF
  rw [h 112 v (by unfold supC; omega), (kc v).1, (kc v).2, (kc w).1, (kc w).2, ind_cg (and_congr_left' (aw_cg h bh v w))]
theorem isSN_cg {D E : Mem} (h : ∀ y i, supC y i → E y i = D y i) {bh w n t : Int} (hT : isSN D bh w n t) : isSN E bh w n t := by
  have g := gk_cg (D := D) (E := E) (fun y i q => h y i (by unfold supC; omega))
  have l : ∀ v, E 109 v = D 109 v := fun v => h _ _ (by unfold supC; omega)
  have c : ∀ v, E 112 v = D 112 v := fun v => h _ _ (by unfold supC; omega)
  obtain ⟨T0, T1, T2⟩ := hT
  refine ⟨T0, fun v v0 v1 hv ha s hs => ?_, ?_⟩
  · rw [g v, g w, l v, l w] at hs
    rw [c] at hv
    exact T1 v v0 v1 hv ((aw_cg h bh v w).1 ha) s hs
  · rcases T2 with q | ⟨v, v0, v1, v2, v3, v4⟩
    · exact Or.inl q
    · refine Or.inr ⟨v, v0, v1, by rw [c]; exact v2, (aw_cg h bh v w).2 v3, ?_⟩
      rw [g v, g w, l v, l w]; exact v4
theorem dst_cg {D E : Mem} (h : ∀ y i, supC y i → E y i = D y i) (hd : dst D) : dst E := fun v w hv hw ne hs => by
  have c : ∀ v, E 112 v = D 112 v := fun v => h _ _ (by unfold supC; omega)
  have e6 : E 106 6 = D 106 6 := h _ _ (by unfold supC; omega)
  unfold thr at hv hw
  rw [c, e6] at hv hw
  refine hd v w hv hw ne ⟨?_, fun i i0 i1 => ?_⟩
  · have := hs.1; rw [h 109 v (by unfold supC; omega), h 109 w (by unfold supC; omega)] at this; exact this
  · have := hs.2 i i0 (by rw [h 109 v (by unfold supC; omega)]; exact i1)
    rw [h 108 _ (by unfold supC; omega), h 108 _ (by unfold supC; omega)] at this; exact this
def rs2 (D E : Mem) : Prop := ∀ y i, ¬ (123 ≤ y ∧ y ≤ 126) → ¬ (y = 106 ∧ (i = 25 ∨ i = 27 ∨ i = 30)) → E y i = D y i
theorem rs2_C {D E : Mem} (h : rs2 D E) : ∀ y i, supC y i → E y i = D y i := fun y i q => h y i (by unfold supC at q; omega) (by unfold supC at q; omega)
theorem rs2_R {D E : Mem} (h : rs2 D E) (hR : rOK D) : rOK E := rOK_congr (fun y i q => h y i (by unfold supR at q; omega) (by unfold supR at q; omega)) hR
theorem rs2_S {D E : Mem} (h : rs2 D E) : Sim D E := fun y i hs => h y i (by unfold scr at hs; omega) (by unfold scr at hs; omega)
theorem rs2_t {D E F : Mem} (h : rs2 D E) (g : rs2 E F) : rs2 D F := fun y i q1 q2 => by rw [g y i q1 q2]; exact h y i q1 q2
/-- at no price: the same keys, nothing else -/
theorem ask_eq {pr f g : Int → Int} {m n kind : Int} (hp : ∀ i, 0 ≤ i → i < 3 → 0 ≤ pr i ∧ pr i ≤ 100000) (k3 : kind ≠ 3) (hf : keysOK f m) (hg : keysOK g n) (m0 : 0 ≤ m) (n0 : 0 ≤ n) : (P g n = P f m → askF pr f m g n kind (-1) = 0) ∧ (¬ P g n = P f m → askF pr f m g n kind (-1) = -1) := by
  have h0 := hp 0 (by decide) (by decide)
  have h1 := hp 1 (by decide) (by decide)
  have h2 := hp 2 (by decide) (by decide)
  unfold askF
  rw [if_neg k3]
  constructor
  · intro e
    obtain ⟨a, b⟩ := P_inj hg hf n0 m0 e
    rw [if_pos ⟨a.symm, fun i i0 i1 => (b i i0 (by omega)).symm⟩]
  · intro e
    rw [if_neg (fun q => e (by rw [← q.1]; exact (P_congr q.2).symm))]
    repeat' split
    all_goals omega
theorem rate_w {D : Mem} {ask : Int → Int} {bh v : Int} (h : ask v = 0) : wv D ask bh v = rateD D v bh := by
  have := rate_bd (D 110 v) (if bh < 0 then 0 else D 113 (80 * bh + v)) (D 106 9)
  unfold wv
  rw [h, Int.sub_zero]
  exact w32_id this.1 this.2
theorem sq_195 {D : Mem} {w z r : Int} (hz : D 106 30 = z) (z0 : 0 ≤ z) (z1 : z ≤ 80) (r0 : 0 ≤ r) (r1 : r < z) (h : ∀ q, 0 ≤ q → q < z → (D 125 q = w ↔ q = r)) : qR 195 [(3, 106), (0, w)] (mk D) = some ((0, r), mk D) := by
  obtain ⟨x, e, hx⟩ := it_inv (fun i (x : Int) => qE 195 4 [(3, 106), (0, w), (0, x), (0, i)] [] (mk D)) (fun i x => r < i → x = r) z0 (fun i x i0 i1 hx => by
    have e1 : w32 (i + 1) = i + 1 := w32_id (by omega) (by omega)
    by_cases c : D 125 i = w
    · refine ⟨i, ?_, fun _ => (h i i0 i1).1 c⟩
      show qE 195 4 [(3, 106), (0, w), (0, x), (0, i)] [] (mk D) = qE 195 4 [(3, 106), (0, w), (0, i), (0, i + 1)] [] (mk D)
      rw [e_195_4, hz, if_pos i1, if_pos (by omega), if_pos c, e1]
    · refine ⟨x, ?_, fun q => ?_⟩
      · show qE 195 4 [(3, 106), (0, w), (0, x), (0, i)] [] (mk D) = qE 195 4 [(3, 106), (0, w), (0, x), (0, i + 1)] [] (mk D)
        rw [e_195_4, hz, if_pos i1, if_pos (by omega), if_neg c, e1]
      · exact hx (by have : ¬ i = r := fun z => c ((h i i0 i1).2 z); omega)) (s0 := 0) (fun q => by omega)
  rw [r_195]
  refine e.trans ?_
  show qE 195 4 [(3, 106), (0, w), (0, x), (0, z)] [] (mk D) = _
  rw [e_195_4, hz, if_neg (by omega), hx r1]
theorem sq_196 {D : Mem} {w kind bh : Int} (hR : rOK D) (hd : dst D) (kk : kind = 1 ∨ kind = 2) (ht : thr D w) (hb : bh < 80) : ∃ E, qR 196 [(3, 106), (0, w), (0, kind), (0, bh)] (mk D) = some ((0, kn D w kind + cnt D bh kind w + 1), mk E) ∧ rs2 D E := by
  have hn := hR.1
  have w0 := ht.1
  have w1 := ht.2.1
  obtain ⟨F, f1, f2, f3, f4⟩ := sq_171 hR w0 w1 kind
  have rF : rs2 D F := fun y i q1 q2 => f4 y i (by omega) (by omega) (by omega)
  have hRF := rs2_R rF hR
  have dF := dst_cg (rs2_C rF) hd
  obtain ⟨gok, n0, n1⟩ := kf_ok hR w0 w1 kind
  obtain ⟨E, e1, e2, e3, e4⟩ := sq_179 (D := F) (kind := kind) (limit := -1) (m := kn D w kind) (f := kf D w kind) (bh := bh) hRF (by omega) f2 (by omega) (by omega) f3 gok hb
  have rE : rs2 F E := fun y i q1 q2 => e4 y i (by omega) (by omega) (by omega) (by omega)
  obtain ⟨ask, hask⟩ : ∃ ask, ask = ak F (kf D w kind) (kn D w kind) kind (-1) := ⟨_, rfl⟩
  rw [← hask] at e2 e3
  have F6 : F 106 6 = D 106 6 := rF _ _ (by omega) (by omega)
  have prs := hRF.2.2.2.2.2.2.2.1
  have av : ∀ v, 0 ≤ v → v < F 106 6 → (P (kf F v kind) (kn F v kind) = P (kf D w kind) (kn D w kind) → ask v = 0) ∧ (¬ P (kf F v kind) (kn F v kind) = P (kf D w kind) (kn D w kind) → ask v = -1) := fun v v0 v1 => by
    obtain ⟨vk, v2, v3⟩ := kf_ok hRF v0 v1 kind
    rw [hask]
    exact ask_eq prs (by omega) gok vk (by omega) (by omega)
  have kc := kf_cg (D := D) (E := F) (fun y i q => rF y i (by omega) (by omega)) w kind
  have tF : F 112 w = 1 := by rw [rF _ _ (by omega) (by omega)]; exact ht.2.2
  have aw0 : ask w = 0 := (av w w0 (by omega)).1 (by rw [kc.1, kc.2])
  obtain ⟨p1, p2, p3'⟩ := off_place (D := F) ask bh hRF dF w0 (by omega) ⟨tF, by omega⟩
  have rkc : rk F ask bh w = cnt D bh kind w := by
    rw [← cnt_cg (rs2_C rF)]
    unfold rk cnt
    refine S_congr fun v v0 v1 => ?_
    unfold cntF
    by_cases c : F 112 v = 1
    · by_cases q : P (kf F v kind) (kn F v kind) = P (kf D w kind) (kn D w kind)
      · have a0 := (av v v0 v1).1 q
        rw [if_pos ⟨c, by omega⟩, if_pos c, rate_w a0, rate_w aw0]
        refine ind_cg ⟨fun z => ⟨z, by rw [kc.1, kc.2]; exact q⟩, fun z => z.1⟩
      · have a0 := (av v v0 v1).2 q
        rw [if_neg (by omega), if_pos c, ind_0 (fun z => q (by have := z.2; rw [kc.1, kc.2] at this; exact this))]
    · rw [if_neg (fun z => c z.1), if_neg c]
  have oi := off_inv (D := F) ask bh (n := F 106 6) (fun w w0 w1 => (hRF.2.1 w w0 w1).2.2.2) (F 106 6) hRF.1.1 (Int.le_refl _)
  have s195 := sq_195 (D := E) (w := w) e2 oi.1.1 (by omega) p1 p2 (fun q q0 q1 => by rw [e3 q q0 q1]; exact p3' q q0 q1)
  rw [rkc] at s195
  have cb : 0 ≤ cnt D bh kind w ∧ cnt D bh kind w ≤ D 106 6 := S_01 hn.1 (fun j _ _ => cntF_01 D bh kind w j)
  have E27 : E 106 27 = kn D w kind := by rw [e4 _ _ (by decide) (by decide) (by decide) (by omega)]; exact f2
  refine ⟨E, ?_, rs2_t rF rE⟩
  rw [r_196, f1]
  simp only [Option.bind_some, psh_9]
  rw [e_196_6, e1]
  simp only [Option.bind_some, psh_9]
  rw [e_196_13, s195, E27]
  simp only [Option.bind_some, psh_0]
  rw [e_196_22, w32_id (x := kn D w kind + cnt D bh kind w) (by omega) (by omega), w32_id (by omega) (by omega)]
/-- by the first n keys of w: w is the first offer just if no word ahead of it shares them -/
theorem sq_197n {D : Mem} {w bh n t : Int} (hR : rOK D) (hd : dst D) (ht : thr D w) (hb : bh < 80) (hT : isSN D bh w (D 106 6) t) (n0 : 1 ≤ n) (n1 : n ≤ D 109 w) (hrow : ∀ i, 0 ≤ i → i < D 109 w → D 124 i = gk D w i) : ∃ E, qR 179 [(3, 106), (0, 3), (0, -1), (0, bh)] (mk (mU D 106 27 n)) = some ((9, 0), mk E) ∧ (E 125 0 = w ↔ t < n) ∧ (∀ i, 0 ≤ i → i < D 109 w → E 124 i = gk D w i) ∧ rs2 D E := by
  have hn := hR.1
  have w0 := ht.1
  have w1 := ht.2.1
  have lw := (hR.2.1 w w0 w1).1
  obtain ⟨F, hF⟩ : ∃ F, F = mU D 106 27 n := ⟨_, rfl⟩
  have oF : ∀ y i, ¬ (y = 106 ∧ i = 27) → F y i = D y i := fun y i q => by rw [hF, mU_other q]
  have rF : rs2 D F := fun y i q1 q2 => oF y i (by omega)
  have hRF := rs2_R rF hR
  have dF := dst_cg (rs2_C rF) hd
  have gw := gk_ok hR w0 w1
  obtain ⟨E, e1, e2, e3, e4⟩ := sq_179 (D := F) (kind := 3) (limit := -1) (m := n) (f := gk D w) (bh := bh) hRF (by omega) (by rw [hF, mU_s]) (by omega) (by omega) (fun i i0 i1 => by rw [oF _ _ (by omega)]; exact hrow i i0 (by omega)) (fun i i0 i1 => gw i i0 (by omega)) hb
  have rE : rs2 F E := fun y i q1 q2 => e4 y i (by omega) (by omega) (by omega) (by omega)
  obtain ⟨ask, hask⟩ : ∃ ask, ask = ak F (gk D w) n 3 (-1) := ⟨_, rfl⟩
  rw [← hask] at e2 e3
  have F6 : F 106 6 = D 106 6 := oF _ _ (by omega)
  have gF := gk_cg (D := D) (E := F) (fun y i q => oF y i (by omega))
  have lF : ∀ v, F 109 v = D 109 v := fun v => oF _ _ (by omega)
  have k3g : ∀ v, kf F v 3 = gk D v ∧ kn F v 3 = D 109 v := fun v => by rw [(kf3 F v).1, (kf3 F v).2, (k1g F v).1, (k1g F v).2, gF v, lF v]; exact ⟨rfl, rfl⟩
  have av : ∀ v, (pre (gk D w) n (gk D v) (D 109 v) → ask v = 0) ∧ (¬ pre (gk D w) n (gk D v) (D 109 v) → ask v = -1) := fun v => by
    rw [hask]
    unfold ak askF
    rw [if_pos rfl, (k3g v).1, (k3g v).2]
    exact ⟨fun h => if_pos ⟨by omega, h⟩, fun h => if_neg (fun q => h q.2)⟩
  have tF : F 112 w = 1 := by rw [oF _ _ (by omega)]; exact ht.2.2
  have aw0 : ask w = 0 := (av w).1 ⟨n1, fun _ _ _ => rfl⟩
  obtain ⟨p1, p2, p3'⟩ := off_place (D := F) ask bh hRF dF w0 (by omega) ⟨tF, by omega⟩
  have first : E 125 0 = w ↔ rk F ask bh w = 0 := by
    rw [e3 0 (by omega) (by omega), p3' 0 (by omega) (by omega)]
    exact ⟨fun h => h.symm, fun h => h.symm⟩
  have hT' := isSN_cg (rs2_C rF) hT
  rw [hF] at e1
  refine ⟨E, by rw [← hF]; rw [← hF] at e1; exact e1, ?_, fun i i0 i1 => by rw [e4 _ _ (by decide) (by decide) (by decide) (by omega), oF _ _ (by omega)]; exact hrow i i0 i1, rs2_t rF rE⟩
  rw [first]
  obtain ⟨T0, T1, T2⟩ := hT
  have awF : ∀ v, aw F bh v w ↔ aw D bh v w := fun v => aw_cg (rs2_C rF) bh v w
  constructor
  · intro h
    rcases T2 with q | ⟨v, v0, v1, v2, v3, v4⟩
    · omega
    · by_cases c : t < n
      · exact c
      · exfalso
        have hp : pre (gk D w) n (gk D v) (D 109 v) := ⟨by have := v4.2.1; omega, fun i i0 i1 => (v4.2.2.2.1 i i0 (by omega)).symm⟩
        have a0 := (av v).1 hp
        have pos : 1 ≤ rk F ask bh w := by
          have g : ∀ j, 0 ≤ j → j < F 106 6 → 0 ≤ (if F 112 j = 1 ∧ 0 ≤ ask j then ind (ahd F j (wv F ask bh j) w (wv F ask bh w)) else 0) := fun j _ _ => by
            split
            · exact (ind_01 _).1
            · omega
          have hv : (if F 112 v = 1 ∧ 0 ≤ ask v then ind (ahd F v (wv F ask bh v) w (wv F ask bh w)) else 0) = 1 := by
            rw [if_pos ⟨by rw [oF _ _ (by omega)]; exact v2, by omega⟩, rate_w a0, rate_w aw0]
            exact ind_1 ((awF v).2 v3)
          have hu := S_upd (f := fun j => if F 112 j = 1 ∧ 0 ≤ ask j then ind (ahd F j (wv F ask bh j) w (wv F ask bh w)) else 0) (g := fun j => if j = v then 0 else (if F 112 j = 1 ∧ 0 ≤ ask j then ind (ahd F j (wv F ask bh j) w (wv F ask bh w)) else 0)) (n := F 106 6) v0 (by omega) (fun j j0 j1 ne => if_neg ne)
          rw [if_pos rfl, hv] at hu
          have nn := S_bd (f := fun j => if j = v then 0 else (if F 112 j = 1 ∧ 0 ≤ ask j then ind (ahd F j (wv F ask bh j) w (wv F ask bh w)) else 0)) (n := F 106 6) (a := 0) (b := 1) (by omega) (fun j j0 j1 => by
            show 0 ≤ (if j = v then 0 else (if F 112 j = 1 ∧ 0 ≤ ask j then ind (ahd F j (wv F ask bh j) w (wv F ask bh w)) else 0)) ∧ (if j = v then 0 else (if F 112 j = 1 ∧ 0 ≤ ask j then ind (ahd F j (wv F ask bh j) w (wv F ask bh w)) else 0)) ≤ 1
            by_cases c1 : j = v
            · rw [if_pos c1]; decide
            · rw [if_neg c1]
              by_cases c2 : F 112 j = 1 ∧ 0 ≤ ask j
              · rw [if_pos c2]; exact ind_01 _
              · rw [if_neg c2]; decide)
          have er : rk F ask bh w = S (fun j => if F 112 j = 1 ∧ 0 ≤ ask j then ind (ahd F j (wv F ask bh j) w (wv F ask bh w)) else 0) (F 106 6) := rfl
          omega
        omega
  · intro c
    refine S_zero fun v v0 v1 => ?_
    show (if F 112 v = 1 ∧ 0 ≤ ask v then ind (ahd F v (wv F ask bh v) w (wv F ask bh w)) else 0) = 0
    by_cases h : F 112 v = 1 ∧ 0 ≤ ask v
    · rw [if_pos h]
      refine ind_0 fun z => ?_
      have hp : pre (gk D w) n (gk D v) (D 109 v) := Classical.byContradiction fun q => by have := (av v).2 q; omega
      have a0 := (av v).1 hp
      rw [rate_w a0, rate_w aw0] at z
      obtain ⟨s, hs⟩ := cs_ex (gk D v) (gk D w) (m := D 109 v) (n := D 109 w) (by have := (hR.2.1 v v0 (by omega)).1; omega) (by omega)
      have le := T1 v v0 (by omega) (by rw [← oF 112 v (by omega)]; exact h.1) ((awF v).1 z) s hs
      obtain ⟨s0, s1, s2, s3, s4⟩ := hs
      rcases s4 with q | q
      · have := hp.1; omega
      · exact q (hp.2 s s0 (by omega)).symm
    · rw [if_neg h]
theorem sq_197 {D : Mem} {w kind bh : Int} (hR : rOK D) (hd : dst D) (ht : thr D w) (hb : bh < 80) (s194 : qR 194 [(3, 106), (0, w)] (mk D) = some ((0, tapW D w), mk D)) {t : Int} (hT : isSN D bh w (D 106 6) t) (kk : 0 ≤ kind ∧ kind ≤ 3) : ∃ E, qR 197 [(3, 106), (0, w), (0, kind), (0, bh)] (mk D) = some ((0, if kind = 0 then tapW D w else if kind = 3 then p3 D bh w t else kn D w kind + cnt D bh kind w + 1), mk E) ∧ rs2 D E := by
  have hn := hR.1
  have w0 := ht.1
  have w1 := ht.2.1
  have lw := (hR.2.1 w w0 w1).1
  by_cases k0 : kind = 0
  · refine ⟨D, ?_, fun _ _ _ _ => rfl⟩
    rw [r_197, if_pos k0, s194, if_pos k0]
    simp only [Option.bind_some, psh_0, e_197_9]
  · by_cases k3 : kind = 3
    · obtain ⟨F, f1, f2, f3, f4⟩ := sq_171 hR w0 w1 1
      rw [(k1g D w).2] at f2 f3
      rw [(k1g D w).1] at f3
      have rF : rs2 D F := fun y i q1 q2 => f4 y i (by omega) (by omega) (by omega)
      have T0 := hT.1
      have one : ∀ (M : Mem) n, rs2 D M → (∀ i, 0 ≤ i → i < D 109 w → M 124 i = gk D w i) → 1 ≤ n → n ≤ D 109 w → ∃ E, qE 197 30 [(3, 106), (0, w), (0, kind), (0, bh), (0, D 109 w), (0, n)] [] (mk M) = (if t < n then some ((0, n + 1), mk E) else qE 197 30 [(3, 106), (0, w), (0, kind), (0, bh), (0, D 109 w), (0, n + 1)] [] (mk E)) ∧ rs2 D E ∧ ∀ i, 0 ≤ i → i < D 109 w → E 124 i = gk D w i := fun M n rM hM n0 n1 => by
        have gM := gk_cg (D := D) (E := M) (fun y i q => rM y i (by omega) (by omega)) w
        have M109 : M 109 w = D 109 w := rM _ _ (by omega) (by omega)
        have M6 : M 106 6 = D 106 6 := rM _ _ (by omega) (by omega)
        obtain ⟨E, e1, e2, e3, e4⟩ := sq_197n (D := M) (n := n) (t := t) (rs2_R rM hR) (dst_cg (rs2_C rM) hd) (w := w) ⟨w0, by omega, by rw [rM _ _ (by omega) (by omega)]; exact ht.2.2⟩ hb (by rw [M6]; exact isSN_cg (rs2_C rM) hT) n0 (by omega) (fun i i0 i1 => by rw [gM]; exact hM i i0 (by omega))
        refine ⟨E, ?_, rs2_t rM e4, fun i i0 i1 => by rw [e3 i i0 (by omega), gM]⟩
        rw [e_197_30, if_pos n1, e1]
        simp only [Option.bind_some, psh_9]
        rw [e_197_50, if_pos (by decide), w32_id (by omega) (by omega)]
        by_cases c : t < n
        · rw [if_pos c, if_pos (e2.2 c)]
        · rw [if_neg c, if_neg (fun q => c (e2.1 q))]
      have hd0 : qR 197 [(3, 106), (0, w), (0, kind), (0, bh)] (mk D) = qE 197 30 [(3, 106), (0, w), (0, kind), (0, bh), (0, D 109 w), (0, 1)] [] (mk F) := by
        rw [r_197, if_neg k0, if_pos k3, f1]
        simp only [Option.bind_some, psh_9]
        rw [e_197_21, f2]
      obtain ⟨m, hm, m0, m1, m2⟩ : ∃ m, m = (if t < D 109 w then t + 1 else D 109 w + 1) ∧ 1 ≤ m ∧ m ≤ D 109 w + 1 ∧ m ≤ t + 1 := by
        by_cases c : t < D 109 w
        · exact ⟨t + 1, by rw [if_pos c], by omega, by omega, by omega⟩
        · exact ⟨D 109 w + 1, by rw [if_neg c], by omega, by omega, by omega⟩
      obtain ⟨M, e, hM1, hM2⟩ := it_inv (fun n (M : Mem) => qE 197 30 [(3, 106), (0, w), (0, kind), (0, bh), (0, D 109 w), (0, n)] [] (mk M)) (fun n M => rs2 D M ∧ ∀ i, 0 ≤ i → i < D 109 w → M 124 i = gk D w i) (a := 1) (n := m) m0 (fun n M n0 n1 ⟨a, b⟩ => by
        obtain ⟨E, e1, e2, e3⟩ := one M n a b n0 (by omega)
        rw [if_neg (by omega)] at e1
        exact ⟨E, e1, e2, e3⟩) (s0 := F) ⟨rF, f3⟩
      rw [if_neg k0, if_pos k3]
      unfold p3
      by_cases c : t < D 109 w
      · rw [if_pos c] at hm ⊢
        obtain ⟨E, e1, e2, e3⟩ := one M m hM1 hM2 m0 (by omega)
        rw [if_pos (by omega)] at e1
        refine ⟨E, ?_, e2⟩
        rw [hd0]
        refine (e.trans e1).trans ?_
        rw [hm, show t + 1 + 1 = t + 2 by omega]
      · rw [if_neg c] at hm ⊢
        have M6 : M 106 6 = D 106 6 := hM1 _ _ (by omega) (by omega)
        obtain ⟨E, e1, e2⟩ := sq_196 (D := M) (kind := 1) (bh := bh) (rs2_R hM1 hR) (dst_cg (rs2_C hM1) hd) (Or.inl rfl) (w := w) ⟨w0, by omega, by rw [hM1 _ _ (by omega) (by omega)]; exact ht.2.2⟩ hb
        have kc := kf_cg (D := D) (E := M) (fun y i q => hM1 y i (by omega) (by omega)) w 1
        rw [kc.2, (k1g D w).2, cnt_cg (rs2_C hM1)] at e1
        refine ⟨E, ?_, rs2_t hM1 e2⟩
        rw [hd0]
        refine e.trans ?_
        show qE 197 30 [(3, 106), (0, w), (0, kind), (0, bh), (0, D 109 w), (0, m)] [] (mk M) = _
        rw [e_197_30, if_neg (by omega), e_197_71, if_pos k3, e1]
        simp only [Option.bind_some, psh_0, e_197_87]
    · obtain ⟨E, e1, e2⟩ := sq_196 (D := D) (kind := kind) (bh := bh) hR hd (by omega) ht hb
      refine ⟨E, ?_, e2⟩
      rw [r_197, if_neg k0, if_neg k3, e_197_71, if_neg k3, e1, if_neg k0, if_neg k3]
      simp only [Option.bind_some, psh_0, e_197_87]
theorem tapW_cg {D E : Mem} (h : ∀ y i, y = 107 ∨ y = 108 ∨ y = 109 → E y i = D y i) (w : Int) : tapW E w = tapW D w := by
  unfold tapW tapF
  rw [show E 107 = D 107 from funext fun i => h _ _ (by omega), show E 108 = D 108 from funext fun i => h _ _ (by omega), h 109 w (by omega)]
/-- the presses of w by a kind, t the longest start that it shares with a word ahead of it -/
noncomputable def prs (D : Mem) (bh w t kind : Int) : Int := if kind = 0 then tapW D w else if kind = 3 then p3 D bh w t else kn D w kind + cnt D bh kind w + 1
theorem prs_cg {D E : Mem} (h : ∀ y i, supC y i → E y i = D y i) (bh w t kind : Int) : prs E bh w t kind = prs D bh w t kind := by
  have kc := kf_cg (D := D) (E := E) (fun y i q => h y i (by unfold supC; omega)) w kind
  unfold prs p3
  rw [tapW_cg (fun y i q => h y i (by unfold supC; omega)) w, h 109 w (by unfold supC; omega), cnt_cg h, cnt_cg h, kc.2]
theorem sn_one {D : Mem} {bh w n s t : Int} (h : isSN D bh w n s) (g : isSN D bh w n t) : s = t := by
  obtain ⟨a0, a1, a2⟩ := h
  obtain ⟨b0, b1, b2⟩ := g
  by_cases c : s < t
  · rcases b2 with q | ⟨v, v0, v1, v2, v3, v4⟩
    · omega
    · have := a1 v v0 v1 v2 v3 t v4; omega
  · by_cases d : t < s
    · rcases a2 with q | ⟨v, v0, v1, v2, v3, v4⟩
      · omega
      · have := b1 v v0 v1 v2 v3 s v4; omega
    · omega
theorem ca_cost {D : Mem} {k : Int} (hR : Rel D k) (hk : k ≤ 1000) (w kind : Int) : CaseOK D k 121 198 [(0, w), (0, kind)] := by
  have hW := hR.2.1
  have hn := hW.1
  have m1 := sp_143 hn.2.1 hn.2.2 w
  by_cases h : 0 ≤ w ∧ w < D 106 6
  · have h5 : 0 ≤ w ∧ w < D 5 2 := by omega
    by_cases hkd : 0 ≤ kind ∧ kind ≤ 3
    · have s132 : qR 132 [(0, kind)] (mk D) = some ((0, 1), mk D) := by rw [r_132, if_neg (by omega), if_pos (by omega)]
      have st : qR 121 [(3, 2), (0, w), (0, kind)] (mk D) = (qR 8 [(3, 5), (0, w)] (mk D)).bind fun x => qE 121 28 [(3, 2), (0, w), (0, kind)] (psh x.1 []) x.2 := by
        rw [r_121, sp_6, if_pos h5]
        simp only [Option.bind_some, psh_0]
        rw [e_121_8, if_neg (by decide), s132]
        simp only [Option.bind_some, psh_0]
        rw [e_121_15, if_neg (by decide)]
      have sr : ∀ E : Mem, E 106 6 = D 106 6 → qR 198 [(3, 106), (0, w), (0, kind)] (mk E) = if E 112 w = 0 then some ((0, -4), mk E) else (qR 159 [(3, 106)] (mk E)).bind fun x => qE 198 35 [(3, 106), (0, w), (0, kind)] (psh x.1 [(0, kind), (0, w), (3, 106)]) x.2 := fun E e6 => by
        rw [r_198, sp_143 (by omega) (by omega), e6, if_pos h]
        simp only [Option.bind_some, psh_0]
        rw [e_198_5, if_neg (by decide), sp_142, if_pos hkd]
        simp only [Option.bind_some, psh_0]
        rw [e_198_14, if_neg (by decide), if_pos (by omega)]
      by_cases ht : thr D w
      · obtain ⟨E, q1, q2, q3⟩ := sp_69 hR hk
        have sE : Sim D E := fun y i hs => q3 y i (by unfold scr at hs; omega) (by unfold scr at hs; omega)
        have hRE := Rel_sim hR sE
        have s136 := sp_136 hRE
        have latE : lat E = lat D := lat_sim sE
        have hl := lat_bd hR
        rw [latE] at s136
        obtain ⟨F, f1, f2, f3⟩ := sp_70 hRE (x := lat D) (by omega)
        have sF : Sim E F := fun y i hs => f3 y i (by unfold scr at hs; omega) (by unfold scr at hs; omega)
        have hRF := Rel_sim hRE sF
        have dF : ∀ y i, ¬ (32 ≤ y ∧ y ≤ 35) → F y i = D y i := fun y i q => by rw [f3 y i (by omega) (by omega)]; exact q3 y i (by omega) (by omega)
        have thF : ∀ v, thr F v ↔ thr E v := fun v => thr_sim sF v
        have thE : ∀ v, thr E v ↔ thr D v := fun v => thr_sim sE v
        obtain ⟨G, t, g1, g2, g3, g4, g5, g6, g7⟩ := sp_78 (D := F) (w := w) (bh := lat D) (a := 105) hRF hk ((thF w).2 ((thE w).2 ht)) (fun v hv => by
            have c1 := kf_cg (D := D) (E := F) (fun y i q => dF y i (by omega)) v 1
            have c2 := kf_cg (D := D) (E := F) (fun y i q => dF y i (by omega)) v 2
            rw [c1.1, c1.2, c2.1, c2.2, f3 _ _ (by decide) (by decide), f3 _ _ (by decide) (by decide)]
            exact q2 v ((thE v).1 ((thF v).1 hv))) (fun v hv => by rw [f2 v ((thF v).1 hv), rate_sim sF]) (by decide) mk_k105 mk_l105 mu_105 mk_c105 (Or.inl rfl)
        have sG : Sim F G := fun y i hs => g7 y i (by unfold scr at hs; omega)
        have hRG := Rel_sim hRF sG
        have dG : ∀ y i, ¬ (32 ≤ y ∧ y ≤ 35) → y ≠ 105 → G y i = D y i := fun y i p1 p2 => by rw [g7 y i p2]; exact dF y i p1
        have cG : ∀ y i, supC y i → G y i = F y i := fun y i q => g7 y i (by unfold supC at q; omega)
        have latG : lat G = lat D := by rw [lat_sim sG, lat_sim sF, latE]
        have val : G 105 kind = prs F (lat D) w t kind := by
          unfold prs
          by_cases z0 : kind = 0
          · rw [if_pos z0, z0]; exact g3
          · by_cases z3 : kind = 3
            · rw [if_neg z0, if_pos z3, z3]; exact g6
            · by_cases z1 : kind = 1
              · rw [if_neg z0, if_neg z3, z1, (k1g F w).2]; exact g4
              · rw [if_neg z0, if_neg z3, show kind = 2 by omega]; exact g5
        have G6 : G 106 6 = D 106 6 := dG _ _ (by omega) (by decide)
        have F6 : F 106 6 = D 106 6 := dF _ _ (by omega)
        have tG : thr G w := ⟨h.1, by omega, by rw [dG _ _ (by omega) (by decide)]; exact ht.2.2⟩
        have snG : isSN G (lat D) w (G 106 6) t := by
          rw [G6]; rw [F6] at g2; exact isSN_cg cG g2
        obtain ⟨H, h1, h2⟩ := sq_197 (D := G) (w := w) (kind := kind) (bh := lat D) (rOK_of hRG hk) (dst_of hRG.2.1) tG (by omega) (sp_194 hRG.2.1 h.1 (by omega)) snG hkd
        have hv : prs G (lat D) w t kind = prs F (lat D) w t kind := prs_cg cG _ _ _ _
        have h1' : qR 197 [(3, 106), (0, w), (0, kind), (0, lat D)] (mk G) = some ((0, prs F (lat D) w t kind), mk H) := by rw [← hv]; exact h1
        refine case_sim (v := prs F (lat D) w t kind) (D1 := G) (D2 := H) hR ?_ ?_ ((sE.trans sF).trans sG) (rs2_S h2)
        · rw [st, (sp_8 hW w).1 ht]
          simp only [Option.bind_some, psh_0]
          rw [e_121_28, if_neg (by decide), q1]
          simp only [Option.bind_some, psh_9]
          rw [e_121_41, s136]
          simp only [Option.bind_some, psh_0]
          rw [e_121_49, f1]
          simp only [Option.bind_some, psh_9]
          rw [e_121_52, g1]
          simp only [Option.bind_some, psh_9]
          rw [e_121_64, if_pos (by omega), val]
        · rw [sr G G6, if_neg (by have := tG.2.2; omega), sq_159 (rOK_of hRG hk), latG]
          simp only [Option.bind_some, psh_0]
          rw [e_198_35, h1']
          simp only [Option.bind_some, psh_0, e_198_38]
      · have t3 : D 112 w = 0 := by have := (thr_cl hW h.1 h.2).2; rcases this with t | t; exact t; exact absurd ⟨h.1, h.2, t⟩ ht
        refine case_same (v := -4) hR ?_ ?_
        · rw [st, (sp_8 hW w).2 ht]
          simp only [Option.bind_some, psh_0]
          rw [e_121_28, if_pos rfl]
        · rw [sr D rfl, if_pos t3]
    · have kq : qR 132 [(0, kind)] (mk D) = some ((0, 0), mk D) := by
        rw [r_132]
        by_cases c : kind < 0
        · rw [if_pos c]
        · rw [if_neg c, if_neg (by omega)]
      exact case_same (v := -1) hR (by simp [r_121, sp_6, psh_0, e_121_8, kq, e_121_15, h5]) (by simp [r_198, m1, psh_0, e_198_5, sp_142, e_198_14, h, hkd])
  · have h5 : ¬ (0 ≤ w ∧ w < D 5 2) := by omega
    exact case_same (v := -1) hR (by simp [r_121, sp_6, psh_0, e_121_8, h5]) (by simp [r_198, m1, psh_0, e_198_5, h])
