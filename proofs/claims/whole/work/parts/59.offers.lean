/-! offers -/
theorem insP_cg {A B : Int → Prop} : ∀ n : Nat, (∀ q : Int, 0 ≤ q → q < n → (A q ↔ B q)) → insP A n = insP B n
  | 0, _ => rfl
  | n + 1, h => by
    have ih := insP_cg n (fun q q0 q1 => h q q0 (by omega))
    have hn := h n (by omega) (by omega)
    by_cases c : A n
    · rw [show insP A (n + 1) = insP A n from if_pos c, show insP B (n + 1) = insP B n from if_pos (hn.1 c), ih]
    · rw [show insP A (n + 1) = n + 1 from if_neg c, show insP B (n + 1) = n + 1 from if_neg (fun q => c (hn.2 q))]
def wv (D : Mem) (ask : Int → Int) (bh w : Int) : Int := w32 (rateD D w bh - ask w)
noncomputable def offS (D : Mem) (ask : Int → Int) (bh : Int) : Nat → Int × (Int → Int) × (Int → Int)
  | 0 => (0, fun _ => 0, fun _ => 0)
  | n + 1 => if D 112 n = 1 ∧ 0 ≤ ask n then ((offS D ask bh n).1 + 1, insI (offS D ask bh n).2.1 (insP (fun q => ahd D n (wv D ask bh n) ((offS D ask bh n).2.1 q) ((offS D ask bh n).2.2 q)) (offS D ask bh n).1.toNat) n, insI (offS D ask bh n).2.2 (insP (fun q => ahd D n (wv D ask bh n) ((offS D ask bh n).2.1 q) ((offS D ask bh n).2.2 q)) (offS D ask bh n).1.toNat) (wv D ask bh n)) else offS D ask bh n
noncomputable def oz (D : Mem) (ask : Int → Int) (bh i : Int) : Int := (offS D ask bh i.toNat).1
noncomputable def oo (D : Mem) (ask : Int → Int) (bh i : Int) : Int → Int := (offS D ask bh i.toNat).2.1
noncomputable def ow (D : Mem) (ask : Int → Int) (bh i : Int) : Int → Int := (offS D ask bh i.toNat).2.2
noncomputable def oq (D : Mem) (ask : Int → Int) (bh i : Int) : Int := (insP (fun q => ahd D i (wv D ask bh i) (oo D ask bh i q) (ow D ask bh i q)) (oz D ask bh i).toNat : Int)
theorem off_new {D : Mem} {ask : Int → Int} {bh i : Int} (i0 : 0 ≤ i) (h : D 112 i = 1 ∧ 0 ≤ ask i) : oz D ask bh (i + 1) = oz D ask bh i + 1 ∧ oo D ask bh (i + 1) = insI (oo D ask bh i) (oq D ask bh i) i ∧ ow D ask bh (i + 1) = insI (ow D ask bh i) (oq D ask bh i) (wv D ask bh i) := by
  unfold oz oo ow oq oz oo ow
  rw [show (i + 1).toNat = i.toNat + 1 by omega, offS, show ((i.toNat : Nat) : Int) = i by omega, if_pos h]
  exact ⟨rfl, rfl, rfl⟩
theorem off_old {D : Mem} {ask : Int → Int} {bh i : Int} (i0 : 0 ≤ i) (h : ¬ (D 112 i = 1 ∧ 0 ≤ ask i)) : oz D ask bh (i + 1) = oz D ask bh i ∧ oo D ask bh (i + 1) = oo D ask bh i ∧ ow D ask bh (i + 1) = ow D ask bh i := by
  unfold oz oo ow
  rw [show (i + 1).toNat = i.toNat + 1 by omega, offS, show ((i.toNat : Nat) : Int) = i by omega, if_neg h]
  exact ⟨rfl, rfl, rfl⟩
theorem oq_bd (D : Mem) (ask : Int → Int) (bh i : Int) (h : 0 ≤ oz D ask bh i) : 0 ≤ oq D ask bh i ∧ oq D ask bh i ≤ oz D ask bh i := by
  unfold oq
  have := (insP_spec (fun q => ahd D i (wv D ask bh i) (oo D ask bh i q) (ow D ask bh i q)) (oz D ask bh i).toNat).1
  omega
theorem off_inv {D : Mem} (ask : Int → Int) (bh : Int) {n : Int} (h01 : ∀ w, 0 ≤ w → w < n → D 112 w = 0 ∨ D 112 w = 1) : ∀ i, 0 ≤ i → i ≤ n → (0 ≤ oz D ask bh i ∧ oz D ask bh i ≤ S (D 112) i ∧ S (D 112) i ≤ i) ∧ ∀ q, 0 ≤ q → q < oz D ask bh i → 0 ≤ oo D ask bh i q ∧ oo D ask bh i q < i ∧ D 112 (oo D ask bh i q) = 1 ∧ 0 ≤ ask (oo D ask bh i q) ∧ ow D ask bh i q = wv D ask bh (oo D ask bh i q) := by
  refine i_up (P := fun i => i ≤ n → (0 ≤ oz D ask bh i ∧ oz D ask bh i ≤ S (D 112) i ∧ S (D 112) i ≤ i) ∧ ∀ q, 0 ≤ q → q < oz D ask bh i → 0 ≤ oo D ask bh i q ∧ oo D ask bh i q < i ∧ D 112 (oo D ask bh i q) = 1 ∧ 0 ≤ ask (oo D ask bh i q) ∧ ow D ask bh i q = wv D ask bh (oo D ask bh i q)) (fun _ => ⟨⟨Int.le_refl 0, Int.le_refl 0, Int.le_refl 0⟩, fun q q0 q1 => by have : q < 0 := q1; omega⟩) (fun i i0 ih hi => ?_)
  obtain ⟨a, b⟩ := ih (by omega)
  have h01i := h01 i i0 (by omega)
  rw [S_succ _ i0]
  by_cases h : D 112 i = 1 ∧ 0 ≤ ask i
  · obtain ⟨e1, e2, e3⟩ := off_new (bh := bh) i0 h
    have hb := oq_bd D ask bh i a.1
    rw [e1, e2, e3]
    refine ⟨by omega, fun q q0 q1 => ?_⟩
    unfold insI
    by_cases c1 : q < oq D ask bh i
    · rw [if_pos c1, if_pos c1]
      have := b q q0 (by omega)
      exact ⟨this.1, by omega, this.2.2⟩
    · rw [if_neg c1, if_neg c1]
      by_cases c2 : q = oq D ask bh i
      · rw [if_pos c2, if_pos c2]; exact ⟨i0, by omega, h.1, h.2, rfl⟩
      · rw [if_neg c2, if_neg c2]
        have := b (q - 1) (by omega) (by omega)
        exact ⟨this.1, by omega, this.2.2⟩
  · obtain ⟨e1, e2, e3⟩ := off_old (bh := bh) i0 h
    rw [e1, e2, e3]
    refine ⟨by omega, fun q q0 q1 => ?_⟩
    have := b q q0 q1
    exact ⟨this.1, by omega, this.2.2⟩
theorem offS_cg {D E : Mem} (h : ∀ y i, (108 ≤ y ∧ y ≤ 110) ∨ y = 112 ∨ y = 113 ∨ (y = 106 ∧ i = 9) → E y i = D y i) (ask : Int → Int) (bh : Int) : ∀ n, offS E ask bh n = offS D ask bh n
  | 0 => rfl
  | n + 1 => by
    have r : ∀ w, wv E ask bh w = wv D ask bh w := fun w => by unfold wv rateD; rw [h 110 w (by omega), h 113 _ (by omega), h 106 9 (by omega)]
    have a : ∀ v x w y, ahd E v x w y ↔ ahd D v x w y := fun v x w y => ahd_cg (fun y i q => h y i (by omega)) v x w y
    have p : ∀ (m : Nat) (o t : Int → Int), insP (fun q => ahd E n (wv D ask bh n) (o q) (t q)) m = insP (fun q => ahd D n (wv D ask bh n) (o q) (t q)) m := fun m o t => insP_cg m (fun q _ _ => a _ _ _ _)
    rw [offS, offS, offS_cg h ask bh n, h 112 n (by omega), r, p]
/-- what word w asks of a row f of m keys -/
noncomputable def ak (D : Mem) (f : Int → Int) (m kind limit w : Int) : Int := askF (D 114) f m (kf D w kind) (kn D w kind) kind limit
theorem insI_cg {o o' : Int → Int} {z p v i : Int} (p0 : 0 ≤ p) (p1 : p ≤ z) (i0 : 0 ≤ i) (i1 : i ≤ z) (h : ∀ q, 0 ≤ q → q < z → o q = o' q) : insI o p v i = insI o' p v i := by
  unfold insI
  by_cases c1 : i < p
  · rw [if_pos c1, if_pos c1]; exact h i i0 (by omega)
  · rw [if_neg c1, if_neg c1]
    by_cases c2 : i = p
    · rw [if_pos c2, if_pos c2]
    · rw [if_neg c2, if_neg c2]; exact h (i - 1) (by omega) (by omega)
theorem sp_74 {D : Mem} {k kind limit m bh : Int} {f : Int → Int} (hR : Rel D k) (hk : k ≤ 1000) (kk : kind = 1 ∨ kind = 2 ∨ kind = 3) (m0 : 0 ≤ m) (m1 : m ≤ 12) (hok : keysOK f m) (h32 : ∀ w, thr D w → D 32 w = P (kf D w 1) (kn D w 1) ∧ D 33 w = P (kf D w 2) (kn D w 2)) (h34 : ∀ w, thr D w → D 34 w = rateD D w bh) : ∃ E, qR 74 [(3, 31), (1, P f m), (0, kind), (0, limit)] (mk D) = some ((9, 0), mk E) ∧ E 31 9 = oz D (ak D f m kind limit) bh (D 106 6) ∧ (∀ q, 0 ≤ q → q < oz D (ak D f m kind limit) bh (D 106 6) → E 36 q = oo D (ak D f m kind limit) bh (D 106 6) q) ∧ ∀ y i, y ≠ 36 → y ≠ 37 → ¬ (y = 31 ∧ i = 9) → E y i = D y i := by
  have hW := hR.2.1
  have hn := hW.1
  have h53 := hW.2.2.2.1
  have hpr := hR.2.2.2.1.2.2.2.2
  have rD := rOK_of hR hk
  obtain ⟨ask, hask⟩ : ∃ ask, ask = ak D f m kind limit := ⟨_, rfl⟩
  rw [← hask]
  have inv := off_inv ask bh (n := D 106 6) (fun w w0 w1 => (thr_cl hW w0 w1).2)
  obtain ⟨⟨E, v6⟩, e, h1, h2, h3⟩ := it_inv (fun i (s : Mem × PV) => qE 74 8 [(3, 31), (1, P f m), (9, 0), (0, kind), (0, limit), (0, i), s.2] [] (mk s.1)) (fun i s => s.1 31 9 = oz D ask bh i ∧ (∀ q, 0 ≤ q → q < oz D ask bh i → s.1 36 q = oo D ask bh i q ∧ s.1 37 q = ow D ask bh i q) ∧ ∀ y j, y ≠ 36 → y ≠ 37 → ¬ (y = 31 ∧ j = 9) → s.1 y j = D y j) (a := 0) (n := D 106 6) hn.2.1
    (fun i s i0 i1 ⟨h1, h2, h3⟩ => by
      obtain ⟨E, v6⟩ := s
      replace h1 : E 31 9 = oz D ask bh i := h1
      replace h2 : ∀ q, 0 ≤ q → q < oz D ask bh i → E 36 q = oo D ask bh i q ∧ E 37 q = ow D ask bh i q := h2
      replace h3 : ∀ y j, y ≠ 36 → y ≠ 37 → ¬ (y = 31 ∧ j = 9) → E y j = D y j := h3
      have hRE : Rel E k := Rel_sim hR (fun y j hs => h3 y j (by unfold scr at hs; omega) (by unfold scr at hs; omega) (by unfold scr at hs; omega))
      have hWE := hRE.2.1
      have e52 : E 5 2 = D 106 6 := by rw [h3 5 2 (by decide) (by decide) (by omega)]; exact hn.1
      have e6 : E 106 6 = D 106 6 := h3 _ _ (by decide) (by decide) (by omega)
      have e1 : w32 (i + 1) = i + 1 := w32_id (by omega) (by omega)
      have t2 := (thr_cl hW i0 i1).2
      obtain ⟨a, b⟩ := inv i i0 (by omega)
      have thE : thr E i ↔ thr D i := by unfold thr; rw [e6, h3 112 i (by decide) (by decide) (by omega)]
      have st : ∀ v, qR 8 [(3, 5), (0, i)] (mk E) = some ((0, v), mk E) → qE 74 8 [(3, 31), (1, P f m), (9, 0), (0, kind), (0, limit), (0, i), v6] [] (mk E) = qE 74 36 [(3, 31), (1, P f m), (9, 0), (0, kind), (0, limit), (0, i), v6] [(0, v)] (mk E) := fun v hv => by
        rw [e_74_8, r_1]
        simp only [Option.bind_some, psh_0]
        rw [e_74_17, if_pos (by omega), if_pos (by omega), hv]
        simp only [Option.bind_some, psh_0]
      rcases t2 with t2 | t2
      · obtain ⟨n1, n2, n3⟩ := off_old (D := D) (ask := ask) (bh := bh) i0 (by omega)
        refine ⟨(E, v6), ?_, by rw [n1]; exact h1, by rw [n1, n2, n3]; exact h2, h3⟩
        show qE 74 8 [(3, 31), (1, P f m), (9, 0), (0, kind), (0, limit), (0, i), v6] [] (mk E) = qE 74 8 [(3, 31), (1, P f m), (9, 0), (0, kind), (0, limit), (0, i + 1), v6] [] (mk E)
        rw [st 0 ((sp_8 hWE i).2 (fun q => by have := (thE.1 q).2.2; omega)), e_74_36, if_pos rfl, e_74_72, e1]
      · have th : thr D i := ⟨i0, i1, t2⟩
        obtain ⟨gok, g0, g1⟩ := kf_ok rD i0 i1 kind
        have r32 : kind ≠ 2 → E 32 i = P (kf D i kind) (kn D i kind) := fun c => by
          rw [h3 _ _ (by decide) (by decide) (by omega), (h32 i th).1]; unfold kf kn; rw [if_neg (by decide), if_neg (by decide), if_neg c, if_neg c]
        have r33 : kind = 2 → E 33 i = P (kf D i kind) (kn D i kind) := fun c => by rw [h3 _ _ (by decide) (by decide) (by omega), (h32 i th).2, c]
        have s73 := sp_73 (D := E) (limit := limit) (f := f) (m := m) i0 (by omega) kk m0 m1 hok g0 g1 gok r32 r33
        have e38 : E 38 = D 114 := by rw [← hpr.1]; exact funext fun j => h3 _ _ (by decide) (by decide) (by omega)
        rw [e38] at s73
        have av : askF (D 114) f m (kf D i kind) (kn D i kind) kind limit = ask i := by rw [hask]; rfl
        rw [av] at s73
        have st2 : qE 74 8 [(3, 31), (1, P f m), (9, 0), (0, kind), (0, limit), (0, i), v6] [] (mk E) = qE 74 49 [(3, 31), (1, P f m), (9, 0), (0, kind), (0, limit), (0, i), v6] [(0, ask i)] (mk E) := by
          rw [st 1 ((sp_8 hWE i).1 (thE.2 th)), e_74_36, if_neg (by decide), s73]
          simp only [Option.bind_some, psh_0]
        by_cases c : ask i < 0
        · obtain ⟨n1, n2, n3⟩ := off_old (D := D) (ask := ask) (bh := bh) i0 (by omega)
          refine ⟨(E, (0, ask i)), ?_, by rw [n1]; exact h1, by rw [n1, n2, n3]; exact h2, h3⟩
          show qE 74 8 [(3, 31), (1, P f m), (9, 0), (0, kind), (0, limit), (0, i), v6] [] (mk E) = qE 74 8 [(3, 31), (1, P f m), (9, 0), (0, kind), (0, limit), (0, i + 1), (0, ask i)] [] (mk E)
          rw [st2, e_74_49, if_pos c, e_74_72, e1]
        · obtain ⟨n1, n2, n3⟩ := off_new (D := D) (ask := ask) (bh := bh) i0 ⟨t2, by omega⟩
          have zz : oz D ask bh i < 40 := by
            have h := S_succ (D 112) i0
            have mono : ∀ j, i + 1 ≤ j → j ≤ D 106 6 → S (D 112) (i + 1) ≤ S (D 112) j := i_up (P := fun j => j ≤ D 106 6 → S (D 112) (i + 1) ≤ S (D 112) j) (fun _ => Int.le_refl _) (fun j j0 ih j1 => by
              have := ih (by omega)
              have h01 := (thr_cl hW (w := j) (by omega) (by omega)).2
              have hj := S_succ (D 112) (n := j) (by omega)
              omega)
            have := mono (D 106 6) (by omega) (by omega)
            omega
          have rate : w32 (E 34 i - ask i) = wv D ask bh i := by unfold wv; rw [h3 _ _ (by decide) (by decide) (by omega), h34 i th]
          obtain ⟨F, p, f1, f2, f3, f4, f5, f6, f7⟩ := sp_75 (D := E) (a := wv D ask bh i) hWE i0 (by omega) h1 a.1 zz (fun q q0 q1 => by rw [(h2 q q0 q1).1, e6]; have := b q q0 q1; omega)
          have pe : p = oq D ask bh i := by
            rw [f2]; unfold oq
            rw [insP_cg _ (fun q q0 q1 => ?_)]
            rw [(h2 q q0 (by omega)).1, (h2 q q0 (by omega)).2]
            exact ahd_cg (fun y j q => h3 y j (by omega) (by omega) (by omega)) _ _ _ _
          refine ⟨(F, (0, ask i)), ?_, by rw [n1]; exact f5, fun q q0 q1 => ?_, fun y j y1 y2 y3 => by show F y j = D y j; rw [f7 y j y1 y2 y3]; exact h3 y j y1 y2 y3⟩
          · show qE 74 8 [(3, 31), (1, P f m), (9, 0), (0, kind), (0, limit), (0, i), v6] [] (mk E) = qE 74 8 [(3, 31), (1, P f m), (9, 0), (0, kind), (0, limit), (0, i + 1), (0, ask i)] [] (mk F)
            rw [st2, e_74_49, if_neg c, if_pos (by omega), rate, f1]
            simp only [Option.bind_some, psh_9]
            rw [e_74_72, e1]
          · show F 36 q = oo D ask bh (i + 1) q ∧ F 37 q = ow D ask bh (i + 1) q
            rw [n1] at q1
            have := f6 q q0 (by omega)
            rw [this.1, this.2, n2, n3, pe]
            exact ⟨insI_cg (z := oz D ask bh i) (by omega) (by omega) q0 (by omega) (fun r r0 r1 => (h2 r r0 r1).1), insI_cg (z := oz D ask bh i) (by omega) (by omega) q0 (by omega) (fun r r0 r1 => (h2 r r0 r1).2)⟩)
    (s0 := (mU D 31 9 0, (9, 0))) ⟨(mU_s : mU D 31 9 0 31 9 = 0), fun q q0 q1 => by have : oz D ask bh 0 = 0 := rfl; omega, fun y j y1 y2 y3 => mU_other y3⟩
  replace h1 : E 31 9 = oz D ask bh (D 106 6) := h1
  replace h2 : ∀ q, 0 ≤ q → q < oz D ask bh (D 106 6) → E 36 q = oo D ask bh (D 106 6) q ∧ E 37 q = ow D ask bh (D 106 6) q := h2
  replace h3 : ∀ y j, y ≠ 36 → y ≠ 37 → ¬ (y = 31 ∧ j = 9) → E y j = D y j := h3
  refine ⟨E, ?_, h1, fun q q0 q1 => (h2 q q0 q1).1, h3⟩
  have e52 : E 5 2 = D 106 6 := by rw [h3 5 2 (by decide) (by decide) (by omega)]; exact hn.1
  rw [r_74]
  refine e.trans ?_
  show qE 74 8 [(3, 31), (1, P f m), (9, 0), (0, kind), (0, limit), (0, D 106 6), v6] [] (mk E) = _
  rw [e_74_8, r_1]
  simp only [Option.bind_some, psh_0]
  rw [e_74_17, if_neg (by omega)]
theorem sq_160 {D : Mem} {w x : Int} (hR : rOK D) (w0 : 0 ≤ w) (w1 : w < D 106 6) (hx : x < 80) : qR 160 [(3, 106), (0, w), (0, x)] (mk D) = some ((0, rateD D w x), mk D) := by
  have hn := hR.1
  have c1 := (hR.2.1 w w0 w1).2.2.1
  have s0 := hR.2.2.2.1
  have hp : 0 ≤ (if x < 0 then 0 else D 113 (80 * x + w)) ∧ (if x < 0 then 0 else D 113 (80 * x + w)) ≤ 1000000 := by
    by_cases c : x < 0
    · rw [if_pos c]; omega
    · rw [if_neg c]; exact hR.2.2.1 x w (by omega) hx w0 (by omega)
  obtain ⟨z1, z2, z3, z4, z5, e1, e2, e3, e4, e5, e6⟩ := rt_ok (c := D 110 w) (p := if x < 0 then 0 else D 113 (80 * x + w)) (s := D 106 9) (by omega) (by omega) hp.1 hp.2 (by omega) (by omega)
  have g : 0 ≤ w ∧ w < 80 := by omega
  have main : qE 160 19 [(3, 106), (0, w), (0, x), (9, 0), (9, 0), (9, 0), (9, 0)] [(0, if x < 0 then 0 else D 113 (80 * x + w))] (mk D) = some ((0, rateD D w x), mk D) := by
    rw [e_160_19, if_pos g, e1]
    simp only [Option.bind_some, e2, e3, e4, e5, e6]
    rfl
  rw [r_160]
  by_cases c : x < 0
  · rw [if_pos c]; rw [if_pos c] at main; exact main
  · have e7 : w32 (80 * x) = 80 * x := w32_id (by omega) (by omega)
    have e8 : w32 (80 * x + w) = 80 * x + w := w32_id (by omega) (by omega)
    rw [if_neg c, e7, e8, if_pos (by omega)]; rw [if_neg c] at main; exact main
theorem sq_179 {D : Mem} {kind limit m bh : Int} {f : Int → Int} (hR : rOK D) (kk : kind = 1 ∨ kind = 2 ∨ kind = 3) (hm : D 106 27 = m) (m0 : 0 ≤ m) (m1 : m ≤ 12) (hf : ∀ i, 0 ≤ i → i < m → D 124 i = f i) (hok : keysOK f m) (hb : bh < 80) : ∃ E, qR 179 [(3, 106), (0, kind), (0, limit), (0, bh)] (mk D) = some ((9, 0), mk E) ∧ E 106 30 = oz D (ak D f m kind limit) bh (D 106 6) ∧ (∀ q, 0 ≤ q → q < oz D (ak D f m kind limit) bh (D 106 6) → E 125 q = oo D (ak D f m kind limit) bh (D 106 6) q) ∧ ∀ y i, y ≠ 123 → y ≠ 125 → y ≠ 126 → ¬ (y = 106 ∧ (i = 25 ∨ i = 30)) → E y i = D y i := by
  have hn := hR.1
  obtain ⟨ask, hask⟩ : ∃ ask, ask = ak D f m kind limit := ⟨_, rfl⟩
  rw [← hask]
  have inv := off_inv ask bh (n := D 106 6) (fun w w0 w1 => (hR.2.1 w w0 w1).2.2.2)
  obtain ⟨⟨E, v5, v6, v7⟩, e, h1, h2, h3⟩ := it_inv (fun i (s : Mem × PV × PV × PV) => qE 179 8 [(3, 106), (0, kind), (0, limit), (0, bh), (0, i), s.2.1, s.2.2.1, s.2.2.2] [] (mk s.1)) (fun i s => s.1 106 30 = oz D ask bh i ∧ (∀ q, 0 ≤ q → q < oz D ask bh i → s.1 125 q = oo D ask bh i q ∧ s.1 126 q = ow D ask bh i q) ∧ ∀ y j, y ≠ 123 → y ≠ 125 → y ≠ 126 → ¬ (y = 106 ∧ (j = 25 ∨ j = 30)) → s.1 y j = D y j) (a := 0) (n := D 106 6) hn.1
    (fun i s i0 i1 ⟨h1, h2, h3⟩ => by
      obtain ⟨E, v5, v6, v7⟩ := s
      replace h1 : E 106 30 = oz D ask bh i := h1
      replace h2 : ∀ q, 0 ≤ q → q < oz D ask bh i → E 125 q = oo D ask bh i q ∧ E 126 q = ow D ask bh i q := h2
      replace h3 : ∀ y j, y ≠ 123 → y ≠ 125 → y ≠ 126 → ¬ (y = 106 ∧ (j = 25 ∨ j = 30)) → E y j = D y j := h3
      have hRE : rOK E := rOK_congr (fun y j q => h3 y j (by unfold supR at q; omega) (by unfold supR at q; omega) (by unfold supR at q; omega) (by unfold supR at q; omega)) hR
      have e6 : E 106 6 = D 106 6 := h3 _ _ (by decide) (by decide) (by decide) (by omega)
      have e112 : E 112 i = D 112 i := h3 _ _ (by decide) (by decide) (by decide) (by omega)
      have e1 : w32 (i + 1) = i + 1 := w32_id (by omega) (by omega)
      have t2 := (hR.2.1 i i0 i1).2.2.2
      obtain ⟨a, b⟩ := inv i i0 (by omega)
      have st : ∀ v F, qR 177 [(3, 106), (0, i), (0, kind), (0, limit)] (mk E) = some ((0, v), mk F) → qE 179 8 [(3, 106), (0, kind), (0, limit), (0, bh), (0, i), v5, v6, v7] [] (mk E) = qE 179 25 [(3, 106), (0, kind), (0, limit), (0, bh), (0, i), v5, v6, v7] [(0, v)] (mk F) := fun v F hv => by
        rw [e_179_8, e6, if_pos i1, hv]
        simp only [Option.bind_some, psh_0]
      rcases t2 with t2 | t2
      · obtain ⟨n1, n2, n3⟩ := off_old (D := D) (ask := ask) (bh := bh) i0 (by omega)
        refine ⟨(E, (0, -1), v6, v7), ?_, by rw [n1]; exact h1, by rw [n1, n2, n3]; exact h2, h3⟩
        show qE 179 8 [(3, 106), (0, kind), (0, limit), (0, bh), (0, i), v5, v6, v7] [] (mk E) = qE 179 8 [(3, 106), (0, kind), (0, limit), (0, bh), (0, i + 1), (0, -1), v6, v7] [] (mk E)
        rw [st (-1) E (by rw [r_177, if_pos (by omega), e112, if_pos t2]), e_179_25, if_pos (by decide), e1]
      · obtain ⟨F, f1, f2⟩ := sq_177 (D := E) (w := i) (kind := kind) (limit := limit) (m := m) (f := f) hRE i0 (by omega) (by rw [e112]; exact t2) kk (by rw [h3 _ _ (by decide) (by decide) (by decide) (by omega)]; exact hm) m0 m1 (fun j j0 j1 => by rw [h3 _ _ (by decide) (by decide) (by decide) (by omega)]; exact hf j j0 j1) hok
        have kc := kf_cg (D := D) (E := E) (fun y j q => h3 y j (by omega) (by omega) (by omega) (by omega)) i kind
        have av : askF (E 114) f m (kf E i kind) (kn E i kind) kind limit = ask i := by
          rw [kc.1, kc.2, show E 114 = D 114 from funext fun j => h3 _ _ (by decide) (by decide) (by decide) (by omega), hask]; rfl
        rw [av] at f1
        have F3 : ∀ y j, y ≠ 123 → y ≠ 125 → y ≠ 126 → ¬ (y = 106 ∧ (j = 25 ∨ j = 30)) → F y j = D y j := fun y j y1 y2 y3 y4 => by rw [f2 y j y1 (by omega)]; exact h3 y j y1 y2 y3 y4
        have F30 : F 106 30 = oz D ask bh i := by rw [f2 _ _ (by decide) (by omega)]; exact h1
        have F2 : ∀ q, 0 ≤ q → q < oz D ask bh i → F 125 q = oo D ask bh i q ∧ F 126 q = ow D ask bh i q := fun q q0 q1 => by rw [f2 _ _ (by decide) (by omega), f2 _ _ (by decide) (by omega)]; exact h2 q q0 q1
        by_cases c : ask i < 0
        · obtain ⟨n1, n2, n3⟩ := off_old (D := D) (ask := ask) (bh := bh) i0 (by omega)
          refine ⟨(F, (0, ask i), v6, v7), ?_, by rw [n1]; exact F30, by rw [n1, n2, n3]; exact F2, F3⟩
          show qE 179 8 [(3, 106), (0, kind), (0, limit), (0, bh), (0, i), v5, v6, v7] [] (mk E) = qE 179 8 [(3, 106), (0, kind), (0, limit), (0, bh), (0, i + 1), (0, ask i), v6, v7] [] (mk F)
          rw [st _ F f1, e_179_25, if_pos c, e1]
        · obtain ⟨n1, n2, n3⟩ := off_new (D := D) (ask := ask) (bh := bh) i0 ⟨t2, by omega⟩
          have hRF : rOK F := rOK_congr (fun y j q => F3 y j (by unfold supR at q; omega) (by unfold supR at q; omega) (by unfold supR at q; omega) (by unfold supR at q; omega)) hR
          have F6 : F 106 6 = D 106 6 := F3 _ _ (by decide) (by decide) (by decide) (by omega)
          have rt : rateD F i bh = rateD D i bh := by unfold rateD; rw [F3 110 i (by decide) (by decide) (by decide) (by omega), F3 113 _ (by decide) (by decide) (by decide) (by omega), F3 106 9 (by decide) (by decide) (by decide) (by omega)]
          have s160 := sq_160 hRF i0 (by omega) hb
          rw [rt] at s160
          obtain ⟨G, p, g1, g2, g3, g4, g5, g6, g7⟩ := sq_179i (D := F) (kd := kind) (lm := limit) (bh := bh) (a := wv D ask bh i) (pr := ask i) hRF i0 (by omega) F30 a.1 (by omega) (fun q q0 q1 => by rw [(F2 q q0 q1).1, F6]; have := b q q0 q1; omega)
          have pe : p = oq D ask bh i := by
            rw [g2]; unfold oq
            rw [insP_cg _ (fun q q0 q1 => ?_)]
            rw [(F2 q q0 (by omega)).1, (F2 q q0 (by omega)).2]
            exact ahd_cg (fun y j q => F3 y j (by omega) (by omega) (by omega) (by omega)) _ _ _ _
          refine ⟨(G, (0, ask i), (0, wv D ask bh i), (0, p)), ?_, by rw [n1]; exact g5, fun q q0 q1 => ?_, fun y j y1 y2 y3 y4 => by show G y j = D y j; rw [g7 y j y2 y3 (by omega)]; exact F3 y j y1 y2 y3 y4⟩
          · show qE 179 8 [(3, 106), (0, kind), (0, limit), (0, bh), (0, i), v5, v6, v7] [] (mk E) = qE 179 8 [(3, 106), (0, kind), (0, limit), (0, bh), (0, i + 1), (0, ask i), (0, wv D ask bh i), (0, p)] [] (mk G)
            rw [st _ F f1, e_179_25, if_neg c, s160]
            simp only [Option.bind_some, psh_0]
            rw [e_179_39, F30]
            exact g1
          · show G 125 q = oo D ask bh (i + 1) q ∧ G 126 q = ow D ask bh (i + 1) q
            rw [n1] at q1
            have := g6 q q0 (by omega)
            rw [this.1, this.2, n2, n3, pe]
            exact ⟨insI_cg (z := oz D ask bh i) (by omega) (by omega) q0 (by omega) (fun r r0 r1 => (F2 r r0 r1).1), insI_cg (z := oz D ask bh i) (by omega) (by omega) q0 (by omega) (fun r r0 r1 => (F2 r r0 r1).2)⟩)
    (s0 := (mU D 106 30 0, (9, 0), (9, 0), (9, 0))) ⟨(mU_s : mU D 106 30 0 106 30 = 0), fun q q0 q1 => by have : oz D ask bh 0 = 0 := rfl; omega, fun y j y1 y2 y3 y4 => mU_other (by omega)⟩
  replace h1 : E 106 30 = oz D ask bh (D 106 6) := h1
  replace h2 : ∀ q, 0 ≤ q → q < oz D ask bh (D 106 6) → E 125 q = oo D ask bh (D 106 6) q ∧ E 126 q = ow D ask bh (D 106 6) q := h2
  replace h3 : ∀ y j, y ≠ 123 → y ≠ 125 → y ≠ 126 → ¬ (y = 106 ∧ (j = 25 ∨ j = 30)) → E y j = D y j := h3
  refine ⟨E, ?_, h1, fun q q0 q1 => (h2 q q0 q1).1, h3⟩
  rw [r_179]
  refine e.trans ?_
  show qE 179 8 [(3, 106), (0, kind), (0, limit), (0, bh), (0, D 106 6), v5, v6, v7] [] (mk E) = _
  rw [e_179_8, h3 106 6 (by decide) (by decide) (by decide) (by omega), if_neg (by omega)]
