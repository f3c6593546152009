/-! the least spent of a text -/
theorem sn_ex {D : Mem} (hR : rOK D) {w : Int} (bh : Int) (w0 : 0 ≤ w) (w1 : w < D 106 6) : ∃ t, isSN D bh w (D 106 6) t := by
  have lw := (hR.2.1 w w0 w1).1
  have main : ∀ i, 0 ≤ i → i ≤ D 106 6 → ∃ t, isSN D bh w i t := by
    refine i_up (P := fun i => i ≤ D 106 6 → ∃ t, isSN D bh w i t) (fun _ => ⟨0, Int.le_refl 0, fun v v0 v1 => by omega, Or.inl rfl⟩) (fun i i0 ih hi => ?_)
    obtain ⟨t, T0, T1, T2⟩ := ih (by omega)
    by_cases c : D 112 i = 1 ∧ aw D bh i w
    · obtain ⟨s, hs⟩ := cs_ex (gk D i) (gk D w) (m := D 109 i) (n := D 109 w) (by have := (hR.2.1 i i0 (by omega)).1; omega) (by omega)
      by_cases l : t < s
      · refine ⟨s, by omega, fun v v0 v1 hv ha s' hs' => ?_, Or.inr ⟨i, i0, by omega, c.1, c.2, hs⟩⟩
        by_cases e : v = i
        · rw [e] at hs'; have := cs_one hs' hs; omega
        · have := T1 v v0 (by omega) hv ha s' hs'; omega
      · refine ⟨t, T0, fun v v0 v1 hv ha s' hs' => ?_, ?_⟩
        · by_cases e : v = i
          · rw [e] at hs'; have := cs_one hs' hs; omega
          · exact T1 v v0 (by omega) hv ha s' hs'
        · rcases T2 with q | ⟨v, v0, v1, q⟩
          · exact Or.inl q
          · exact Or.inr ⟨v, v0, by omega, q⟩
    · refine ⟨t, T0, fun v v0 v1 hv ha s' hs' => ?_, ?_⟩
      · by_cases e : v = i
        · rw [e] at hv ha; exact absurd ⟨hv, ha⟩ c
        · exact T1 v v0 (by omega) hv ha s' hs'
      · rcases T2 with q | ⟨v, v0, v1, q⟩
        · exact Or.inl q
        · exact Or.inr ⟨v, v0, by omega, q⟩
  exact main _ hR.1.1 (Int.le_refl _)
def bhT (D : Mem) (i : Int) : Int := if i = 0 then -1 else D 117 (i - 1)
noncomputable def snE (D : Mem) (bh w : Int) : Int := @Classical.epsilon Int ⟨0⟩ (fun t => isSN D bh w (D 106 6) t)
theorem snE_ok {D : Mem} {bh w t : Int} (h : isSN D bh w (D 106 6) t) : snE D bh w = t := sn_one (@Classical.epsilon_spec Int (fun t => isSN D bh w (D 106 6) t) ⟨t, h⟩) h
noncomputable def pc (D : Mem) (i kind : Int) : Int := prs D (bhT D i) (D 117 i) (snE D (bhT D i) (D 117 i)) kind
def mnR (g : Int → Int) : Nat → Int × Int
  | 0 => (2147483647, -1)
  | n + 1 => if g n < (mnR g n).1 then (g n, (n : Int)) else mnR g n
theorem mnR_cg {f g : Int → Int} : ∀ n : Nat, (∀ i : Int, 0 ≤ i → i < n → f i = g i) → mnR f n = mnR g n
  | 0, _ => rfl
  | n + 1, h => by rw [mnR, mnR, mnR_cg n (fun i i0 i1 => h i i0 (by omega)), h n (by omega) (by omega)]
theorem mnR_spec {g : Int → Int} (hg : ∀ i : Int, g i < 2147483647) : ∀ n : Nat, (∀ i : Int, 0 ≤ i → i < n → (mnR g n).1 ≤ g i) ∧ (0 < n → 0 ≤ (mnR g n).2 ∧ (mnR g n).2 < n ∧ (mnR g n).1 = g (mnR g n).2 ∧ ∀ i : Int, 0 ≤ i → i < (mnR g n).2 → (mnR g n).1 < g i)
  | 0 => ⟨fun i a b => by omega, fun h => by omega⟩
  | n + 1 => by
    obtain ⟨a, b⟩ := mnR_spec hg n
    rw [mnR]
    by_cases c : g n < (mnR g n).1
    · rw [if_pos c]
      refine ⟨fun i i0 i1 => ?_, fun _ => ⟨by show (0 : Int) ≤ n; omega, by show (n : Int) < (n + 1 : Nat); omega, rfl, fun i i0 i1 => ?_⟩⟩
      · show g n ≤ g i
        by_cases e : i = n
        · rw [e]; exact Int.le_refl _
        · have := a i i0 (by omega); omega
      · show g n < g i
        have i1' : i < (n : Int) := i1
        have := a i i0 i1'; omega
    · rw [if_neg c]
      have n0 : 0 < n := by
        rcases Nat.eq_zero_or_pos n with z | z
        · subst z
          have := hg (0 : Nat)
          exact absurd this c
        · exact z
      obtain ⟨b1, b2, b3, b4⟩ := b n0
      refine ⟨fun i i0 i1 => ?_, fun _ => ⟨b1, by omega, b3, b4⟩⟩
      by_cases e : i = n
      · rw [e]; omega
      · exact a i i0 (by omega)
noncomputable def fd (D : Mem) : Nat → Int → Int
  | 0 => fun _ => 0
  | n + 1 => fun a => (mnR (fun x => pc D (D 106 16 - ((n : Int) + 1)) x + (if x = a then 0 else 1) + fd D n x) 4).1
/-- the least spent from word i on, behind kind a -/
noncomputable def FF (D : Mem) (i a : Int) : Int := fd D (D 106 16 - i).toNat a
noncomputable def gF (D : Mem) (i a x : Int) : Int := pc D i x + (if x = a then 0 else 1) + FF D (i + 1) x
noncomputable def arg (D : Mem) (i a : Int) : Int := (mnR (gF D i a) 4).2
theorem FF_end (D : Mem) (a : Int) : FF D (D 106 16) a = 0 := by unfold FF; rw [show (D 106 16 - D 106 16).toNat = 0 by omega]; rfl
theorem FF_rec {D : Mem} {i : Int} (i1 : i < D 106 16) (a : Int) : FF D i a = (mnR (gF D i a) 4).1 := by
  unfold FF
  rw [show (D 106 16 - i).toNat = (D 106 16 - (i + 1)).toNat + 1 by omega, fd]
  have : D 106 16 - (((D 106 16 - (i + 1)).toNat : Int) + 1) = i := by omega
  rw [this]
  rfl
/-- every word of the text is there -/
def stands (D : Mem) : Prop := ∀ i, 0 ≤ i → i < D 106 16 → thr D (D 117 i)
theorem pc_bd {D : Mem} {k : Int} (hR : Rel D k) (hk : k ≤ 1000) (hs : stands D) {i : Int} (i0 : 0 ≤ i) (i1 : i < D 106 16) (x : Int) : 0 ≤ pc D i x ∧ pc D i x ≤ 300 := by
  have th := hs i i0 i1
  have rD := rOK_of hR hk
  have hn := rD.1
  obtain ⟨t, ht⟩ := sn_ex rD (bhT D i) th.1 th.2.1
  have e := snE_ok ht
  have lw := (rD.2.1 _ th.1 th.2.1).1
  have cb : ∀ kind, 0 ≤ cnt D (bhT D i) kind (D 117 i) ∧ cnt D (bhT D i) kind (D 117 i) ≤ D 106 6 := fun kind => S_01 hn.1 (fun j _ _ => cntF_01 D (bhT D i) kind (D 117 i) j)
  have c1 := cb 1
  have cx := cb x
  have tp := tapW_bd hR.2.1 th.1 th.2.1
  have kb := (kf_ok rD th.1 th.2.1 x).2
  have T0 := ht.1
  unfold pc
  rw [e]
  unfold prs p3
  repeat' split
  all_goals omega
theorem FF_bd {D : Mem} {k : Int} (hR : Rel D k) (hk : k ≤ 1000) (hs : stands D) : ∀ n : Nat, (n : Int) ≤ D 106 16 → ∀ a, 0 ≤ FF D (D 106 16 - n) a ∧ FF D (D 106 16 - n) a ≤ 301 * n
  | 0, _, a => by rw [show D 106 16 - ((0 : Nat) : Int) = D 106 16 by omega, FF_end]; omega
  | n + 1, h, a => by
    have ih := FF_bd hR hk hs n (by omega)
    have hrec := FF_rec (D := D) (i := D 106 16 - ((n + 1 : Nat) : Int)) (by omega) a
    have gb : ∀ x, 0 ≤ gF D (D 106 16 - ((n + 1 : Nat) : Int)) a x ∧ gF D (D 106 16 - ((n + 1 : Nat) : Int)) a x ≤ 301 * (n + 1 : Nat) := fun x => by
      have p := pc_bd hR hk hs (i := D 106 16 - ((n + 1 : Nat) : Int)) (by omega) (by omega) x
      have q := ih x
      unfold gF
      rw [show D 106 16 - ((n + 1 : Nat) : Int) + 1 = D 106 16 - (n : Int) by omega]
      split <;> omega
    have t16 := hR.2.2.2.1.2.2.1.2.2.1
    have sp := (mnR_spec (g := gF D (D 106 16 - ((n + 1 : Nat) : Int)) a) (fun x => by have := (gb x).2; omega) 4).2 (by decide)
    rw [hrec, sp.2.2.1]
    exact gb _
theorem FF_b {D : Mem} {k : Int} (hR : Rel D k) (hk : k ≤ 1000) (hs : stands D) {i : Int} (i0 : 0 ≤ i) (i1 : i ≤ D 106 16) (a : Int) : 0 ≤ FF D i a ∧ FF D i a ≤ 20000 := by
  have t16 := hR.2.2.2.1.2.2.1.2.2.1
  have := FF_bd hR hk hs (D 106 16 - i).toNat (by omega) a
  rw [show D 106 16 - ((D 106 16 - i).toNat : Int) = i by omega] at this
  omega
theorem gF_b {D : Mem} {k : Int} (hR : Rel D k) (hk : k ≤ 1000) (hs : stands D) {i : Int} (i0 : 0 ≤ i) (i1 : i < D 106 16) (a x : Int) : 0 ≤ gF D i a x ∧ gF D i a x < 2147483647 := by
  have p := pc_bd hR hk hs i0 i1 x
  have q := FF_b hR hk hs (i := i + 1) (by omega) (by omega) x
  unfold gF
  split <;> omega
theorem arg_b {D : Mem} {k : Int} (hR : Rel D k) (hk : k ≤ 1000) (hs : stands D) {i : Int} (i0 : 0 ≤ i) (i1 : i < D 106 16) (a : Int) : 0 ≤ arg D i a ∧ arg D i a < 4 := by
  have := (mnR_spec (fun x => (gF_b hR hk hs i0 i1 a x).2) 4).2 (by decide)
  exact ⟨this.1, this.2.1⟩
/-- choose -/
theorem sp_51 {D : Mem} {i a : Int} {g : Int → Int} (i0 : 0 ≤ i) (i1 : i < 60) (a0 : 0 ≤ a) (a1 : a < 4) (hg : ∀ x, 0 ≤ x → x < 4 → D 41 x + (if x = a then 0 else 1) + D 43 x = g x ∧ (0 ≤ D 41 x ∧ D 41 x ≤ 1000000) ∧ (0 ≤ D 43 x ∧ D 43 x ≤ 1000000)) : ∃ E, qR 51 [(3, 39), (0, i), (0, a)] (mk D) = some ((9, 0), mk E) ∧ E 42 a = (mnR g 4).1 ∧ E 40 (4 * i + a) = (mnR g 4).2 ∧ ∀ y j, ¬ (y = 40 ∧ j = 4 * i + a) → ¬ (y = 42 ∧ j = a) → E y j = D y j := by
  have e1 : w32 (i * 4) = 4 * i := by rw [w32_id (by omega) (by omega)]; omega
  have e2 : w32 (4 * i + a) = 4 * i + a := w32_id (by omega) (by omega)
  obtain ⟨⟨E, v6⟩, e, h1, h2⟩ := it_inv (fun x (s : Mem × PV) => qE 51 36 [(3, 39), (0, i), (0, a), (0, 4 * i + a), (0, (mnR g x.toNat).1), (0, x), s.2] [] (mk s.1)) (fun x s => (0 < x → s.1 40 (4 * i + a) = (mnR g x.toNat).2) ∧ ∀ y j, ¬ (y = 40 ∧ j = 4 * i + a) → s.1 y j = D y j) (a := 0) (n := 4) (by decide)
    (fun x s x0 x1 ⟨h1, h2⟩ => by
      obtain ⟨E, v6⟩ := s
      replace h1 : 0 < x → E 40 (4 * i + a) = (mnR g x.toNat).2 := h1
      replace h2 : ∀ y j, ¬ (y = 40 ∧ j = 4 * i + a) → E y j = D y j := h2
      obtain ⟨g1, g2, g3⟩ := hg x x0 x1
      have f1 : w32 (x + 1) = x + 1 := w32_id (by omega) (by omega)
      have nx : mnR g (x + 1).toNat = if g x < (mnR g x.toNat).1 then (g x, x) else mnR g x.toNat := by
        rw [show (x + 1).toNat = x.toNat + 1 by omega, mnR, show ((x.toNat : Nat) : Int) = x by omega]
      have st : qE 51 36 [(3, 39), (0, i), (0, a), (0, 4 * i + a), (0, (mnR g x.toNat).1), (0, x), v6] [] (mk E) = if g x < (mnR g x.toNat).1 then qE 51 36 [(3, 39), (0, i), (0, a), (0, 4 * i + a), (0, g x), (0, x + 1), (0, g x)] [] (mk (mU E 40 (4 * i + a) x)) else qE 51 36 [(3, 39), (0, i), (0, a), (0, 4 * i + a), (0, (mnR g x.toNat).1), (0, x + 1), (0, g x)] [] (mk E) := by
        rw [e_51_36, if_pos x1, if_pos (by omega), h2 41 x (by omega)]
        by_cases c : x = a
        · rw [if_pos c] at g1
          rw [if_pos c, e_51_60, if_pos (by omega), h2 43 x (by omega), w32_id (x := D 41 x + 0) (by omega) (by omega), w32_id (x := D 41 x + 0 + D 43 x) (by omega) (by omega), g1, if_pos (show 0 ≤ 4 * i + a ∧ 4 * i + a < 240 by omega), f1]
        · rw [if_neg c] at g1
          rw [if_neg c, e_51_60, if_pos (by omega), h2 43 x (by omega), w32_id (x := D 41 x + 1) (by omega) (by omega), w32_id (x := D 41 x + 1 + D 43 x) (by omega) (by omega), g1, if_pos (show 0 ≤ 4 * i + a ∧ 4 * i + a < 240 by omega), f1]
      by_cases c : g x < (mnR g x.toNat).1
      · rw [if_pos c] at nx st
        refine ⟨(mU E 40 (4 * i + a) x, (0, g x)), ?_, fun _ => ?_, fun y j hy => ?_⟩
        · show qE 51 36 [(3, 39), (0, i), (0, a), (0, 4 * i + a), (0, (mnR g x.toNat).1), (0, x), v6] [] (mk E) = qE 51 36 [(3, 39), (0, i), (0, a), (0, 4 * i + a), (0, (mnR g (x + 1).toNat).1), (0, x + 1), (0, g x)] [] (mk (mU E 40 (4 * i + a) x))
          rw [st, nx]
        · show mU E 40 (4 * i + a) x 40 (4 * i + a) = (mnR g (x + 1).toNat).2
          rw [mU_s, nx]
        · show mU E 40 (4 * i + a) x y j = D y j
          rw [mU_other hy]; exact h2 y j hy
      · rw [if_neg c] at nx st
        refine ⟨(E, (0, g x)), ?_, fun _ => ?_, h2⟩
        · show qE 51 36 [(3, 39), (0, i), (0, a), (0, 4 * i + a), (0, (mnR g x.toNat).1), (0, x), v6] [] (mk E) = qE 51 36 [(3, 39), (0, i), (0, a), (0, 4 * i + a), (0, (mnR g (x + 1).toNat).1), (0, x + 1), (0, g x)] [] (mk E)
          rw [st, nx]
        · show E 40 (4 * i + a) = (mnR g (x + 1).toNat).2
          rw [nx]
          by_cases z : x = 0
          · exfalso
            subst z
            have : (mnR g (0 : Int).toNat).1 = 2147483647 := rfl
            have := hg 0 (by decide) (by decide)
            split at this <;> omega
          · exact h1 (by omega))
    (s0 := (D, (9, 0))) ⟨fun h => by omega, fun _ _ _ => rfl⟩
  replace h1 : 0 < (4 : Int) → E 40 (4 * i + a) = (mnR g 4).2 := h1
  replace h2 : ∀ y j, ¬ (y = 40 ∧ j = 4 * i + a) → E y j = D y j := h2
  refine ⟨mU E 42 a (mnR g 4).1, ?_, mU_s, ?_, fun y j q1 q2 => ?_⟩
  · rw [r_51, e1, e2, if_neg (by omega), if_pos (by omega), if_neg (by omega), if_pos a1]
    refine e.trans ?_
    show qE 51 36 [(3, 39), (0, i), (0, a), (0, 4 * i + a), (0, (mnR g 4).1), (0, 4), v6] [] (mk E) = _
    rw [e_51_36, if_neg (by decide), if_pos ⟨a0, a1⟩]
  · rw [mU_r (by decide)]; exact h1 (by decide)
  · rw [mU_other q2]; exact h2 y j q1
def cpE (D : Mem) : Mem := fun b j => if b = 43 ∧ 0 ≤ j ∧ j < 4 then D 42 j else D b j
theorem cpE_mk (D : Mem) : mCpy (mk D) 42 0 43 0 4 = mk (cpE D) := by
  funext b j
  unfold mCpy
  by_cases c : b = 43
  · subst c
    rw [mk_c43, mk_c43, show (0 : Int) + (j - 0) = j by omega, mk_c42]
    unfold cpE
    by_cases d : 0 ≤ j ∧ j < 4
    · rw [if_pos ⟨rfl, by omega⟩, if_pos ⟨rfl, d⟩]
    · rw [if_neg (fun q => d (by omega)), if_neg (fun q => d q.2)]
  · rw [if_neg (fun q => c q.1)]
    exact (mk_cell j (fun j => by unfold cpE; rw [if_neg (fun q => c q.1)]) (by unfold cpE; rw [if_neg (by omega)])).symm
theorem cpE_o (D : Mem) {y : Int} (h : y ≠ 43) (j : Int) : cpE D y j = D y j := by unfold cpE; rw [if_neg (fun q => h q.1)]
theorem cpE_43 (D : Mem) {j : Int} (h0 : 0 ≤ j) (h1 : j < 4) : cpE D 43 j = D 42 j := by unfold cpE; rw [if_pos ⟨rfl, h0, h1⟩]
/-- fill -/
theorem sp_50 {D : Mem} {k : Int} (hR : Rel D k) (hk : k ≤ 1000) (hs : stands D) : ∃ E, qR 50 [(3, 39), (3, 102), (3, 31)] (mk D) = some ((9, 0), mk E) ∧ (∀ a, 0 ≤ a → a < 4 → E 42 a = FF D 0 a) ∧ (∀ j a, 0 ≤ j → j < D 106 16 → 0 ≤ a → a < 4 → E 40 (4 * j + a) = arg D j a) ∧ Sim D E := by
  obtain ⟨E0, q1, q2, q3⟩ := sp_69 hR hk
  obtain ⟨E1, r1, r2, r3⟩ := sp_218 (a := 42) (n := 4) (v := 0) E0 (by decide) mk_k42 mk_l42 mu_42 (by decide) (by decide)
  have hSc := hR.2.2.2.1.2.2.1
  obtain ⟨c1, c2, c3, c4, c5⟩ := hSc
  have hn := hR.2.1.1
  -- one memory of the loop
  have sm : ∀ E : Mem, (∀ y j, ¬ (32 ≤ y ∧ y ≤ 35) → ¬ (40 ≤ y ∧ y ≤ 43) → E y j = D y j) → Sim D E := fun E hE y j hs => hE y j (by unfold scr at hs; omega) (by unfold scr at hs; omega)
  obtain ⟨⟨E, v4⟩, e, h1, h2, h3, h4⟩ := it_invd (fun i (s : Mem × PV) => qE 50 19 [(3, 39), (3, 102), (3, 31), (0, i), s.2] [] (mk s.1)) (fun i s => (∀ a, 0 ≤ a → a < 4 → s.1 42 a = FF D (i + 1) a) ∧ (∀ j a, i < j → j < D 106 16 → 0 ≤ a → a < 4 → s.1 40 (4 * j + a) = arg D j a) ∧ (∀ w, thr D w → s.1 32 w = P (kf D w 1) (kn D w 1) ∧ s.1 33 w = P (kf D w 2) (kn D w 2)) ∧ ∀ y j, ¬ (32 ≤ y ∧ y ≤ 35) → ¬ (40 ≤ y ∧ y ≤ 43) → s.1 y j = D y j) (a := -1) (n := D 106 16 - 1) (by omega)
    (fun i s i0 i1 ⟨h1, h2, h3, h4⟩ => by
      obtain ⟨E, v4⟩ := s
      replace h1 : ∀ a, 0 ≤ a → a < 4 → E 42 a = FF D (i + 1) a := h1
      replace h2 : ∀ j a, i < j → j < D 106 16 → 0 ≤ a → a < 4 → E 40 (4 * j + a) = arg D j a := h2
      replace h3 : ∀ w, thr D w → E 32 w = P (kf D w 1) (kn D w 1) ∧ E 33 w = P (kf D w 2) (kn D w 2) := h3
      replace h4 : ∀ y j, ¬ (32 ≤ y ∧ y ≤ 35) → ¬ (40 ≤ y ∧ y ≤ 43) → E y j = D y j := h4
      have sE := sm E h4
      have hRE := Rel_sim hR sE
      have th := hs i (by omega) (by omega)
      have bhb : bhT D i < 80 := by
        unfold bhT
        by_cases z : i = 0
        · rw [if_pos z]; decide
        · rw [if_neg z]; have := c5 (i - 1) (by omega) (by omega); omega
      -- the text, by E and later memories
      have rowAtE : ∀ F : Mem, (∀ y j, ¬ (32 ≤ y ∧ y ≤ 35) → ¬ (40 ≤ y ∧ y ≤ 43) → F y j = D y j) → ∀ j, qR 58 [(3, 102), (0, j)] (mk F) = some ((0, if 0 ≤ j ∧ j < D 106 16 then D 117 j else -1), mk F) := fun F hF j => by
        have f1 : F 102 1 = D 106 16 := by rw [hF _ _ (by omega) (by omega)]; exact c1
        rw [row_at (isRow102 (D := F) (by omega) (by omega))]
        unfold rowAt
        rw [show mk F 102 1 = D 106 16 from f1]
        by_cases c : 0 ≤ j ∧ j < D 106 16
        · rw [if_pos c, if_pos c, show mk F (mk F 102 0) j = F 103 j from rfl, hF _ _ (by omega) (by omega), c4]
        · rw [if_neg c, if_neg c]
      have bh : (if 0 ≤ i - 1 ∧ i - 1 < D 106 16 then D 117 (i - 1) else -1) = bhT D i := by
        unfold bhT
        by_cases z : i = 0
        · rw [if_pos z, if_neg (by omega)]
        · rw [if_neg z, if_pos (by omega)]
      obtain ⟨F, f1, f2, f3⟩ := sp_70 hRE (x := bhT D i) bhb
      have h4F : ∀ y j, ¬ (32 ≤ y ∧ y ≤ 35) → ¬ (40 ≤ y ∧ y ≤ 43) → F y j = D y j := fun y j p1 p2 => by rw [f3 y j (by omega) (by omega)]; exact h4 y j p1 p2
      have sF := sm F h4F
      have hRF := Rel_sim hR sF
      have sEF : Sim E F := fun y j hs => f3 y j (by unfold scr at hs; omega) (by unfold scr at hs; omega)
      have cF : ∀ y j, supC y j → F y j = D y j := fun y j q => h4F y j (by unfold supC at q; omega) (by unfold supC at q; omega)
      have thF : ∀ v, thr F v ↔ thr D v := fun v => thr_sim sF v
      have thE : ∀ v, thr E v ↔ thr D v := fun v => thr_sim sE v
      obtain ⟨G, t, g1, g2, g3, g4, g5, g6, g7⟩ := sp_78 (D := F) (w := D 117 i) (bh := bhT D i) (a := 41) hRF hk ((thF _).2 th) (fun v hv => by
          have k1 := kf_cg (D := D) (E := F) (fun y j q => h4F y j (by omega) (by omega)) v 1
          have k2 := kf_cg (D := D) (E := F) (fun y j q => h4F y j (by omega) (by omega)) v 2
          rw [k1.1, k1.2, k2.1, k2.2, f3 _ _ (by decide) (by decide), f3 _ _ (by decide) (by decide)]
          exact h3 v ((thF v).1 hv)) (fun v hv => by rw [f2 v ((thE v).2 ((thF v).1 hv)), rate_sim sEF]) (by decide) mk_k41 mk_l41 mu_41 mk_c41 (Or.inr rfl)
      have F6 : F 106 6 = D 106 6 := h4F _ _ (by omega) (by omega)
      have snD : isSN D (bhT D i) (D 117 i) (D 106 6) t := by rw [F6] at g2; exact isSN_cg (fun y j q => (cF y j q).symm) g2
      have pcv : ∀ x, 0 ≤ x → x < 4 → G 41 x = pc D i x := fun x x0 x1 => by
        unfold pc
        rw [snE_ok snD, ← prs_cg cF]
        unfold prs
        by_cases z0 : x = 0
        · rw [if_pos z0, z0]; exact g3
        · by_cases z3 : x = 3
          · rw [if_neg z0, if_pos z3, z3]; exact g6
          · by_cases z1 : x = 1
            · rw [if_neg z0, if_neg z3, z1, (k1g F (D 117 i)).2]; exact g4
            · rw [if_neg z0, if_neg z3, show x = 2 by omega]; exact g5
      have K43 : ∀ x, 0 ≤ x → x < 4 → cpE G 43 x = FF D (i + 1) x := fun x x0 x1 => by rw [cpE_43 G x0 x1, g7 _ _ (by decide), f3 _ _ (by decide) (by decide)]; exact h1 x x0 x1
      have K41 : ∀ x, 0 ≤ x → x < 4 → cpE G 41 x = pc D i x := fun x x0 x1 => by rw [cpE_o G (by decide)]; exact pcv x x0 x1
      -- the four choices
      obtain ⟨H, hh, k1, k2, k3⟩ := it_inv (fun a (M : Mem) => qE 50 64 [(3, 39), (3, 102), (3, 31), (0, i), (0, a)] [] (mk M)) (fun a M => (∀ x, 0 ≤ x → x < a → M 42 x = FF D i x) ∧ (∀ x, 0 ≤ x → x < a → M 40 (4 * i + x) = arg D i x) ∧ ∀ y j, ¬ (y = 40 ∧ 4 * i ≤ j ∧ j < 4 * i + a) → ¬ (y = 42 ∧ j < a) → M y j = cpE G y j) (a := 0) (n := 4) (by decide)
        (fun a M a0 a1 ⟨k1, k2, k3⟩ => by
          have pb := fun x => pc_bd hR hk hs (i := i) (by omega) (by omega) x
          have fb := fun x => FF_b hR hk hs (i := i + 1) (by omega) (by omega) x
          obtain ⟨N, n1, n2, n3, n4⟩ := sp_51 (D := M) (i := i) (a := a) (g := gF D i a) (by omega) (by omega) a0 a1 (fun x x0 x1 => by
            rw [k3 41 x (by omega) (by omega), k3 43 x (by omega) (by omega), K41 x x0 x1, K43 x x0 x1]
            have p := pb x
            have q := fb x
            exact ⟨rfl, by omega, by omega⟩)
          refine ⟨N, ?_, fun x x0 x1 => ?_, fun x x0 x1 => ?_, fun y j p1 p2 => ?_⟩
          · show qE 50 64 [(3, 39), (3, 102), (3, 31), (0, i), (0, a)] [] (mk M) = qE 50 64 [(3, 39), (3, 102), (3, 31), (0, i), (0, a + 1)] [] (mk N)
            rw [e_50_64, if_pos a1, n1]
            simp only [Option.bind_some, psh_9]
            rw [e_50_77, w32_id (by omega) (by omega)]
          · by_cases z : x = a
            · rw [z, n2, FF_rec (by omega)]
            · rw [n4 _ _ (by omega) (by omega)]; exact k1 x x0 (by omega)
          · by_cases z : x = a
            · rw [z, n3]; rfl
            · rw [n4 _ _ (by omega) (by omega)]; exact k2 x x0 (by omega)
          · rw [n4 y j (by omega) (by omega)]; exact k3 y j (by omega) (by omega))
        (s0 := cpE G) ⟨fun x x0 x1 => by omega, fun x x0 x1 => by omega, fun _ _ _ _ => rfl⟩
      refine ⟨(H, (0, 4)), ?_, fun a a0 a1 => ?_, fun j a j0 j1 a0 a1 => ?_, fun w hw => ?_, fun y j p1 p2 => ?_⟩
      · show qE 50 19 [(3, 39), (3, 102), (3, 31), (0, i), v4] [] (mk E) = qE 50 19 [(3, 39), (3, 102), (3, 31), (0, i - 1), (0, 4)] [] (mk H)
        rw [e_50_19, if_neg (by omega), w32_id (x := i - 1) (by omega) (by omega), rowAtE E h4, bh]
        simp only [Option.bind_some, psh_0]
        rw [e_50_31, f1]
        simp only [Option.bind_some, psh_9]
        rw [e_50_34, rowAtE F h4F, if_pos (by omega)]
        simp only [Option.bind_some, psh_0]
        rw [e_50_40, g1]
        simp only [Option.bind_some, psh_9]
        rw [e_50_47, cpE_mk, e_50_61]
        refine hh.trans ?_
        show qE 50 64 [(3, 39), (3, 102), (3, 31), (0, i), (0, 4)] [] (mk H) = _
        rw [e_50_64, if_neg (by decide), show i + -1 = i - 1 by omega, w32_id (by omega) (by omega)]
      · show H 42 a = FF D (i - 1 + 1) a
        rw [show i - 1 + 1 = i by omega]; exact k1 a a0 a1
      · show H 40 (4 * j + a) = arg D j a
        by_cases z : j = i
        · rw [z]; exact k2 a a0 a1
        · rw [k3 _ _ (by omega) (by omega), cpE_o G (by decide), g7 _ _ (by decide), f3 _ _ (by decide) (by decide)]
          exact h2 j a (by omega) j1 a0 a1
      · show H 32 w = _ ∧ H 33 w = _
        rw [k3 _ _ (by omega) (by omega), k3 _ _ (by omega) (by omega), cpE_o G (by decide), cpE_o G (by decide), g7 _ _ (by decide), g7 _ _ (by decide), f3 _ _ (by decide) (by decide), f3 _ _ (by decide) (by decide)]
        exact h3 w hw
      · show H y j = D y j
        rw [k3 y j (by omega) (by omega), cpE_o G (by omega), g7 y j (by omega)]; exact h4F y j p1 p2)
    (s0 := (E1, (9, 0))) ⟨fun a a0 a1 => by
      show E1 42 a = FF D (D 106 16 - 1 + 1) a
      rw [show D 106 16 - 1 + 1 = D 106 16 by omega, FF_end]; exact r2 a a0 a1, fun j a j0 j1 => by omega, fun w hw => by
      show E1 32 w = _ ∧ E1 33 w = _
      rw [r3 _ _ (by decide), r3 _ _ (by decide)]; exact q2 w hw, fun y j p1 p2 => by
      show E1 y j = D y j
      rw [r3 y j (by omega)]; exact q3 y j (by omega) (by omega)⟩
  replace h1 : ∀ a, 0 ≤ a → a < 4 → E 42 a = FF D (-1 + 1) a := h1
  replace h2 : ∀ j a, -1 < j → j < D 106 16 → 0 ≤ a → a < 4 → E 40 (4 * j + a) = arg D j a := h2
  replace h4 : ∀ y j, ¬ (32 ≤ y ∧ y ≤ 35) → ¬ (40 ≤ y ∧ y ≤ 43) → E y j = D y j := h4
  refine ⟨E, ?_, fun a a0 a1 => h1 a a0 a1, fun j a j0 j1 a0 a1 => h2 j a (by omega) j1 a0 a1, sm E h4⟩
  have E1s : E1 102 1 = D 106 16 := by rw [r3 _ _ (by decide), q3 _ _ (by decide) (by decide)]; exact c1
  rw [r_50, q1]
  simp only [Option.bind_some, psh_9]
  rw [e_50_4, r1]
  simp only [Option.bind_some, psh_9]
  rw [e_50_12, row_size (isRow102 (D := E1) (by omega) (by omega)), show mk E1 102 1 = D 106 16 from E1s]
  simp only [Option.bind_some, psh_0]
  rw [e_50_16, w32_id (by omega) (by omega)]
  refine e.trans ?_
  show qE 50 19 [(3, 39), (3, 102), (3, 31), (0, -1), v4] [] (mk E) = _
  rw [e_50_19, if_pos (by decide)]
