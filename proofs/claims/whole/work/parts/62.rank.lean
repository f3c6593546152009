/-! the order of words is a strict total one; the place of an offer -/
theorem wlt_tr {D : Mem} {v u x : Int} (h1 : wlt D v u) (h2 : wlt D u x) : wlt D v x := by
  obtain ⟨k, k0, k1, k2, k3, k4⟩ := h1
  obtain ⟨l, l0, l1, l2, l3, l4⟩ := h2
  by_cases c : k < l
  · refine ⟨k, k0, k1, by omega, fun j j0 j1 => by rw [k3 j j0 j1, l3 j j0 (by omega)], ?_⟩
    rcases k4 with q | q
    · exact Or.inl q
    · exact Or.inr (by rw [← l3 k k0 c]; exact q)
  · have l5 : wl D u l < wl D x l := by
      rcases l4 with q | q
      · omega
      · exact q
    by_cases d : k = l
    · subst d
      refine ⟨k, k0, k1, l2, fun j j0 j1 => by rw [k3 j j0 j1, l3 j j0 j1], ?_⟩
      rcases k4 with q | q
      · exact Or.inl q
      · exact Or.inr (by omega)
    · exact ⟨l, l0, by omega, l2, fun j j0 j1 => by rw [k3 j j0 (by omega), l3 j j0 j1], Or.inr (by rw [k3 l l0 (by omega)]; exact l5)⟩
theorem wlt_ir {D : Mem} {v : Int} (h : wlt D v v) : False := by
  obtain ⟨k, k0, k1, k2, k3, k4⟩ := h
  omega
theorem wlt_to {D : Mem} {v u : Int} (hv : 0 ≤ D 109 v) (hu : 0 ≤ D 109 u) (h : ¬ sameW D v u) : wlt D v u ∨ wlt D u v := by
  obtain ⟨s, s0, s1, s2, s3, s4⟩ := cs_ex (wl D v) (wl D u) hv hu
  by_cases c1 : s = D 109 v
  · by_cases c2 : s = D 109 u
    · exact absurd ⟨by omega, fun i i0 i1 => s3 i i0 (by omega)⟩ h
    · exact Or.inl ⟨s, s0, s1, by omega, s3, Or.inl c1⟩
  · by_cases c2 : s = D 109 u
    · exact Or.inr ⟨s, s0, s2, by omega, fun j j0 j1 => (s3 j j0 j1).symm, Or.inl c2⟩
    · have d : wl D v s ≠ wl D u s := by rcases s4 with q | q; omega; exact q
      by_cases l : wl D v s < wl D u s
      · exact Or.inl ⟨s, s0, s1, by omega, s3, Or.inr l⟩
      · exact Or.inr ⟨s, s0, s2, by omega, fun j j0 j1 => (s3 j j0 j1).symm, Or.inr (by omega)⟩
theorem ahd_tr {D : Mem} {v a u b x c : Int} (h1 : ahd D v a u b) (h2 : ahd D u b x c) : ahd D v a x c := by
  rcases h1 with h1 | h1 <;> rcases h2 with h2 | h2
  · exact Or.inl (by omega)
  · exact Or.inl (by omega)
  · exact Or.inl (by omega)
  · exact Or.inr ⟨by omega, wlt_tr h1.2 h2.2⟩
theorem ahd_ir {D : Mem} {v a : Int} (h : ahd D v a v a) : False := by
  rcases h with h | h
  · omega
  · exact wlt_ir h.2
/-- words that are there differ in their letters -/
def dst (D : Mem) : Prop := ∀ v w, thr D v → thr D w → v ≠ w → ¬ sameW D v w
theorem dst_of {D : Mem} {k : Int} (hW : RW D k) : dst D := fun v w hv hw ne => by
  by_cases c : v < w
  · exact hW.2.2.2.2 v w hv.1 c hw.2.1 hv.2.2 hw.2.2
  · intro s
    refine hW.2.2.2.2 w v hw.1 (by omega) hv.2.1 hw.2.2 hv.2.2 ⟨s.1.symm, fun i i0 i1 => (s.2 i i0 (by have := s.1; omega)).symm⟩
theorem ahd_to {D : Mem} {v a u b : Int} (hR : rOK D) (hd : dst D) (hv : thr D v) (hu : thr D u) (ne : v ≠ u) : ahd D v a u b ∨ ahd D u b v a := by
  by_cases c : a = b
  · have l1 := (hR.2.1 v hv.1 hv.2.1).1
    have l2 := (hR.2.1 u hu.1 hu.2.1).1
    rcases wlt_to (by omega) (by omega) (hd v u hv hu ne) with h | h
    · exact Or.inl (Or.inr ⟨c, h⟩)
    · exact Or.inr (Or.inr ⟨c.symm, h⟩)
  · by_cases l : b < a
    · exact Or.inl (Or.inl l)
    · exact Or.inr (Or.inl (by omega))
noncomputable def ind (p : Prop) : Int := @ite Int p (Classical.propDecidable p) 1 0
theorem ind_1 {p : Prop} (h : p) : ind p = 1 := if_pos h
theorem ind_0 {p : Prop} (h : ¬ p) : ind p = 0 := if_neg h
theorem ind_01 (p : Prop) : 0 ≤ ind p ∧ ind p ≤ 1 := by
  by_cases h : p
  · rw [ind_1 h]; decide
  · rw [ind_0 h]; decide
theorem ind_cg {p q : Prop} (h : p ↔ q) : ind p = ind q := by
  by_cases c : p
  · rw [ind_1 c, ind_1 (h.1 c)]
  · rw [ind_0 c, ind_0 (fun z => c (h.2 z))]
theorem S_ins (F o : Int → Int) {p v z : Int} (p0 : 0 ≤ p) (p1 : p ≤ z) : S (fun q => F (insI o p v q)) (z + 1) = S (fun q => F (o q)) z + F v := by
  have low : ∀ n, n ≤ p → S (fun q => F (insI o p v q)) n = S (fun q => F (o q)) n := fun n hn => S_congr fun j j0 j1 => by
    show F (insI o p v j) = F (o j)
    unfold insI; rw [if_pos (by omega)]
  have : ∀ n, p ≤ n → n ≤ z → S (fun q => F (insI o p v q)) (n + 1) = S (fun q => F (o q)) n + F v := i_up (P := fun n => n ≤ z → S (fun q => F (insI o p v q)) (n + 1) = S (fun q => F (o q)) n + F v)
    (fun _ => by
      rw [S_succ _ p0, low p (Int.le_refl _)]
      show _ + F (insI o p v p) = _
      unfold insI; rw [if_neg (by omega), if_pos rfl])
    (fun n n0 ih n1 => by
      rw [S_succ _ (by omega), ih (by omega), S_succ (fun q => F (o q)) (by omega)]
      have : insI o p v (n + 1) = o n := by unfold insI; rw [if_neg (by omega), if_neg (by omega), show n + 1 - 1 = n by omega]
      rw [this]; omega)
  exact this z p1 (Int.le_refl _)
/-- sums over the offers are sums over the words offered -/
theorem S_off {D : Mem} (ask : Int → Int) (bh : Int) {n : Int} (h01 : ∀ w, 0 ≤ w → w < n → D 112 w = 0 ∨ D 112 w = 1) (F : Int → Int) : ∀ i, 0 ≤ i → i ≤ n → S (fun q => F (oo D ask bh i q)) (oz D ask bh i) = S (fun v => if D 112 v = 1 ∧ 0 ≤ ask v then F v else 0) i := by
  have inv := off_inv ask bh h01
  refine i_up (P := fun i => i ≤ n → S (fun q => F (oo D ask bh i q)) (oz D ask bh i) = S (fun v => if D 112 v = 1 ∧ 0 ≤ ask v then F v else 0) i) (fun _ => rfl) (fun i i0 ih hi => ?_)
  have hb := oq_bd D ask bh i (inv i i0 (by omega)).1.1
  rw [S_succ _ i0, ← ih (by omega)]
  by_cases h : D 112 i = 1 ∧ 0 ≤ ask i
  · obtain ⟨e1, e2, e3⟩ := off_new (bh := bh) i0 h
    rw [e1, e2, S_ins F _ hb.1 hb.2, if_pos h]
  · obtain ⟨e1, e2, e3⟩ := off_old (bh := bh) i0 h
    rw [e1, e2, if_neg h, Int.add_zero]
/-- offers stand in their order -/
theorem off_sorted {D : Mem} (ask : Int → Int) (bh : Int) (hR : rOK D) (hd : dst D) : ∀ i, 0 ≤ i → i ≤ D 106 6 → ∀ q r, 0 ≤ q → q < r → r < oz D ask bh i → ahd D (oo D ask bh i q) (wv D ask bh (oo D ask bh i q)) (oo D ask bh i r) (wv D ask bh (oo D ask bh i r)) := by
  have h01 : ∀ w, 0 ≤ w → w < D 106 6 → D 112 w = 0 ∨ D 112 w = 1 := fun w w0 w1 => (hR.2.1 w w0 w1).2.2.2
  have inv := off_inv ask bh h01
  refine i_up (P := fun i => i ≤ D 106 6 → ∀ q r, 0 ≤ q → q < r → r < oz D ask bh i → ahd D (oo D ask bh i q) (wv D ask bh (oo D ask bh i q)) (oo D ask bh i r) (wv D ask bh (oo D ask bh i r))) (fun _ q r q0 qr r1 => by have : oz D ask bh 0 = 0 := rfl; omega) (fun i i0 ih hi => ?_)
  obtain ⟨a, b⟩ := inv i i0 (by omega)
  have ih' := ih (by omega)
  by_cases h : D 112 i = 1 ∧ 0 ≤ ask i
  · obtain ⟨e1, e2, e3⟩ := off_new (bh := bh) i0 h
    have hb := oq_bd D ask bh i a.1
    obtain ⟨z1, z2, z3⟩ := insP_spec (fun q => ahd D i (wv D ask bh i) (oo D ask bh i q) (ow D ask bh i q)) (oz D ask bh i).toNat
    have pq : oq D ask bh i = (insP (fun q => ahd D i (wv D ask bh i) (oo D ask bh i q) (ow D ask bh i q)) (oz D ask bh i).toNat : Int) := rfl
    have aft : ∀ q, oq D ask bh i ≤ q → q < oz D ask bh i → ahd D i (wv D ask bh i) (oo D ask bh i q) (wv D ask bh (oo D ask bh i q)) := fun q q0 q1 => by
      have := z2 q (by omega) (by omega)
      rw [(b q (by omega) q1).2.2.2.2] at this
      exact this
    have bef : ∀ q, 0 ≤ q → q < oq D ask bh i → ahd D (oo D ask bh i q) (wv D ask bh (oo D ask bh i q)) i (wv D ask bh i) := fun q q0 q1 => by
      have nlast : ¬ ahd D i (wv D ask bh i) (oo D ask bh i (oq D ask bh i - 1)) (wv D ask bh (oo D ask bh i (oq D ask bh i - 1))) := by
        rcases z3 with z | z
        · omega
        · rw [← pq] at z
          have bb := (b (oq D ask bh i - 1) (by omega) (by omega)).2.2.2.2
          intro w
          exact z (by show ahd D i (wv D ask bh i) (oo D ask bh i (oq D ask bh i - 1)) (ow D ask bh i (oq D ask bh i - 1)); rw [bb]; exact w)
      have bq := b q q0 (by omega)
      rcases ahd_to (a := wv D ask bh (oo D ask bh i q)) (b := wv D ask bh i) hR hd ⟨bq.1, by omega, bq.2.2.1⟩ ⟨i0, by omega, h.1⟩ (by omega) with w | w
      · exact w
      · exfalso
        by_cases c : q = oq D ask bh i - 1
        · rw [c] at w; exact nlast w
        · exact nlast (ahd_tr w (ih' q (oq D ask bh i - 1) q0 (by omega) (by omega)))
    rw [e1, e2]
    intro q r q0 qr r1
    unfold insI
    by_cases c1 : r < oq D ask bh i
    · rw [if_pos (show q < oq D ask bh i by omega), if_pos c1]; exact ih' q r q0 qr (by omega)
    · rw [if_neg c1]
      by_cases c2 : r = oq D ask bh i
      · rw [if_pos c2, if_pos (show q < oq D ask bh i by omega)]; exact bef q q0 (by omega)
      · rw [if_neg c2]
        by_cases c3 : q < oq D ask bh i
        · rw [if_pos c3]; exact ih' q (r - 1) q0 (by omega) (by omega)
        · rw [if_neg c3]
          by_cases c4 : q = oq D ask bh i
          · rw [if_pos c4]; exact aft (r - 1) (by omega) (by omega)
          · rw [if_neg c4]; exact ih' (q - 1) (r - 1) (by omega) (by omega) (by omega)
  · obtain ⟨e1, e2, e3⟩ := off_old (bh := bh) i0 h
    rw [e1, e2]; exact ih'
/-- how many offered words stand ahead of w -/
noncomputable def rk (D : Mem) (ask : Int → Int) (bh w : Int) : Int := S (fun v => if D 112 v = 1 ∧ 0 ≤ ask v then ind (ahd D v (wv D ask bh v) w (wv D ask bh w)) else 0) (D 106 6)
theorem off_place {D : Mem} (ask : Int → Int) (bh : Int) (hR : rOK D) (hd : dst D) {w : Int} (w0 : 0 ≤ w) (w1 : w < D 106 6) (h : D 112 w = 1 ∧ 0 ≤ ask w) : 0 ≤ rk D ask bh w ∧ rk D ask bh w < oz D ask bh (D 106 6) ∧ ∀ q, 0 ≤ q → q < oz D ask bh (D 106 6) → (oo D ask bh (D 106 6) q = w ↔ q = rk D ask bh w) := by
  have hn := hR.1
  have h01 : ∀ w, 0 ≤ w → w < D 106 6 → D 112 w = 0 ∨ D 112 w = 1 := fun w w0 w1 => (hR.2.1 w w0 w1).2.2.2
  obtain ⟨a, b⟩ := off_inv ask bh h01 (D 106 6) hn.1 (Int.le_refl _)
  have srt := off_sorted ask bh hR hd (D 106 6) hn.1 (Int.le_refl _)
  have so := fun F => S_off ask bh h01 F (D 106 6) hn.1 (Int.le_refl _)
  have at' : ∀ q, 0 ≤ q → q < oz D ask bh (D 106 6) → oo D ask bh (D 106 6) q = w → q = rk D ask bh w := fun q q0 q1 e => by
    have h1 := so (fun v => ind (ahd D v (wv D ask bh v) w (wv D ask bh w)))
    have h2 : S (fun r => ind (ahd D (oo D ask bh (D 106 6) r) (wv D ask bh (oo D ask bh (D 106 6) r)) w (wv D ask bh w))) (oz D ask bh (D 106 6)) = q := by
      have : ∀ n, q ≤ n → n ≤ oz D ask bh (D 106 6) → S (fun r => ind (ahd D (oo D ask bh (D 106 6) r) (wv D ask bh (oo D ask bh (D 106 6) r)) w (wv D ask bh w))) n = q := i_up (P := fun n => n ≤ oz D ask bh (D 106 6) → S (fun r => ind (ahd D (oo D ask bh (D 106 6) r) (wv D ask bh (oo D ask bh (D 106 6) r)) w (wv D ask bh w))) n = q)
        (fun _ => by
          have := S_bd (f := fun r => ind (ahd D (oo D ask bh (D 106 6) r) (wv D ask bh (oo D ask bh (D 106 6) r)) w (wv D ask bh w))) (n := q) (a := 1) (b := 1) q0 (fun j j0 j1 => by
            have hj := srt j q j0 j1 q1
            rw [e] at hj
            have : ind (ahd D (oo D ask bh (D 106 6) j) (wv D ask bh (oo D ask bh (D 106 6) j)) w (wv D ask bh w)) = 1 := ind_1 hj
            constructor <;> omega)
          omega)
        (fun n n0 ih n1 => by
          rw [S_succ _ (by omega), ih (by omega)]
          have : ind (ahd D (oo D ask bh (D 106 6) n) (wv D ask bh (oo D ask bh (D 106 6) n)) w (wv D ask bh w)) = 0 := by
            refine ind_0 fun z => ?_
            by_cases c : n = q
            · rw [c, e] at z; exact ahd_ir z
            · have hj := srt q n q0 (by omega) (by omega)
              rw [e] at hj
              exact ahd_ir (ahd_tr hj z)
          rw [this, Int.add_zero])
      exact this _ (by omega) (Int.le_refl _)
    have h3 : S (fun q => (fun v => ind (ahd D v (wv D ask bh v) w (wv D ask bh w))) (oo D ask bh (D 106 6) q)) (oz D ask bh (D 106 6)) = q := h2
    rw [h1] at h3
    exact h3.symm
  -- w is among them
  have ex : ∃ q, 0 ≤ q ∧ q < oz D ask bh (D 106 6) ∧ oo D ask bh (D 106 6) q = w := by
    apply Classical.byContradiction
    intro no
    have h1 := so (fun v => if v = w then 1 else 0)
    have h2 : S (fun q => (fun v => if v = w then (1 : Int) else 0) (oo D ask bh (D 106 6) q)) (oz D ask bh (D 106 6)) = 0 := S_zero fun j j0 j1 => if_neg fun e => no ⟨j, j0, j1, e⟩
    have h3 := S_one (f := fun v => if D 112 v = 1 ∧ 0 ≤ ask v then (if v = w then (1 : Int) else 0) else 0) (n := D 106 6) w0 w1 (fun j j0 j1 ne => by
      show (if D 112 j = 1 ∧ 0 ≤ ask j then (if j = w then (1 : Int) else 0) else 0) = 0
      rw [if_neg ne]; split <;> rfl)
    rw [if_pos h, if_pos rfl] at h3
    rw [h2] at h1
    have h1' : (0 : Int) = S (fun v => if D 112 v = 1 ∧ 0 ≤ ask v then (if v = w then (1 : Int) else 0) else 0) (D 106 6) := h1
    omega
  obtain ⟨q, q0, q1, e⟩ := ex
  have hq := at' q q0 q1 e
  refine ⟨by omega, by omega, fun r r0 r1 => ⟨at' r r0 r1, fun z => ?_⟩⟩
  rw [z, ← hq]; exact e
