/-! presses of a word by each kind: the system -/
def aw (D : Mem) (bh v w : Int) : Prop := ahd D v (rateD D v bh) w (rateD D w bh)
noncomputable def cntF (D : Mem) (bh kind w v : Int) : Int := if D 112 v = 1 then ind (aw D bh v w ∧ P (kf D v kind) (kn D v kind) = P (kf D w kind) (kn D w kind)) else 0
noncomputable def cnt (D : Mem) (bh kind w : Int) : Int := S (cntF D bh kind w) (D 106 6)
/-- t is the longest start that w shares with a word ahead of it, among the first i words -/
def isSN (D : Mem) (bh w i t : Int) : Prop := 0 ≤ t ∧ (∀ v, 0 ≤ v → v < i → D 112 v = 1 → aw D bh v w → ∀ s, isCS (gk D v) (D 109 v) (gk D w) (D 109 w) s → s ≤ t) ∧ (t = 0 ∨ ∃ v, 0 ≤ v ∧ v < i ∧ D 112 v = 1 ∧ aw D bh v w ∧ isCS (gk D v) (D 109 v) (gk D w) (D 109 w) t)
noncomputable def p3 (D : Mem) (bh w t : Int) : Int := if t < D 109 w then t + 2 else D 109 w + cnt D bh 1 w + 1
theorem cntF_01 (D : Mem) (bh kind w v : Int) : 0 ≤ cntF D bh kind w v ∧ cntF D bh kind w v ≤ 1 := by
  unfold cntF
  by_cases c : D 112 v = 1
  · rw [if_pos c]; exact ind_01 _
  · rw [if_neg c]; decide
theorem k1g (D : Mem) (w : Int) : kf D w 1 = gk D w ∧ kn D w 1 = D 109 w := by unfold kf kn; rw [if_neg (by decide), if_neg (by decide)]; exact ⟨rfl, rfl⟩
theorem sp_78 {D : Mem} {k w bh a : Int} (hR : Rel D k) (hk : k ≤ 1000) (ht : thr D w) (h32 : ∀ w, thr D w → D 32 w = P (kf D w 1) (kn D w 1) ∧ D 33 w = P (kf D w 2) (kn D w 2)) (h34 : ∀ w, thr D w → D 34 w = rateD D w bh) (a1 : a ≠ 1) (ak : ∀ E : Mem, mk E (-a) 0 = 1) (al : ∀ E : Mem, mk E (-a) 1 = 4) (au : ∀ (E : Mem) i v, mU (mk E) a i v = mk (mU E a i v)) (ac : ∀ (E : Mem) i, mk E a i = E a i) (asafe : a = 105 ∨ a = 41) : ∃ E t, qR 78 [(3, 31), (0, w), (3, a)] (mk D) = some ((9, 0), mk E) ∧ isSN D bh w (D 106 6) t ∧ E a 0 = tapW D w ∧ E a 1 = D 109 w + cnt D bh 1 w + 1 ∧ E a 2 = kn D w 2 + cnt D bh 2 w + 1 ∧ E a 3 = p3 D bh w t ∧ ∀ y i, y ≠ a → E y i = D y i := by
  have hW := hR.2.1
  have hn := hW.1
  have rD := rOK_of hR hk
  have w0 := ht.1
  have w1 := ht.2.1
  have w5 : 0 ≤ w ∧ w < D 5 2 := by omega
  have lw := (rD.2.1 w w0 w1).1
  obtain ⟨gw1, _, _⟩ := kf_ok rD w0 w1 1
  obtain ⟨gw2, zw0, zw1⟩ := kf_ok rD w0 w1 2
  have b1 : ∀ i, 0 ≤ i → 0 ≤ S (cntF D bh 1 w) i ∧ S (cntF D bh 1 w) i ≤ i := fun i i0 => S_01 i0 (fun j _ _ => cntF_01 D bh 1 w j)
  have b2 : ∀ i, 0 ≤ i → 0 ≤ S (cntF D bh 2 w) i ∧ S (cntF D bh 2 w) i ≤ i := fun i i0 => S_01 i0 (fun j _ _ => cntF_01 D bh 2 w j)
  obtain ⟨t, e, hT, hT1⟩ := it_inv (fun i (t : Int) => qE 78 32 [(3, 31), (0, w), (3, a), (3, 131 + 3 * w), (0, S (cntF D bh 1 w) i), (0, S (cntF D bh 2 w) i), (0, t), (0, i)] [] (mk D)) (fun i t => isSN D bh w i t ∧ t ≤ 10) (a := 0) (n := D 106 6) hn.2.1
    (fun i t i0 i1 ⟨hT, hT1⟩ => by
      have c1 := b1 i i0
      have c2 := b2 i i0
      have e1 : w32 (i + 1) = i + 1 := w32_id (by omega) (by omega)
      have st : ∀ v, qR 8 [(3, 5), (0, i)] (mk D) = some ((0, v), mk D) → qE 78 32 [(3, 31), (0, w), (3, a), (3, 131 + 3 * w), (0, S (cntF D bh 1 w) i), (0, S (cntF D bh 2 w) i), (0, t), (0, i)] [] (mk D) = qE 78 60 [(3, 31), (0, w), (3, a), (3, 131 + 3 * w), (0, S (cntF D bh 1 w) i), (0, S (cntF D bh 2 w) i), (0, t), (0, i)] [(0, v)] (mk D) := fun v hv => by
        rw [e_78_32, r_1]
        simp only [Option.bind_some, psh_0]
        rw [e_78_41, if_pos (by omega), if_pos (by omega), hv]
        simp only [Option.bind_some, psh_0]
      obtain ⟨T0, T1, T2⟩ := hT
      -- a word that doesn't count
      have skip : (D 112 i = 1 → ¬ aw D bh i w) → isSN D bh w (i + 1) t ∧ S (cntF D bh 1 w) (i + 1) = S (cntF D bh 1 w) i ∧ S (cntF D bh 2 w) (i + 1) = S (cntF D bh 2 w) i := fun no => by
        have z : ∀ kind, cntF D bh kind w i = 0 := fun kind => by
          unfold cntF
          by_cases c : D 112 i = 1
          · rw [if_pos c, ind_0 (fun q => no c q.1)]
          · rw [if_neg c]
        refine ⟨⟨T0, fun v v0 v1 hv ha s hs => ?_, ?_⟩, by rw [S_succ _ i0, z]; omega, by rw [S_succ _ i0, z]; omega⟩
        · by_cases c : v = i
          · rw [c] at hv ha; exact absurd ha (no hv)
          · exact T1 v v0 (by omega) hv ha s hs
        · rcases T2 with q | ⟨v, v0, v1, q⟩
          · exact Or.inl q
          · exact Or.inr ⟨v, v0, by omega, q⟩
      by_cases hi : thr D i
      · have s34 : D 34 i = rateD D i bh := h34 i hi
        have s34w : D 34 w = rateD D w bh := h34 w ht
        have s72 := sp_72 (D := D) (a := rateD D i bh) (b := rateD D w bh) hW i0 i1 w0 w1
        by_cases ha : aw D bh i w
        · obtain ⟨s, hs⟩ := cs_ex (gk D i) (gk D w) (m := D 109 i) (n := D 109 w) (by have := (rD.2.1 i i0 i1).1; omega) (by omega)
          have li := (rD.2.1 i i0 i1).1
          have sle : s ≤ 10 := by have := hs.2.1; omega
          obtain ⟨gi1, _, _⟩ := kf_ok rD i0 i1 1
          have s19 := sp_19 (mk D) (gk_ok rD i0 i1) (gk_ok rD w0 w1) (by omega) (by omega) (by omega) (by omega) hs
          have n1 : S (cntF D bh 1 w) (i + 1) = S (cntF D bh 1 w) i + ind (aw D bh i w ∧ P (kf D i 1) (kn D i 1) = P (kf D w 1) (kn D w 1)) := by
            rw [S_succ _ i0]; unfold cntF; rw [if_pos hi.2.2]
          have n2 : S (cntF D bh 2 w) (i + 1) = S (cntF D bh 2 w) i + ind (aw D bh i w ∧ P (kf D i 2) (kn D i 2) = P (kf D w 2) (kn D w 2)) := by
            rw [S_succ _ i0]; unfold cntF; rw [if_pos hi.2.2]
          obtain ⟨x, hx, x01⟩ : ∃ x, x = ind (aw D bh i w ∧ P (kf D i 1) (kn D i 1) = P (kf D w 1) (kn D w 1)) ∧ (0 ≤ x ∧ x ≤ 1) := ⟨_, rfl, ind_01 _⟩
          obtain ⟨y, hy, y01⟩ : ∃ y, y = ind (aw D bh i w ∧ P (kf D i 2) (kn D i 2) = P (kf D w 2) (kn D w 2)) ∧ (0 ≤ y ∧ y ≤ 1) := ⟨_, rfl, ind_01 _⟩
          rw [← hx] at n1
          rw [← hy] at n2
          have g1 : qE 78 83 [(3, 31), (0, w), (3, a), (3, 131 + 3 * w), (0, S (cntF D bh 1 w) i), (0, S (cntF D bh 2 w) i), (0, t), (0, i)] [(0, 1)] (mk D) = qE 78 110 [(3, 31), (0, w), (3, a), (3, 131 + 3 * w), (0, S (cntF D bh 1 w) i), (0, S (cntF D bh 2 w) i), (0, t), (0, i)] [(0, x), (0, S (cntF D bh 1 w) i)] (mk D) := by
            rw [e_78_83, if_neg (by decide), if_pos (by omega), if_pos (by omega), (h32 i hi).1, (h32 w ht).1, hx]
            by_cases q : P (kf D i 1) (kn D i 1) = P (kf D w 1) (kn D w 1)
            · rw [if_pos ((cmpL_eq _ _).2 q), ind_1 ⟨ha, q⟩]
            · rw [if_neg (fun z => q ((cmpL_eq _ _).1 z)), ind_0 (fun z => q z.2)]
          have g2 : qE 78 110 [(3, 31), (0, w), (3, a), (3, 131 + 3 * w), (0, S (cntF D bh 1 w) i), (0, S (cntF D bh 2 w) i), (0, t), (0, i)] [(0, x), (0, S (cntF D bh 1 w) i)] (mk D) = qE 78 137 [(3, 31), (0, w), (3, a), (3, 131 + 3 * w), (0, S (cntF D bh 1 w) (i + 1)), (0, S (cntF D bh 2 w) i), (0, t), (0, i)] [(0, y), (0, S (cntF D bh 2 w) i)] (mk D) := by
            rw [e_78_110, if_pos (by omega), if_pos (by omega), (h32 i hi).2, (h32 w ht).2, hy, w32_id (x := S (cntF D bh 1 w) i + x) (by omega) (by omega), n1]
            by_cases q : P (kf D i 2) (kn D i 2) = P (kf D w 2) (kn D w 2)
            · rw [if_pos ((cmpL_eq _ _).2 q), ind_1 ⟨ha, q⟩]
            · rw [if_neg (fun z => q ((cmpL_eq _ _).1 z)), ind_0 (fun z => q z.2)]
          obtain ⟨m, hm, m1⟩ : ∃ m, m = (if t < s then s else t) ∧ (m = s ∨ m = t) ∧ s ≤ m ∧ t ≤ m ∧ m ≤ 10 := by
            by_cases c : t < s
            · exact ⟨s, by rw [if_pos c], by omega, by omega, by omega, by omega⟩
            · exact ⟨t, by rw [if_neg c], by omega, by omega, by omega, by omega⟩
          have s216 : qR 216 [(0, t), (0, s)] (mk D) = some ((0, m), mk D) := by
            rw [r_216, hm]
            by_cases c : t < s
            · rw [if_pos c, if_pos c]
            · rw [if_neg c, if_neg c]
          refine ⟨m, ?_, ⟨⟨by omega, fun v v0 v1 hv hav s' hs' => ?_, ?_⟩, m1.2.2.2⟩⟩
          · show qE 78 32 [(3, 31), (0, w), (3, a), (3, 131 + 3 * w), (0, S (cntF D bh 1 w) i), (0, S (cntF D bh 2 w) i), (0, t), (0, i)] [] (mk D) = qE 78 32 [(3, 31), (0, w), (3, a), (3, 131 + 3 * w), (0, S (cntF D bh 1 w) (i + 1)), (0, S (cntF D bh 2 w) (i + 1)), (0, m), (0, i + 1)] [] (mk D)
            rw [st 1 ((sp_8 hW i).1 hi), e_78_60, if_neg (by decide), if_pos (by omega), if_pos (by omega), s34, s34w, s72.1 ha]
            simp only [Option.bind_some, psh_0]
            rw [g1, g2, e_78_137, if_pos (by omega), if_pos (by omega), (h32 i hi).1, (h32 w ht).1, (k1g D i).1, (k1g D i).2, (k1g D w).1, (k1g D w).2, s19]
            simp only [Option.bind_some, psh_0]
            rw [e_78_158, s216]
            simp only [Option.bind_some, psh_0]
            rw [e_78_161, e1, w32_id (x := S (cntF D bh 2 w) i + y) (by omega) (by omega), n2]
          · by_cases c : v = i
            · rw [c] at hs'
              have := cs_one hs' hs
              omega
            · have := T1 v v0 (by omega) hv hav s' hs'
              omega
          · rcases m1.1 with q | q
            · exact Or.inr ⟨i, i0, by omega, hi.2.2, ha, by rw [q]; exact hs⟩
            · rcases T2 with z | ⟨v, v0, v1, v2, v3, v4⟩
              · exact Or.inl (by omega)
              · exact Or.inr ⟨v, v0, by omega, v2, v3, by rw [q]; exact v4⟩
        · obtain ⟨k1, k2, k3⟩ := skip (fun _ => ha)
          refine ⟨t, ?_, k1, hT1⟩
          show qE 78 32 [(3, 31), (0, w), (3, a), (3, 131 + 3 * w), (0, S (cntF D bh 1 w) i), (0, S (cntF D bh 2 w) i), (0, t), (0, i)] [] (mk D) = qE 78 32 [(3, 31), (0, w), (3, a), (3, 131 + 3 * w), (0, S (cntF D bh 1 w) (i + 1)), (0, S (cntF D bh 2 w) (i + 1)), (0, t), (0, i + 1)] [] (mk D)
          rw [st 1 ((sp_8 hW i).1 hi), e_78_60, if_neg (by decide), if_pos (by omega), if_pos (by omega), s34, s34w, s72.2 ha]
          simp only [Option.bind_some, psh_0]
          rw [e_78_83, if_pos rfl, e1, k2, k3]
      · obtain ⟨k1, k2, k3⟩ := skip (fun q => absurd ⟨i0, i1, q⟩ hi)
        refine ⟨t, ?_, k1, hT1⟩
        show qE 78 32 [(3, 31), (0, w), (3, a), (3, 131 + 3 * w), (0, S (cntF D bh 1 w) i), (0, S (cntF D bh 2 w) i), (0, t), (0, i)] [] (mk D) = qE 78 32 [(3, 31), (0, w), (3, a), (3, 131 + 3 * w), (0, S (cntF D bh 1 w) (i + 1)), (0, S (cntF D bh 2 w) (i + 1)), (0, t), (0, i + 1)] [] (mk D)
        rw [st 0 ((sp_8 hW i).2 hi), e_78_60, if_pos rfl, e1, k2, k3])
    (s0 := 0) ⟨⟨Int.le_refl 0, fun v v0 v1 => by omega, Or.inl rfl⟩, by decide⟩
  have c1 := b1 (D 106 6) hn.2.1
  have c2 := b2 (D 106 6) hn.2.1
  have hrow := isRowW hW w0 w1
  have rs := rowSzW hW w0 w1
  have hc1 : S (cntF D bh 1 w) (D 106 6) = cnt D bh 1 w := rfl
  have hc2 : S (cntF D bh 2 w) (D 106 6) = cnt D bh 2 w := rfl
  have s16 := sp_16 (mk D) gw2 (by omega) (by omega)
  have v1e : w32 (w32 (D 109 w + cnt D bh 1 w) + 1) = D 109 w + cnt D bh 1 w + 1 := by rw [w32_id (x := D 109 w + cnt D bh 1 w) (by omega) (by omega), w32_id (by omega) (by omega)]
  have v2e : w32 (w32 (kn D w 2 + cnt D bh 2 w) + 1) = kn D w 2 + cnt D bh 2 w + 1 := by rw [w32_id (x := kn D w 2 + cnt D bh 2 w) (by omega) (by omega), w32_id (by omega) (by omega)]
  have v3e : w32 (w32 (t + 1) + 1) = t + 2 := by rw [w32_id (x := t + 1) (by have := hT.1; omega) (by omega), w32_id (by have := hT.1; omega) (by omega)]; omega
  have put : ∀ v, aPut (mk D) 1 1 (0, v) = true := fun v => rfl
  have putg : ∀ (E : Mem) v, aPut (mk E) 1 1 (0, v) = true := fun E v => rfl
  obtain ⟨E1, hE1⟩ : ∃ E1, E1 = mU D a 0 (tapW D w) := ⟨_, rfl⟩
  obtain ⟨E2, hE2⟩ : ∃ E2, E2 = mU E1 a 1 (D 109 w + cnt D bh 1 w + 1) := ⟨_, rfl⟩
  obtain ⟨E3, hE3⟩ : ∃ E3, E3 = mU E2 a 2 (kn D w 2 + cnt D bh 2 w + 1) := ⟨_, rfl⟩
  have E33 : E2 33 w = P (kf D w 2) (kn D w 2) := by rw [hE2, mU_r (by omega), hE1, mU_r (by omega), (h32 w ht).2]
  have s16' := sp_16 (mk E2) gw2 (by omega) (by omega)
  have aKt : aKind 1 1 = true := rfl
  have end78 : qE 78 219 [(3, 31), (0, w), (3, a), (3, 131 + 3 * w), (0, cnt D bh 1 w), (0, cnt D bh 2 w), (0, t), (0, D 109 w)] [] (mk E3) = some ((9, 0), mk (mU E3 a 3 (p3 D bh w t))) := by
    have r1 : mk E3 a 1 = D 109 w + cnt D bh 1 w + 1 := by rw [ac, hE3, mU_other (by omega), hE2, mU_s]
    rw [e_78_219, ak, al]
    unfold p3
    by_cases c : t < D 109 w
    · rw [if_pos c, if_pos c, v3e, if_pos ⟨a1, rfl, by decide, by decide⟩, au, e_78_241]
    · rw [if_neg c, if_neg c, if_pos ⟨rfl, by decide, by decide⟩, r1, if_pos ⟨a1, rfl, by decide, by decide⟩, au, e_78_241]
  refine ⟨mU E3 a 3 (p3 D bh w t), t, ?_, hT, ?_, ?_, ?_, mU_s, fun y i hy => ?_⟩
  · rw [r_78, sp_7 (by omega) w, if_pos w5]
    simp only [Option.bind_some, psh_3]
    rw [e_78_8, if_neg (by omega), ak, al, if_pos (by decide), if_neg (by decide)]
    refine e.trans ?_
    show qE 78 32 [(3, 31), (0, w), (3, a), (3, 131 + 3 * w), (0, cnt D bh 1 w), (0, cnt D bh 2 w), (0, t), (0, D 106 6)] [] (mk D) = _
    rw [e_78_32, r_1]
    simp only [Option.bind_some, psh_0]
    rw [e_78_41, if_neg (by omega), if_pos (mk_wk w5.1 w5.2), mk_wr w5.1 w5.2, if_pos (mk_rk w5.1 w5.2), row_size hrow, rs]
    simp only [Option.bind_some, psh_0]
    rw [e_78_176, if_pos (mk_wk w5.1 w5.2), mk_wr w5.1 w5.2, sp_30 hR.1 hW w0 w1]
    simp only [Option.bind_some, psh_0]
    rw [e_78_191, ak, al, if_pos ⟨a1, rfl, by decide, by decide⟩, au, ← hE1, e_78_192, ak, al, v1e, if_pos ⟨a1, rfl, by decide, by decide⟩, au, ← hE2, e_78_202, if_pos (by omega), E33, s16']
    simp only [Option.bind_some, psh_0]
    rw [e_78_213, ak, al, v2e, if_pos ⟨a1, rfl, by decide, by decide⟩, au, ← hE3, end78]
  · rw [mU_other (by omega), hE3, mU_other (by omega), hE2, mU_other (by omega), hE1, mU_s]
  · rw [mU_other (by omega), hE3, mU_other (by omega), hE2, mU_s]
  · rw [mU_other (by omega), hE3, mU_s]
  · rw [mU_r hy, hE3, mU_r hy, hE2, mU_r hy, hE1, mU_r hy]
