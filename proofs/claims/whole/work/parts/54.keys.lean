/-! the keys of words -/
def gk (D : Mem) (w i : Int) : Int := D 107 (D 108 (10 * w + i))
/-- the keys by slide of the first letters: how many, and which -/
def slS (D : Mem) (w : Int) : Nat → Int × (Int → Int)
  | 0 => (0, fun _ => 0)
  | n + 1 => if (n : Int) = 0 ∨ gk D w n ≠ gk D w ((n : Int) - 1) then ((slS D w n).1 + 1, fun j => if j = (slS D w n).1 then gk D w n else (slS D w n).2 j) else slS D w n
def sz (D : Mem) (w i : Int) : Int := (slS D w i.toNat).1
def sk (D : Mem) (w i : Int) : Int → Int := (slS D w i.toNat).2
theorem sl_new {D : Mem} {w i : Int} (h0 : 0 ≤ i) (h : i = 0 ∨ gk D w i ≠ gk D w (i - 1)) : sz D w (i + 1) = sz D w i + 1 ∧ sk D w (i + 1) = fun j => if j = sz D w i then gk D w i else sk D w i j := by
  unfold sz sk
  rw [show (i + 1).toNat = i.toNat + 1 by omega, slS, show ((i.toNat : Nat) : Int) = i by omega, if_pos h]
  exact ⟨rfl, rfl⟩
theorem sl_old {D : Mem} {w i : Int} (h0 : 0 ≤ i) (h : ¬ (i = 0 ∨ gk D w i ≠ gk D w (i - 1))) : sz D w (i + 1) = sz D w i ∧ sk D w (i + 1) = sk D w i := by
  unfold sz sk
  rw [show (i + 1).toNat = i.toNat + 1 by omega, slS, show ((i.toNat : Nat) : Int) = i by omega, if_neg h]
  exact ⟨rfl, rfl⟩
theorem sl_inv {D : Mem} {w n : Int} (hg : keysOK (gk D w) n) : ∀ i, 0 ≤ i → i ≤ n → (0 ≤ sz D w i ∧ sz D w i ≤ i) ∧ keysOK (sk D w i) (sz D w i) ∧ (0 < i → 1 ≤ sz D w i ∧ sk D w i (sz D w i - 1) = gk D w (i - 1)) := by
  refine i_up (P := fun i => i ≤ n → (0 ≤ sz D w i ∧ sz D w i ≤ i) ∧ keysOK (sk D w i) (sz D w i) ∧ (0 < i → 1 ≤ sz D w i ∧ sk D w i (sz D w i - 1) = gk D w (i - 1))) (fun _ => ⟨⟨Int.le_refl 0, Int.le_refl 0⟩, fun j j0 j1 => by have : j < 0 := j1; omega, fun h => by omega⟩) (fun i i0 ih hi => ?_)
  obtain ⟨a, b, c⟩ := ih (by omega)
  by_cases h : i = 0 ∨ gk D w i ≠ gk D w (i - 1)
  · obtain ⟨e1, e2⟩ := sl_new i0 h
    rw [e1, e2]
    refine ⟨by omega, fun j j0 j1 => ?_, fun _ => ⟨by omega, ?_⟩⟩
    · show 1 ≤ (if j = sz D w i then gk D w i else sk D w i j) ∧ (if j = sz D w i then gk D w i else sk D w i j) ≤ 9
      by_cases q : j = sz D w i
      · rw [if_pos q]; exact hg i i0 (by omega)
      · rw [if_neg q]; exact b j j0 (by omega)
    · show (if sz D w i + 1 - 1 = sz D w i then gk D w i else _) = gk D w (i + 1 - 1)
      rw [if_pos (by omega), show i + 1 - 1 = i by omega]
  · obtain ⟨e1, e2⟩ := sl_old i0 h
    rw [e1, e2]
    have hi0 : 0 < i := by omega
    refine ⟨by omega, b, fun _ => ⟨(c hi0).1, ?_⟩⟩
    rw [(c hi0).2, show i + 1 - 1 = i by omega]
    omega
/-- by a kind: how many keys, and which -/
def kn (D : Mem) (w kind : Int) : Int := if kind = 2 then sz D w (D 109 w) else D 109 w
def kf (D : Mem) (w kind : Int) : Int → Int := if kind = 2 then sk D w (D 109 w) else gk D w
theorem gk_ok {D : Mem} {w : Int} (hR : rOK D) (w0 : 0 ≤ w) (w1 : w < D 106 6) : keysOK (gk D w) (D 109 w) := fun i i0 i1 => by
  have := (hR.2.1 w w0 w1).2.1 i i0 i1
  exact hR.2.2.2.2.2.1 _ this.1 (by omega)
theorem kf_ok {D : Mem} {w : Int} (hR : rOK D) (w0 : 0 ≤ w) (w1 : w < D 106 6) (kind : Int) : keysOK (kf D w kind) (kn D w kind) ∧ 1 ≤ kn D w kind ∧ kn D w kind ≤ 10 := by
  have hg := gk_ok hR w0 w1
  have hs := (hR.2.1 w w0 w1).1
  unfold kf kn
  by_cases c : kind = 2
  · rw [if_pos c, if_pos c]
    obtain ⟨a, b, d⟩ := sl_inv hg (D 109 w) (by omega) (by omega)
    have := d (by omega)
    exact ⟨b, by omega, by omega⟩
  · rw [if_neg c, if_neg c]; exact ⟨hg, by omega, by omega⟩
theorem gk_cg {D E : Mem} (h : ∀ y i, y = 107 ∨ y = 108 ∨ y = 109 → E y i = D y i) : ∀ w, gk E w = gk D w := fun w => funext fun i => by
  unfold gk; rw [h 108 _ (by omega), h 107 _ (by omega)]
theorem slS_cg {D E : Mem} (h : ∀ y i, y = 107 ∨ y = 108 ∨ y = 109 → E y i = D y i) (w : Int) : ∀ n, slS E w n = slS D w n
  | 0 => rfl
  | n + 1 => by rw [slS, slS, slS_cg h w n, gk_cg h w]
theorem kf_cg {D E : Mem} (h : ∀ y i, y = 107 ∨ y = 108 ∨ y = 109 → E y i = D y i) (w kind : Int) : kf E w kind = kf D w kind ∧ kn E w kind = kn D w kind := by
  unfold kf kn sk sz
  rw [slS_cg h w, gk_cg h w, h 109 w (by omega)]
  exact ⟨rfl, rfl⟩
theorem P_upd {f : Int → Int} {m v : Int} (m0 : 0 ≤ m) : P (fun j => if j = m then v else f j) (m + 1) = 16 * P f m + v := by
  rw [P_succ _ m0, P_congr (f := fun j => if j = m then v else f j) (g := f) (fun i i0 i1 => if_neg (by omega)), if_pos rfl]
theorem P_lt12 {f : Int → Int} {m : Int} (hf : keysOK f m) (h1 : m ≤ 12) : P f m < 72057594037927936 := by
  by_cases c : 0 ≤ m
  · have : ∀ n, 0 ≤ n → n ≤ m → P f n + 1 ≤ 16 ^ n.toNat := i_up (P := fun n => n ≤ m → P f n + 1 ≤ 16 ^ n.toNat) (fun _ => by rw [P_0]; decide) (fun i i0 ih i1 => by
      rw [P_succ f i0, show (i + 1).toNat = i.toNat + 1 by omega, Int.pow_succ]
      have := ih (by omega); have := hf i i0 (by omega); omega)
    have h := this m c (by omega)
    have hp : (16 : Int) ^ m.toNat ≤ 16 ^ 12 := by
      have : (16 : Nat) ^ m.toNat ≤ 16 ^ 12 := Nat.pow_le_pow_right (by decide) (by omega)
      exact_mod_cast this
    have : (16 : Int) ^ 12 = 281474976710656 := by decide
    omega
  · rw [P_neg f (by omega)]; omega
theorem key26 {D : Mem} {k w i : Int} (hK : RK D) (hW : RW D k) (w0 : 0 ≤ w) (w1 : w < D 106 6) (i0 : 0 ≤ i) (i1 : i < D 109 w) : qR 26 [(3, 3), (0, rowAt (mk D) (132 + 3 * w) i)] (mk D) = some ((0, gk D w i), mk D) := by
  have hl := ((hW.2.2.1 w w0 w1).2.1 i i0 i1).2
  rw [rowAtW hW w0 w1 i0 i1, sp_26, if_pos (by omega), hK.1]
  rfl
theorem sp_31 {D : Mem} {k w : Int} (hR : Rel D k) (hk : k ≤ 1000) (w0 : 0 ≤ w) (w1 : w < D 106 6) : qR 31 [(3, 3), (3, 132 + 3 * w)] (mk D) = some ((1, P (gk D w) (D 109 w)), mk D) := by
  have hW := hR.2.1
  have hok := gk_ok (rOK_of hR hk) w0 w1
  have hs := (hW.2.2.1 w w0 w1).1
  have hrow := isRowW hW w0 w1
  have rk := hrow.1
  have rs := rowSzW hW w0 w1
  have sub : ∀ n, n ≤ D 109 w → keysOK (gk D w) n := fun n hn i i0 i1 => hok i i0 (by omega)
  rw [r_31]
  show qE 31 5 [(3, 3), (3, 132 + 3 * w), (1, P (gk D w) 0), (9, 0), (0, 0)] [] (mk D) = _
  rw [it_up (fun i => qE 31 5 [(3, 3), (3, 132 + 3 * w), (1, P (gk D w) i), (9, 0), (0, i)] [] (mk D)) (show (0 : Int) ≤ D 109 w by omega) (fun i i0 i1 => ?_)]
  · show qE 31 5 [(3, 3), (3, 132 + 3 * w), (1, P (gk D w) (D 109 w)), (9, 0), (0, D 109 w)] [] (mk D) = _
    rw [e_31_5, if_pos rk, row_size hrow, rs]
    simp only [Option.bind_some, psh_0]
    rw [e_31_11, if_neg (by omega)]
  · show qE 31 5 [(3, 3), (3, 132 + 3 * w), (1, P (gk D w) i), (9, 0), (0, i)] [] (mk D) = qE 31 5 [(3, 3), (3, 132 + 3 * w), (1, P (gk D w) (i + 1)), (9, 0), (0, i + 1)] [] (mk D)
    have hki := hok i i0 i1
    rw [e_31_5, if_pos rk, row_size hrow, rs]
    simp only [Option.bind_some, psh_0]
    rw [e_31_11, if_pos i1, if_pos rk, row_at hrow]
    simp only [Option.bind_some, psh_0]
    rw [e_31_22, key26 hR.1 hW w0 w1 i0 i1]
    simp only [Option.bind_some, psh_0]
    rw [e_31_25, sp_14 _ (P_nn (sub i (by omega))) (P_lt12 (sub i (by omega)) (by omega)) (by omega) (by omega)]
    simp only [Option.bind_some, psh_1]
    rw [e_31_28, P_succ _ i0, w32_id (by omega) (by omega)]
theorem sp_32 {D : Mem} {k w : Int} (hR : Rel D k) (hk : k ≤ 1000) (w0 : 0 ≤ w) (w1 : w < D 106 6) : qR 32 [(3, 3), (3, 132 + 3 * w)] (mk D) = some ((1, P (sk D w (D 109 w)) (sz D w (D 109 w))), mk D) := by
  have hW := hR.2.1
  have hok := gk_ok (rOK_of hR hk) w0 w1
  have hs := (hW.2.2.1 w w0 w1).1
  have hrow := isRowW hW w0 w1
  have rk := hrow.1
  have rs := rowSzW hW w0 w1
  have inv := sl_inv hok
  obtain ⟨v6, e, -⟩ := it_inv (fun i (v : PV) => qE 32 8 [(3, 3), (3, 132 + 3 * w), (1, P (sk D w i) (sz D w i)), (9, 0), (0, if i = 0 then 0 else gk D w (i - 1)), (0, i), v] [] (mk D)) (fun _ _ => True) (show (0 : Int) ≤ D 109 w by omega) (fun i v i0 i1 _ => by
    have hki := hok i i0 i1
    obtain ⟨a, b, c⟩ := inv i i0 (by omega)
    have st : qE 32 8 [(3, 3), (3, 132 + 3 * w), (1, P (sk D w i) (sz D w i)), (9, 0), (0, if i = 0 then 0 else gk D w (i - 1)), (0, i), v] [] (mk D) = qE 32 27 [(3, 3), (3, 132 + 3 * w), (1, P (sk D w i) (sz D w i)), (9, 0), (0, if i = 0 then 0 else gk D w (i - 1)), (0, i), v] [(0, gk D w i)] (mk D) := by
      rw [e_32_8, if_pos rk, row_size hrow, rs]
      simp only [Option.bind_some, psh_0]
      rw [e_32_14, if_pos i1, if_pos rk, row_at hrow]
      simp only [Option.bind_some, psh_0]
      rw [e_32_24, key26 hR.1 hW w0 w1 i0 i1]
      simp only [Option.bind_some, psh_0]
    refine ⟨(0, gk D w i), ?_, trivial⟩
    show qE 32 8 [(3, 3), (3, 132 + 3 * w), (1, P (sk D w i) (sz D w i)), (9, 0), (0, if i = 0 then 0 else gk D w (i - 1)), (0, i), v] [] (mk D) = qE 32 8 [(3, 3), (3, 132 + 3 * w), (1, P (sk D w (i + 1)) (sz D w (i + 1))), (9, 0), (0, if i + 1 = 0 then 0 else gk D w (i + 1 - 1)), (0, i + 1), (0, gk D w i)] [] (mk D)
    rw [st, e_32_27, if_neg (by omega : ¬ i + 1 = 0), show i + 1 - 1 = i by omega, w32_id (by omega) (by omega)]
    by_cases h : i = 0 ∨ gk D w i ≠ gk D w (i - 1)
    · obtain ⟨e1, e2⟩ := sl_new i0 h
      have ne : ¬ gk D w i = (if i = 0 then 0 else gk D w (i - 1)) := by
        by_cases q : i = 0
        · rw [if_pos q]; omega
        · rw [if_neg q]; rcases h with h | h
          · exact absurd h q
          · exact h
      rw [if_neg ne, sp_14 _ (P_nn b) (P_lt12 b (by omega)) (by omega) (by omega)]
      simp only [Option.bind_some, psh_1]
      rw [e_32_42, e1, e2, P_upd a.1, w32_id (by omega) (by omega)]
    · obtain ⟨e1, e2⟩ := sl_old i0 h
      have eq : gk D w i = (if i = 0 then 0 else gk D w (i - 1)) := by rw [if_neg (by omega)]; omega
      rw [if_pos eq, e1, e2]) (s0 := (9, 0)) trivial
  rw [r_32]
  refine e.trans ?_
  show qE 32 8 [(3, 3), (3, 132 + 3 * w), (1, P (sk D w (D 109 w)) (sz D w (D 109 w))), (9, 0), (0, if D 109 w = 0 then 0 else gk D w (D 109 w - 1)), (0, D 109 w), v6] [] (mk D) = _
  rw [e_32_8, if_pos rk, row_size hrow, rs]
  simp only [Option.bind_some, psh_0]
  rw [e_32_14, if_neg (by omega)]
/-- the packed keys of a word, by guess or by slide -/
theorem sp_69 {D : Mem} {k : Int} (hR : Rel D k) (hk : k ≤ 1000) : ∃ E, qR 69 [(3, 31)] (mk D) = some ((9, 0), mk E) ∧ (∀ w, thr D w → E 32 w = P (kf D w 1) (kn D w 1) ∧ E 33 w = P (kf D w 2) (kn D w 2)) ∧ ∀ y i, y ≠ 32 → y ≠ 33 → E y i = D y i := by
  have hW := hR.2.1
  have hn := hW.1
  obtain ⟨⟨E, v2⟩, e, h2, h3⟩ := it_inv (fun i (s : Mem × PV) => qE 69 2 [(3, 31), (0, i), s.2] [] (mk s.1)) (fun i s => (∀ w, thr D w → w < i → s.1 32 w = P (kf D w 1) (kn D w 1) ∧ s.1 33 w = P (kf D w 2) (kn D w 2)) ∧ ∀ y j, y ≠ 32 → y ≠ 33 → s.1 y j = D y j) (a := 0) (n := D 106 6) hn.2.1
    (fun i s i0 i1 ⟨h2, h3⟩ => by
      obtain ⟨E, v2⟩ := s
      replace h2 : ∀ w, thr D w → w < i → E 32 w = P (kf D w 1) (kn D w 1) ∧ E 33 w = P (kf D w 2) (kn D w 2) := h2
      replace h3 : ∀ y j, y ≠ 32 → y ≠ 33 → E y j = D y j := h3
      have hRE : Rel E k := Rel_sim hR (fun y j hs => h3 y j (by unfold scr at hs; omega) (by unfold scr at hs; omega))
      have e52 : E 5 2 = D 106 6 := by rw [h3 5 2 (by decide) (by decide)]; exact hn.1
      have i5 : 0 ≤ i ∧ i < E 5 2 := by omega
      have i80 : 0 ≤ i ∧ i < 80 := by omega
      have e1 : w32 (i + 1) = i + 1 := w32_id (by omega) (by omega)
      have hg : ¬ (131 + 3 * i = 0) := by omega
      have hkd := mk_wk i5.1 i5.2
      obtain ⟨t1, t2⟩ := thr_cl hW i0 i1
      have e3 : mk E (131 + 3 * i) 3 = D 112 i := by rw [mk_wf i0 (by decide), h3 _ _ (by omega) (by omega)]; exact t1
      have st : qE 69 2 [(3, 31), (0, i), v2] [] (mk E) = qE 69 27 [(3, 31), (0, i), v2] [(3, 131 + 3 * i)] (mk E) := by
        rw [e_69_2, r_1]
        simp only [Option.bind_some, psh_0]
        rw [e_69_10, if_pos i5.2, if_pos i80.2, sp_7 (by omega) i, if_pos i5]
        simp only [Option.bind_some, psh_3]
      rcases t2 with t2 | t2
      · refine ⟨(E, (3, 131 + 3 * i)), ?_, fun w hw wi => ?_, h3⟩
        · show qE 69 2 [(3, 31), (0, i), v2] [] (mk E) = qE 69 2 [(3, 31), (0, i + 1), (3, 131 + 3 * i)] [] (mk E)
          rw [st, e_69_27, if_neg hg, if_pos hkd, e3, if_pos t2, e1]
        · by_cases c : w = i
          · have := hw.2.2; rw [c] at this; omega
          · exact h2 w hw (by omega)
      · obtain ⟨F, hF⟩ : ∃ F, F = mU E 32 i (P (gk D i) (D 109 i)) := ⟨_, rfl⟩
        have oF : ∀ y j, y ≠ 32 → y ≠ 33 → F y j = D y j := fun y j q1 q2 => by rw [hF, mU_r q1]; exact h3 y j q1 q2
        have hRF : Rel F k := Rel_sim hR (fun y j hs => oF y j (by unfold scr at hs; omega) (by unfold scr at hs; omega))
        have F52 : F 5 2 = D 106 6 := by rw [oF 5 2 (by decide) (by decide)]; exact hn.1
        have cE := gk_cg (D := D) (E := E) (fun y j q => h3 y j (by omega) (by omega)) i
        have sE := slS_cg (D := D) (E := F) (fun y j q => oF y j (by omega) (by omega)) i
        have s31 := sp_31 hRE hk i0 (by rw [h3 106 6 (by decide) (by decide)]; exact i1)
        rw [cE, h3 109 i (by decide) (by decide)] at s31
        have s32 := sp_32 hRF hk i0 (by rw [oF 106 6 (by decide) (by decide)]; exact i1)
        unfold sk sz at s32
        rw [sE, oF 109 i (by decide) (by decide)] at s32
        refine ⟨(mU F 33 i (P (kf D i 2) (kn D i 2)), (3, 131 + 3 * i)), ?_, fun w hw wi => ?_, fun y j q1 q2 => ?_⟩
        · show qE 69 2 [(3, 31), (0, i), v2] [] (mk E) = qE 69 2 [(3, 31), (0, i + 1), (3, 131 + 3 * i)] [] (mk (mU F 33 i (P (kf D i 2) (kn D i 2))))
          rw [st, e_69_27, if_neg hg, if_pos hkd, e3, if_neg (by omega), if_pos hkd, mk_wr i5.1 i5.2, s31]
          simp only [Option.bind_some, psh_1]
          rw [e_69_55, if_pos i80, ← hF, if_pos (mk_wk i0 (by omega)), mk_wr i0 (by omega), s32]
          simp only [Option.bind_some, psh_1]
          rw [e_69_72, if_pos i80, e1]
          unfold kf kn sk sz
          simp only [if_true]
        · show mU F 33 i (P (kf D i 2) (kn D i 2)) 32 w = P (kf D w 1) (kn D w 1) ∧ mU F 33 i (P (kf D i 2) (kn D i 2)) 33 w = P (kf D w 2) (kn D w 2)
          by_cases c : w = i
          · rw [c, mU_r (by decide), hF, mU_s, mU_s]
            refine ⟨?_, rfl⟩
            unfold kf kn; rw [if_neg (by decide), if_neg (by decide)]
          · rw [mU_r (by decide), mU_other (by omega), hF, mU_other (by omega), mU_r (by decide)]
            exact h2 w hw (by omega)
        · show mU F 33 i (P (kf D i 2) (kn D i 2)) y j = D y j
          rw [mU_r q2]; exact oF y j q1 q2)
    (s0 := (D, (9, 0))) ⟨fun w hw wi => by have := hw.1; omega, fun _ _ _ _ => rfl⟩
  replace h2 : ∀ w, thr D w → w < D 106 6 → E 32 w = P (kf D w 1) (kn D w 1) ∧ E 33 w = P (kf D w 2) (kn D w 2) := h2
  replace h3 : ∀ y j, y ≠ 32 → y ≠ 33 → E y j = D y j := h3
  refine ⟨E, ?_, fun w hw => h2 w hw hw.2.1, h3⟩
  have e52 : E 5 2 = D 106 6 := by rw [h3 5 2 (by decide) (by decide)]; exact hn.1
  rw [r_69]
  refine e.trans ?_
  show qE 69 2 [(3, 31), (0, D 106 6), v2] [] (mk E) = _
  rw [e_69_2, r_1]
  simp only [Option.bind_some, psh_0]
  rw [e_69_10, if_neg (by omega)]
theorem sp_15 {D : Mem} (hS : RSb D) : qR 15 [(3, 100)] (mk D) = some ((1, P (D 116) (D 106 14)), mk D) := by
  obtain ⟨s1, s2, s3, s4, s5⟩ := hS
  have hrow := isRow100 (D := D) (by omega) (by omega)
  have e100 : mk D 100 1 = D 106 14 := s1
  have sub : ∀ n, n ≤ D 106 14 → keysOK (D 116) n := fun n hn i i0 i1 => s5 i i0 (by omega)
  have at' : ∀ i, 0 ≤ i → i < D 106 14 → rowAt (mk D) 100 i = D 116 i := fun i i0 i1 => by
    unfold rowAt; rw [e100, if_pos ⟨i0, i1⟩, ← s4]; rfl
  rw [r_15]
  show qE 15 4 [(3, 100), (1, P (D 116) 0), (9, 0), (0, 0)] [] (mk D) = _
  rw [it_up (fun i => qE 15 4 [(3, 100), (1, P (D 116) i), (9, 0), (0, i)] [] (mk D)) s2 (fun i i0 i1 => ?_)]
  · show qE 15 4 [(3, 100), (1, P (D 116) (D 106 14)), (9, 0), (0, D 106 14)] [] (mk D) = _
    rw [e_15_4, row_size hrow, e100]
    simp only [Option.bind_some, psh_0]
    rw [e_15_9, if_neg (by omega)]
  · show qE 15 4 [(3, 100), (1, P (D 116) i), (9, 0), (0, i)] [] (mk D) = qE 15 4 [(3, 100), (1, P (D 116) (i + 1)), (9, 0), (0, i + 1)] [] (mk D)
    have hki := s5 i i0 i1
    rw [e_15_4, row_size hrow, e100]
    simp only [Option.bind_some, psh_0]
    rw [e_15_9, if_pos i1, row_at hrow, at' i i0 i1]
    simp only [Option.bind_some, psh_0]
    rw [e_15_18, sp_14 _ (P_nn (sub i (by omega))) (P_lt12 (sub i (by omega)) (by omega)) (by omega) (by omega)]
    simp only [Option.bind_some, psh_1]
    rw [e_15_21, P_succ _ i0, w32_id (by omega) (by omega)]
