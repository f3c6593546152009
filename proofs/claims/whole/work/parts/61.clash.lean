/-! words with the same keys -/
def sg (D : Mem) (v w : Int) : Int := if (0 ≤ v ∧ v < D 106 6 ∧ D 112 v = 1) ∧ (0 ≤ w ∧ w < D 106 6 ∧ D 112 w = 1) ∧ P (gk D v) (D 109 v) = P (gk D w) (D 109 w) then 1 else 0
theorem sg_01 (D : Mem) (v w : Int) : 0 ≤ sg D v w ∧ sg D v w ≤ 1 := by unfold sg; split <;> omega
theorem sg_cg {D E : Mem} (h : ∀ y i, (107 ≤ y ∧ y ≤ 109) ∨ y = 112 ∨ (y = 106 ∧ i = 6) → E y i = D y i) (v w : Int) : sg E v w = sg D v w := by
  unfold sg
  rw [gk_cg (fun y i q => h y i (by omega)) v, gk_cg (fun y i q => h y i (by omega)) w, h 109 v (by omega), h 109 w (by omega), h 112 v (by omega), h 112 w (by omega), h 106 6 (by omega)]
theorem sg_no {D : Mem} {v w : Int} (h : ¬ (thr D v ∧ thr D w)) : sg D v w = 0 := by
  unfold sg; rw [if_neg (fun q => h ⟨q.1, q.2.1⟩)]
theorem sg_yes {D : Mem} {v w : Int} (h1 : thr D v) (h2 : thr D w) : sg D v w = if P (gk D v) (D 109 v) = P (gk D w) (D 109 w) then 1 else 0 := by
  unfold sg
  by_cases c : P (gk D v) (D 109 v) = P (gk D w) (D 109 w)
  · rw [if_pos ⟨h1, h2, c⟩, if_pos c]
  · rw [if_neg (fun q => c q.2.2), if_neg c]
/-- how many words have word w's keys -/
def sh (D : Mem) (w : Int) : Int := S (fun v => sg D v w) (D 106 6)
def msS (D : Mem) : Nat → Int × Int
  | 0 => (-1, 0)
  | n + 1 => if sh D n ≤ (msS D n).2 then msS D n else ((n : Int), sh D n)
def msB (D : Mem) (i : Int) : Int := (msS D i.toNat).1
def msM (D : Mem) (i : Int) : Int := (msS D i.toNat).2
theorem ms_le {D : Mem} {i : Int} (h0 : 0 ≤ i) (h : sh D i ≤ msM D i) : msB D (i + 1) = msB D i ∧ msM D (i + 1) = msM D i := by
  unfold msB msM at *
  rw [show (i + 1).toNat = i.toNat + 1 by omega, msS, show ((i.toNat : Nat) : Int) = i by omega, if_pos h]
  exact ⟨rfl, rfl⟩
theorem ms_gt {D : Mem} {i : Int} (h0 : 0 ≤ i) (h : ¬ sh D i ≤ msM D i) : msB D (i + 1) = i ∧ msM D (i + 1) = sh D i := by
  unfold msB msM at *
  rw [show (i + 1).toNat = i.toNat + 1 by omega, msS, show ((i.toNat : Nat) : Int) = i by omega, if_neg h]
  exact ⟨rfl, rfl⟩
theorem sh_bd {D : Mem} (hn : 0 ≤ D 106 6) (w : Int) : 0 ≤ sh D w ∧ sh D w ≤ D 106 6 := S_01 hn (fun j _ _ => sg_01 D j w)
theorem ms_bd {D : Mem} (hn : 0 ≤ D 106 6) : ∀ i, 0 ≤ i → -1 ≤ msB D i ∧ (msB D i < i) ∧ 0 ≤ msM D i := by
  refine i_up (P := fun i => -1 ≤ msB D i ∧ (msB D i < i) ∧ 0 ≤ msM D i) ⟨Int.le_refl _, (by show (-1 : Int) < 0; decide), Int.le_refl _⟩ (fun i i0 ih => ?_)
  by_cases h : sh D i ≤ msM D i
  · obtain ⟨a, b⟩ := ms_le i0 h; rw [a, b]; omega
  · obtain ⟨a, b⟩ := ms_gt i0 h; rw [a, b]; have := sh_bd hn i; omega
theorem sh_cg {D E : Mem} (h : ∀ y i, (107 ≤ y ∧ y ≤ 109) ∨ y = 112 ∨ (y = 106 ∧ i = 6) → E y i = D y i) (w : Int) : sh E w = sh D w := by
  unfold sh
  rw [h 106 6 (by omega), show (fun v => sg E v w) = fun v => sg D v w from funext fun v => sg_cg h v w]
theorem msS_cg {D E : Mem} (h : ∀ y i, (107 ≤ y ∧ y ≤ 109) ∨ y = 112 ∨ (y = 106 ∧ i = 6) → E y i = D y i) : ∀ n, msS E n = msS D n
  | 0 => rfl
  | n + 1 => by rw [msS, msS, msS_cg h n, sh_cg h]
/-! by the system: the packed keys read -/
def rdK (D : Mem) : Prop := ∀ w, thr D w → D 32 w = P (gk D w) (D 109 w)
theorem sp_80 {D : Mem} {k : Int} (hW : RW D k) (hd : rdK D) (v w : Int) : qR 80 [(3, 31), (0, v), (0, w)] (mk D) = some ((0, sg D v w), mk D) := by
  have hn := hW.1
  by_cases h1 : thr D v
  · by_cases h2 : thr D w
    · have a := h1.1
      have b := h1.2.1
      have c := h2.1
      have d := h2.2.1
      rw [r_80, (sp_8 hW v).1 h1]
      simp only [Option.bind_some, psh_0]
      rw [e_80_8, if_neg (by decide), (sp_8 hW w).1 h2]
      simp only [Option.bind_some, psh_0]
      rw [e_80_19, if_neg (by decide), if_pos (by omega), if_pos (by omega), hd v h1, hd w h2, sg_yes h1 h2]
      by_cases q : P (gk D v) (D 109 v) = P (gk D w) (D 109 w)
      · rw [if_pos ((cmpL_eq _ _).2 q), if_pos q]
      · rw [if_neg (fun z => q ((cmpL_eq _ _).1 z)), if_neg q]
    · rw [r_80, (sp_8 hW v).1 h1, sg_no (fun q => h2 q.2)]
      simp only [Option.bind_some, psh_0]
      rw [e_80_8, if_neg (by decide), (sp_8 hW w).2 h2]
      simp only [Option.bind_some, psh_0]
      rw [e_80_19, if_pos rfl]
  · rw [r_80, (sp_8 hW v).2 h1, sg_no (fun q => h1 q.1)]
    simp only [Option.bind_some, psh_0]
    rw [e_80_8, if_pos rfl]
theorem sg_01' (D : Mem) (v w : Int) : sg D v w = 0 ∨ sg D v w = 1 := by have := sg_01 D v w; omega
theorem sp_79 {D : Mem} {k : Int} (hW : RW D k) (hd : rdK D) (w : Int) : qR 79 [(3, 31), (0, w)] (mk D) = some ((0, sh D w), mk D) := by
  have hn := hW.1
  have sb : ∀ i, 0 ≤ i → 0 ≤ S (fun v => sg D v w) i ∧ S (fun v => sg D v w) i ≤ i := fun i i0 => S_01 i0 (fun j _ _ => sg_01 D j w)
  rw [r_79]
  show qE 79 4 [(3, 31), (0, w), (0, S (fun v => sg D v w) 0), (0, 0)] [] (mk D) = _
  rw [it_up (fun i => qE 79 4 [(3, 31), (0, w), (0, S (fun v => sg D v w) i), (0, i)] [] (mk D)) hn.2.1 (fun i i0 i1 => ?_)]
  · show qE 79 4 [(3, 31), (0, w), (0, S (fun v => sg D v w) (D 106 6)), (0, D 106 6)] [] (mk D) = _
    rw [e_79_4, r_1]
    simp only [Option.bind_some, psh_0]
    rw [e_79_12, if_neg (by omega)]
    rfl
  · show qE 79 4 [(3, 31), (0, w), (0, S (fun v => sg D v w) i), (0, i)] [] (mk D) = qE 79 4 [(3, 31), (0, w), (0, S (fun v => sg D v w) (i + 1)), (0, i + 1)] [] (mk D)
    have := sb i i0
    rw [e_79_4, r_1]
    simp only [Option.bind_some, psh_0]
    rw [e_79_12, if_pos (by omega), sp_80 hW hd]
    simp only [Option.bind_some, psh_0]
    rw [e_79_21, w32_id (x := i + 1) (by omega) (by omega), w32_id (x := S (fun v => sg D v w) i + 1) (by omega) (by omega), S_succ _ i0]
    rcases sg_01' D i w with q | q
    · rw [if_pos q, q, Int.add_zero]
    · rw [if_neg (by omega), q]
theorem sh_no {D : Mem} {w : Int} (h : ¬ thr D w) : sh D w = 0 := S_zero fun j _ _ => sg_no fun q => h q.2
theorem sp_81 {D : Mem} {k : Int} (hW : RW D k) (hd : rdK D) : qR 81 [(3, 31)] (mk D) = some ((0, msB D (D 106 6)), mk D) := by
  have hn := hW.1
  obtain ⟨v4, e, -⟩ := it_inv (fun i (v : PV) => qE 81 6 [(3, 31), (0, msB D i), (0, msM D i), (0, i), v] [] (mk D)) (fun _ _ => True) hn.2.1 (fun i v i0 i1 _ => by
    refine ⟨(0, sh D i), ?_, trivial⟩
    show qE 81 6 [(3, 31), (0, msB D i), (0, msM D i), (0, i), v] [] (mk D) = qE 81 6 [(3, 31), (0, msB D (i + 1)), (0, msM D (i + 1)), (0, i + 1), (0, sh D i)] [] (mk D)
    have st : qE 81 6 [(3, 31), (0, msB D i), (0, msM D i), (0, i), v] [] (mk D) = qE 81 37 [(3, 31), (0, msB D i), (0, msM D i), (0, i), v] [(0, sh D i)] (mk D) := by
      rw [e_81_6, r_1]
      simp only [Option.bind_some, psh_0]
      rw [e_81_14, if_pos (by omega)]
      by_cases h : thr D i
      · rw [(sp_8 hW i).1 h]
        simp only [Option.bind_some, psh_0]
        rw [e_81_25, if_neg (by decide), sp_79 hW hd]
        simp only [Option.bind_some, psh_0]
        rw [e_81_33]
      · rw [(sp_8 hW i).2 h]
        simp only [Option.bind_some, psh_0]
        rw [e_81_25, if_pos rfl, sh_no h]
    rw [st, e_81_37, w32_id (by omega) (by omega)]
    by_cases h : sh D i ≤ msM D i
    · rw [if_pos h, (ms_le i0 h).1, (ms_le i0 h).2]
    · rw [if_neg h, (ms_gt i0 h).1, (ms_gt i0 h).2]) (s0 := (9, 0)) trivial
  rw [r_81]
  refine e.trans ?_
  show qE 81 6 [(3, 31), (0, msB D (D 106 6)), (0, msM D (D 106 6)), (0, D 106 6), v4] [] (mk D) = _
  rw [e_81_6, r_1]
  simp only [Option.bind_some, psh_0]
  rw [e_81_14, if_neg (by omega)]
/-- word number x, by numbers, of those with word w's keys: found from v on, a of them behind -/
def shAt (D : Mem) (w x : Int) : Nat → Int → Int → Int
  | 0, _, _ => -1
  | n + 1, v, a => if sg D v w = 0 then shAt D w x n (v + 1) a else if a = x then v else shAt D w x n (v + 1) (a + 1)
theorem sp_82 {D : Mem} {k : Int} (hW : RW D k) (hd : rdK D) (w x : Int) : qR 82 [(3, 31), (0, w), (0, x)] (mk D) = some ((0, shAt D w x (D 106 6).toNat 0 0), mk D) := by
  have hn := hW.1
  have main : ∀ (n : Nat) v a, 0 ≤ v → 0 ≤ a → a ≤ v → v + n = D 106 6 → qE 82 5 [(3, 31), (0, w), (0, x), (0, a), (0, v)] [] (mk D) = some ((0, shAt D w x n v a), mk D) := by
    intro n
    induction n with
    | zero =>
      intro v a v0 a0 av h
      rw [e_82_5, r_1]
      simp only [Option.bind_some, psh_0]
      rw [e_82_14, if_neg (by omega)]
      rfl
    | succ n ih =>
      intro v a v0 a0 av h
      rw [e_82_5, r_1]
      simp only [Option.bind_some, psh_0]
      rw [e_82_14, if_pos (by omega), sp_80 hW hd]
      simp only [Option.bind_some, psh_0]
      rw [e_82_24, w32_id (x := v + 1) (by omega) (by omega), w32_id (x := a + 1) (by omega) (by omega), shAt]
      by_cases q : sg D v w = 0
      · rw [if_pos q, if_pos q, ih (v + 1) a (by omega) a0 (by omega) (by omega)]
      · rw [if_neg q, if_neg q]
        by_cases r : a = x
        · rw [if_pos r, if_pos r]
        · rw [if_neg r, if_neg r, ih (v + 1) (a + 1) (by omega) (by omega) (by omega) (by omega)]
  rw [r_82]
  exact main (D 106 6).toNat 0 0 (by omega) (by omega) (by omega) (by omega)
theorem sp_83 {D : Mem} {k : Int} (hW : RW D k) (hd : rdK D) : qR 83 [(3, 31)] (mk D) = some ((0, S (fun w => S (fun v => sg D v w) w) (D 106 6)), mk D) := by
  have hn := hW.1
  have sb : ∀ w i, 0 ≤ i → 0 ≤ S (fun v => sg D v w) i ∧ S (fun v => sg D v w) i ≤ i := fun w i i0 => S_01 i0 (fun j _ _ => sg_01 D j w)
  have sbb : ∀ i, 0 ≤ i → i ≤ 80 → 0 ≤ S (fun w => S (fun v => sg D v w) w) i ∧ S (fun w => S (fun v => sg D v w) w) i ≤ 80 * i := fun i i0 i1 => by
    have := S_bd (f := fun w => S (fun v => sg D v w) w) (n := i) (a := 0) (b := 80) i0 (fun j j0 j1 => by have := sb j j j0; constructor <;> omega)
    omega
  obtain ⟨v3, e, -⟩ := it_inv (fun i (v : PV) => qE 83 4 [(3, 31), (0, S (fun w => S (fun v => sg D v w) w) i), (0, i), v] [] (mk D)) (fun _ _ => True) hn.2.1 (fun i v i0 i1 _ => by
    refine ⟨(0, i), ?_, trivial⟩
    show qE 83 4 [(3, 31), (0, S (fun w => S (fun v => sg D v w) w) i), (0, i), v] [] (mk D) = qE 83 4 [(3, 31), (0, S (fun w => S (fun v => sg D v w) w) (i + 1)), (0, i + 1), (0, i)] [] (mk D)
    have b1 := sbb i i0 (by omega)
    rw [e_83_4, r_1]
    simp only [Option.bind_some, psh_0]
    rw [e_83_12, if_pos (by omega), S_succ _ i0]
    have st : qE 83 17 [(3, 31), (0, S (fun w => S (fun v => sg D v w) w) i), (0, i), (0, 0)] [] (mk D) = qE 83 17 [(3, 31), (0, S (fun w => S (fun v => sg D v w) w) i + S (fun v => sg D v i) 0), (0, i), (0, 0)] [] (mk D) := by rw [S_0, Int.add_zero]
    rw [st, it_up (fun j => qE 83 17 [(3, 31), (0, S (fun w => S (fun v => sg D v w) w) i + S (fun v => sg D v i) j), (0, i), (0, j)] [] (mk D)) i0 (fun j j0 j1 => ?_)]
    · show qE 83 17 [(3, 31), (0, S (fun w => S (fun v => sg D v w) w) i + S (fun v => sg D v i) i), (0, i), (0, i)] [] (mk D) = _
      rw [e_83_17, if_neg (by omega), w32_id (by omega) (by omega)]
    · show qE 83 17 [(3, 31), (0, S (fun w => S (fun v => sg D v w) w) i + S (fun v => sg D v i) j), (0, i), (0, j)] [] (mk D) = qE 83 17 [(3, 31), (0, S (fun w => S (fun v => sg D v w) w) i + S (fun v => sg D v i) (j + 1)), (0, i), (0, j + 1)] [] (mk D)
      have b2 := sb i j j0
      rw [e_83_17, if_pos j1, sp_80 hW hd]
      simp only [Option.bind_some, psh_0]
      rw [e_83_28, w32_id (x := j + 1) (by omega) (by omega), w32_id (x := S (fun w => S (fun v => sg D v w) w) i + S (fun v => sg D v i) j + 1) (by omega) (by omega), S_succ _ j0]
      rcases sg_01' D j i with q | q
      · rw [if_pos q, q, Int.add_zero]
      · rw [if_neg (by omega), q, Int.add_assoc]) (s0 := (9, 0)) trivial
  rw [r_83]
  refine e.trans ?_
  show qE 83 4 [(3, 31), (0, S (fun w => S (fun v => sg D v w) w) (D 106 6)), (0, D 106 6), v3] [] (mk D) = _
  rw [e_83_4, r_1]
  simp only [Option.bind_some, psh_0]
  rw [e_83_12, if_neg (by omega)]
/-! by the reference -/
def rsm (D E : Mem) : Prop := ∀ y i, ¬ (123 ≤ y ∧ y ≤ 124) → ¬ (y = 106 ∧ (i = 25 ∨ i = 27)) → E y i = D y i
theorem rsm_cg {D E : Mem} (h : rsm D E) : ∀ y i, (107 ≤ y ∧ y ≤ 109) ∨ y = 112 ∨ (y = 106 ∧ i = 6) → E y i = D y i := fun y i q => h y i (by omega) (by omega)
theorem rsm_rOK {D E : Mem} (h : rsm D E) (hR : rOK D) : rOK E := rOK_congr (fun y i q => h y i (by unfold supR at q; omega) (by unfold supR at q; omega)) hR
theorem sg_sym (D : Mem) (v w : Int) : sg D v w = sg D w v := by
  unfold sg
  by_cases c : (0 ≤ v ∧ v < D 106 6 ∧ D 112 v = 1) ∧ (0 ≤ w ∧ w < D 106 6 ∧ D 112 w = 1) ∧ P (gk D v) (D 109 v) = P (gk D w) (D 109 w)
  · rw [if_pos c, if_pos ⟨c.2.1, c.1, c.2.2.symm⟩]
  · rw [if_neg c, if_neg (fun q => c ⟨q.2.1, q.1, q.2.2.symm⟩)]
theorem sq_210 {D : Mem} {w v : Int} (hR : rOK D) (w0 : 0 ≤ w) (w1 : w < D 106 6) (v0 : 0 ≤ v) (v1 : v < D 106 6) : ∃ E, qR 210 [(3, 106), (0, w), (0, v)] (mk D) = some ((0, sg D v w), mk E) ∧ rsm D E := by
  have hn := hR.1
  obtain ⟨F, f1, f2, f3, f4⟩ := sq_171 hR w0 w1 1
  have rF : rsm D F := fun y i q1 q2 => f4 y i (by omega) (by omega) (by omega)
  have hRF := rsm_rOK rF hR
  have k1 : ∀ w, kf D w 1 = gk D w ∧ kn D w 1 = D 109 w := fun w => by unfold kf kn; rw [if_neg (by decide), if_neg (by decide)]; exact ⟨rfl, rfl⟩
  rw [(k1 w).2] at f2 f3
  rw [(k1 w).1] at f3
  have f112 : ∀ x, F 112 x = D 112 x := fun x => rF _ _ (by omega) (by omega)
  have f6 : F 106 6 = D 106 6 := rF _ _ (by omega) (by omega)
  have tw := (hR.2.1 w w0 w1).2.2.2
  have tv := (hR.2.1 v v0 v1).2.2.2
  rw [r_210, f1]
  simp only [Option.bind_some, psh_9]
  rw [e_210_6, if_pos (by omega), f112, f112]
  rcases tw with tw | tw
  · refine ⟨F, ?_, rF⟩
    rw [if_pos tw, sg_no (fun q => by have := q.2.2.2; omega)]
  · rw [if_neg (by omega), if_pos (by omega)]
    rcases tv with tv | tv
    · refine ⟨F, ?_, rF⟩
      rw [if_pos tv, sg_no (fun q => by have := q.1.2.2; omega)]
    · rw [if_neg (by omega)]
      obtain ⟨E, e1, e2, e3, e4⟩ := sq_169 hRF v0 (by omega) 1
      have kc := kf_cg (D := D) (E := F) (fun y i q => rF y i (by omega) (by omega)) v 1
      rw [kc.2, (k1 v).2] at e2 e3
      rw [kc.1, (k1 v).1] at e3
      have rE : rsm D E := fun y i q1 q2 => by rw [e4 y i (by omega) (by omega)]; exact rF y i q1 q2
      refine ⟨E, ?_, rE⟩
      have gv := gk_ok hR v0 v1
      have gw := gk_ok hR w0 w1
      have lv := (hR.2.1 v v0 v1).1
      have lw := (hR.2.1 w w0 w1).1
      have E27 : E 106 27 = D 109 w := by rw [e4 _ _ (by decide) (by omega)]; exact f2
      have E124 : ∀ i, 0 ≤ i → i < D 109 w → E 124 i = gk D w i := fun i i0 i1 => by rw [e4 _ _ (by decide) (by omega)]; exact f3 i i0 i1
      rw [r_173, if_neg (by decide), e1]
      simp only [Option.bind_some, psh_9]
      rw [e_173_15, if_neg (by decide), E27, e2, sg_yes ⟨v0, v1, tv⟩ ⟨w0, w1, tw⟩]
      by_cases c : D 109 w = D 109 v
      · rw [if_pos c]
        have lk := sq_172 E (a := 0) (b := 0) (n := D 109 w) (by omega) (by omega) (by omega) (by omega) (by omega) (by omega)
        by_cases h : ∀ t, 0 ≤ t → t < D 109 w → E 124 (0 + t) = E 123 (0 + t)
        · have pe : P (gk D v) (D 109 v) = P (gk D w) (D 109 w) := by
            rw [← c]
            exact P_congr fun i i0 i1 => by
              have := h i i0 i1
              rw [Int.zero_add, E124 i i0 i1, e3 i i0 (by omega)] at this
              exact this.symm
          rw [lk.1 h, if_pos pe]
          simp only [Option.bind_some, psh_0]
          rw [e_173_78, if_neg (by decide)]
          simp only [Option.bind_some, psh_0]
          rw [e_210_30, if_neg (by decide)]
        · have pe : ¬ P (gk D v) (D 109 v) = P (gk D w) (D 109 w) := fun q => h fun i i0 i1 => by
            have := (P_inj gv gw (by omega) (by omega) q).2 i i0 (by omega)
            rw [Int.zero_add, E124 i i0 i1, e3 i i0 (by omega), this]
          rw [lk.2 h, if_neg pe]
          simp only [Option.bind_some, psh_0]
          rw [e_173_78, if_pos rfl]
          simp only [Option.bind_some, psh_0]
          rw [e_210_30, if_pos rfl]
      · have pe : ¬ P (gk D v) (D 109 v) = P (gk D w) (D 109 w) := fun q => c (P_inj gv gw (by omega) (by omega) q).1.symm
        rw [if_neg c, if_neg pe]
        simp only [Option.bind_some, psh_0]
        rw [e_210_30, if_pos rfl]
theorem sq_211 {D : Mem} {w : Int} (hR : rOK D) (w0 : 0 ≤ w) (w1 : w < D 106 6) : ∃ E, qR 211 [(3, 106), (0, w)] (mk D) = some ((0, sh D w), mk E) ∧ rsm D E := by
  have hn := hR.1
  have sb : ∀ i, 0 ≤ i → 0 ≤ S (fun v => sg D v w) i ∧ S (fun v => sg D v w) i ≤ i := fun i i0 => S_01 i0 (fun j _ _ => sg_01 D j w)
  obtain ⟨E, e, hE⟩ := it_inv (fun i (E : Mem) => qE 211 4 [(3, 106), (0, w), (0, S (fun v => sg D v w) i), (0, i)] [] (mk E)) (fun _ E => rsm D E) hn.1 (fun i E i0 i1 hE => by
    obtain ⟨F, f1, f2⟩ := sq_210 (rsm_rOK hE hR) w0 (by rw [hE 106 6 (by omega) (by omega)]; exact w1) i0 (by rw [hE 106 6 (by omega) (by omega)]; exact i1)
    rw [sg_cg (rsm_cg hE)] at f1
    refine ⟨F, ?_, fun y j q1 q2 => by rw [f2 y j q1 q2]; exact hE y j q1 q2⟩
    show qE 211 4 [(3, 106), (0, w), (0, S (fun v => sg D v w) i), (0, i)] [] (mk E) = qE 211 4 [(3, 106), (0, w), (0, S (fun v => sg D v w) (i + 1)), (0, i + 1)] [] (mk F)
    have := sb i i0
    rw [e_211_4, hE 106 6 (by omega) (by omega), if_pos i1, f1]
    simp only [Option.bind_some, psh_0]
    rw [e_211_19, w32_id (x := i + 1) (by omega) (by omega), w32_id (x := S (fun v => sg D v w) i + 1) (by omega) (by omega), w32_id (x := S (fun v => sg D v w) i + 0) (by omega) (by omega), S_succ _ i0]
    rcases sg_01' D i w with q | q
    · rw [if_pos q, q]
    · rw [if_neg (by omega), q]) (s0 := D) (fun _ _ _ _ => rfl)
  refine ⟨E, ?_, hE⟩
  rw [r_211]
  refine e.trans ?_
  show qE 211 4 [(3, 106), (0, w), (0, S (fun v => sg D v w) (D 106 6)), (0, D 106 6)] [] (mk E) = _
  rw [e_211_4, hE 106 6 (by omega) (by omega), if_neg (by omega)]
  rfl
theorem sq_212 {D : Mem} (hR : rOK D) : ∃ E, qR 212 [(3, 106)] (mk D) = some ((0, msB D (D 106 6)), mk E) ∧ rsm D E := by
  have hn := hR.1
  obtain ⟨⟨E, v4⟩, e, hE⟩ := it_inv (fun i (s : Mem × PV) => qE 212 6 [(3, 106), (0, msB D i), (0, msM D i), (0, i), s.2] [] (mk s.1)) (fun _ s => rsm D s.1) hn.1 (fun i s i0 i1 hE => by
    obtain ⟨E, v⟩ := s
    replace hE : rsm D E := hE
    obtain ⟨F, f1, f2⟩ := sq_211 (rsm_rOK hE hR) i0 (by rw [hE 106 6 (by omega) (by omega)]; exact i1)
    rw [sh_cg (rsm_cg hE)] at f1
    refine ⟨(F, (0, sh D i)), ?_, fun y j q1 q2 => by show F y j = D y j; rw [f2 y j q1 q2]; exact hE y j q1 q2⟩
    show qE 212 6 [(3, 106), (0, msB D i), (0, msM D i), (0, i), v] [] (mk E) = qE 212 6 [(3, 106), (0, msB D (i + 1)), (0, msM D (i + 1)), (0, i + 1), (0, sh D i)] [] (mk F)
    rw [e_212_6, hE 106 6 (by omega) (by omega), if_pos i1, f1]
    simp only [Option.bind_some, psh_0]
    rw [e_212_19, w32_id (by omega) (by omega)]
    by_cases h : sh D i ≤ msM D i
    · rw [if_pos h, (ms_le i0 h).1, (ms_le i0 h).2]
    · rw [if_neg h, (ms_gt i0 h).1, (ms_gt i0 h).2]) (s0 := (D, (9, 0))) (fun _ _ _ _ => rfl)
  replace hE : rsm D E := hE
  refine ⟨E, ?_, hE⟩
  rw [r_212]
  refine e.trans ?_
  show qE 212 6 [(3, 106), (0, msB D (D 106 6)), (0, msM D (D 106 6)), (0, D 106 6), v4] [] (mk E) = _
  rw [e_212_6, hE 106 6 (by omega) (by omega), if_neg (by omega)]
theorem rsm_sim {D E : Mem} (h : rsm D E) : Sim D E := fun y i hs => h y i (by unfold scr at hs; omega) (by unfold scr at hs; omega)
theorem rd_of {D : Mem} {k : Int} (hR : Rel D k) (hk : k ≤ 1000) : ∃ E, qR 69 [(3, 31)] (mk D) = some ((9, 0), mk E) ∧ rdK E ∧ Sim D E ∧ ∀ y i, y ≠ 32 → y ≠ 33 → E y i = D y i := by
  obtain ⟨E, q1, q2, q3⟩ := sp_69 hR hk
  have sE : Sim D E := fun y i hs => q3 y i (by unfold scr at hs; omega) (by unfold scr at hs; omega)
  refine ⟨E, q1, fun w hw => ?_, sE, q3⟩
  rw [(q2 w ((thr_sim sE w).1 hw)).1, gk_cg (fun y i q => q3 y i (by omega) (by omega)) w, q3 109 w (by decide) (by decide)]
  unfold kf kn; rw [if_neg (by decide), if_neg (by decide)]
theorem ca_clash {D : Mem} {k : Int} (hR : Rel D k) (hk : k ≤ 1000) : CaseOK D k 127 213 [] := by
  obtain ⟨E, q1, q2, q3, q4⟩ := rd_of hR hk
  have hRE := Rel_sim hR q3
  have hn := hRE.2.1.1
  obtain ⟨F, f1, f2⟩ := sq_212 (rOK_of hRE hk)
  have c1 : qR 127 [(3, 2)] (mk D) = some ((0, sh E (msB E (E 106 6))), mk E) := by
    rw [r_127, q1]
    simp only [Option.bind_some, psh_9]
    rw [e_127_7, sp_81 hRE.2.1 q2]
    simp only [Option.bind_some, psh_0]
    rw [e_127_18, sp_79 hRE.2.1 q2]
    simp only [Option.bind_some, psh_0, e_127_21]
  have mb := ms_bd (D := E) hn.2.1 (E 106 6) hn.2.1
  by_cases c : msB E (E 106 6) < 0
  · have z : sh E (msB E (E 106 6)) = 0 := sh_no fun q => by have := q.1; omega
    refine case_sim (v := 0) (D1 := E) (D2 := F) hR (by rw [c1, z]) ?_ q3 (rsm_sim f2)
    rw [r_213, f1]
    simp only [Option.bind_some, psh_0]
    rw [e_213_4, if_pos c, e_213_18]
  · obtain ⟨G, g1, g2⟩ := sq_211 (w := msB E (E 106 6)) (rsm_rOK f2 (rOK_of hRE hk)) (by omega) (by rw [f2 106 6 (by omega) (by omega)]; omega)
    rw [sh_cg (rsm_cg f2)] at g1
    refine case_sim (v := sh E (msB E (E 106 6))) (D1 := E) (D2 := G) hR c1 ?_ q3 ((rsm_sim f2).trans (rsm_sim g2))
    rw [r_213, f1]
    simp only [Option.bind_some, psh_0]
    rw [e_213_4, if_neg c, g1]
    simp only [Option.bind_some, psh_0, e_213_18]
theorem ca_clashing {D : Mem} {k : Int} (hR : Rel D k) (hk : k ≤ 1000) (x : Int) (x0 : -2147483648 ≤ x) (x1 : x < 2147483648) : CaseOK D k 128 214 [(0, x)] := by
  obtain ⟨E, q1, q2, q3, q4⟩ := rd_of hR hk
  have hRE := Rel_sim hR q3
  have hn := hRE.2.1.1
  have rE := rOK_of hRE hk
  obtain ⟨F, f1, f2⟩ := sq_212 rE
  obtain ⟨w, hw⟩ : ∃ w, w = msB E (E 106 6) := ⟨_, rfl⟩
  have mb := ms_bd (D := E) hn.2.1 (E 106 6) hn.2.1
  rw [← hw] at f1 mb
  have c1 : qR 128 [(3, 2), (0, x)] (mk D) = some ((0, shAt E w x (E 106 6).toNat 0 0), mk E) := by
    rw [r_128, q1]
    simp only [Option.bind_some, psh_9]
    rw [e_128_7, sp_81 hRE.2.1 q2, ← hw]
    simp only [Option.bind_some, psh_0]
    rw [e_128_18, sp_82 hRE.2.1 q2]
    simp only [Option.bind_some, psh_0, e_128_22]
  have st : qR 214 [(3, 106), (0, x)] (mk E) = qE 214 10 [(3, 106), (0, x), (0, w), (0, w32 (x - 0)), (0, 0)] [] (mk F) := by
    rw [r_214, f1]
    simp only [Option.bind_some, psh_0]
    rw [e_214_4, Int.sub_zero, w32_id x0 x1]
  by_cases c : w < 0
  · have z : ∀ (n : Nat) v a, shAt E w x n v a = -1 := by
      intro n
      induction n with
      | zero => intro v a; rfl
      | succ n ih => intro v a; rw [shAt, if_pos (sg_no fun q => by have := q.2.1; omega), ih]
    refine case_sim (v := -1) (D1 := E) (D2 := F) hR (by rw [c1, z]) ?_ q3 (rsm_sim f2)
    rw [st, e_214_10]
    by_cases d : 0 < F 106 6
    · rw [if_pos d, if_pos c]
    · rw [if_neg d]
  · have main : ∀ (n : Nat) v a (F : Mem), rsm E F → 0 ≤ v → 0 ≤ a → a ≤ v → v + n = E 106 6 → ∃ G, qE 214 10 [(3, 106), (0, x), (0, w), (0, w32 (x - a)), (0, v)] [] (mk F) = some ((0, shAt E w x n v a), mk G) ∧ rsm E G := by
      intro n
      induction n with
      | zero =>
        intro v a F hF v0 a0 av h
        refine ⟨F, ?_, hF⟩
        rw [e_214_10, hF 106 6 (by omega) (by omega), if_neg (by omega)]
        rfl
      | succ n ih =>
        intro v a F hF v0 a0 av h
        have F6 := hF 106 6 (by omega) (by omega)
        obtain ⟨G, g1, g2⟩ := sq_210 (w := w) (v := v) (rsm_rOK hF rE) (by omega) (by omega) v0 (by omega)
        rw [sg_cg (rsm_cg hF)] at g1
        have hG : rsm E G := fun y j p1 p2 => by rw [g2 y j p1 p2]; exact hF y j p1 p2
        rw [e_214_10, F6, if_pos (by omega), if_neg c, g1]
        simp only [Option.bind_some, psh_0]
        rw [e_214_30, w32_id (x := v + 1) (by omega) (by omega), shAt]
        by_cases q : sg E v w = 0
        · rw [if_pos q, if_pos q]
          exact ih (v + 1) a G hG (by omega) a0 (by omega) (by omega)
        · rw [if_neg q, if_neg q]
          by_cases r : a = x
          · refine ⟨G, ?_, hG⟩
            rw [if_pos r, if_pos (by rw [r, Int.sub_self]; rfl)]
          · have nz : ¬ w32 (x - a) = 0 := by unfold w32; omega
            have nx : w32 (w32 (x - a) + -1) = w32 (x - (a + 1)) := by unfold w32; omega
            rw [if_neg r, if_neg nz, nx]
            exact ih (v + 1) (a + 1) G hG (by omega) (by omega) (by omega) (by omega)
    obtain ⟨G, g1, g2⟩ := main (E 106 6).toNat 0 0 F f2 (by omega) (by omega) (by omega) (by omega)
    exact case_sim (v := shAt E w x (E 106 6).toNat 0 0) (D1 := E) (D2 := G) hR c1 (by rw [st, g1]) q3 (rsm_sim g2)
theorem ca_clashes {D : Mem} {k : Int} (hR : Rel D k) (hk : k ≤ 1000) : CaseOK D k 129 215 [] := by
  obtain ⟨E, q1, q2, q3, q4⟩ := rd_of hR hk
  have hRE := Rel_sim hR q3
  have hn := hRE.2.1.1
  have rE := rOK_of hRE hk
  have sb : ∀ w i, 0 ≤ i → 0 ≤ S (fun v => sg E v w) i ∧ S (fun v => sg E v w) i ≤ i := fun w i i0 => S_01 i0 (fun j _ _ => sg_01 E j w)
  have sbb : ∀ i, 0 ≤ i → i ≤ 80 → 0 ≤ S (fun w => S (fun v => sg E v w) w) i ∧ S (fun w => S (fun v => sg E v w) w) i ≤ 80 * i := fun i i0 i1 => by
    have := S_bd (f := fun w => S (fun v => sg E v w) w) (n := i) (a := 0) (b := 80) i0 (fun j j0 j1 => by have := sb j j j0; constructor <;> omega)
    omega
  obtain ⟨⟨G, v3⟩, e, hG⟩ := it_inv (fun i (s : Mem × PV) => qE 215 4 [(3, 106), (0, S (fun w => S (fun v => sg E v w) w) i), (0, i), s.2] [] (mk s.1)) (fun _ s => rsm E s.1) hn.2.1 (fun i s i0 i1 hF => by
    obtain ⟨F, v⟩ := s
    replace hF : rsm E F := hF
    have b1 := sbb i i0 (by omega)
    have F6 := hF 106 6 (by omega) (by omega)
    obtain ⟨H, h1, h2⟩ := it_inv (fun j (M : Mem) => qE 215 14 [(3, 106), (0, S (fun w => S (fun v => sg E v w) w) i + S (fun v => sg E v i) j), (0, i), (0, j)] [] (mk M)) (fun _ M => rsm E M) i0 (fun j M j0 j1 hM => by
      have M6 := hM 106 6 (by omega) (by omega)
      obtain ⟨N, n1, n2⟩ := sq_210 (w := i) (v := j) (rsm_rOK hM rE) i0 (by omega) j0 (by omega)
      rw [sg_cg (rsm_cg hM)] at n1
      refine ⟨N, ?_, fun y j p1 p2 => by rw [n2 y j p1 p2]; exact hM y j p1 p2⟩
      show qE 215 14 [(3, 106), (0, S (fun w => S (fun v => sg E v w) w) i + S (fun v => sg E v i) j), (0, i), (0, j)] [] (mk M) = qE 215 14 [(3, 106), (0, S (fun w => S (fun v => sg E v w) w) i + S (fun v => sg E v i) (j + 1)), (0, i), (0, j + 1)] [] (mk N)
      have b2 := sb i j j0
      rw [e_215_14, if_pos j1, n1]
      simp only [Option.bind_some, psh_0]
      rw [e_215_26, w32_id (x := j + 1) (by omega) (by omega), w32_id (x := S (fun w => S (fun v => sg E v w) w) i + S (fun v => sg E v i) j + 1) (by omega) (by omega), w32_id (x := S (fun w => S (fun v => sg E v w) w) i + S (fun v => sg E v i) j + 0) (by omega) (by omega), S_succ _ j0]
      rcases sg_01' E j i with q | q
      · rw [if_pos q, q, Int.add_assoc]
      · rw [if_neg (by omega), q, Int.add_assoc]) (s0 := F) hF
    refine ⟨(H, (0, i)), ?_, h2⟩
    show qE 215 4 [(3, 106), (0, S (fun w => S (fun v => sg E v w) w) i), (0, i), v] [] (mk F) = qE 215 4 [(3, 106), (0, S (fun w => S (fun v => sg E v w) w) (i + 1)), (0, i + 1), (0, i)] [] (mk H)
    have h1' : qE 215 14 [(3, 106), (0, S (fun w => S (fun v => sg E v w) w) i), (0, i), (0, 0)] [] (mk F) = qE 215 14 [(3, 106), (0, S (fun w => S (fun v => sg E v w) w) i + S (fun v => sg E v i) i), (0, i), (0, i)] [] (mk H) := by
      have := h1
      rw [S_0, Int.add_zero] at this
      exact this
    rw [e_215_4, F6, if_pos i1, h1', e_215_14, if_neg (by omega), w32_id (by omega) (by omega), S_succ _ i0]) (s0 := (E, (9, 0))) (fun _ _ _ _ => rfl)
  replace hG : rsm E G := hG
  refine case_sim (v := S (fun w => S (fun v => sg E v w) w) (E 106 6)) (D1 := E) (D2 := G) hR ?_ ?_ q3 (rsm_sim hG)
  · rw [r_129, q1]
    simp only [Option.bind_some, psh_9]
    rw [e_129_7, sp_83 hRE.2.1 q2]
    simp only [Option.bind_some, psh_0, e_129_14]
  · rw [r_215]
    refine e.trans ?_
    show qE 215 4 [(3, 106), (0, S (fun w => S (fun v => sg E v w) w) (E 106 6)), (0, E 106 6), v3] [] (mk G) = _
    rw [e_215_4, hG 106 6 (by omega) (by omega), if_neg (by omega)]
