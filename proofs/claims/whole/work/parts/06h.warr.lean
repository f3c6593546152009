/-! the machine's instructions over a picture: arrays, new cells -/
def arrT (k : Int) : FieldType := if k = 1 then .int else if k = 2 then .long else if k = 3 then .object RX6 else if k = 4 then .object RX9 else if k = 5 then .array .int else .boolean
theorem tys_at (G : SG) {k : Int} (h : 1 ≤ k ∧ k ≤ 6) : (tysG G)[(k - 1).toNat]? = some (gA G k.toNat, arrT k) := by
  have : k = 1 ∨ k = 2 ∨ k = 3 ∨ k = 4 ∨ k = 5 ∨ k = 6 := by omega
  rcases this with rfl | rfl | rfl | rfl | rfl | rfl <;> rfl
section WArr
variable {G : SG} {y : Nat} {p : Program} {l : Launch} {e : Env} {R : Room} {s : State} {m : MethodId} {args : Array Value} {below : List Frame} {meth : Method} {c : Code} {Q : State → Prop} {H : Heap} {locs : List Loc} {cells slots : Nat} {A : Array Slot} {pc : Nat} {μ : Mem} {rest : List Value}
theorem arr_cell {q : Int} (hB : Base G s) (hI : Inv μ) (hP : Pic G μ H) (hq : 0 ≤ q) (hk : 1 ≤ μ (-q) 0 ∧ μ (-q) 0 ≤ 6) : ∃ cell : Cell, H[rho G q]? = some cell ∧ s.isArrayOf cell (arrT (μ (-q) 0)) ∧ cell.vm ≠ .unknown ∧ cell.slots.size = (μ (-q) 1).toNat ∧ ∀ j : Nat, j < (μ (-q) 1).toNat → cell.slots[j]? = some (rv G (aTag (μ (-q) 0), μ q j)) := by
  have h1 := kind_pos (q := q) hI hq (by omega)
  by_cases e1 : q = 1
  · subst e1
    rw [hI.2.2.1, rho_1]
    obtain ⟨g3, g4, g5⟩ := hP.2.1
    exact ⟨gS G, g3, hB.2.2.2.1, hB.2.2.2.2, g4, fun j hj => g5 j hj⟩
  · have hc := (hP.2.2 q (by omega) h1.2).1 hk
    refine ⟨_, hc, ((hB.1.2 _ _ (tys_at G hk)).1 _ _), fun h => (by cases h), arrV_size _ _ _, fun j hj => arrV_read _ _ hj⟩
theorem ix_in {i : Int} {n : Nat} (hi : in32 i) (h0 : 0 ≤ i) (hn : i.toNat < n) : ¬ (Int32.ofInt i < 0 ∨ n ≤ (Int32.ofInt i).toNatClampNeg) := by
  rw [i32_clamp hi]
  rintro (h | h)
  · have := (i32_lt hi in32_0).mp h; omega
  · omega
theorem w_ald {a : Nat} {i q : Int} {ins : Instr} (C : Cx G y p s m args meth c) (hI : Inv μ) (hP : Pic G μ H) (hd : decode (qCd y) pc = .ok (ins, 1)) (hins : (ins = .iaload ∧ a = 1) ∨ (ins = .laload ∧ a = 2) ∨ (ins = .baload ∧ a = 6) ∨ (ins = .aaload ∧ a = 3)) (hq : 0 ≤ q) (hi : in32 i) (hk : aKind a (μ (-q) 0) = true) (h0 : 0 ≤ i) (hn : i < μ (-q) 1)
    (kk : W p l e R s m args below meth c H locs cells slots Q (F0 m (pc + 1) A (rv G (aTag (μ (-q) 0), μ q i) :: rest))) : W p l e R s m args below meth c H locs cells slots Q (F0 m pc A (rv G (0, i) :: rv G (3, q) :: rest)) := by
  obtain ⟨hx, hb, hml, hown, hts, hB, -⟩ := C
  have hkk := aKind_in hk
  have hq1 := kind_pos (q := q) hI hq (by omega)
  obtain ⟨cell, c1, c2, c3, c4, c5⟩ := arr_cell hB hI hP hq hkk
  have hv := c5 i.toNat (by omega)
  rw [show ((i.toNat : Nat) : Int) = i by omega] at hv
  rw [rv_3 G hq1.1, rv_0]
  have hin : ¬ (Int32.ofInt i < 0 ∨ cell.slots.size ≤ (Int32.ofInt i).toNatClampNeg) := by rw [c4]; exact ix_in hi h0 (by omega)
  have hv : cell.slots[(Int32.ofInt i).toNatClampNeg]? = some (rv G (aTag (μ (-q) 0), μ q i)) := by rw [i32_clamp hi]; exact hv
  rcases hins with ⟨rfl, rfl⟩ | ⟨rfl, rfl⟩ | ⟨rfl, rfl⟩ | ⟨rfl, rfl⟩
  · have e1 : μ (-q) 0 = 1 := of_decide_eq_true hk
    rw [e1] at c2 hv kk
    exact W.iald hx hb c1 c2 c3 hin hv rfl rfl hd kk
  · have e1 : μ (-q) 0 = 2 := of_decide_eq_true hk
    rw [e1] at c2 hv kk
    exact W.lald hx hb c1 c2 c3 hin hv rfl rfl hd kk
  · have e1 : μ (-q) 0 = 6 := of_decide_eq_true hk
    rw [e1] at c2 hv kk
    exact W.zald hx hb c1 c2 c3 hin hv rfl rfl hd kk
  · have e1 : μ (-q) 0 = 3 ∨ μ (-q) 0 = 4 ∨ μ (-q) 0 = 5 := of_decide_eq_true hk
    have hr : (arrT (μ (-q) 0)).isReference = true := by rcases e1 with e | e | e <;> rw [e] <;> rfl
    exact W.aald hx hb c1 c2 hr c3 hin hv rfl rfl hd kk
theorem w_len {q : Int} (C : Cx G y p s m args meth c) (hI : Inv μ) (hP : Pic G μ H) (hd : decode (qCd y) pc = .ok (.arraylength, 1)) (hq : 0 ≤ q) (hk : 1 ≤ μ (-q) 0 ∧ μ (-q) 0 ≤ 6)
    (kk : W p l e R s m args below meth c H locs cells slots Q (F0 m (pc + 1) A (rv G (0, μ (-q) 1) :: rest))) : W p l e R s m args below meth c H locs cells slots Q (F0 m pc A (rv G (3, q) :: rest)) := by
  obtain ⟨hx, hb, hml, hown, hts, hB, -⟩ := C
  have hq1 := kind_pos (q := q) hI hq (by omega)
  obtain ⟨cell, c1, c2, c3, c4, c5⟩ := arr_cell hB hI hP hq hk
  have hl := ((hI.2.2.2 q hq1.1).1 hk).1
  rw [rv_3 G hq1.1]
  refine W.alen (n := Int32.ofInt (μ (-q) 1)) hx hb c1 c2 ?_ rfl rfl hd kk
  rw [c4]
  show Int32.ofNat _ = _
  rw [← Int32.ofInt_eq_ofNat]
  congr 1
  omega
theorem w_ast {a : Nat} {i q : Int} {v : PV} {ins : Instr} (C : Cx G y p s m args meth c) (hI : Inv μ) (hP : Pic G μ H) (hL : ∀ a ∈ locs, gN G ≤ a.base) (hd : decode (qCd y) pc = .ok (ins, 1)) (hins : (ins = .iastore ∧ a = 1) ∨ (ins = .lastore ∧ a = 2) ∨ (ins = .bastore ∧ a = 6) ∨ (ins = .aastore ∧ a = 3)) (hq : 0 ≤ q) (hi : in32 i) (hv0 : okS v) (hq1 : q ≠ 1) (hk : aPut μ a (μ (-q) 0) v = true) (h0 : 0 ≤ i) (hn : i < μ (-q) 1)
    (kk : ∀ (H1 : Heap) (locs1 : List Loc), Pic G (mU μ q i v.2) H1 → (∀ a ∈ locs1, gN G ≤ a.base) → W p l e R s m args below meth c H1 locs1 cells slots Q (F0 m (pc + 1) A rest)) : W p l e R s m args below meth c H locs cells slots Q (F0 m pc A (rv G v :: rv G (0, i) :: rv G (3, q) :: rest)) := by
  obtain ⟨hx, hb, hml, hown, hts, hB, -⟩ := C
  obtain ⟨hkk, hvt⟩ := aPut_in hk
  have hqp := kind_pos (q := q) hI hq (by omega)
  have h2 : 2 ≤ q := by omega
  have c1 := (hP.2.2 q h2 hqp.2).1 hkk
  have c2 := ((hB.1.2 _ _ (tys_at G hkk)).1 (μ (-q) 1).toNat (fun j : Nat => rv G (aTag (μ (-q) 0), μ q j)))
  rw [rv_3 G hqp.1, rv_0]
  have hin : ¬ (Int32.ofInt i < 0 ∨ (arrV (gA G (μ (-q) 0).toNat) (μ (-q) 1).toNat (fun j : Nat => rv G (aTag (μ (-q) 0), μ q j))).slots.size ≤ (Int32.ofInt i).toNatClampNeg) := by rw [arrV_size]; exact ix_in hi h0 (by omega)
  have hrv : rv G v = rv G (aTag (μ (-q) 0), v.2) := by rw [← hvt]
  have goal : ∀ H' : Heap, H'[rho G q]? = some ((arrV (gA G (μ (-q) 0).toNat) (μ (-q) 1).toNat (fun j : Nat => rv G (aTag (μ (-q) 0), μ q j))).setSlot (Int32.ofInt i).toNatClampNeg (rv G v)) → H'.size = H.size → (∀ a, a ≠ rho G q → H'[a]? = H[a]?) → Pic G (mU μ q i v.2) H' := fun H' e1 e2 e3 => hP.putA h2 hqp.2 hkk h0 (by rw [← hrv, ← i32_clamp hi]; exact e1) e2 e3
  have hL1 : ∀ a ∈ locs ++ [(⟨rho G q, (Int32.ofInt i).toNatClampNeg⟩ : Loc)], gN G ≤ a.base := fun a ha => by
    rcases List.mem_append.mp ha with h | h
    · exact hL a h
    · rw [List.mem_singleton.mp h]
      show gN G ≤ rho G q
      rw [rho_2 G h2]; omega
  obtain ⟨t, x⟩ := v
  rcases hins with ⟨rfl, rfl⟩ | ⟨rfl, rfl⟩ | ⟨rfl, rfl⟩ | ⟨rfl, rfl⟩
  · simp only [aPut, Bool.and_eq_true, decide_eq_true_eq, beq_iff_eq] at hk
    obtain ⟨e1, rfl⟩ := hk
    rw [e1] at c2
    exact W.iast hx hb c1 (by rw [e1]; exact c2) (fun h => by cases h) hin rfl rfl hd fun H' a1 a2 a3 => kk H' _ (goal H' a1 a2 a3) hL1
  · simp only [aPut, Bool.and_eq_true, decide_eq_true_eq, beq_iff_eq] at hk
    obtain ⟨e1, rfl⟩ := hk
    rw [e1] at c2
    exact W.last hx hb c1 (by rw [e1]; exact c2) (fun h => by cases h) hin rfl rfl hd fun H' a1 a2 a3 => kk H' _ (goal H' a1 a2 a3) hL1
  · simp only [aPut, Bool.and_eq_true, Bool.or_eq_true, decide_eq_true_eq, beq_iff_eq] at hk
    obtain ⟨⟨e1, rfl⟩, hx01⟩ := hk
    rw [e1] at c2
    have hnar : narrow .boolean (.int (Int32.ofInt x)) = rv G (0, x) := by rcases hx01 with rfl | rfl <;> rfl
    exact W.zast hx hb c1 (by rw [e1]; exact c2) (fun h => by cases h) hin rfl rfl hd fun H' a1 a2 a3 => kk H' _ (goal H' (by rw [← hnar]; exact a1) a2 a3) hL1
  · simp only [aPut, Bool.and_eq_true, Bool.or_eq_true, decide_eq_true_eq, beq_iff_eq] at hk
    obtain ⟨rfl, hkx⟩ := hk
    have key : ∀ (k : Int) (ci : Nat) (rr : vw_C), 1 ≤ k ∧ k ≤ 6 → arrT k = .object rr.1 → vwCl[ci]? = some rr → μ (-q) 0 = k → μ (-x) 0 = 10 + (ci : Int) → W p l e R s m args below meth c H locs cells slots Q (F0 m pc A (rv G (3, x) :: .int (Int32.ofInt i) :: .ref (rho G q) :: rest)) := by
      intro k ci rr hkr hT hc ek ex
      obtain ⟨x2, hxn⟩ := obj_2 (q := x) hI hv0.2 ex
      obtain ⟨cellV, g1, g2, g3, -⟩ := (hP.2.2 x x2 hxn).2 ci ex
      have hcls := (hB.1.1 ci rr hc).2
      have hRA := (hB.1.2 _ _ (tys_at G hkr)).2
      rw [hT] at hRA
      obtain ⟨kA, comp, k1, k2, k3, -⟩ := hRA
      have hcomp : comp = (gV G).1 ci := Option.some.inj (k3.symm.trans hcls.1)
      subst hcomp
      obtain ⟨kC, hkC, -⟩ := hcls.2
      rw [rv_3 G (by omega)]
      refine W.aast hx hb c1 (fun q h => by cases h) (fun h => by cases h) (by rw [ek]; exact k1) k2 rfl hkC ⟨fun h => hin (Or.inl h), Nat.not_le.mp fun h => hin (Or.inr h)⟩ g1 (fun q h => by rw [g3] at h; cases h) (by rw [g2]; exact hkC) (by rw [g2]; exact va_assign hcls) rfl rfl hd fun H' a1 a2 a3 => kk H' _ (goal H' (by rw [rv_3 G (by omega)]; exact a1) a2 a3) hL1
    rcases hkx with ⟨e1, e2⟩ | ⟨e1, e2⟩
    · exact key 3 5 _ (by decide) rfl rfl e1 e2
    · exact key 4 8 _ (by decide) rfl rfl e1 e2
theorem arr_word {k : Nat} (hk : k = 1 ∨ k = 2 ∨ k = 6) : Cond.arrayClass (arrT k) ∈ lw_g := by
  have key : (Cond.arrayClass .int ∈ lw_tbl ∧ Cond.arrayClass .long ∈ lw_tbl) ∧ Cond.arrayClass .boolean ∈ lw_tbl := by decide +kernel
  rcases hk with rfl | rfl | rfl
  · exact lw_gi key.1.1 rfl
  · exact lw_gi key.1.2 rfl
  · exact lw_gi key.2 rfl
theorem w_newa {a : Nat} {n : Int} {t : ArrayType} (C : Cx G y p s m args meth c) (hI : Inv μ) (hP : Pic G μ H) (hd : decode (qCd y) pc = .ok (.newarray t, 2)) (ha : (t = .int ∧ a = 1) ∨ (t = .long ∧ a = 2) ∨ (t = .boolean ∧ a = 6)) (hn : in32 n) (h0 : 0 ≤ n) (h1 : n ≤ 10000) (hc : cells + 1 ≤ R.cells) (hs : slots + n.toNat ≤ R.slots)
    (kk : ∀ H1 : Heap, Pic G (mNew μ a n) H1 → W p l e R s m args below meth c H1 locs (cells + 1) (slots + n.toNat) Q (F0 m (pc + 2) A (rv G (3, μ 0 2) :: rest))) : W p l e R s m args below meth c H locs cells slots Q (F0 m pc A (rv G (0, n) :: rest)) := by
  obtain ⟨hx, hb, hml, hown, hts, hB, -⟩ := C
  have hsz := hP.size hI
  have h2 := hI.1.1
  rw [rv_3 G (by omega)] at kk
  have go : ∀ (ty : FieldType) (k : Nat), newarray.typeOf t = ty → (1 ≤ (k : Int) ∧ (k : Int) ≤ 6) → arrT k = ty → (ty = .int ∨ ty = .long ∨ ty = .boolean) → k = a → Cond.arrayClass ty ∈ lw_g → defaultValue ty = rv G (aTag k, 0) → W p l e R s m args below meth c H locs cells slots Q (F0 m pc A (rv G (0, n) :: rest)) := by
    intro ty k hty hk hT h3 hka hw hdv
    subst hty
    refine va_newaK hx hb (hts _ hw) rfl hd rfl (fun h => ?_) (i32_clamp hn) ?_ hc hs rfl fun H1 cA e1 z1 o1 hAr hNm => ?_
    · have := (i32_lt hn in32_0).mp h; omega
    · have : componentBytes (newarray.typeOf t) ≤ 8 := by rcases h3 with e | e | e <;> rw [e] <;> decide
      calc n.toNat * componentBytes (newarray.typeOf t) ≤ 10000 * 8 := Nat.mul_le_mul (by omega) this
        _ ≤ 536870912 := by decide
    · rw [hsz]
      refine kk H1 (hP.newA hI (by rw [← hka]; exact hk) z1 o1 ?_)
      rw [e1, ← hka, hdv]
      have hRA := (hB.1.2 _ _ (tys_at G hk)).2
      rw [hT] at hRA
      have : s.vm.findClass ("[" ++ (newarray.typeOf t).toString) = some (gA G (k : Int).toNat) := by rcases h3 with e | e | e <;> rw [e] at hRA ⊢ <;> exact hRA
      rw [Option.some.inj (hNm.symm.trans this)]
  rcases ha with ⟨rfl, rfl⟩ | ⟨rfl, rfl⟩ | ⟨rfl, rfl⟩
  · exact go .int 1 rfl (by decide) rfl (Or.inl rfl) rfl (arr_word (Or.inl rfl)) rfl
  · exact go .long 2 rfl (by decide) rfl (Or.inr (Or.inl rfl)) rfl (arr_word (Or.inr (Or.inl rfl))) rfl
  · exact go .boolean 6 rfl (by decide) rfl (Or.inr (Or.inr rfl)) rfl (arr_word (Or.inr (Or.inr rfl))) rfl
theorem w_anew {a ix pos : Nat} {n : Int} (C : Cx G y p s m args meth c) (hI : Inv μ) (hP : Pic G μ H) (hd : decode (qCd y) pc = .ok (.anewarray ix, 3)) (ha : lkT (pANews.getD (qOw y) []) ix = some (a, pos)) (hn : in32 n) (h0 : 0 ≤ n) (h1 : n ≤ 10000) (hc : cells + 1 ≤ R.cells) (hs : slots + n.toNat ≤ R.slots)
    (kk : ∀ H1 : Heap, Pic G (mNew μ a n) H1 → W p l e R s m args below meth c H1 locs (cells + 1) (slots + n.toNat) Q (F0 m (pc + 3) A (rv G (3, μ 0 2) :: rest))) : W p l e R s m args below meth c H locs cells slots Q (F0 m pc A (rv G (0, n) :: rest)) := by
  obtain ⟨hx, hb, hml, hown, hts, hB, -⟩ := C
  have hsz := hP.size hI
  have h2 := hI.1.1
  rw [rv_3 G (by omega)] at kk
  have hw := tab_at pANews_ok rfl ha
  unfold pOKa at hw
  simp only [Bool.and_eq_true, decide_eq_true_eq] at hw
  obtain ⟨ha34, hw⟩ := hw
  have go : ∀ (k : Nat), k = a → (1 ≤ (k : Int) ∧ (k : Int) ≤ 6) → arrT k = .object (pAC k) → va_AO (pAC k) s → aTag k = 3 → W p l e R s m args below meth c H locs cells slots Q (F0 m pc A (rv G (0, n) :: rest)) := by
    intro k hka hk hT hAO htag
    subst hka
    refine W.anew hx hb hown (hts _ (lw_gm hw rfl)) hAO.use rfl hd rfl (fun h => ?_) ?_ hc ?_ ?_
    · have := (i32_lt hn in32_0).mp h; omega
    · rw [i32_clamp hn]; omega
    · rw [i32_clamp hn]; exact hs
    · intro cA kA comp e1 e2 e3 e4
      rw [i32_clamp hn, hsz]
      refine kk _ (hP.newA hI hk (by simp) (fun a ha => by rw [Array.getElem?_push, if_neg (Nat.ne_of_lt ha)]) ?_)
      have hRA := (hB.1.2 _ _ (tys_at G hk)).2
      rw [hT] at hRA
      obtain ⟨kA', comp', -, -, -, k4⟩ := hRA
      have k4 : s.vm.findClass ("[" ++ (FieldType.object (pAC k)).toString) = some (gA G (k : Int).toNat) := k4
      rw [← Option.some.inj (e1.symm.trans k4), htag, ← arrV_new]
      simp
      exact Or.inr rfl
  rcases ha34 with rfl | rfl
  · exact go 3 rfl (by decide) rfl hB.2.2.1.1 rfl
  · exact go 4 rfl (by decide) rfl hB.2.2.1.2.1 rfl
theorem w_new {ci ix pos : Nat} (C : Cx G y p s m args meth c) (hI : Inv μ) (hP : Pic G μ H) (hd : decode (qCd y) pc = .ok (.new ix, 3)) (ha : lkT (pNews.getD (qOw y) []) ix = some (ci, pos)) (hc : cells + 1 ≤ R.cells) (hs : slots + nF ci ≤ R.slots)
    (kk : ∀ H1 : Heap, Pic G (mNew μ (10 + (ci : Int)) (nF ci)) H1 → W p l e R s m args below meth c H1 locs (cells + 1) (slots + nF ci) Q (F0 m (pc + 3) A (rv G (3, μ 0 2) :: rest))) : W p l e R s m args below meth c H locs cells slots Q (F0 m pc A rest) := by
  obtain ⟨hx, hb, hml, hown, hts, hB, -⟩ := C
  have hsz := hP.size hI
  have h2 := hI.1.1
  rw [rv_3 G (by omega)] at kk
  have hw := tab_at pNews_ok rfl ha
  unfold pOKn at hw
  dsimp only at hw
  cases hr : vwCl[ci]? with
  | none => rw [hr] at hw; cases hw
  | some r =>
    rw [hr] at hw
    have hw := of_decide_eq_true hw
    have hn : nF ci = r.2.2 := by unfold nF; rw [hr]
    obtain ⟨hws, -, -, hins, hini⟩ := pCok_at hr
    have hws := u_good hws
    have hKn := hB.1.1 ci _ hr
    rw [hn] at hs kk
    refine W.newcK hx hb hown (hts _ (lw_gm hw rfl)) (hts _ (lw_gi hins rfl)) (hts _ (lw_gi hini rfl)) rfl hd hc hs hKn.2.1 rfl fun H1 kC hkC e1 z1 o1 => ?_
    rw [hsz]
    refine kk H1 (hP.new hI z1 o1 ?_)
    obtain ⟨m1, m2, m3⟩ := mNew_k (k := 10 + (ci : Int)) (n := (r.2.2 : Nat)) hI
    refine ⟨fun hh => ?_, fun cj hcj => ?_⟩
    · rw [m1] at hh; omega
    · rw [m1] at hcj
      have e4 : cj = ci := by omega
      subst e4
      rw [hn, ← hsz]
      refine (u_born (pTys.getD cj (fun _ => .int)) hts hws hKn hkC e1 (fun k hk => pTys_ok hr hk)).to (fun k hk => ?_)
      rw [m3]
      exact (rv_defF G _ (pTys_in hr hk)).symm
end WArr
