/-! one instruction: the machine does what the pure machine does -/
def Ctx (G : SG) (n y : Nat) (ls st : List PV) (μ : Mem) (r : PV × Mem) (p : Program) (l : Launch) (e : Env) (R : Room) (s : State) (m : MethodId) (args : Array Value) (below : List Frame) (meth : Method) (c : Code) (Q : State → Prop) (H : Heap) (locs : List Loc) (cells slots cE sE : Nat) (A : Array Slot) : Prop :=
  SimP G n ∧ Inv μ ∧ okLs ls ∧ okSt st ∧ Cx G y p s m args meth c ∧ RetOK G y p l e R s m args below meth c Q r cE sE ∧ Pic G μ H ∧ (∀ a ∈ locs, gN G ≤ a.base) ∧ pLS G ls A ∧ ls.length = qML y ∧ (qDp y ≤ R.frames ∧ 40 * qDp y ≤ R.locals) ∧ cE = cells + (r.2 0 2 - μ 0 2).toNat ∧ sE = slots + (r.2 0 3 - μ 0 3).toNat ∧ cE ≤ R.cells ∧ sE ≤ R.slots
section SimI
variable {G : SG} {n y pc : Nat} {ls st : List PV} {μ : Mem} {r : PV × Mem} {p : Program} {l : Launch} {e : Env} {R : Room} {s : State} {m : MethodId} {args : Array Value} {below : List Frame} {meth : Method} {c : Code} {Q : State → Prop} {H : Heap} {locs : List Loc} {cells slots cE sE : Nat} {A : Array Slot}
theorem Ctx.go (X : Ctx G n y ls st μ r p l e R s m args below meth c Q H locs cells slots cE sE A) {pc' : Nat} {ls' st' : List PV} {A' : Array Slot} (h : qX n y pc' ls' st' μ = some r) (hl : okLs ls') (hs : okSt st') (hA : pLS G ls' A') (hn : ls'.length = ls.length) : W p l e R s m args below meth c H locs cells slots Q (F0 m pc' A' (st'.map (rv G))) := by
  obtain ⟨ih, hI, h1, h2, hC, hR, hP, hL, hA0, hlen, hrm, e1, e2, e3, e4⟩ := X
  exact ih y pc' ls' st' μ r h hI hl hs p l e R s m args below meth c Q H locs cells slots cE sE A' hC hR hP hL hA (hn.trans hlen) hrm e1 e2 e3 e4
/-- the same locals -/
theorem Ctx.stk (X : Ctx G n y ls st μ r p l e R s m args below meth c Q H locs cells slots cE sE A) {pc' : Nat} {st' : List PV} (h : qX n y pc' ls st' μ = some r) (hs : okSt st') : W p l e R s m args below meth c H locs cells slots Q (F0 m pc' A (st'.map (rv G))) := X.go h X.2.2.1 hs X.2.2.2.2.2.2.2.2.1 rfl
/-- another memory -/
theorem Ctx.mem (X : Ctx G n y ls st μ r p l e R s m args below meth c Q H locs cells slots cE sE A) {pc' : Nat} {st' : List PV} {μ' : Mem} {H' : Heap} {locs' : List Loc} {cells' slots' : Nat} (h : qX n y pc' ls st' μ' = some r) (hI' : Inv μ') (hs : okSt st') (hP' : Pic G μ' H') (hL' : ∀ a ∈ locs', gN G ≤ a.base) (h2 : cells' = cells + (μ' 0 2 - μ 0 2).toNat) (h3 : slots' = slots + (μ' 0 3 - μ 0 3).toNat) (g2 : μ 0 2 ≤ μ' 0 2) (g3 : μ 0 3 ≤ μ' 0 3) : W p l e R s m args below meth c H' locs' cells' slots' Q (F0 m pc' A (st'.map (rv G))) := by
  obtain ⟨ih, hI, h1, hs0, hC, hR, hP, hL, hA0, hlen, hrm, e1, e2, e3, e4⟩ := X
  have hk := qX_ok n h hI' h1 hs
  exact ih y pc' ls st' μ' r h hI' h1 hs p l e R s m args below meth c Q H' locs' cells' slots' cE sE A hC hR hP' hL' hA0 hlen hrm (by omega) (by omega) e3 e4
theorem Ctx.okp (X : Ctx G n y ls st μ r p l e R s m args below meth c Q H locs cells slots cE sE A) : okSt st := X.2.2.2.1
theorem Ctx.sto {t k nx : Nat} {x : Int} {rr : List PV} {A' : Array Slot} (X : Ctx G n y ls ((t, x) :: rr) μ r p l e R s m args below meth c Q H locs cells slots cE sE A) (h : qX n y nx (stL ls k (t, x)) rr μ = some r) (hA : pLS G (stL ls k (t, x)) A') : W p l e R s m args below meth c H locs cells slots Q (F0 m nx A' (rr.map (rv G))) := X.go (ls' := stL ls k (t, x)) (st' := rr) h (okLs_stL X.2.2.1 (okSt_cons.mp X.okp).1.2) (okSt_cons.mp X.okp).2 hA (stL_length _ _ _)
theorem Ctx.hx (X : Ctx G n y ls st μ r p l e R s m args below meth c Q H locs cells slots cE sE A) : p.tables.exec = Jvm.exec := X.2.2.2.2.1.1
theorem Ctx.hb (X : Ctx G n y ls st μ r p l e R s m args below meth c Q H locs cells slots cE sE A) : c.code = qCd y := X.2.2.2.2.1.2.1
theorem Ctx.lc (X : Ctx G n y ls st μ r p l e R s m args below meth c Q H locs cells slots cE sE A) : pLS G ls A := X.2.2.2.2.2.2.2.2.1

theorem si_iconst {k : Int} (hk : rng k = true) (X : Ctx G n y ls st μ r p l e R s m args below meth c Q H locs cells slots cE sE A) (hd : decode (qCd y) pc = .ok (.iconst k, 1)) (h : run1 (qX n) y (stp ls st μ 0 0 k (pc + 1)) = some r) : W p l e R s m args below meth c H locs cells slots Q (F0 m pc A (st.map (rv G))) := by
  exact lv_iconst X.hx X.hb hd rfl (X.stk (st' := (0, k) :: st) h (okSt_cons.mpr ⟨⟨Nat.zero_le _, rng_in hk⟩, X.okp⟩))
theorem si_bipush {k : Int} (hk : (Int8.ofInt k).toInt32.toInt = k ∧ rng k = true) (X : Ctx G n y ls st μ r p l e R s m args below meth c Q H locs cells slots cE sE A) (hd : decode (qCd y) pc = .ok (.bipush k, 2)) (h : run1 (qX n) y (stp ls st μ 0 0 k (pc + 2)) = some r) : W p l e R s m args below meth c H locs cells slots Q (F0 m pc A (st.map (rv G))) := by
  exact lv_bipush (v := Int32.ofInt k) X.hx X.hb hd (i32_ext (rng_in hk.2) hk.1) (X.stk (st' := (0, k) :: st) h (okSt_cons.mpr ⟨⟨Nat.zero_le _, rng_in hk.2⟩, X.okp⟩))
theorem si_sipush {k : Int} (hk : (Int16.ofInt k).toInt32.toInt = k ∧ rng k = true) (X : Ctx G n y ls st μ r p l e R s m args below meth c Q H locs cells slots cE sE A) (hd : decode (qCd y) pc = .ok (.sipush k, 3)) (h : run1 (qX n) y (stp ls st μ 0 0 k (pc + 3)) = some r) : W p l e R s m args below meth c H locs cells slots Q (F0 m pc A (st.map (rv G))) := by
  exact lv_sipush (v := Int32.ofInt k) X.hx X.hb hd (i32_ext (rng_in hk.2) hk.1) (X.stk (st' := (0, k) :: st) h (okSt_cons.mpr ⟨⟨Nat.zero_le _, rng_in hk.2⟩, X.okp⟩))
theorem si_lconst {k : Fin 2} (X : Ctx G n y ls st μ r p l e R s m args below meth c Q H locs cells slots cE sE A) (hd : decode (qCd y) pc = .ok (.lconst k, 1)) (h : run1 (qX n) y (stp ls st μ 0 1 (k.val : Int) (pc + 1)) = some r) : W p l e R s m args below meth c H locs cells slots Q (F0 m pc A (st.map (rv G))) := by
  have hk := k.2
  have h64 : in64 (k.val : Int) := by unfold in64; omega
  exact lv_lconst (v := Int64.ofInt (k.val : Int)) X.hx X.hb hd Int64.ofInt_eq_ofNat.symm (X.stk (st' := (1, (k.val : Int)) :: st) h (okSt_cons.mpr ⟨⟨Nat.le_of_ble_eq_true rfl, h64⟩, X.okp⟩))
theorem si_null  (X : Ctx G n y ls st μ r p l e R s m args below meth c Q H locs cells slots cE sE A) (hd : decode (qCd y) pc = .ok (.aconst_null, 1)) (h : run1 (qX n) y (stp ls st μ 0 3 0 (pc + 1)) = some r) : W p l e R s m args below meth c H locs cells slots Q (F0 m pc A (st.map (rv G))) := by
  exact lv_null X.hx X.hb hd (X.stk (st' := (3, 0) :: st) h (okSt_cons.mpr ⟨⟨Nat.le_of_ble_eq_true rfl, Int.le_refl _⟩, X.okp⟩))
theorem si_ldci {ix pos : Nat} {v : Int32} (hl : lkT (pLdcs.getD (qOw y) []) ix = some (.int v, pos)) (X : Ctx G n y ls st μ r p l e R s m args below meth c Q H locs cells slots cE sE A) (hd : decode (qCd y) pc = .ok (.ldc ix, 2)) (h : run1 (qX n) y (stp ls st μ 0 0 v.toInt (pc + 2)) = some r) : W p l e R s m args below meth c H locs cells slots Q (F0 m pc A (st.map (rv G))) := by
  have hw := tab_at pLdcs_ok rfl hl
  have hw : lw_tbl[pos]? = some (.constant (pcn (qOw y)) ix v) := of_decide_eq_true hw
  have e1 : v = Int32.ofInt v.toInt := (Int32.ofInt_toInt v).symm
  refine lv_ldc (v := v) X.hx X.hb X.2.2.2.2.1.2.2.2.1 (X.2.2.2.2.1.2.2.2.2.1 _ (lw_gm hw rfl)) hd ?_
  rw [e1]
  exact X.stk (st' := (0, v.toInt) :: st) h (okSt_cons.mpr ⟨⟨Nat.zero_le _, i32_in v⟩, X.okp⟩)
theorem si_ldcf {ix pos : Nat} {v : UInt32} (hl : lkT (pLdcs.getD (qOw y) []) ix = some (.float v, pos)) (X : Ctx G n y ls st μ r p l e R s m args below meth c Q H locs cells slots cE sE A) (hd : decode (qCd y) pc = .ok (.ldc ix, 2)) (h : run1 (qX n) y (stp ls st μ 0 2 (v.toNat : Int) (pc + 2)) = some r) : W p l e R s m args below meth c H locs cells slots Q (F0 m pc A (st.map (rv G))) := by
  have hw := tab_at pLdcs_ok rfl hl
  have hw : lw_tbl[pos]? = some (.constantFloat (pcn (qOw y)) ix v) := of_decide_eq_true hw
  refine lv_ldcf (v := v) X.hx X.hb X.2.2.2.2.1.2.2.2.1 (X.2.2.2.2.1.2.2.2.2.1 _ (lw_gm hw rfl)) hd ?_
  rw [← u32_nat v]
  exact X.stk (st' := (2, (v.toNat : Int)) :: st) h (okSt_cons.mpr ⟨⟨Nat.le_of_ble_eq_true rfl, u32_in v⟩, X.okp⟩)
theorem si_ldcl {ix pos : Nat} {v : Int64} (hl : lkT (pLdcs.getD (qOw y) []) ix = some (.long v, pos)) (X : Ctx G n y ls st μ r p l e R s m args below meth c Q H locs cells slots cE sE A) (hd : decode (qCd y) pc = .ok (.ldc2_w ix, 3)) (h : run1 (qX n) y (stp ls st μ 0 1 v.toInt (pc + 3)) = some r) : W p l e R s m args below meth c H locs cells slots Q (F0 m pc A (st.map (rv G))) := by
  have hw := tab_at pLdcs_ok rfl hl
  have hw : lw_tbl[pos]? = some (.constantLong (pcn (qOw y)) ix v) := of_decide_eq_true hw
  have e1 : v = Int64.ofInt v.toInt := (Int64.ofInt_toInt v).symm
  refine lv_ldc2 (v := v) X.hx X.hb X.2.2.2.2.1.2.2.2.1 (X.2.2.2.2.1.2.2.2.2.1 _ (lw_gm hw rfl)) hd ?_
  rw [e1]
  exact X.stk (st' := (1, v.toInt) :: st) h (okSt_cons.mpr ⟨⟨Nat.le_of_ble_eq_true rfl, i64_in v⟩, X.okp⟩)
theorem si_iload_n {k : Fin 4} (X : Ctx G n y ls st μ r p l e R s m args below meth c Q H locs cells slots cE sE A) (hd : decode (qCd y) pc = .ok (.iload_n k, 1)) (h : run1 (qX n) y (stp ls st μ 1 0 (k.val : Int) (pc + 1)) = some r) : W p l e R s m args below meth c H locs cells slots Q (F0 m pc A (st.map (rv G))) := by
  simp only [stp, Int.toNat_natCast] at h
  cases hv : ls[k.val]? with
  | none => rw [hv] at h; cases h
  | some v =>
    rw [hv] at h
    obtain ⟨t, x⟩ := v
    dsimp only at h
    split at h
    · rename_i ht
      subst ht
      exact lv_iload_n X.hx X.hb hd rfl (pLS_get X.lc hv (Nat.le_of_ble_eq_true rfl)) (X.stk (st' := (0, x) :: st) h (okSt_cons.mpr ⟨⟨Nat.le_of_ble_eq_true rfl, okLs_get X.2.2.1 hv⟩, X.okp⟩))
    · cases h
theorem si_iload {k : Nat} (X : Ctx G n y ls st μ r p l e R s m args below meth c Q H locs cells slots cE sE A) (hd : decode (qCd y) pc = .ok (.iload k, 2)) (h : run1 (qX n) y (stp ls st μ 1 0 (k : Int) (pc + 2)) = some r) : W p l e R s m args below meth c H locs cells slots Q (F0 m pc A (st.map (rv G))) := by
  simp only [stp, Int.toNat_natCast] at h
  cases hv : ls[k]? with
  | none => rw [hv] at h; cases h
  | some v =>
    rw [hv] at h
    obtain ⟨t, x⟩ := v
    dsimp only at h
    split at h
    · rename_i ht
      subst ht
      exact lv_iload X.hx X.hb hd (pLS_get X.lc hv (Nat.le_of_ble_eq_true rfl)) (X.stk (st' := (0, x) :: st) h (okSt_cons.mpr ⟨⟨Nat.le_of_ble_eq_true rfl, okLs_get X.2.2.1 hv⟩, X.okp⟩))
    · cases h
theorem si_lload_n {k : Fin 4} (X : Ctx G n y ls st μ r p l e R s m args below meth c Q H locs cells slots cE sE A) (hd : decode (qCd y) pc = .ok (.lload_n k, 1)) (h : run1 (qX n) y (stp ls st μ 1 1 (k.val : Int) (pc + 1)) = some r) : W p l e R s m args below meth c H locs cells slots Q (F0 m pc A (st.map (rv G))) := by
  simp only [stp, Int.toNat_natCast] at h
  cases hv : ls[k.val]? with
  | none => rw [hv] at h; cases h
  | some v =>
    rw [hv] at h
    obtain ⟨t, x⟩ := v
    dsimp only at h
    split at h
    · rename_i ht
      subst ht
      exact lv_lload_n X.hx X.hb hd rfl (pLS_get X.lc hv (Nat.le_of_ble_eq_true rfl)) (X.stk (st' := (1, x) :: st) h (okSt_cons.mpr ⟨⟨Nat.le_of_ble_eq_true rfl, okLs_get X.2.2.1 hv⟩, X.okp⟩))
    · cases h
theorem si_lload {k : Nat} (X : Ctx G n y ls st μ r p l e R s m args below meth c Q H locs cells slots cE sE A) (hd : decode (qCd y) pc = .ok (.lload k, 2)) (h : run1 (qX n) y (stp ls st μ 1 1 (k : Int) (pc + 2)) = some r) : W p l e R s m args below meth c H locs cells slots Q (F0 m pc A (st.map (rv G))) := by
  simp only [stp, Int.toNat_natCast] at h
  cases hv : ls[k]? with
  | none => rw [hv] at h; cases h
  | some v =>
    rw [hv] at h
    obtain ⟨t, x⟩ := v
    dsimp only at h
    split at h
    · rename_i ht
      subst ht
      exact lv_lload X.hx X.hb hd (pLS_get X.lc hv (Nat.le_of_ble_eq_true rfl)) (X.stk (st' := (1, x) :: st) h (okSt_cons.mpr ⟨⟨Nat.le_of_ble_eq_true rfl, okLs_get X.2.2.1 hv⟩, X.okp⟩))
    · cases h
theorem si_fload_n {k : Fin 4} (X : Ctx G n y ls st μ r p l e R s m args below meth c Q H locs cells slots cE sE A) (hd : decode (qCd y) pc = .ok (.fload_n k, 1)) (h : run1 (qX n) y (stp ls st μ 1 2 (k.val : Int) (pc + 1)) = some r) : W p l e R s m args below meth c H locs cells slots Q (F0 m pc A (st.map (rv G))) := by
  simp only [stp, Int.toNat_natCast] at h
  cases hv : ls[k.val]? with
  | none => rw [hv] at h; cases h
  | some v =>
    rw [hv] at h
    obtain ⟨t, x⟩ := v
    dsimp only at h
    split at h
    · rename_i ht
      subst ht
      exact lv_fload_n X.hx X.hb hd rfl (pLS_get X.lc hv (Nat.le_of_ble_eq_true rfl)) (X.stk (st' := (2, x) :: st) h (okSt_cons.mpr ⟨⟨Nat.le_of_ble_eq_true rfl, okLs_get X.2.2.1 hv⟩, X.okp⟩))
    · cases h
theorem si_fload {k : Nat} (X : Ctx G n y ls st μ r p l e R s m args below meth c Q H locs cells slots cE sE A) (hd : decode (qCd y) pc = .ok (.fload k, 2)) (h : run1 (qX n) y (stp ls st μ 1 2 (k : Int) (pc + 2)) = some r) : W p l e R s m args below meth c H locs cells slots Q (F0 m pc A (st.map (rv G))) := by
  simp only [stp, Int.toNat_natCast] at h
  cases hv : ls[k]? with
  | none => rw [hv] at h; cases h
  | some v =>
    rw [hv] at h
    obtain ⟨t, x⟩ := v
    dsimp only at h
    split at h
    · rename_i ht
      subst ht
      exact lv_fload X.hx X.hb hd (pLS_get X.lc hv (Nat.le_of_ble_eq_true rfl)) (X.stk (st' := (2, x) :: st) h (okSt_cons.mpr ⟨⟨Nat.le_of_ble_eq_true rfl, okLs_get X.2.2.1 hv⟩, X.okp⟩))
    · cases h
theorem si_aload_n {k : Fin 4} (X : Ctx G n y ls st μ r p l e R s m args below meth c Q H locs cells slots cE sE A) (hd : decode (qCd y) pc = .ok (.aload_n k, 1)) (h : run1 (qX n) y (stp ls st μ 1 3 (k.val : Int) (pc + 1)) = some r) : W p l e R s m args below meth c H locs cells slots Q (F0 m pc A (st.map (rv G))) := by
  simp only [stp, Int.toNat_natCast] at h
  cases hv : ls[k.val]? with
  | none => rw [hv] at h; cases h
  | some v =>
    rw [hv] at h
    obtain ⟨t, x⟩ := v
    dsimp only at h
    split at h
    · rename_i ht
      subst ht
      have hg := pLS_get X.lc hv (Nat.le_of_ble_eq_true rfl)
      have hk := X.stk (st' := (3, x) :: st) h (okSt_cons.mpr ⟨⟨Nat.le_of_ble_eq_true rfl, okLs_get X.2.2.1 hv⟩, X.okp⟩)
      by_cases hx : 1 ≤ x
      · rw [rv_3 G hx] at hg
        rw [List.map_cons, rv_3 G hx] at hk
        exact lv_aload_n X.hx X.hb hd rfl hg hk
      · have h0 : x = 0 := by have : 0 ≤ x := okLs_get X.2.2.1 hv; omega
        subst h0
        exact lv_aload_nN X.hx X.hb hd rfl hg hk
    · cases h
theorem si_aload {k : Nat} (X : Ctx G n y ls st μ r p l e R s m args below meth c Q H locs cells slots cE sE A) (hd : decode (qCd y) pc = .ok (.aload k, 2)) (h : run1 (qX n) y (stp ls st μ 1 3 (k : Int) (pc + 2)) = some r) : W p l e R s m args below meth c H locs cells slots Q (F0 m pc A (st.map (rv G))) := by
  simp only [stp, Int.toNat_natCast] at h
  cases hv : ls[k]? with
  | none => rw [hv] at h; cases h
  | some v =>
    rw [hv] at h
    obtain ⟨t, x⟩ := v
    dsimp only at h
    split at h
    · rename_i ht
      subst ht
      have hg := pLS_get X.lc hv (Nat.le_of_ble_eq_true rfl)
      have hk := X.stk (st' := (3, x) :: st) h (okSt_cons.mpr ⟨⟨Nat.le_of_ble_eq_true rfl, okLs_get X.2.2.1 hv⟩, X.okp⟩)
      by_cases hx : 1 ≤ x
      · rw [rv_3 G hx] at hg
        rw [List.map_cons, rv_3 G hx] at hk
        exact lv_aload X.hx X.hb hd hg hk
      · have h0 : x = 0 := by have : 0 ≤ x := okLs_get X.2.2.1 hv; omega
        subst h0
        exact lv_aloadN X.hx X.hb hd hg hk
    · cases h
theorem si_istore_n {k : Fin 4} (X : Ctx G n y ls st μ r p l e R s m args below meth c Q H locs cells slots cE sE A) (hd : decode (qCd y) pc = .ok (.istore_n k, 1)) (h : run1 (qX n) y (stp ls st μ 2 0 (k.val : Int) (pc + 1)) = some r) : W p l e R s m args below meth c H locs cells slots Q (F0 m pc A (st.map (rv G))) := by
  cases st with
  | nil => cases h
  | cons v rr =>
    obtain ⟨t, x⟩ := v
    obtain ⟨h1, h2⟩ := okSt_cons.mp X.okp
    have h : run1 (qX n) y (if t = 0 ∧ ((k.val : Nat) : Int).toNat + (if 0 = 1 then 1 else 0) < ls.length then rGo (pc + 1) (stL ls ((k.val : Nat) : Int).toNat (t, x)) rr μ else none) = some r := h
    rw [Int.toNat_natCast] at h
    by_cases hc : t = 0 ∧ k.val + (if 0 = 1 then 1 else 0) < ls.length
    · rw [if_pos hc] at h
      obtain ⟨rfl, hc⟩ := hc
      exact lv_istore_n X.hx X.hb hd rfl X.lc (by simpa using hc) rfl (fun A' hA => X.sto h (pLS_st1 (A := A) (v := (0, x)) (show (0 : Nat) ≠ 1 by decide) (show (0 : Nat) ≤ 3 by decide) hA))
    · rw [if_neg hc] at h; cases h
theorem si_istore {k : Nat} (X : Ctx G n y ls st μ r p l e R s m args below meth c Q H locs cells slots cE sE A) (hd : decode (qCd y) pc = .ok (.istore k, 2)) (h : run1 (qX n) y (stp ls st μ 2 0 (k : Int) (pc + 2)) = some r) : W p l e R s m args below meth c H locs cells slots Q (F0 m pc A (st.map (rv G))) := by
  cases st with
  | nil => cases h
  | cons v rr =>
    obtain ⟨t, x⟩ := v
    obtain ⟨h1, h2⟩ := okSt_cons.mp X.okp
    have h : run1 (qX n) y (if t = 0 ∧ ((k : Nat) : Int).toNat + (if 0 = 1 then 1 else 0) < ls.length then rGo (pc + 2) (stL ls ((k : Nat) : Int).toNat (t, x)) rr μ else none) = some r := h
    rw [Int.toNat_natCast] at h
    by_cases hc : t = 0 ∧ k + (if 0 = 1 then 1 else 0) < ls.length
    · rw [if_pos hc] at h
      obtain ⟨rfl, hc⟩ := hc
      exact lv_istore X.hx X.hb hd X.lc (by simpa using hc) rfl (fun A' hA => X.sto h (pLS_st1 (A := A) (v := (0, x)) (show (0 : Nat) ≠ 1 by decide) (show (0 : Nat) ≤ 3 by decide) hA))
    · rw [if_neg hc] at h; cases h
theorem si_lstore_n {k : Fin 4} (X : Ctx G n y ls st μ r p l e R s m args below meth c Q H locs cells slots cE sE A) (hd : decode (qCd y) pc = .ok (.lstore_n k, 1)) (h : run1 (qX n) y (stp ls st μ 2 1 (k.val : Int) (pc + 1)) = some r) : W p l e R s m args below meth c H locs cells slots Q (F0 m pc A (st.map (rv G))) := by
  cases st with
  | nil => cases h
  | cons v rr =>
    obtain ⟨t, x⟩ := v
    obtain ⟨h1, h2⟩ := okSt_cons.mp X.okp
    have h : run1 (qX n) y (if t = 1 ∧ ((k.val : Nat) : Int).toNat + (if 1 = 1 then 1 else 0) < ls.length then rGo (pc + 1) (stL ls ((k.val : Nat) : Int).toNat (t, x)) rr μ else none) = some r := h
    rw [Int.toNat_natCast] at h
    by_cases hc : t = 1 ∧ k.val + (if 1 = 1 then 1 else 0) < ls.length
    · rw [if_pos hc] at h
      obtain ⟨rfl, hc⟩ := hc
      exact lv_lstore_n X.hx X.hb hd rfl X.lc (by simpa using hc) rfl (fun A' hA => X.sto h (pLS_st2 (A := A) (v := (1, x)) rfl hA))
    · rw [if_neg hc] at h; cases h
theorem si_lstore {k : Nat} (X : Ctx G n y ls st μ r p l e R s m args below meth c Q H locs cells slots cE sE A) (hd : decode (qCd y) pc = .ok (.lstore k, 2)) (h : run1 (qX n) y (stp ls st μ 2 1 (k : Int) (pc + 2)) = some r) : W p l e R s m args below meth c H locs cells slots Q (F0 m pc A (st.map (rv G))) := by
  cases st with
  | nil => cases h
  | cons v rr =>
    obtain ⟨t, x⟩ := v
    obtain ⟨h1, h2⟩ := okSt_cons.mp X.okp
    have h : run1 (qX n) y (if t = 1 ∧ ((k : Nat) : Int).toNat + (if 1 = 1 then 1 else 0) < ls.length then rGo (pc + 2) (stL ls ((k : Nat) : Int).toNat (t, x)) rr μ else none) = some r := h
    rw [Int.toNat_natCast] at h
    by_cases hc : t = 1 ∧ k + (if 1 = 1 then 1 else 0) < ls.length
    · rw [if_pos hc] at h
      obtain ⟨rfl, hc⟩ := hc
      exact lv_lstore X.hx X.hb hd X.lc (by simpa using hc) rfl (fun A' hA => X.sto h (pLS_st2 (A := A) (v := (1, x)) rfl hA))
    · rw [if_neg hc] at h; cases h
theorem si_fstore_n {k : Fin 4} (X : Ctx G n y ls st μ r p l e R s m args below meth c Q H locs cells slots cE sE A) (hd : decode (qCd y) pc = .ok (.fstore_n k, 1)) (h : run1 (qX n) y (stp ls st μ 2 2 (k.val : Int) (pc + 1)) = some r) : W p l e R s m args below meth c H locs cells slots Q (F0 m pc A (st.map (rv G))) := by
  cases st with
  | nil => cases h
  | cons v rr =>
    obtain ⟨t, x⟩ := v
    obtain ⟨h1, h2⟩ := okSt_cons.mp X.okp
    have h : run1 (qX n) y (if t = 2 ∧ ((k.val : Nat) : Int).toNat + (if 2 = 1 then 1 else 0) < ls.length then rGo (pc + 1) (stL ls ((k.val : Nat) : Int).toNat (t, x)) rr μ else none) = some r := h
    rw [Int.toNat_natCast] at h
    by_cases hc : t = 2 ∧ k.val + (if 2 = 1 then 1 else 0) < ls.length
    · rw [if_pos hc] at h
      obtain ⟨rfl, hc⟩ := hc
      exact lv_fstore_n X.hx X.hb hd rfl X.lc (by simpa using hc) rfl (fun A' hA => X.sto h (pLS_st1 (A := A) (v := (2, x)) (show (2 : Nat) ≠ 1 by decide) (show (2 : Nat) ≤ 3 by decide) hA))
    · rw [if_neg hc] at h; cases h
theorem si_fstore {k : Nat} (X : Ctx G n y ls st μ r p l e R s m args below meth c Q H locs cells slots cE sE A) (hd : decode (qCd y) pc = .ok (.fstore k, 2)) (h : run1 (qX n) y (stp ls st μ 2 2 (k : Int) (pc + 2)) = some r) : W p l e R s m args below meth c H locs cells slots Q (F0 m pc A (st.map (rv G))) := by
  cases st with
  | nil => cases h
  | cons v rr =>
    obtain ⟨t, x⟩ := v
    obtain ⟨h1, h2⟩ := okSt_cons.mp X.okp
    have h : run1 (qX n) y (if t = 2 ∧ ((k : Nat) : Int).toNat + (if 2 = 1 then 1 else 0) < ls.length then rGo (pc + 2) (stL ls ((k : Nat) : Int).toNat (t, x)) rr μ else none) = some r := h
    rw [Int.toNat_natCast] at h
    by_cases hc : t = 2 ∧ k + (if 2 = 1 then 1 else 0) < ls.length
    · rw [if_pos hc] at h
      obtain ⟨rfl, hc⟩ := hc
      exact lv_fstore X.hx X.hb hd X.lc (by simpa using hc) rfl (fun A' hA => X.sto h (pLS_st1 (A := A) (v := (2, x)) (show (2 : Nat) ≠ 1 by decide) (show (2 : Nat) ≤ 3 by decide) hA))
    · rw [if_neg hc] at h; cases h
theorem si_astore_n {k : Fin 4} (X : Ctx G n y ls st μ r p l e R s m args below meth c Q H locs cells slots cE sE A) (hd : decode (qCd y) pc = .ok (.astore_n k, 1)) (h : run1 (qX n) y (stp ls st μ 2 3 (k.val : Int) (pc + 1)) = some r) : W p l e R s m args below meth c H locs cells slots Q (F0 m pc A (st.map (rv G))) := by
  cases st with
  | nil => cases h
  | cons v rr =>
    obtain ⟨t, x⟩ := v
    obtain ⟨h1, h2⟩ := okSt_cons.mp X.okp
    have h : run1 (qX n) y (if t = 3 ∧ ((k.val : Nat) : Int).toNat + (if 3 = 1 then 1 else 0) < ls.length then rGo (pc + 1) (stL ls ((k.val : Nat) : Int).toNat (t, x)) rr μ else none) = some r := h
    rw [Int.toNat_natCast] at h
    by_cases hc : t = 3 ∧ k.val + (if 3 = 1 then 1 else 0) < ls.length
    · rw [if_pos hc] at h
      obtain ⟨rfl, hc⟩ := hc
      by_cases hx : 1 ≤ x
      · rw [List.map_cons, rv_3 G hx]
        exact lv_astore_n X.hx X.hb hd rfl X.lc (by simpa using hc) rfl (fun A' hA => X.sto h (pLS_st1 (A := A) (v := (3, x)) (show (3 : Nat) ≠ 1 by decide) (show (3 : Nat) ≤ 3 by decide) (by rw [rv_3 G hx]; exact hA)))
      · have h0 : x = 0 := by have : 0 ≤ x := h1.2; omega
        subst h0
        exact lv_astore_nN X.hx X.hb hd rfl X.lc (by simpa using hc) rfl (fun A' hA => X.sto h (pLS_st1 (A := A) (v := (3, 0)) (by decide) (by decide) hA))
    · rw [if_neg hc] at h; cases h
theorem si_astore {k : Nat} (X : Ctx G n y ls st μ r p l e R s m args below meth c Q H locs cells slots cE sE A) (hd : decode (qCd y) pc = .ok (.astore k, 2)) (h : run1 (qX n) y (stp ls st μ 2 3 (k : Int) (pc + 2)) = some r) : W p l e R s m args below meth c H locs cells slots Q (F0 m pc A (st.map (rv G))) := by
  cases st with
  | nil => cases h
  | cons v rr =>
    obtain ⟨t, x⟩ := v
    obtain ⟨h1, h2⟩ := okSt_cons.mp X.okp
    have h : run1 (qX n) y (if t = 3 ∧ ((k : Nat) : Int).toNat + (if 3 = 1 then 1 else 0) < ls.length then rGo (pc + 2) (stL ls ((k : Nat) : Int).toNat (t, x)) rr μ else none) = some r := h
    rw [Int.toNat_natCast] at h
    by_cases hc : t = 3 ∧ k + (if 3 = 1 then 1 else 0) < ls.length
    · rw [if_pos hc] at h
      obtain ⟨rfl, hc⟩ := hc
      by_cases hx : 1 ≤ x
      · rw [List.map_cons, rv_3 G hx]
        exact lv_astore X.hx X.hb hd X.lc (by simpa using hc) rfl (fun A' hA => X.sto h (pLS_st1 (A := A) (v := (3, x)) (show (3 : Nat) ≠ 1 by decide) (show (3 : Nat) ≤ 3 by decide) (by rw [rv_3 G hx]; exact hA)))
      · have h0 : x = 0 := by have : 0 ≤ x := h1.2; omega
        subst h0
        exact lv_astoreN X.hx X.hb hd X.lc (by simpa using hc) rfl (fun A' hA => X.sto h (pLS_st1 (A := A) (v := (3, 0)) (by decide) (by decide) hA))
    · rw [if_neg hc] at h; cases h
theorem si_iinc {i : Nat} {k : Int} (hk : in32 k) (X : Ctx G n y ls st μ r p l e R s m args below meth c Q H locs cells slots cE sE A) (hd : decode (qCd y) pc = .ok (.iinc i k, 3)) (h : run1 (qX n) y (stp ls st μ 3 i k (pc + 3)) = some r) : W p l e R s m args below meth c H locs cells slots Q (F0 m pc A (st.map (rv G))) := by
  simp only [stp] at h
  split at h
  · rename_i x hv
    have hxx : in32 x := okLs_get X.2.2.1 hv
    have hm : (i, Value.int (Int32.ofInt x)) ∈ lvO G ls := mem_lvO.mpr ⟨(0, x), hv, Nat.zero_le _, rfl⟩
    obtain ⟨j, hj⟩ := List.getElem?_of_mem hm
    have hi : i < ls.length := (List.getElem?_eq_some_iff.mp hv).1
    exact lv_iinc (v := Int32.ofInt (w32 (x + k))) X.hx X.hb hd X.lc hj (i32_add hxx hk) hi rfl (fun A' hA => X.go (ls' := stL ls i (0, w32 (x + k))) (st' := st) h (okLs_stL X.2.2.1 (w32_in _)) X.okp (pLS_st1 (A := A) (v := (0, w32 (x + k))) (show (0 : Nat) ≠ 1 by decide) (Nat.zero_le _) hA) (stL_length _ _ _))
  · cases h
theorem si_iadd  (X : Ctx G n y ls st μ r p l e R s m args below meth c Q H locs cells slots cE sE A) (hd : decode (qCd y) pc = .ok (.iadd, 1)) (h : run1 (qX n) y (stp ls st μ 4 0 0 (pc + 1)) = some r) : W p l e R s m args below meth c H locs cells slots Q (F0 m pc A (st.map (rv G))) := by
  simp only [stp] at h
  split at h
  · rename_i w v rr
    obtain ⟨h1, h2⟩ := okSt_cons.mp X.okp
    obtain ⟨h3, h4⟩ := okSt_cons.mp h2
    have hw : in32 w := h1.2
    have hv : in32 v := h3.2
    refine lv_iadd X.hx X.hb hd ?_
    rw [i32_add hv hw]
    exact X.stk (st' := (0, _) :: rr) h (okSt_cons.mpr ⟨⟨Nat.zero_le _, w32_in _⟩, h4⟩)
  · cases h
theorem si_isub  (X : Ctx G n y ls st μ r p l e R s m args below meth c Q H locs cells slots cE sE A) (hd : decode (qCd y) pc = .ok (.isub, 1)) (h : run1 (qX n) y (stp ls st μ 4 1 0 (pc + 1)) = some r) : W p l e R s m args below meth c H locs cells slots Q (F0 m pc A (st.map (rv G))) := by
  simp only [stp] at h
  split at h
  · rename_i w v rr
    obtain ⟨h1, h2⟩ := okSt_cons.mp X.okp
    obtain ⟨h3, h4⟩ := okSt_cons.mp h2
    have hw : in32 w := h1.2
    have hv : in32 v := h3.2
    refine lv_isub X.hx X.hb hd ?_
    rw [i32_sub hv hw]
    exact X.stk (st' := (0, _) :: rr) h (okSt_cons.mpr ⟨⟨Nat.zero_le _, w32_in _⟩, h4⟩)
  · cases h
theorem si_imul  (X : Ctx G n y ls st μ r p l e R s m args below meth c Q H locs cells slots cE sE A) (hd : decode (qCd y) pc = .ok (.imul, 1)) (h : run1 (qX n) y (stp ls st μ 4 2 0 (pc + 1)) = some r) : W p l e R s m args below meth c H locs cells slots Q (F0 m pc A (st.map (rv G))) := by
  simp only [stp] at h
  split at h
  · rename_i w v rr
    obtain ⟨h1, h2⟩ := okSt_cons.mp X.okp
    obtain ⟨h3, h4⟩ := okSt_cons.mp h2
    have hw : in32 w := h1.2
    have hv : in32 v := h3.2
    refine lv_imul X.hx X.hb hd ?_
    rw [i32_mul hv hw]
    exact X.stk (st' := (0, _) :: rr) h (okSt_cons.mpr ⟨⟨Nat.zero_le _, w32_in _⟩, h4⟩)
  · cases h
theorem si_idiv  (X : Ctx G n y ls st μ r p l e R s m args below meth c Q H locs cells slots cE sE A) (hd : decode (qCd y) pc = .ok (.idiv, 1)) (h : run1 (qX n) y (stp ls st μ 4 3 0 (pc + 1)) = some r) : W p l e R s m args below meth c H locs cells slots Q (F0 m pc A (st.map (rv G))) := by
  simp only [stp] at h
  split at h
  · rename_i w v rr
    obtain ⟨h1, h2⟩ := okSt_cons.mp X.okp
    obtain ⟨h3, h4⟩ := okSt_cons.mp h2
    have hw : in32 w := h1.2
    have hv : in32 v := h3.2
    simp only [bI] at h
    by_cases h0 : w = 0
    · rw [if_pos h0] at h; cases h
    · rw [if_neg h0] at h
      refine lv_idiv X.hx X.hb hd (i32_ne0 hw h0) ?_
      rw [i32_div hv hw]
      exact X.stk (st' := (0, _) :: rr) h (okSt_cons.mpr ⟨⟨Nat.zero_le _, w32_in _⟩, h4⟩)
  · cases h
theorem si_irem  (X : Ctx G n y ls st μ r p l e R s m args below meth c Q H locs cells slots cE sE A) (hd : decode (qCd y) pc = .ok (.irem, 1)) (h : run1 (qX n) y (stp ls st μ 4 4 0 (pc + 1)) = some r) : W p l e R s m args below meth c H locs cells slots Q (F0 m pc A (st.map (rv G))) := by
  simp only [stp] at h
  split at h
  · rename_i w v rr
    obtain ⟨h1, h2⟩ := okSt_cons.mp X.okp
    obtain ⟨h3, h4⟩ := okSt_cons.mp h2
    have hw : in32 w := h1.2
    have hv : in32 v := h3.2
    simp only [bI] at h
    by_cases h0 : w = 0
    · rw [if_pos h0] at h; cases h
    · rw [if_neg h0] at h
      refine lv_irem X.hx X.hb hd (i32_ne0 hw h0) ?_
      rw [i32_rem hv hw]
      exact X.stk (st' := (0, _) :: rr) h (okSt_cons.mpr ⟨⟨Nat.zero_le _, w32_in _⟩, h4⟩)
  · cases h
theorem si_iand  (X : Ctx G n y ls st μ r p l e R s m args below meth c Q H locs cells slots cE sE A) (hd : decode (qCd y) pc = .ok (.iand, 1)) (h : run1 (qX n) y (stp ls st μ 4 5 0 (pc + 1)) = some r) : W p l e R s m args below meth c H locs cells slots Q (F0 m pc A (st.map (rv G))) := by
  simp only [stp] at h
  split at h
  · rename_i w v rr
    obtain ⟨h1, h2⟩ := okSt_cons.mp X.okp
    obtain ⟨h3, h4⟩ := okSt_cons.mp h2
    have hw : in32 w := h1.2
    have hv : in32 v := h3.2
    refine lv_iand X.hx X.hb hd ?_
    rw [show Int32.ofInt v &&& Int32.ofInt w = Int32.ofInt (Int32.ofInt v &&& Int32.ofInt w).toInt from (Int32.ofInt_toInt _).symm]
    exact X.stk (st' := (0, _) :: rr) h (okSt_cons.mpr ⟨⟨Nat.zero_le _, i32_in _⟩, h4⟩)
  · cases h
theorem si_lsub  (X : Ctx G n y ls st μ r p l e R s m args below meth c Q H locs cells slots cE sE A) (hd : decode (qCd y) pc = .ok (.lsub, 1)) (h : run1 (qX n) y (stp ls st μ 5 0 0 (pc + 1)) = some r) : W p l e R s m args below meth c H locs cells slots Q (F0 m pc A (st.map (rv G))) := by
  simp only [stp] at h
  split at h
  · rename_i w v rr
    obtain ⟨h1, h2⟩ := okSt_cons.mp X.okp
    obtain ⟨h3, h4⟩ := okSt_cons.mp h2
    have hw : in64 w := h1.2
    have hv : in64 v := h3.2
    refine lv_lsub X.hx X.hb hd ?_
    rw [i64_sub hv hw]
    exact X.stk (st' := (1, _) :: rr) h (okSt_cons.mpr ⟨⟨Nat.le_of_ble_eq_true rfl, w64_in _⟩, h4⟩)
  · cases h
  · cases h
theorem si_land  (X : Ctx G n y ls st μ r p l e R s m args below meth c Q H locs cells slots cE sE A) (hd : decode (qCd y) pc = .ok (.land, 1)) (h : run1 (qX n) y (stp ls st μ 5 1 0 (pc + 1)) = some r) : W p l e R s m args below meth c H locs cells slots Q (F0 m pc A (st.map (rv G))) := by
  simp only [stp] at h
  split at h
  · rename_i w v rr
    obtain ⟨h1, h2⟩ := okSt_cons.mp X.okp
    obtain ⟨h3, h4⟩ := okSt_cons.mp h2
    have hw : in64 w := h1.2
    have hv : in64 v := h3.2
    refine lv_land X.hx X.hb hd ?_
    rw [show Int64.ofInt v &&& Int64.ofInt w = Int64.ofInt (Int64.ofInt v &&& Int64.ofInt w).toInt from (Int64.ofInt_toInt _).symm]
    exact X.stk (st' := (1, _) :: rr) h (okSt_cons.mpr ⟨⟨Nat.le_of_ble_eq_true rfl, i64_in _⟩, h4⟩)
  · cases h
  · cases h
theorem si_lor  (X : Ctx G n y ls st μ r p l e R s m args below meth c Q H locs cells slots cE sE A) (hd : decode (qCd y) pc = .ok (.lor, 1)) (h : run1 (qX n) y (stp ls st μ 5 2 0 (pc + 1)) = some r) : W p l e R s m args below meth c H locs cells slots Q (F0 m pc A (st.map (rv G))) := by
  simp only [stp] at h
  split at h
  · rename_i w v rr
    obtain ⟨h1, h2⟩ := okSt_cons.mp X.okp
    obtain ⟨h3, h4⟩ := okSt_cons.mp h2
    have hw : in64 w := h1.2
    have hv : in64 v := h3.2
    refine lv_lor X.hx X.hb hd ?_
    rw [show Int64.ofInt v ||| Int64.ofInt w = Int64.ofInt (Int64.ofInt v ||| Int64.ofInt w).toInt from (Int64.ofInt_toInt _).symm]
    exact X.stk (st' := (1, _) :: rr) h (okSt_cons.mpr ⟨⟨Nat.le_of_ble_eq_true rfl, i64_in _⟩, h4⟩)
  · cases h
  · cases h
theorem si_lshl  (X : Ctx G n y ls st μ r p l e R s m args below meth c Q H locs cells slots cE sE A) (hd : decode (qCd y) pc = .ok (.lshl, 1)) (h : run1 (qX n) y (stp ls st μ 5 3 0 (pc + 1)) = some r) : W p l e R s m args below meth c H locs cells slots Q (F0 m pc A (st.map (rv G))) := by
  simp only [stp] at h
  split at h
  · cases h
  · rename_i w v rr
    obtain ⟨h1, h2⟩ := okSt_cons.mp X.okp
    obtain ⟨h3, h4⟩ := okSt_cons.mp h2
    exact lv_lshl (v := Int64.ofInt (lshl v w)) X.hx X.hb hd (Int64.ofInt_toInt _).symm (X.stk (st' := (1, lshl v w) :: rr) h (okSt_cons.mpr ⟨⟨Nat.le_of_ble_eq_true rfl, i64_in _⟩, h4⟩))
  · cases h
theorem si_lushr  (X : Ctx G n y ls st μ r p l e R s m args below meth c Q H locs cells slots cE sE A) (hd : decode (qCd y) pc = .ok (.lushr, 1)) (h : run1 (qX n) y (stp ls st μ 5 4 0 (pc + 1)) = some r) : W p l e R s m args below meth c H locs cells slots Q (F0 m pc A (st.map (rv G))) := by
  simp only [stp] at h
  split at h
  · cases h
  · rename_i w v rr
    obtain ⟨h1, h2⟩ := okSt_cons.mp X.okp
    obtain ⟨h3, h4⟩ := okSt_cons.mp h2
    exact lv_lushr (v := Int64.ofInt (lushr v w)) X.hx X.hb hd (Int64.ofInt_toInt _).symm (X.stk (st' := (1, lushr v w) :: rr) h (okSt_cons.mpr ⟨⟨Nat.le_of_ble_eq_true rfl, i64_in _⟩, h4⟩))
  · cases h
theorem si_lcmp  (X : Ctx G n y ls st μ r p l e R s m args below meth c Q H locs cells slots cE sE A) (hd : decode (qCd y) pc = .ok (.lcmp, 1)) (h : run1 (qX n) y (stp ls st μ 6 0 0 (pc + 1)) = some r) : W p l e R s m args below meth c H locs cells slots Q (F0 m pc A (st.map (rv G))) := by
  simp only [stp] at h
  split at h
  · rename_i w v rr
    obtain ⟨h1, h2⟩ := okSt_cons.mp X.okp
    obtain ⟨h3, h4⟩ := okSt_cons.mp h2
    have hw : in64 w := h1.2
    have hv : in64 v := h3.2
    have hc : in32 (cmpL v w) := by
      unfold cmpL in32
      split
      · omega
      · split <;> omega
    have e1 : lg_cmp (Int64.ofInt v) (Int64.ofInt w) = Int32.ofInt (cmpL v w) := by
      unfold lg_cmp cmpL
      simp only [gt_iff_lt, i64_lt hw hv, i64_eq hv hw]
      by_cases a1 : v < w
      · rw [if_neg (by omega), if_neg (by omega), if_pos a1]; rfl
      · by_cases a2 : v = w
        · rw [if_neg (by omega), if_pos a2, if_neg a1, if_pos a2]; rfl
        · rw [if_pos (by omega), if_neg a1, if_neg a2]; rfl
    refine W.lcmp X.hx X.hb hd ?_
    rw [e1]
    exact X.stk (st' := (0, cmpL v w) :: rr) h (okSt_cons.mpr ⟨⟨Nat.zero_le _, hc⟩, h4⟩)
  · cases h
theorem si_fadd  (X : Ctx G n y ls st μ r p l e R s m args below meth c Q H locs cells slots cE sE A) (hd : decode (qCd y) pc = .ok (.fadd, 1)) (h : run1 (qX n) y (stp ls st μ 7 0 0 (pc + 1)) = some r) : W p l e R s m args below meth c H locs cells slots Q (F0 m pc A (st.map (rv G))) := by
  simp only [stp] at h
  split at h
  · rename_i w v rr
    obtain ⟨h1, h2⟩ := okSt_cons.mp X.okp
    obtain ⟨h3, h4⟩ := okSt_cons.mp h2
    simp only [bF, fN] at h
    by_cases hn : FP.fadd (u32 v) (u32 w) &&& 0x7fffffff ≤ 0x7f800000
    · rw [if_pos hn] at h
      refine lv_fadd X.hx X.hb hd hn ?_
      rw [← u32_nat (FP.fadd (u32 v) (u32 w))]
      exact X.stk (st' := (2, _) :: rr) h (okSt_cons.mpr ⟨⟨Nat.le_of_ble_eq_true rfl, u32_in _⟩, h4⟩)
    · rw [if_neg hn] at h; cases h
  · cases h
theorem si_fmul  (X : Ctx G n y ls st μ r p l e R s m args below meth c Q H locs cells slots cE sE A) (hd : decode (qCd y) pc = .ok (.fmul, 1)) (h : run1 (qX n) y (stp ls st μ 7 1 0 (pc + 1)) = some r) : W p l e R s m args below meth c H locs cells slots Q (F0 m pc A (st.map (rv G))) := by
  simp only [stp] at h
  split at h
  · rename_i w v rr
    obtain ⟨h1, h2⟩ := okSt_cons.mp X.okp
    obtain ⟨h3, h4⟩ := okSt_cons.mp h2
    simp only [bF, fN] at h
    by_cases hn : FP.fmul (u32 v) (u32 w) &&& 0x7fffffff ≤ 0x7f800000
    · rw [if_pos hn] at h
      refine lv_fmul X.hx X.hb hd hn ?_
      rw [← u32_nat (FP.fmul (u32 v) (u32 w))]
      exact X.stk (st' := (2, _) :: rr) h (okSt_cons.mpr ⟨⟨Nat.le_of_ble_eq_true rfl, u32_in _⟩, h4⟩)
    · rw [if_neg hn] at h; cases h
  · cases h
theorem si_fdiv  (X : Ctx G n y ls st μ r p l e R s m args below meth c Q H locs cells slots cE sE A) (hd : decode (qCd y) pc = .ok (.fdiv, 1)) (h : run1 (qX n) y (stp ls st μ 7 2 0 (pc + 1)) = some r) : W p l e R s m args below meth c H locs cells slots Q (F0 m pc A (st.map (rv G))) := by
  simp only [stp] at h
  split at h
  · rename_i w v rr
    obtain ⟨h1, h2⟩ := okSt_cons.mp X.okp
    obtain ⟨h3, h4⟩ := okSt_cons.mp h2
    simp only [bF, fN] at h
    by_cases hn : FP.fdiv (u32 v) (u32 w) &&& 0x7fffffff ≤ 0x7f800000
    · rw [if_pos hn] at h
      refine lv_fdiv X.hx X.hb hd hn ?_
      rw [← u32_nat (FP.fdiv (u32 v) (u32 w))]
      exact X.stk (st' := (2, _) :: rr) h (okSt_cons.mpr ⟨⟨Nat.le_of_ble_eq_true rfl, u32_in _⟩, h4⟩)
    · rw [if_neg hn] at h; cases h
  · cases h
theorem si_i2f  (X : Ctx G n y ls st μ r p l e R s m args below meth c Q H locs cells slots cE sE A) (hd : decode (qCd y) pc = .ok (.i2f, 1)) (h : run1 (qX n) y (stp ls st μ 8 0 0 (pc + 1)) = some r) : W p l e R s m args below meth c H locs cells slots Q (F0 m pc A (st.map (rv G))) := by
  simp only [stp] at h
  split at h
  · rename_i v rr
    obtain ⟨h1, h2⟩ := okSt_cons.mp X.okp
    obtain ⟨t, x⟩ := v
    by_cases ht : t = 0
    · subst ht
      refine lv_i2f X.hx X.hb hd ?_
      rw [← u32_nat (FP.i2f (Int32.ofInt x))]
      exact X.stk (st' := (2, _) :: rr) h (okSt_cons.mpr ⟨⟨Nat.le_of_ble_eq_true rfl, u32_in _⟩, h2⟩)
    · exfalso
      simp only [cV] at h
      split at h
      · rename_i hz
        split at hz <;> simp_all
      · cases h
  · cases h
theorem si_f2i  (X : Ctx G n y ls st μ r p l e R s m args below meth c Q H locs cells slots cE sE A) (hd : decode (qCd y) pc = .ok (.f2i, 1)) (h : run1 (qX n) y (stp ls st μ 8 1 0 (pc + 1)) = some r) : W p l e R s m args below meth c H locs cells slots Q (F0 m pc A (st.map (rv G))) := by
  simp only [stp] at h
  split at h
  · rename_i v rr
    obtain ⟨h1, h2⟩ := okSt_cons.mp X.okp
    obtain ⟨t, x⟩ := v
    by_cases ht : t = 2
    · subst ht
      refine lv_f2i X.hx X.hb hd ?_
      rw [← Int32.ofInt_toInt (FP.f2i (u32 x))]
      exact X.stk (st' := (0, _) :: rr) h (okSt_cons.mpr ⟨⟨Nat.zero_le _, i32_in _⟩, h2⟩)
    · exfalso
      simp only [cV] at h
      split at h
      · rename_i hz
        split at hz <;> simp_all
      · cases h
  · cases h
theorem si_i2l  (X : Ctx G n y ls st μ r p l e R s m args below meth c Q H locs cells slots cE sE A) (hd : decode (qCd y) pc = .ok (.i2l, 1)) (h : run1 (qX n) y (stp ls st μ 8 2 0 (pc + 1)) = some r) : W p l e R s m args below meth c H locs cells slots Q (F0 m pc A (st.map (rv G))) := by
  simp only [stp] at h
  split at h
  · rename_i v rr
    obtain ⟨h1, h2⟩ := okSt_cons.mp X.okp
    obtain ⟨t, x⟩ := v
    by_cases ht : t = 0
    · subst ht
      have hx32 : in32 x := h1.2
      have h64 : in64 x := by unfold in32 at hx32; unfold in64; omega
      refine lv_i2l (v := Int64.ofInt x) X.hx X.hb hd (i64_ext h64 (by rw [Int32.toInt_toInt64]; exact i32_of hx32)) ?_
      exact X.stk (st' := (1, x) :: rr) h (okSt_cons.mpr ⟨⟨Nat.le_of_ble_eq_true rfl, h64⟩, h2⟩)
    · exfalso
      simp only [cV] at h
      split at h
      · rename_i hz
        split at hz <;> simp_all
      · cases h
  · cases h
theorem si_l2i  (X : Ctx G n y ls st μ r p l e R s m args below meth c Q H locs cells slots cE sE A) (hd : decode (qCd y) pc = .ok (.l2i, 1)) (h : run1 (qX n) y (stp ls st μ 8 3 0 (pc + 1)) = some r) : W p l e R s m args below meth c H locs cells slots Q (F0 m pc A (st.map (rv G))) := by
  simp only [stp] at h
  split at h
  · rename_i v rr
    obtain ⟨h1, h2⟩ := okSt_cons.mp X.okp
    obtain ⟨t, x⟩ := v
    by_cases ht : t = 1
    · subst ht
      have hx64 : in64 x := h1.2
      refine lv_l2i (v := Int32.ofInt (w32 x)) X.hx X.hb hd (i32_ext (w32_in _) (by rw [Int64.toInt_toInt32, i64_of hx64]; exact w32_b x)) ?_
      exact X.stk (st' := (0, w32 x) :: rr) h (okSt_cons.mpr ⟨⟨Nat.zero_le _, w32_in _⟩, h2⟩)
    · exfalso
      simp only [cV] at h
      split at h
      · rename_i hz
        split at hz <;> simp_all
      · cases h
  · cases h
theorem tgt_eq {pc : Nat} {off : Int} (h : 0 ≤ tgt pc off) : (pc : Int) + off = ((tgt pc off).toNat : Int) := by
  unfold tgt at *
  omega
theorem si_ifeq {off : Int} (ho : 0 ≤ tgt pc off) (X : Ctx G n y ls st μ r p l e R s m args below meth c Q H locs cells slots cE sE A) (hd : decode (qCd y) pc = .ok (.ifCond .eq off, 3)) (h : run1 (qX n) y (stp ls st μ 9 0 (tgt pc off) (pc + 3)) = some r) : W p l e R s m args below meth c H locs cells slots Q (F0 m pc A (st.map (rv G))) := by
  simp only [stp] at h
  split at h
  · rename_i v rr
    obtain ⟨h1, h2⟩ := okSt_cons.mp X.okp
    have hv : in32 v := h1.2
    refine lv_if_eq (tgt := (tgt pc off).toNat) X.hx X.hb hd (tgt_eq ho) (fun hc => ?_) (fun hc => ?_)
    · have hc : v = 0 := (i32_eq hv in32_0).mp hc
      rw [if_pos (by simp [cI]; omega)] at h
      exact X.stk h h2
    · have hc : ¬ (v = 0) := fun q => hc ((i32_eq hv in32_0).mpr q)
      rw [if_neg (by simp [cI]; omega)] at h
      exact X.stk h h2
  · cases h
theorem si_icmpeq {off : Int} (ho : 0 ≤ tgt pc off) (X : Ctx G n y ls st μ r p l e R s m args below meth c Q H locs cells slots cE sE A) (hd : decode (qCd y) pc = .ok (.if_icmp .eq off, 3)) (h : run1 (qX n) y (stp ls st μ 10 0 (tgt pc off) (pc + 3)) = some r) : W p l e R s m args below meth c H locs cells slots Q (F0 m pc A (st.map (rv G))) := by
  simp only [stp] at h
  split at h
  · rename_i w v rr
    obtain ⟨h1, h2⟩ := okSt_cons.mp X.okp
    obtain ⟨h3, h4⟩ := okSt_cons.mp h2
    have hw : in32 w := h1.2
    have hv : in32 v := h3.2
    refine lv_icmp_eq (tgt := (tgt pc off).toNat) X.hx X.hb hd (tgt_eq ho) (fun hc => ?_) (fun hc => ?_)
    · have hc : v = w := (i32_eq hv hw).mp hc
      rw [if_pos (by simp [cI]; omega)] at h
      exact X.stk h h4
    · have hc : ¬ (v = w) := fun q => hc ((i32_eq hv hw).mpr q)
      rw [if_neg (by simp [cI]; omega)] at h
      exact X.stk h h4
  · cases h
theorem si_ifne {off : Int} (ho : 0 ≤ tgt pc off) (X : Ctx G n y ls st μ r p l e R s m args below meth c Q H locs cells slots cE sE A) (hd : decode (qCd y) pc = .ok (.ifCond .ne off, 3)) (h : run1 (qX n) y (stp ls st μ 9 1 (tgt pc off) (pc + 3)) = some r) : W p l e R s m args below meth c H locs cells slots Q (F0 m pc A (st.map (rv G))) := by
  simp only [stp] at h
  split at h
  · rename_i v rr
    obtain ⟨h1, h2⟩ := okSt_cons.mp X.okp
    have hv : in32 v := h1.2
    refine lv_if_ne (tgt := (tgt pc off).toNat) X.hx X.hb hd (tgt_eq ho) (fun hc => ?_) (fun hc => ?_)
    · have hc : ¬ v = 0 := (not_congr (i32_eq hv in32_0)).mp hc
      rw [if_pos (by simp [cI]; omega)] at h
      exact X.stk h h2
    · have hc : v = 0 := (i32_eq hv in32_0).mp hc
      rw [if_neg (by simp [cI]; omega)] at h
      exact X.stk h h2
  · cases h
theorem si_icmpne {off : Int} (ho : 0 ≤ tgt pc off) (X : Ctx G n y ls st μ r p l e R s m args below meth c Q H locs cells slots cE sE A) (hd : decode (qCd y) pc = .ok (.if_icmp .ne off, 3)) (h : run1 (qX n) y (stp ls st μ 10 1 (tgt pc off) (pc + 3)) = some r) : W p l e R s m args below meth c H locs cells slots Q (F0 m pc A (st.map (rv G))) := by
  simp only [stp] at h
  split at h
  · rename_i w v rr
    obtain ⟨h1, h2⟩ := okSt_cons.mp X.okp
    obtain ⟨h3, h4⟩ := okSt_cons.mp h2
    have hw : in32 w := h1.2
    have hv : in32 v := h3.2
    refine lv_icmp_ne (tgt := (tgt pc off).toNat) X.hx X.hb hd (tgt_eq ho) (fun hc => ?_) (fun hc => ?_)
    · have hc : ¬ v = w := (not_congr (i32_eq hv hw)).mp hc
      rw [if_pos (by simp [cI]; omega)] at h
      exact X.stk h h4
    · have hc : v = w := (i32_eq hv hw).mp hc
      rw [if_neg (by simp [cI]; omega)] at h
      exact X.stk h h4
  · cases h
theorem si_iflt {off : Int} (ho : 0 ≤ tgt pc off) (X : Ctx G n y ls st μ r p l e R s m args below meth c Q H locs cells slots cE sE A) (hd : decode (qCd y) pc = .ok (.ifCond .lt off, 3)) (h : run1 (qX n) y (stp ls st μ 9 2 (tgt pc off) (pc + 3)) = some r) : W p l e R s m args below meth c H locs cells slots Q (F0 m pc A (st.map (rv G))) := by
  simp only [stp] at h
  split at h
  · rename_i v rr
    obtain ⟨h1, h2⟩ := okSt_cons.mp X.okp
    have hv : in32 v := h1.2
    refine lv_if_lt (tgt := (tgt pc off).toNat) X.hx X.hb hd (tgt_eq ho) (fun hc => ?_) (fun hc => ?_)
    · have hc : v < 0 := (i32_lt hv in32_0).mp hc
      rw [if_pos (by simp [cI]; omega)] at h
      exact X.stk h h2
    · have hc : ¬ (v < 0) := fun q => hc ((i32_lt hv in32_0).mpr q)
      rw [if_neg (by simp [cI]; omega)] at h
      exact X.stk h h2
  · cases h
theorem si_icmplt {off : Int} (ho : 0 ≤ tgt pc off) (X : Ctx G n y ls st μ r p l e R s m args below meth c Q H locs cells slots cE sE A) (hd : decode (qCd y) pc = .ok (.if_icmp .lt off, 3)) (h : run1 (qX n) y (stp ls st μ 10 2 (tgt pc off) (pc + 3)) = some r) : W p l e R s m args below meth c H locs cells slots Q (F0 m pc A (st.map (rv G))) := by
  simp only [stp] at h
  split at h
  · rename_i w v rr
    obtain ⟨h1, h2⟩ := okSt_cons.mp X.okp
    obtain ⟨h3, h4⟩ := okSt_cons.mp h2
    have hw : in32 w := h1.2
    have hv : in32 v := h3.2
    refine lv_icmp_lt (tgt := (tgt pc off).toNat) X.hx X.hb hd (tgt_eq ho) (fun hc => ?_) (fun hc => ?_)
    · have hc : v < w := (i32_lt hv hw).mp hc
      rw [if_pos (by simp [cI]; omega)] at h
      exact X.stk h h4
    · have hc : ¬ (v < w) := fun q => hc ((i32_lt hv hw).mpr q)
      rw [if_neg (by simp [cI]; omega)] at h
      exact X.stk h h4
  · cases h
theorem si_ifge {off : Int} (ho : 0 ≤ tgt pc off) (X : Ctx G n y ls st μ r p l e R s m args below meth c Q H locs cells slots cE sE A) (hd : decode (qCd y) pc = .ok (.ifCond .ge off, 3)) (h : run1 (qX n) y (stp ls st μ 9 3 (tgt pc off) (pc + 3)) = some r) : W p l e R s m args below meth c H locs cells slots Q (F0 m pc A (st.map (rv G))) := by
  simp only [stp] at h
  split at h
  · rename_i v rr
    obtain ⟨h1, h2⟩ := okSt_cons.mp X.okp
    have hv : in32 v := h1.2
    refine lv_if_ge (tgt := (tgt pc off).toNat) X.hx X.hb hd (tgt_eq ho) (fun hc => ?_) (fun hc => ?_)
    · have hc : 0 ≤ v := (i32_le in32_0 hv).mp hc
      rw [if_pos (by simp [cI]; omega)] at h
      exact X.stk h h2
    · have hc : ¬ (0 ≤ v) := fun q => hc ((i32_le in32_0 hv).mpr q)
      rw [if_neg (by simp [cI]; omega)] at h
      exact X.stk h h2
  · cases h
theorem si_icmpge {off : Int} (ho : 0 ≤ tgt pc off) (X : Ctx G n y ls st μ r p l e R s m args below meth c Q H locs cells slots cE sE A) (hd : decode (qCd y) pc = .ok (.if_icmp .ge off, 3)) (h : run1 (qX n) y (stp ls st μ 10 3 (tgt pc off) (pc + 3)) = some r) : W p l e R s m args below meth c H locs cells slots Q (F0 m pc A (st.map (rv G))) := by
  simp only [stp] at h
  split at h
  · rename_i w v rr
    obtain ⟨h1, h2⟩ := okSt_cons.mp X.okp
    obtain ⟨h3, h4⟩ := okSt_cons.mp h2
    have hw : in32 w := h1.2
    have hv : in32 v := h3.2
    refine lv_icmp_ge (tgt := (tgt pc off).toNat) X.hx X.hb hd (tgt_eq ho) (fun hc => ?_) (fun hc => ?_)
    · have hc : w ≤ v := (i32_le hw hv).mp hc
      rw [if_pos (by simp [cI]; omega)] at h
      exact X.stk h h4
    · have hc : ¬ (w ≤ v) := fun q => hc ((i32_le hw hv).mpr q)
      rw [if_neg (by simp [cI]; omega)] at h
      exact X.stk h h4
  · cases h
theorem si_ifgt {off : Int} (ho : 0 ≤ tgt pc off) (X : Ctx G n y ls st μ r p l e R s m args below meth c Q H locs cells slots cE sE A) (hd : decode (qCd y) pc = .ok (.ifCond .gt off, 3)) (h : run1 (qX n) y (stp ls st μ 9 4 (tgt pc off) (pc + 3)) = some r) : W p l e R s m args below meth c H locs cells slots Q (F0 m pc A (st.map (rv G))) := by
  simp only [stp] at h
  split at h
  · rename_i v rr
    obtain ⟨h1, h2⟩ := okSt_cons.mp X.okp
    have hv : in32 v := h1.2
    refine lv_if_gt (tgt := (tgt pc off).toNat) X.hx X.hb hd (tgt_eq ho) (fun hc => ?_) (fun hc => ?_)
    · have hc : 0 < v := (i32_lt in32_0 hv).mp hc
      rw [if_pos (by simp [cI]; omega)] at h
      exact X.stk h h2
    · have hc : ¬ (0 < v) := fun q => hc ((i32_lt in32_0 hv).mpr q)
      rw [if_neg (by simp [cI]; omega)] at h
      exact X.stk h h2
  · cases h
theorem si_icmpgt {off : Int} (ho : 0 ≤ tgt pc off) (X : Ctx G n y ls st μ r p l e R s m args below meth c Q H locs cells slots cE sE A) (hd : decode (qCd y) pc = .ok (.if_icmp .gt off, 3)) (h : run1 (qX n) y (stp ls st μ 10 4 (tgt pc off) (pc + 3)) = some r) : W p l e R s m args below meth c H locs cells slots Q (F0 m pc A (st.map (rv G))) := by
  simp only [stp] at h
  split at h
  · rename_i w v rr
    obtain ⟨h1, h2⟩ := okSt_cons.mp X.okp
    obtain ⟨h3, h4⟩ := okSt_cons.mp h2
    have hw : in32 w := h1.2
    have hv : in32 v := h3.2
    refine lv_icmp_gt (tgt := (tgt pc off).toNat) X.hx X.hb hd (tgt_eq ho) (fun hc => ?_) (fun hc => ?_)
    · have hc : w < v := (i32_lt hw hv).mp hc
      rw [if_pos (by simp [cI]; omega)] at h
      exact X.stk h h4
    · have hc : ¬ (w < v) := fun q => hc ((i32_lt hw hv).mpr q)
      rw [if_neg (by simp [cI]; omega)] at h
      exact X.stk h h4
  · cases h
theorem si_ifle {off : Int} (ho : 0 ≤ tgt pc off) (X : Ctx G n y ls st μ r p l e R s m args below meth c Q H locs cells slots cE sE A) (hd : decode (qCd y) pc = .ok (.ifCond .le off, 3)) (h : run1 (qX n) y (stp ls st μ 9 5 (tgt pc off) (pc + 3)) = some r) : W p l e R s m args below meth c H locs cells slots Q (F0 m pc A (st.map (rv G))) := by
  simp only [stp] at h
  split at h
  · rename_i v rr
    obtain ⟨h1, h2⟩ := okSt_cons.mp X.okp
    have hv : in32 v := h1.2
    refine lv_if_le (tgt := (tgt pc off).toNat) X.hx X.hb hd (tgt_eq ho) (fun hc => ?_) (fun hc => ?_)
    · have hc : v ≤ 0 := (i32_le hv in32_0).mp hc
      rw [if_pos (by simp [cI]; omega)] at h
      exact X.stk h h2
    · have hc : ¬ (v ≤ 0) := fun q => hc ((i32_le hv in32_0).mpr q)
      rw [if_neg (by simp [cI]; omega)] at h
      exact X.stk h h2
  · cases h
theorem si_icmple {off : Int} (ho : 0 ≤ tgt pc off) (X : Ctx G n y ls st μ r p l e R s m args below meth c Q H locs cells slots cE sE A) (hd : decode (qCd y) pc = .ok (.if_icmp .le off, 3)) (h : run1 (qX n) y (stp ls st μ 10 5 (tgt pc off) (pc + 3)) = some r) : W p l e R s m args below meth c H locs cells slots Q (F0 m pc A (st.map (rv G))) := by
  simp only [stp] at h
  split at h
  · rename_i w v rr
    obtain ⟨h1, h2⟩ := okSt_cons.mp X.okp
    obtain ⟨h3, h4⟩ := okSt_cons.mp h2
    have hw : in32 w := h1.2
    have hv : in32 v := h3.2
    refine lv_icmp_le (tgt := (tgt pc off).toNat) X.hx X.hb hd (tgt_eq ho) (fun hc => ?_) (fun hc => ?_)
    · have hc : v ≤ w := (i32_le hv hw).mp hc
      rw [if_pos (by simp [cI]; omega)] at h
      exact X.stk h h4
    · have hc : ¬ (v ≤ w) := fun q => hc ((i32_le hv hw).mpr q)
      rw [if_neg (by simp [cI]; omega)] at h
      exact X.stk h h4
  · cases h
theorem si_goto {off : Int} (ho : 0 ≤ tgt pc off) (X : Ctx G n y ls st μ r p l e R s m args below meth c Q H locs cells slots cE sE A) (hd : decode (qCd y) pc = .ok (.goto off, 3)) (h : run1 (qX n) y (stp ls st μ 11 0 (tgt pc off) (pc + 3)) = some r) : W p l e R s m args below meth c H locs cells slots Q (F0 m pc A (st.map (rv G))) := by
  exact lv_goto (tgt := (tgt pc off).toNat) X.hx X.hb hd (tgt_eq ho) (X.stk h X.okp)
theorem si_ifnull {off : Int} (ho : 0 ≤ tgt pc off) (X : Ctx G n y ls st μ r p l e R s m args below meth c Q H locs cells slots cE sE A) (hd : decode (qCd y) pc = .ok (.ifnull off, 3)) (h : run1 (qX n) y (stp ls st μ 12 0 (tgt pc off) (pc + 3)) = some r) : W p l e R s m args below meth c H locs cells slots Q (F0 m pc A (st.map (rv G))) := by
  simp only [stp] at h
  split at h
  · rename_i v rr
    obtain ⟨h1, h2⟩ := okSt_cons.mp X.okp
    have hv : 0 ≤ v := h1.2
    by_cases h0 : v = 0
    · subst h0
      rw [if_pos (by simp [cI])] at h
      exact lv_ifnullN (tgt := (tgt pc off).toNat) X.hx X.hb hd (tgt_eq ho) (X.stk h h2)
    · rw [if_neg (by simp [cI]; omega)] at h
      rw [List.map_cons, rv_3 G (by omega)]
      exact lv_ifnull X.hx X.hb hd (X.stk h h2)
  · cases h
theorem si_ifnonnull {off : Int} (ho : 0 ≤ tgt pc off) (X : Ctx G n y ls st μ r p l e R s m args below meth c Q H locs cells slots cE sE A) (hd : decode (qCd y) pc = .ok (.ifnonnull off, 3)) (h : run1 (qX n) y (stp ls st μ 12 1 (tgt pc off) (pc + 3)) = some r) : W p l e R s m args below meth c H locs cells slots Q (F0 m pc A (st.map (rv G))) := by
  simp only [stp] at h
  split at h
  · rename_i v rr
    obtain ⟨h1, h2⟩ := okSt_cons.mp X.okp
    have hv : 0 ≤ v := h1.2
    by_cases h0 : v = 0
    · subst h0
      rw [if_neg (by simp [cI])] at h
      exact lv_ifnonnullN X.hx X.hb hd (X.stk h h2)
    · rw [if_pos (by simp [cI]; omega)] at h
      rw [List.map_cons, rv_3 G (by omega)]
      exact lv_ifnonnull (tgt := (tgt pc off).toNat) X.hx X.hb hd (tgt_eq ho) (X.stk h h2)
  · cases h
theorem si_pop  (X : Ctx G n y ls st μ r p l e R s m args below meth c Q H locs cells slots cE sE A) (hd : decode (qCd y) pc = .ok (.pop, 1)) (h : run1 (qX n) y (stp ls st μ 25 0 0 (pc + 1)) = some r) : W p l e R s m args below meth c H locs cells slots Q (F0 m pc A (st.map (rv G))) := by
  simp only [stp] at h
  split at h
  · rename_i v rr
    obtain ⟨h1, h2⟩ := okSt_cons.mp X.okp
    split at h
    · cases h
    · rename_i ht
      exact lv_pop X.hx X.hb hd (rv_cat1 G h1.1 ht) (X.stk h h2)
  · cases h
theorem si_dup  (X : Ctx G n y ls st μ r p l e R s m args below meth c Q H locs cells slots cE sE A) (hd : decode (qCd y) pc = .ok (.dup, 1)) (h : run1 (qX n) y (stp ls st μ 26 0 0 (pc + 1)) = some r) : W p l e R s m args below meth c H locs cells slots Q (F0 m pc A (st.map (rv G))) := by
  simp only [stp] at h
  split at h
  · rename_i v rr
    have hs := X.okp
    obtain ⟨h1, h2⟩ := okSt_cons.mp hs
    split at h
    · cases h
    · rename_i ht
      exact lv_dup X.hx X.hb hd (rv_cat1 G h1.1 ht) (X.stk h (okSt_cons.mpr ⟨h1, hs⟩))
  · cases h
theorem si_dup2  (X : Ctx G n y ls st μ r p l e R s m args below meth c Q H locs cells slots cE sE A) (hd : decode (qCd y) pc = .ok (.dup2, 1)) (h : run1 (qX n) y (stp ls st μ 27 0 0 (pc + 1)) = some r) : W p l e R s m args below meth c H locs cells slots Q (F0 m pc A (st.map (rv G))) := by
  simp only [stp] at h
  split at h
  · rename_i v w rr
    have hs := X.okp
    obtain ⟨h1, h2⟩ := okSt_cons.mp hs
    obtain ⟨h3, h4⟩ := okSt_cons.mp h2
    split at h
    · cases h
    · rename_i ht
      exact lv_dup2_11 X.hx X.hb hd (rv_cat1 G h1.1 (fun q => ht (Or.inl q))) (rv_cat1 G h3.1 (fun q => ht (Or.inr q))) (X.stk h (okSt_cons.mpr ⟨h1, okSt_cons.mpr ⟨h3, hs⟩⟩))
  · cases h
end SimI
