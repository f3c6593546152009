/-! one instruction: memory, calls, ends -/
section SimM
variable {G : SG} {n y pc : Nat} {ls st : List PV} {μ : Mem} {r : PV × Mem} {p : Program} {l : Launch} {e : Env} {R : Room} {s : State} {m : MethodId} {args : Array Value} {below : List Frame} {meth : Method} {c : Code} {Q : State → Prop} {H : Heap} {locs : List Loc} {cells slots cE sE : Nat} {A : Array Slot}
theorem Ctx.cx (X : Ctx G n y ls st μ r p l e R s m args below meth c Q H locs cells slots cE sE A) : Cx G y p s m args meth c := X.2.2.2.2.1
theorem Ctx.inv (X : Ctx G n y ls st μ r p l e R s m args below meth c Q H locs cells slots cE sE A) : Inv μ := X.2.1
theorem Ctx.pic (X : Ctx G n y ls st μ r p l e R s m args below meth c Q H locs cells slots cE sE A) : Pic G μ H := X.2.2.2.2.2.2.1
theorem Ctx.loc (X : Ctx G n y ls st μ r p l e R s m args below meth c Q H locs cells slots cE sE A) : ∀ a ∈ locs, gN G ≤ a.base := X.2.2.2.2.2.2.2.1
theorem si_get {ix ci k nest pos : Nat} (hl : lkT (pFlds.getD (qOw y) []) ix = some (ci, k, nest, pos)) (X : Ctx G n y ls st μ r p l e R s m args below meth c Q H locs cells slots cE sE A) (hd : decode (qCd y) pc = .ok (.getfield ix, 3)) (h : run1 (qX n) y (stp ls st μ 14 ci (k : Int) (pc + 3)) = some r) : W p l e R s m args below meth c H locs cells slots Q (F0 m pc A (st.map (rv G))) := by
  simp only [stp] at h
  split at h
  · rename_i q rr
    obtain ⟨h1, h2⟩ := okSt_cons.mp X.okp
    split at h
    · rename_i hk
      rw [Int.toNat_natCast] at h
      have hq := obj_2 (q := q) X.inv h1.2 hk
      rw [List.map_cons]
      exact w_get X.cx X.inv X.pic hd hl h1.2 hk (X.stk (st' := (gTag (fT ci k), μ q k) :: rr) h (okSt_cons.mpr ⟨⟨gTag_le _, (X.inv.2.2.2 q (by omega)).2 ci hk k (fld_lt hl)⟩, h2⟩))
    · cases h
  · cases h
theorem si_put {ix ci k nest pos : Nat} (hl : lkT (pFlds.getD (qOw y) []) ix = some (ci, k, nest, pos)) (hfin : finOK y ci k nest = true) (X : Ctx G n y ls st μ r p l e R s m args below meth c Q H locs cells slots cE sE A) (hd : decode (qCd y) pc = .ok (.putfield ix, 3)) (h : run1 (qX n) y (stp ls st μ 15 ci (k : Int) (pc + 3)) = some r) : W p l e R s m args below meth c H locs cells slots Q (F0 m pc A (st.map (rv G))) := by
  simp only [stp] at h
  split at h
  · rename_i v q rr
    obtain ⟨h1, h2⟩ := okSt_cons.mp X.okp
    obtain ⟨h3, h4⟩ := okSt_cons.mp h2
    split at h
    · rename_i hc
      obtain ⟨hk, hfo⟩ := hc
      rw [Int.toNat_natCast] at hfo
      have hq := obj_2 (q := q) X.inv h3.2 hk
      rw [List.map_cons, List.map_cons]
      refine w_put X.cx X.inv X.pic X.loc hd hl hfin h3.2 hk hfo (fun H1 locs1 hP1 hL1 => ?_)
      have e2 : mU μ q k v.2 0 2 = μ 0 2 := mU_neg (by omega) (by decide)
      have e3 : mU μ q k v.2 0 3 = μ 0 3 := mU_neg (by omega) (by decide)
      refine X.mem (μ' := mU μ q k v.2) (st' := rr) h (Inv_mU X.inv (by omega) (fun hh => by omega) (fun cj hcj j hj ej => ?_)) h4 hP1 hL1 (by omega) (by omega) (by omega) (by omega)
      have a1 : cj = ci := by omega
      have a2 : j = k := by omega
      subst a1; subst a2
      exact okV_pair h1 (fok_g hfo)
    · cases h
  · cases h
theorem si_len (X : Ctx G n y ls st μ r p l e R s m args below meth c Q H locs cells slots cE sE A) (hd : decode (qCd y) pc = .ok (.arraylength, 1)) (h : run1 (qX n) y (stp ls st μ 21 0 0 (pc + 1)) = some r) : W p l e R s m args below meth c H locs cells slots Q (F0 m pc A (st.map (rv G))) := by
  simp only [stp] at h
  split at h
  · rename_i q rr
    obtain ⟨h1, h2⟩ := okSt_cons.mp X.okp
    split at h
    · rename_i hk
      have hq := kind_pos (q := q) X.inv h1.2 (by omega)
      have hn := ((X.inv.2.2.2 q hq.1).1 hk).1
      rw [List.map_cons]
      exact w_len X.cx X.inv X.pic hd h1.2 hk (X.stk (st' := (0, μ (-q) 1) :: rr) h (okSt_cons.mpr ⟨⟨Nat.zero_le _, by show in32 _; unfold in32; omega⟩, h2⟩))
    · cases h
  · cases h
theorem si_ald {a : Nat} {i : Instr} (hins : (i = .iaload ∧ a = 1) ∨ (i = .laload ∧ a = 2) ∨ (i = .baload ∧ a = 6) ∨ (i = .aaload ∧ a = 3)) (X : Ctx G n y ls st μ r p l e R s m args below meth c Q H locs cells slots cE sE A) (hd : decode (qCd y) pc = .ok (i, 1)) (h : run1 (qX n) y (stp ls st μ 22 a 0 (pc + 1)) = some r) : W p l e R s m args below meth c H locs cells slots Q (F0 m pc A (st.map (rv G))) := by
  simp only [stp] at h
  split at h
  · rename_i j q rr
    obtain ⟨h1, h2⟩ := okSt_cons.mp X.okp
    obtain ⟨h3, h4⟩ := okSt_cons.mp h2
    split at h
    · rename_i hc
      have hk := aKind_in hc.1
      have hq := kind_pos (q := q) X.inv h3.2 (by omega)
      rw [List.map_cons, List.map_cons]
      exact w_ald X.cx X.inv X.pic hd hins h3.2 h1.2 hc.1 hc.2.1 hc.2.2 (X.stk (st' := (aTag (μ (-q) 0), μ q j) :: rr) h (okSt_cons.mpr ⟨⟨aTag_le _, ((X.inv.2.2.2 q hq.1).1 hk).2 j⟩, h4⟩))
    · cases h
  · cases h
theorem si_ast {a : Nat} {i : Instr} (hins : (i = .iastore ∧ a = 1) ∨ (i = .lastore ∧ a = 2) ∨ (i = .bastore ∧ a = 6) ∨ (i = .aastore ∧ a = 3)) (X : Ctx G n y ls st μ r p l e R s m args below meth c Q H locs cells slots cE sE A) (hd : decode (qCd y) pc = .ok (i, 1)) (h : run1 (qX n) y (stp ls st μ 23 a 0 (pc + 1)) = some r) : W p l e R s m args below meth c H locs cells slots Q (F0 m pc A (st.map (rv G))) := by
  simp only [stp] at h
  split at h
  · rename_i v j q rr
    obtain ⟨h1, h2⟩ := okSt_cons.mp X.okp
    obtain ⟨h3, h4⟩ := okSt_cons.mp h2
    obtain ⟨h5, h6⟩ := okSt_cons.mp h4
    split at h
    · rename_i hc
      obtain ⟨hk, ht⟩ := aPut_in hc.2.1
      have hq := kind_pos (q := q) X.inv h5.2 (by omega)
      rw [List.map_cons, List.map_cons, List.map_cons]
      refine w_ast X.cx X.inv X.pic X.loc hd hins h5.2 h3.2 h1 hc.1 hc.2.1 hc.2.2.1 hc.2.2.2 (fun H1 locs1 hP1 hL1 => ?_)
      have e2 : mU μ q j v.2 0 2 = μ 0 2 := mU_neg hq.1 (by decide)
      have e3 : mU μ q j v.2 0 3 = μ 0 3 := mU_neg hq.1 (by decide)
      exact X.mem (μ' := mU μ q j v.2) (st' := rr) h (Inv_mU X.inv hq.1 (fun _ => okV_pair h1 ht) (fun ci hci j hj ej => by omega)) h6 hP1 hL1 (by omega) (by omega) (by omega) (by omega)
    · cases h
  · cases h
theorem si_new {ix ci pos : Nat} (hl : lkT (pNews.getD (qOw y) []) ix = some (ci, pos)) (X : Ctx G n y ls st μ r p l e R s m args below meth c Q H locs cells slots cE sE A) (hd : decode (qCd y) pc = .ok (.new ix, 3)) (h : run1 (qX n) y (stp ls st μ 17 ci 0 (pc + 3)) = some r) : W p l e R s m args below meth c H locs cells slots Q (F0 m pc A (st.map (rv G))) := by
  have h : qX n y (pc + 3) ls ((3, μ 0 2) :: st) (mNew μ (10 + (ci : Int)) (nF ci)) = some r := h
  obtain ⟨e2, e3⟩ := mNew_next (k := 10 + (ci : Int)) (n := (nF ci : Int)) X.inv
  have hn := nF_le ci
  have hI' := Inv_mNew (k := 10 + (ci : Int)) (n := (nF ci : Int)) X.inv (by omega) (by omega)
  have hs' : okSt ((3, μ 0 2) :: st) := okSt_cons.mpr ⟨⟨Nat.le_of_ble_eq_true rfl, by show (0 : Int) ≤ μ 0 2; have := X.inv.1.1; omega⟩, X.okp⟩
  have hk := qX_ok n h hI' X.2.2.1 hs'
  have c1 := X.2.2.2.2.2.2.2.2.2.2.2
  refine w_new X.cx X.inv X.pic hd hl (by omega) (by omega) (fun H1 hP1 => ?_)
  exact X.mem h hI' hs' hP1 X.loc (by omega) (by omega) (by omega) (by omega)
theorem si_newa {a : Nat} {t : ArrayType} (ht : (t = .int ∧ a = 1) ∨ (t = .long ∧ a = 2) ∨ (t = .boolean ∧ a = 6)) (X : Ctx G n y ls st μ r p l e R s m args below meth c Q H locs cells slots cE sE A) (hd : decode (qCd y) pc = .ok (.newarray t, 2)) (h : run1 (qX n) y (stp ls st μ 18 a 0 (pc + 2)) = some r) : W p l e R s m args below meth c H locs cells slots Q (F0 m pc A (st.map (rv G))) := by
  simp only [stp] at h
  split at h
  · rename_i k rr
    obtain ⟨h1, h2⟩ := okSt_cons.mp X.okp
    split at h
    · rename_i hc
      have h : qX n y (pc + 2) ls ((3, μ 0 2) :: rr) (mNew μ (a : Int) k) = some r := h
      obtain ⟨e2, e3⟩ := mNew_next (k := (a : Int)) (n := k) X.inv
      have hI' := Inv_mNew (k := (a : Int)) (n := k) X.inv (by rcases ht with ⟨-, rfl⟩ | ⟨-, rfl⟩ | ⟨-, rfl⟩ <;> decide) hc
      have hs' : okSt ((3, μ 0 2) :: rr) := okSt_cons.mpr ⟨⟨Nat.le_of_ble_eq_true rfl, by show (0 : Int) ≤ μ 0 2; have := X.inv.1.1; omega⟩, h2⟩
      have hk := qX_ok n h hI' X.2.2.1 hs'
      have c1 := X.2.2.2.2.2.2.2.2.2.2.2
      rw [List.map_cons]
      refine w_newa X.cx X.inv X.pic hd ht h1.2 hc.1 hc.2 (by omega) (by omega) (fun H1 hP1 => ?_)
      exact X.mem h hI' hs' hP1 X.loc (by omega) (by omega) (by omega) (by omega)
    · cases h
  · cases h
theorem si_anew {a ix pos : Nat} (hl : lkT (pANews.getD (qOw y) []) ix = some (a, pos)) (X : Ctx G n y ls st μ r p l e R s m args below meth c Q H locs cells slots cE sE A) (hd : decode (qCd y) pc = .ok (.anewarray ix, 3)) (h : run1 (qX n) y (stp ls st μ 19 a 0 (pc + 3)) = some r) : W p l e R s m args below meth c H locs cells slots Q (F0 m pc A (st.map (rv G))) := by
  simp only [stp] at h
  split at h
  · rename_i k rr
    obtain ⟨h1, h2⟩ := okSt_cons.mp X.okp
    split at h
    · rename_i hc
      have h : qX n y (pc + 3) ls ((3, μ 0 2) :: rr) (mNew μ (a : Int) k) = some r := h
      obtain ⟨e2, e3⟩ := mNew_next (k := (a : Int)) (n := k) X.inv
      have hI' := Inv_mNew (k := (a : Int)) (n := k) X.inv (by rcases anew_at hl with rfl | rfl <;> decide) hc
      have hs' : okSt ((3, μ 0 2) :: rr) := okSt_cons.mpr ⟨⟨Nat.le_of_ble_eq_true rfl, by show (0 : Int) ≤ μ 0 2; have := X.inv.1.1; omega⟩, h2⟩
      have hk := qX_ok n h hI' X.2.2.1 hs'
      have c1 := X.2.2.2.2.2.2.2.2.2.2.2
      rw [List.map_cons]
      refine w_anew X.cx X.inv X.pic hd hl h1.2 hc.1 hc.2 (by omega) (by omega) (fun H1 hP1 => ?_)
      exact X.mem h hI' hs' hP1 X.loc (by omega) (by omega) (by omega) (by omega)
    · cases h
  · cases h
theorem tr_ret {i : Instr} {len op nx : Nat} {bb : Int} (h : trI y pc i len = some (24, op, bb, nx)) : len = 1 ∧ ((i = .ireturn ∧ op = 0 ∧ ((qRt y = some .boolean ∧ bb = 1) ∨ (qRt y = some .int ∧ bb = 0))) ∨ (i = .lreturn ∧ op = 1 ∧ qRt y = some .long) ∨ (i = .areturn ∧ op = 3 ∧ ∃ c, qRt y = some (.object c)) ∨ (i = .return_ ∧ op = 9 ∧ qRt y = none)) := by
  unfold trI at h
  split at h
  all_goals first
    | (obtain ⟨-, h⟩ := rg_some h; simp at h; done)
    | (split at h <;> first | (obtain ⟨-, h⟩ := rg_some h; simp at h; done) | (simp at h; done) | (split at h <;> first | (obtain ⟨-, h⟩ := rg_some h; simp at h; done) | (simp at h; done)))
    | (simp at h; done)
    | skip
  · split at h
    · rename_i hr
      obtain ⟨e1, h⟩ := rg_some h
      simp at h
      exact ⟨e1, Or.inl ⟨rfl, h.1.symm, Or.inl ⟨hr, h.2.1.symm⟩⟩⟩
    · split at h
      · rename_i hr
        obtain ⟨e1, h⟩ := rg_some h
        simp at h
        exact ⟨e1, Or.inl ⟨rfl, h.1.symm, Or.inr ⟨hr, h.2.1.symm⟩⟩⟩
      · cases h
  · split at h
    · rename_i hr
      obtain ⟨e1, h⟩ := rg_some h
      simp at h
      exact ⟨e1, Or.inr (Or.inl ⟨rfl, h.1.symm, hr⟩)⟩
    · cases h
  · split at h
    · rename_i c hr
      obtain ⟨e1, h⟩ := rg_some h
      simp at h
      exact ⟨e1, Or.inr (Or.inr (Or.inl ⟨rfl, h.1.symm, c, hr⟩))⟩
    · cases h
  · split at h
    · rename_i hr
      obtain ⟨e1, h⟩ := rg_some h
      simp at h
      exact ⟨e1, Or.inr (Or.inr (Or.inr ⟨rfl, h.1.symm, hr⟩))⟩
    · cases h
end SimM
