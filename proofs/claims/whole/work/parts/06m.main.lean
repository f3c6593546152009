/-! switches, arraycopy; the simulation -/
def swB (q : Nat × pOp) : Bool := if q.2.1 = 13 then decide (q.2.2.1 < pSw.length) else true
set_option maxRecDepth 100000 in
theorem swB_ok : (List.range 220).all (fun y => (qCode y).all swB) = true := by decide +kernel
theorem sw_at {y pc : Nat} {o : pOp} (h : ins y pc = some o) : swB (pc, o) = true := by
  have hy := (ins_dec h).1
  exact List.all_eq_true.mp (List.all_eq_true.mp swB_ok y (List.mem_range.mpr hy)) (pc, o) (lkp_mem h)
theorem sw_find {l : List (Int × Nat)} (h : pSw.findIdx (fun q => decide (q = l)) < pSw.length) : pSw.getD (pSw.findIdx (fun q => decide (q = l))) [] = l := by
  have := List.findIdx_getElem (w := h)
  rw [List.getD_eq_getElem?_getD, List.getElem?_eq_getElem h]
  exact of_decide_eq_true this
theorem swT_in {pc : Nat} {d : Nat} : ∀ (offs : List Int) (lo v : Int), swG (swT pc lo offs) v d = if lo ≤ v ∧ v < lo + (offs.length : Int) then (match offs[(v - lo).toNat]? with
    | some f => (tgt pc f).toNat
    | none => d) else d := by
  intro offs
  induction offs with
  | nil =>
    intro lo v
    rw [if_neg (by simp)]
    rfl
  | cons f r ih =>
    intro lo v
    show (if v = lo then (tgt pc f).toNat else swG (swT pc (lo + 1) r) v d) = _
    by_cases e : v = lo
    · subst e
      rw [if_pos rfl, if_pos (by simp; omega), show (v - v).toNat = 0 by omega]
      rfl
    · rw [if_neg e, ih]
      by_cases c1 : lo + 1 ≤ v ∧ v < lo + 1 + (r.length : Int)
      · rw [if_pos c1, if_pos (by simp; omega), show (v - lo).toNat = (v - (lo + 1)).toNat + 1 by omega]
        rfl
      · rw [if_neg c1, if_neg (by simp; omega)]
theorem swL_in {pc : Nat} {dflt : Int} : ∀ (ps : List (Int × Int)) (v : Int), swG (ps.map (fun f => (f.1, (tgt pc f.2).toNat))) v (tgt pc dflt).toNat = (tgt pc (Op.lookupswitch.offset ps dflt v)).toNat := by
  intro ps
  induction ps with
  | nil => intro v; rfl
  | cons f r ih =>
    intro v
    obtain ⟨a, o⟩ := f
    show (if v = a then (tgt pc o).toNat else swG (r.map (fun f => (f.1, (tgt pc f.2).toNat))) v (tgt pc dflt).toNat) = _
    rw [Op.lookupswitch.offset_cons, ih]
    by_cases e : v = a
    · rw [if_pos e, if_pos e.symm]
    · rw [if_neg e, if_neg (fun q => e q.symm)]
theorem off_ge {pc : Nat} {dflt : Int} (hd : 0 ≤ tgt pc dflt) : ∀ (ps : List (Int × Int)), ps.all (fun f => decide (0 ≤ tgt pc f.2)) = true → ∀ v, 0 ≤ tgt pc (Op.lookupswitch.offset ps dflt v) := by
  intro ps
  induction ps with
  | nil => intro _ v; exact hd
  | cons f r ih =>
    intro h v
    obtain ⟨a, o⟩ := f
    simp only [List.all_cons, Bool.and_eq_true, decide_eq_true_eq] at h
    rw [Op.lookupswitch.offset_cons]
    split
    · exact h.1
    · exact ih h.2 v
theorem Pic.row {G : SG} {μ μ' : Mem} {H H' : Heap} {q : Int} (h : Pic G μ H) (hq : 2 ≤ q) (hne : ∀ b j, b ≠ q → μ' b j = μ b j) (hsz : H'.size = H.size) (ho : ∀ a, a ≠ rho G q → H'[a]? = H[a]?) (hc : cAt G μ' q H') : Pic G μ' H' := by
  obtain ⟨⟨h1, h2⟩, ⟨h3, h4, h5⟩, h6⟩ := h
  have hb : gB G ≠ rho G q := by rw [rho_2 G hq]; omega
  refine ⟨⟨by rw [hsz, hne _ _ (by omega)]; exact h1, h2⟩, ⟨by rw [ho _ hb]; exact h3, by rw [hne _ _ (by omega)]; exact h4, fun j hj => ?_⟩, fun r hr hrn => ?_⟩
  · rw [hne _ _ (by omega)] at hj ⊢
    exact h5 j hj
  · rw [hne _ _ (by omega)] at hrn
    by_cases e : r = q
    · subst e; exact hc
    · exact (h6 r hr hrn).kept (ho _ (rho_ne G hq hr e)) (hne _ _ (by omega)) (hne _ _ (by omega)) (fun j => hne _ _ e)
section SimZ
variable {G : SG} {n y pc : Nat} {ls st : List PV} {μ : Mem} {r : PV × Mem} {p : Program} {l : Launch} {e : Env} {R : Room} {s : State} {m : MethodId} {args : Array Value} {below : List Frame} {meth : Method} {c : Code} {Q : State → Prop} {H : Heap} {locs : List Loc} {cells slots cE sE : Nat} {A : Array Slot}
theorem si_tsw {d lo hi : Int} {offs : Array Int} {len : Nat} (hc : 0 ≤ tgt pc d ∧ offs.toList.all (fun f => decide (0 ≤ tgt pc f)) = true ∧ hi = lo + (offs.size : Int) - 1) (hix : pSw.findIdx (fun q => decide (q = swT pc lo offs.toList)) < pSw.length) (X : Ctx G n y ls st μ r p l e R s m args below meth c Q H locs cells slots cE sE A) (hd : decode (qCd y) pc = .ok (.tableswitch d lo hi offs, len)) (h : run1 (qX n) y (stp ls st μ 13 (pSw.findIdx (fun q => decide (q = swT pc lo offs.toList))) (tgt pc d) 0) = some r) : W p l e R s m args below meth c H locs cells slots Q (F0 m pc A (st.map (rv G))) := by
  simp only [stp] at h
  split at h
  · rename_i v rr
    obtain ⟨h1, h2⟩ := okSt_cons.mp X.okp
    have hv : in32 v := h1.2
    have h : qX n y (swG (pSw.getD (pSw.findIdx (fun q => decide (q = swT pc lo offs.toList))) []) v (tgt pc d).toNat) ls rr μ = some r := h
    rw [sw_find hix, swT_in] at h
    rw [List.map_cons, rv_0]
    by_cases c1 : lo ≤ v ∧ v < lo + (offs.toList.length : Int)
    · rw [if_pos c1] at h
      have hlt : (v - lo).toNat < offs.toList.length := by omega
      cases hf : offs.toList[(v - lo).toNat]? with
      | none => rw [List.getElem?_eq_getElem hlt] at hf; cases hf
      | some f =>
        rw [hf] at h
        have hf0 : 0 ≤ tgt pc f := of_decide_eq_true (List.all_eq_true.mp hc.2.1 f (List.mem_of_getElem? hf))
        have hlen : (offs.toList.length : Int) = (offs.size : Int) := by rw [Array.length_toList]
        refine lv_tableIn (off := f) (tgt := (tgt pc f).toNat) X.hx X.hb hd (by rw [i32_of hv]; omega) (by rw [i32_of hv]; omega) (by rw [i32_of hv, ← Array.getElem?_toList]; exact hf) (tgt_eq hf0) ?_
        exact X.stk h h2
    · rw [if_neg c1] at h
      have hlen : (offs.toList.length : Int) = (offs.size : Int) := by rw [Array.length_toList]
      refine lv_tableOut (tgt := (tgt pc d).toNat) X.hx X.hb hd (by rw [i32_of hv]; omega) (tgt_eq hc.1) ?_
      exact X.stk h h2
  · cases h
theorem si_lsw {d : Int} {ps : Array (Int × Int)} {len : Nat} (hc : 0 ≤ tgt pc d ∧ ps.toList.all (fun f => decide (0 ≤ tgt pc f.2)) = true ∧ (ps.toList.zip (ps.toList.drop 1)).all (fun (a, next) => a.1 < next.1) = true) (hix : pSw.findIdx (fun q => decide (q = ps.toList.map (fun f => (f.1, (tgt pc f.2).toNat)))) < pSw.length) (X : Ctx G n y ls st μ r p l e R s m args below meth c Q H locs cells slots cE sE A) (hd : decode (qCd y) pc = .ok (.lookupswitch d ps, len)) (h : run1 (qX n) y (stp ls st μ 13 (pSw.findIdx (fun q => decide (q = ps.toList.map (fun f => (f.1, (tgt pc f.2).toNat))))) (tgt pc d) 0) = some r) : W p l e R s m args below meth c H locs cells slots Q (F0 m pc A (st.map (rv G))) := by
  simp only [stp] at h
  split at h
  · rename_i v rr
    obtain ⟨h1, h2⟩ := okSt_cons.mp X.okp
    have hv : in32 v := h1.2
    have h : qX n y (swG (pSw.getD (pSw.findIdx (fun q => decide (q = ps.toList.map (fun f => (f.1, (tgt pc f.2).toNat))))) []) v (tgt pc d).toNat) ls rr μ = some r := h
    rw [sw_find hix, swL_in] at h
    rw [List.map_cons, rv_0]
    refine lv_lookup (tgt := (tgt pc (Op.lookupswitch.offset ps.toList d v)).toNat) X.hx X.hb hd hc.2.2 (by rw [i32_of hv]) (tgt_eq (off_ge hc.1 _ hc.2.1 v)) ?_
    exact X.stk h h2
  · cases h
theorem si_cpy {ix pos : Nat} (hl : lkT (pCopies.getD (qOw y) []) ix = some pos) (hdp : 1 ≤ qDp y) (X : Ctx G n y ls st μ r p l e R s m args below meth c Q H locs cells slots cE sE A) (hd : decode (qCd y) pc = .ok (.invokestatic ix, 3)) (h : run1 (qX n) y (stp ls st μ 29 0 0 (pc + 3)) = some r) : W p l e R s m args below meth c H locs cells slots Q (F0 m pc A (st.map (rv G))) := by
  simp only [stp] at h
  split at h
  · rename_i k dp d sp sr rr
    obtain ⟨h1, h2⟩ := okSt_cons.mp X.okp
    obtain ⟨h3, h4⟩ := okSt_cons.mp h2
    obtain ⟨h5, h6⟩ := okSt_cons.mp h4
    obtain ⟨h7, h8⟩ := okSt_cons.mp h6
    obtain ⟨h9, h10⟩ := okSt_cons.mp h8
    split at h
    · rename_i hc
      obtain ⟨c1, c2, c3, c4, c5, c6, c7, c8, c9, c10, c11⟩ := hc
      have hd1 := kind_pos (q := d) X.inv h5.2 (by omega)
      have hs1 := kind_pos (q := sr) X.inv h9.2 (by omega)
      obtain ⟨hx, hb, hml, hown, hts, hB, hnm⟩ := X.cx
      have hw := of_decide_eq_true (tab_at (f := fun (o : Nat) (q : Nat × Nat) => decide (lw_tbl[q.2]? = some (Cond.methodLink (pcn o) q.1 arraycopyName))) pCopies_ok rfl hl)
      have cc := X.2.2.2.2.2.2.2.2.2.2.1
      have hsz : A.size = c.maxLocals := by rw [hml, ← X.2.2.2.2.2.2.2.2.2.1]; exact X.lc.1
      have hcat : ((rr.map (rv G)).map fun v => v.category).sum ≤ 3 := by rw [rv_cats G h10]; exact c11
      have hk : in32 k := h1.2
      have hdp2 : in32 dp := h3.2
      have hsp2 : in32 sp := h7.2
      have hcs := (X.pic.2.2 sr (by omega) hs1.2).1 (by omega)
      have hcd := (X.pic.2.2 d (by omega) hd1.2).1 (by omega)
      have ls1 := ((X.inv.2.2.2 sr hs1.1).1 (by omega)).1
      have ld1 := ((X.inv.2.2.2 d hd1.1).1 (by omega)).1
      rw [c4] at hcs
      rw [c5] at hcd
      have e2 : mCpy μ sr sp d dp k 0 2 = μ 0 2 := mCpy_neg hd1.1 (by decide)
      have e3 : mCpy μ sr sp d dp k 0 3 = μ 0 3 := mCpy_neg hd1.1 (by decide)
      have hgo : ∀ (H1 : Heap) (locs1 : List Loc), Pic G (mCpy μ sr sp d dp k) H1 → (∀ a ∈ locs1, gN G ≤ a.base) → W p l e R s m args below meth c H1 locs1 cells slots Q (F0 m (pc + 3) A (rr.map (rv G))) := fun H1 locs1 hP1 hL1 => X.mem (μ' := mCpy μ sr sp d dp k) (st' := rr) h (Inv_mCpy X.inv hd1.1 hs1.1 c4 c5) h10 hP1 hL1 (by omega) (by omega) (by omega) (by omega)
      have hn0 : ∀ z : Int, in32 z → 0 ≤ z → ¬ Int32.ofInt z < 0 := fun z hz h0 hlt => by have := (i32_lt hz in32_0).mp hlt; omega
      simp only [List.map_cons, rv_0]
      rw [rv_3 G hd1.1, rv_3 G hs1.1]
      intro T hT XS
      obtain ⟨-, k0, hk0, cm0, hkk0⟩ := (hB.1.2 0 _ rfl).1 (μ (-sr) 1).toNat (fun j : Nat => rv G (0, μ sr j))
      obtain ⟨-, k1, hk1, cm1, hkk1⟩ := (hB.1.2 0 _ rfl).1 (μ (-d) 1).toNat (fun j : Nat => rv G (0, μ d j))
      obtain ⟨vm', XS', step⟩ := XS.arraycopy hx hown (hts _ (lw_gm hw rfl)) (hts _ (lw_gi obj_words.2.1 rfl)) (hts _ (lw_gi obj_words.2.2.1 rfl)) (hts _ (lw_gi obj_words.2.2.2 rfl)) (src := rho G sr) (dst := rho G d) (srcPos := Int32.ofInt sp) (destPos := Int32.ofInt dp) (n := Int32.ofInt k) (cs := arrV (gA G 1) (μ (-sr) 1).toNat (fun j : Nat => rv G (0, μ sr j))) (cd := arrV (gA G 1) (μ (-d) 1).toNat (fun j : Nat => rv G (0, μ d j))) (by rw [hT]; exact hcs) (by rw [hT]; exact hcd)
        (fun _ h => by cases h) (fun _ h => by cases h) (fun h => by cases h) (fun h => by cases h) hk0 hk1 hkk0 hkk1 (by rfl) (hn0 sp hsp2 c7) (hn0 dp hdp2 c8) (hn0 k hk c6)
        (by rw [i32_of hsp2, i32_of hk, arrV_size]; omega) (by rw [i32_of hdp2, i32_of hk, arrV_size]; omega)
        (fun vm₁ _ i hi => by
          rw [i32_clamp hk] at hi
          rw [i32_clamp hsp2, Array.getD_eq_getD_getElem?, arrV_read _ _ (by omega)]
          exact ⟨rfl, trivial⟩)
        (g := F0 m pc A (.int (Int32.ofInt k) :: .int (Int32.ofInt dp) :: .ref (rho G d) :: .int (Int32.ofInt sp) :: .ref (rho G sr) :: rr.map (rv G))) rfl hsz (rest := rr.map (rv G)) rfl (by rw [hb]; exact hd) (by omega) (by show 2 * 0 + _ + (7 + 11) ≤ _; omega)
      have e1 : copied (arrV (gA G 1) (μ (-sr) 1).toNat (fun j : Nat => rv G (0, μ sr j))) (arrV (gA G 1) (μ (-d) 1).toNat (fun j : Nat => rv G (0, μ d j))) (Int32.ofInt sp) (Int32.ofInt dp) (Int32.ofInt k) = arrV (gA G 1) (μ (-d) 1).toNat (va_cpy (fun j : Nat => rv G (0, μ sr j)) (fun j : Nat => rv G (0, μ d j)) sp.toNat dp.toNat k.toNat) := by
        rw [← i32_clamp hsp2, ← i32_clamp hdp2, ← i32_clamp hk]
        exact va_copied (fun z : Value => z) (gA G 1) (gA G 1) _ _ (by rw [i32_clamp hsp2, i32_clamp hk]; omega)
      rw [e1] at XS' step
      have hlt : rho G d < H.size := X.pic.lt (by omega) hd1.2
      obtain ⟨t, a1, b1⟩ := hgo (H.setIfInBounds (rho G d) (arrV (gA G 1) (μ (-d) 1).toNat (va_cpy (fun j : Nat => rv G (0, μ sr j)) (fun j : Nat => rv G (0, μ d j)) sp.toNat dp.toNat k.toNat))) _ (X.pic.row (q := d) (by omega) (fun b j hb => by unfold mCpy; rw [if_neg (fun hh => hb hh.1)]) (by simp) (fun a ha => by simp [Array.getElem?_setIfInBounds, Ne.symm ha]) ⟨fun _ => by
          rw [mCpy_neg hd1.1 (by omega), mCpy_neg hd1.1 (by omega), c5]
          rw [Array.getElem?_setIfInBounds_self_of_lt hlt]
          congr 2
          funext j
          unfold va_cpy mCpy
          by_cases cj : dp.toNat ≤ j ∧ j < dp.toNat + k.toNat
          · rw [if_pos cj, if_pos ⟨rfl, by omega, by omega⟩]
            show rv G (0, μ sr ((sp.toNat + (j - dp.toNat) : Nat) : Int)) = rv G (0, μ sr (sp + ((j : Int) - dp)))
            rw [show ((sp.toNat + (j - dp.toNat) : Nat) : Int) = sp + ((j : Int) - dp) by omega]
          · rw [if_neg cj, if_neg (by omega)]
            rfl, fun ci hci => by rw [mCpy_neg hd1.1 (by omega)] at hci; omega⟩) (fun a ha => by
          rcases List.mem_append.mp ha with hh | hh
          · exact X.loc a hh
          · obtain ⟨z, -, hz⟩ := List.mem_map.mp hh
            rw [← hz]
            show gN G ≤ rho G d
            rw [rho_2 G (by omega)]
            omega) _ (by rw [← hT]; rfl) XS'
      exact ⟨t, step t a1, b1⟩
    · cases h
  · cases h
end SimZ
