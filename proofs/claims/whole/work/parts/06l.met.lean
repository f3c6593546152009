/-! a method's contract out of its run; calls -/
theorem Base.same {G : SG} {u U : State} (h : u.vm = U.vm) (hB : Base G u) : Base G U := by
  obtain ⟨h1, h2, ⟨h3, h4, h5⟩, h6, h7⟩ := hB
  have hA : u.vm.Alike U.vm := by rw [h]; exact Vm.Alike.refl U.vm
  refine ⟨va_K.moved hA h1, fun w hw hn => ?_, ⟨va_AO.moved hA h3, va_AO.moved hA h4, over_moved hA h5⟩, State.isArrayOf_alike hA h6, h7⟩
  have := h2 w hw hn
  unfold isNest at hn
  split at hn
  · exact va_Nw.same rfl h this
  · exact va_Nw.same rfl h this
  · cases hn
theorem rv_ref' (G : SG) (x : Int) : rv G (3, x) = .null ∨ ∃ a, rv G (3, x) = .ref a := by
  show (if x ≤ 0 then Value.null else Value.ref (rho G x)) = .null ∨ ∃ a, (if x ≤ 0 then Value.null else Value.ref (rho G x)) = .ref a
  split
  · exact Or.inl rfl
  · exact Or.inr ⟨_, rfl⟩
theorem met_of {G : SG} {n : Nat} (ih : SimP G n) (l : Launch) {a : Nat} (ha : a < pNM) {as : List PV} {μ : Mem} {r : PV × Mem} (hr : qX n a 0 (entL a as) [] μ = some r) (hI : Inv μ) (has : okSt as) (hlen : (layA as).length ≤ qML a) : MetM G l a as μ r := by
  obtain ⟨⟨p1, p2⟩, p3, p4, p5, p6, p7, p8, p9, p10⟩ := pm_facts ha
  unfold MetM
  refine Met_ofWF (cc := pcd a) (maxL := pml a) (ret := prt a) p2 rfl ?_
  intro p e s m args below meth c s₁ B hml hv
  obtain ⟨rfl, hB, hP⟩ := hv
  have hx := B.exec
  have hb := B.bytes
  have hret := B.returns
  have hts := atoms_spec (ws := wsM a) B.pre
  have hown : s.vm.findClass (pnm a).cls = some m.cls := findClass_of_methodNamed B.named
  have hlocks := B.notSynchronized
  have hin : meth.name = (pnm a).name := (name_of_methodNamed B.named B.method).1
  have hL := pLS_entry G (y := a) has hlen
  rw [qML_m ha] at hL
  rw [lg_entry_eq]
  have hk := qX_ok n hr hI (okLs_entL has) (fun v hv => by cases hv)
  refine ih a 0 (entL a as) [] μ r hr hI (okLs_entL has) (fun v hv => by cases hv) p l e _ s m _ below meth c _ s.heap [] 0 0 (r.2 0 2 - μ 0 2).toNat (r.2 0 3 - μ 0 3).toNat _ ⟨hx, by rw [qCd_m ha]; exact hb, by rw [qML_m ha]; exact hml, by rw [qOw_m ha, p1]; exact hown, fun w hw => hts w (List.mem_cons_of_mem _ hw), hB, fun _ => hin⟩ ?_ hP (fun a ha => by cases ha) hL (entL_len hlen) ⟨Nat.le_refl _, Nat.le_refl _⟩ (by omega) (by omega) (Nat.le_refl _) (Nat.le_refl _)
  intro pc A H locs i len op bb nx hd ht hc hP' hL'
  rw [qCd_m ha] at hd
  obtain ⟨rfl, hh⟩ := tr_ret ht
  rw [qRt_m ha] at hh
  have hq : ∀ t : State, t.heap = H → s.WarmedH t.vm → QcM G r (as.map (rv G)).toArray s (.returned (retV G r.1)) t := fun t ht _ => ⟨rfl, by rw [ht]; exact hP'⟩
  rcases hh with ⟨rfl, rfl, hh⟩ | ⟨rfl, rfl, hh⟩ | ⟨rfl, rfl, c', hh⟩ | ⟨rfl, rfl, hh⟩
  · rw [if_neg (by decide)] at hc ⊢
    obtain ⟨⟨t, x⟩, μ'⟩ := r
    obtain ⟨h1, h2, h3⟩ := hc
    have h1 : t = 0 := h1
    subst h1
    rcases hh with ⟨hr2, rfl⟩ | ⟨hr2, rfl⟩
    · refine W.zret (v := Int32.ofInt x) hx hb (by rw [hret]; exact hr2) ?_ hq hL' hd hlocks
      have h3 : (1 : Int) = 0 ∨ x = 0 ∨ x = 1 := h3
      rcases h3 with h3 | rfl | rfl
      · cases h3
      · decide
      · decide
    · exact W.iret (v := Int32.ofInt x) hx hb (by rw [hret]; exact hr2) hq hL' hd hlocks
  · rw [if_neg (by decide)] at hc ⊢
    obtain ⟨⟨t, x⟩, μ'⟩ := r
    obtain ⟨h1, h2, h3⟩ := hc
    have h1 : t = 1 := h1
    subst h1
    exact W.lret (v := Int64.ofInt x) hx hb (by rw [hret]; exact hh) hq hL' hd hlocks
  · rw [if_neg (by decide)] at hc ⊢
    obtain ⟨⟨t, x⟩, μ'⟩ := r
    obtain ⟨h1, h2, h3⟩ := hc
    have h1 : t = 3 := h1
    subst h1
    exact W.aret (v := rv G (3, x)) hx hb (by rw [hret]; exact hh) (Or.inl ⟨c', rfl⟩) (rv_ref' G x) hq hL' hd hlocks
  · rw [if_pos rfl] at hc ⊢
    obtain ⟨v, μ'⟩ := r
    have hc : v = (9, 0) := hc
    subst hc
    exact W.vret hx hb (by rw [hret]; exact hh) hq hL' hd hlocks
section SimC
variable {G : SG} {n y pc : Nat} {ls st : List PV} {μ : Mem} {r : PV × Mem} {p : Program} {l : Launch} {e : Env} {R : Room} {s : State} {m : MethodId} {args : Array Value} {below : List Frame} {meth : Method} {c : Code} {Q : State → Prop} {H : Heap} {locs : List Loc} {cells slots cE sE : Nat} {A : Array Slot}
theorem run_go {mc ms : Nat} {r1 : PV × Mem} {st0 rest : List Value} {arr : Array Value} (hr : va_Run p l e R s m args below meth c H locs cells slots mc ms (F0 m pc A st0) rest (QcM G r1 arr) (fun q => gN G ≤ q)) (hL : ∀ a ∈ locs, gN G ≤ a.base)
    (kk : ∀ (H1 : Heap) (locs1 : List Loc), Pic G r1.2 H1 → (∀ a ∈ locs1, gN G ≤ a.base) → W p l e R s m args below meth c H1 locs1 (cells + mc) (slots + ms) Q (F0 m (pc + 3) A ((retV G r1.1).toList ++ rest))) : W p l e R s m args below meth c H locs cells slots Q (F0 m pc A st0) := by
  intro T hT X
  obtain ⟨v, st₀, t, T', L, h0, X', hL1, e1, e2, ⟨hv, hp⟩, st⟩ := hr T hT X
  cases hv
  obtain ⟨t2, a1, b1⟩ := kk T'.heap (locs ++ L) (by rw [e1]; exact hp) (fun q hq => by
    rcases List.mem_append.mp hq with h | h
    · exact hL q h
    · exact hL1 q h) T' rfl X'
  exact ⟨t2, st t2 a1, b1⟩
theorem psh_map {v : PV} {st : List PV} : (retV G v).toList ++ st.map (rv G) = (psh v st).map (rv G) := by
  unfold retV psh
  split <;> rfl
theorem PcM_blind {as : List PV} : FrameBlind (PcM G as μ) := fun a U g mk q => ⟨q.1, q.2.1.same (u := U) (U := U.calling g mk a) rfl, q.2.2⟩
theorem call_words {a : Nat} {ix nest pos : Nat} (hl : lkT (pCalls.getD (qOw y) []) ix = some (a, nest, pos)) : a < pNM ∧ (if nest = 0 then lw_tbl[pos]? = some (.methodLink (pcn (qOw y)) ix (pnm a)) else lw_tbl[pos]? = some (.methodLinkNest (pcn (qOw y)) ix (pnm a) "NineKeys")) := by
  have := tab_at pCalls_ok rfl hl
  unfold pOKc at this
  simp only [Bool.and_eq_true, decide_eq_true_eq] at this
  refine ⟨this.1, ?_⟩
  have h2 := this.2
  split at h2
  · rename_i h0; rw [if_pos h0]; exact of_decide_eq_true h2
  · rename_i h0; rw [if_neg h0]; exact of_decide_eq_true h2
theorem take_rev {α : Type} (l : List α) (k : Nat) : l = (l.take k).reverse.reverse ++ l.drop k := by rw [List.reverse_reverse, List.take_append_drop]
theorem si_call {i : Instr} {a ix nest pos : Nat} (hins : (i = .invokevirtual ix ∧ pkd a = 1) ∨ (i = .invokespecial ix ∧ pkd a = 2) ∨ (i = .invokestatic ix ∧ pkd a = 0)) (hl : lkT (pCalls.getD (qOw y) []) ix = some (a, nest, pos)) (hdp : qDp a + 1 ≤ qDp y) (X : Ctx G n y ls st μ r p l e R s m args below meth c Q H locs cells slots cE sE A) (hd : decode (qCd y) pc = .ok (i, 3)) (h : run1 (qX n) y (stp ls st μ 16 a 0 (pc + 3)) = some r) : W p l e R s m args below meth c H locs cells slots Q (F0 m pc A (st.map (rv G))) := by
  simp only [stp] at h
  split at h
  · rename_i hc
    obtain ⟨c1, c2, c3, c4⟩ := hc
    generalize has : (st.take (pnp a)).reverse = as at h c3 c4
    generalize hre : st.drop (pnp a) = rest at h c2
    have hst : st = as.reverse ++ rest := by rw [← has, ← hre]; exact take_rev st _
    have hln : as.length = pnp a := by rw [← has, List.length_reverse, List.length_take]; omega
    have ok1 : okSt as := fun v hv => X.okp v (by rw [hst]; exact List.mem_append_left _ (List.mem_reverse.mpr hv))
    have ok2 : okSt rest := fun v hv => X.okp v (by rw [hst]; exact List.mem_append_right _ hv)
    have h : (qX n a 0 (entL a as) [] μ).bind (fun w => qX n y (pc + 3) ls (psh w.1 rest) w.2) = some r := h
    obtain ⟨r1, h1, h2⟩ := Option.bind_eq_some_iff.mp h
    obtain ⟨haM, hw⟩ := call_words hl
    obtain ⟨⟨p1, p2⟩, p3, p4, p5, p6, p7, p8, p9, p10⟩ := pm_facts haM
    have hM := met_of X.1 l haM h1 X.inv ok1 c3
    unfold MetM at hM
    have k1 := qX_ok n h1 X.inv (okLs_entL ok1) (fun v hv => by cases hv)
    have k2 := qX_ok n h2 k1.1 X.2.2.1 (okSt_psh k1.2.1 ok2)
    have cc := X.2.2.2.2.2.2.2.2.2.2
    obtain ⟨hx, hb, hml, hown, hts, hB, hnm⟩ := X.cx
    have hsz : A.size = qML y := by rw [← X.2.2.2.2.2.2.2.2.2.1]; exact X.lc.1
    have hstk : st.map (rv G) = (as.map (rv G)).reverse ++ rest.map (rv G) := by rw [hst, List.map_append, List.map_reverse]
    have hcat : ((rest.map (rv G)).map fun v => v.category).sum ≤ 8 := by rw [rv_cats G ok2]; exact c2
    have hfit : cells + (r1.2 0 2 - μ 0 2).toNat ≤ R.cells ∧ slots + (r1.2 0 3 - μ 0 3).toNat ≤ R.slots := by constructor <;> omega
    have hwsG : GoodIn lw_g (wsM a) := lw_gg (fun w hw => by
      rcases List.mem_cons.mp hw with rfl | hw
      · exact pm_code haM
      · exact hw)
    have hR : (rmM a μ r1).frames + 1 ≤ R.frames ∧ 8 + (pml a + 11) + (rmM a μ r1).locals ≤ R.locals := by
      show qDp a + 1 ≤ R.frames ∧ 8 + (pml a + 11) + 40 * qDp a ≤ R.locals
      omega
    have hpre : ∀ U : State, U.heap = H → s.WarmedH U.vm → PcM G as μ (as.map (rv G)).toArray U := fun U hU hW => ⟨rfl, Base.moved hW hB, by rw [hU]; exact X.pic⟩
    have fin : ∀ (H1 : Heap) (locs1 : List Loc), Pic G r1.2 H1 → (∀ a ∈ locs1, gN G ≤ a.base) → W p l e R s m args below meth c H1 locs1 (cells + (r1.2 0 2 - μ 0 2).toNat) (slots + (r1.2 0 3 - μ 0 3).toNat) Q (F0 m (pc + 3) A ((retV G r1.1).toList ++ rest.map (rv G))) := fun H1 locs1 hP1 hL1 => by
      rw [psh_map]
      exact X.mem h2 k1.1 (okSt_psh k1.2.1 ok2) hP1 hL1 rfl rfl k1.2.2.1 k1.2.2.2
    have S : CallFix p m c (qCd y) (qML y) s args lw_g (pcn (qOw y)) := ⟨hx, hb, hml, hown, hts⟩
    rw [hstk]
    rcases hins with ⟨rfl, hk⟩ | ⟨rfl, hk⟩ | ⟨rfl, hk⟩
    · obtain ⟨q1, q2, q3⟩ := p8 (by omega)
      rcases c4 with c4 | c4
      · omega
      match as, hln, c4, hpre, hM, hwsG with
      | [], hln, _, _, _, _ => exact absurd hln (by simp; omega)
      | (t, q) :: as', hln, c4, hpre, hM, hwsG =>
        have ht : t = 3 := c4.1
        subst ht
        have hkq : μ (-q) 0 = 10 + (pcl a : Int) := c4.2
        have hq := obj_2 (q := q) X.inv (okSt_cons.mp ok1).1.2 hkq
        obtain ⟨cell, g1, g2, g3, -⟩ := (X.pic.2.2 q hq.1 hq.2).2 (pcl a) hkq
        cases hrr : vwCl[pcl a]? with
        | none => rw [hrr] at q3; cases q3
        | some rr =>
          rw [hrr] at q3
          have q3 : rr.1 = (pnm a).cls := Option.some.inj q3
          have hrec : ∃ cellB : Cell, H[rho G q]? = some cellB ∧ cellB.vm.isStatics = false ∧ s.vm.findClass (pnm a).cls = some cellB.cls := ⟨cell, g1, by rw [g3]; rfl, by rw [g2, ← q3]; exact (hB.1.1 _ _ hrr).2.1⟩
          rw [List.map_cons, rv_3 G (by omega)] at hpre ⊢
          have hcnt : (parseMethodDescriptor (pnm a).desc).map (fun d => d.parameters.length) = some (as'.map (rv G)).length := by
            rw [p4, if_neg (by omega), ← hln]; simp
          by_cases hn : nest = 0
          · rw [if_pos hn] at hw
            exact run_go (va_runV (As := as'.map (rv G)) (rest := rest.map (rv G)) (C := (pnm a).cls) S hM ⟨callB_of _ hts hwsG rfl rfl rfl (hts _ p6) (hts _ (lw_gm hw rfl)) ⟨p3.1, p3.2, hcnt⟩ hR, hts _ q2, hts _ (p9 hk)⟩ ⟨PcM_blind, hrec, hpre⟩ rfl rfl hsz (by simp) (lv_room hcat) hd hfit) X.loc fin
          · rw [if_neg hn] at hw
            exact run_go (va_runVN (As := as'.map (rv G)) (rest := rest.map (rv G)) (C := (pnm a).cls) (host := "NineKeys") S hM ⟨va_cnB _ hts hwsG rfl rfl rfl (hB.2.1 _ (List.mem_of_getElem? hw) rfl) (hts _ p6) ⟨p3.1, p3.2, hcnt⟩ hR, hts _ q2, hts _ (p9 hk)⟩ ⟨PcM_blind, hrec, hpre⟩ rfl rfl hsz (by simp) (lv_room hcat) hd hfit) X.loc fin
    · obtain ⟨q1, q2, q3⟩ := p8 (by omega)
      obtain ⟨hin, hrt⟩ := p10 hk
      rcases c4 with c4 | c4
      · omega
      match as, hln, c4, hpre, hM, hwsG with
      | [], hln, _, _, _, _ => exact absurd hln (by simp; omega)
      | (t, q) :: as', hln, c4, hpre, hM, hwsG =>
        have ht : t = 3 := c4.1
        subst ht
        have hkq : μ (-q) 0 = 10 + (pcl a : Int) := c4.2
        have hq := obj_2 (q := q) X.inv (okSt_cons.mp ok1).1.2 hkq
        rw [List.map_cons, rv_3 G (by omega)] at hpre ⊢
        have hcnt : (parseMethodDescriptor (pnm a).desc).map (fun d => d.parameters.length) = some (as'.map (rv G)).length := by
          rw [p4, if_neg (by omega), ← hln]; simp
        have hws2 : wsM a = Cond.code (pnm a) (pcd a) (pml a) none :: lw_g := by unfold wsM; rw [hrt]
        by_cases hn : nest = 0
        · rw [if_pos hn] at hw
          exact run_go (va_runI (As := as'.map (rv G)) (rest := rest.map (rv G)) S hM ⟨callB_of _ hts hwsG hws2 rfl rfl (hts _ p6) (hts _ (lw_gm hw rfl)) ⟨p3.1, p3.2, hcnt⟩ hR, hin, hts _ q2⟩ ⟨PcM_blind, hpre⟩ rfl rfl hsz (by simp) (lv_room hcat) hd hfit) X.loc fin
        · rw [if_neg hn] at hw
          exact run_go (va_runIN (As := as'.map (rv G)) (rest := rest.map (rv G)) (host := "NineKeys") S hM ⟨va_cnB _ hts hwsG hws2 rfl rfl (hB.2.1 _ (List.mem_of_getElem? hw) rfl) (hts _ p6) ⟨p3.1, p3.2, hcnt⟩ hR, hin, hts _ q2⟩ ⟨PcM_blind, hpre⟩ rfl rfl hsz (by simp) (lv_room hcat) hd hfit) X.loc fin
    · have q2 := p7 hk
      have hcnt : (parseMethodDescriptor (pnm a).desc).map (fun d => d.parameters.length) = some (as.map (rv G)).length := by
        rw [p4, if_pos hk, ← hln]; simp
      by_cases hn : nest = 0
      · rw [if_pos hn] at hw
        exact run_go (va_runS (As := as.map (rv G)) (rest := rest.map (rv G)) S hM ⟨callB_of _ hts hwsG rfl rfl rfl (hts _ p6) (hts _ (lw_gm hw rfl)) ⟨p3.1, p3.2, hcnt⟩ hR, hts _ q2⟩ ⟨PcM_blind, hpre⟩ rfl rfl hsz rfl (lv_room hcat) hd hfit) X.loc fin
      · rw [if_neg hn] at hw
        exact run_go (va_runSN (As := as.map (rv G)) (rest := rest.map (rv G)) (host := "NineKeys") S hM ⟨va_cnB _ hts hwsG rfl rfl rfl (hB.2.1 _ (List.mem_of_getElem? hw) rfl) (hts _ p6) ⟨p3.1, p3.2, hcnt⟩ hR, hts _ q2, trivial⟩ ⟨PcM_blind, hpre⟩ rfl rfl hsz rfl (lv_room hcat) hd hfit) X.loc fin
  · cases h
theorem si_ret {i : Instr} {a nx : Nat} {b : Int} {len : Nat} (ht : trI y pc i len = some (24, a, b, nx)) (X : Ctx G n y ls st μ r p l e R s m args below meth c Q H locs cells slots cE sE A) (hd : decode (qCd y) pc = .ok (i, len)) (h : run1 (qX n) y (stp ls st μ 24 a b nx) = some r) : W p l e R s m args below meth c H locs cells slots Q (F0 m pc A (st.map (rv G))) := by
  have hR := X.2.2.2.2.2.1
  obtain ⟨e1, e2, -⟩ := X.2.2.2.2.2.2.2.2.2.2.2
  simp only [stp] at h
  by_cases ha : a = 9
  · rw [if_pos ha] at h
    split at h
    · have h : some ((9, 0), μ) = some r := h
      cases h
      have := hR pc A H locs i len a b nx hd ht (by rw [if_pos ha]) X.pic X.loc
      rw [if_pos ha, e1, e2, show cells + (μ 0 2 - μ 0 2).toNat = cells by omega, show slots + (μ 0 3 - μ 0 3).toNat = slots by omega] at this
      exact this
    · cases h
  · rw [if_neg ha] at h
    split at h
    · rename_i v
      split at h
      · rename_i hc
        have h : some (v, μ) = some r := h
        cases h
        have := hR pc A H locs i len a b nx hd ht (by rw [if_neg ha]; exact ⟨hc.1, X.okp v List.mem_cons_self, hc.2⟩) X.pic X.loc
        rw [if_neg ha, e1, e2, show cells + (μ 0 2 - μ 0 2).toNat = cells by omega, show slots + (μ 0 3 - μ 0 3).toNat = slots by omega] at this
        exact this
      · cases h
    · cases h
theorem obj_words : (Cond.instanceMethod Lib.objectInit ∈ lw_tbl ∧ Cond.code Lib.objectInit ⟨#[0xb1]⟩ 1 none ∈ lw_tbl) ∧ (Cond.native arraycopyName ∈ lw_tbl ∧ Cond.static arraycopyName ∈ lw_tbl ∧ Cond.initialized "java/lang/System" ∈ lw_tbl) := ⟨⟨List.mem_of_getElem? (i := 79) (by decide +kernel), List.mem_of_getElem? (i := 80) (by decide +kernel)⟩, List.mem_of_getElem? (i := 787) (by decide +kernel), List.mem_of_getElem? (i := 786) (by decide +kernel), List.mem_of_getElem? (i := 72) (by decide +kernel)⟩
theorem si_obj {ix : Nat} {pos : Nat} (hl : lkT (pObjs.getD (qOw y) []) ix = some pos) (hdp : 1 ≤ qDp y) (X : Ctx G n y ls st μ r p l e R s m args below meth c Q H locs cells slots cE sE A) (hd : decode (qCd y) pc = .ok (.invokespecial ix, 3)) (h : run1 (qX n) y (stp ls st μ 28 0 0 (pc + 3)) = some r) : W p l e R s m args below meth c H locs cells slots Q (F0 m pc A (st.map (rv G))) := by
  simp only [stp] at h
  split at h
  · rename_i q rr
    obtain ⟨h1, h2⟩ := okSt_cons.mp X.okp
    split at h
    · rename_i hc
      obtain ⟨hx, hb, hml, hown, hts, hB, hnm⟩ := X.cx
      have hw := of_decide_eq_true (tab_at (f := fun (o : Nat) (q : Nat × Nat) => decide (lw_tbl[q.2]? = some (Cond.methodLink (pcn o) q.1 Lib.objectInit))) pObjs_ok rfl hl)
      have cc := X.2.2.2.2.2.2.2.2.2.2.1
      have hsz : A.size = c.maxLocals := by rw [hml, ← X.2.2.2.2.2.2.2.2.2.1]; exact X.lc.1
      have hcat : ((rr.map (rv G)).map fun v => v.category).sum ≤ 8 := by rw [rv_cats G h2]; exact hc.2
      rw [List.map_cons, rv_3 G hc.1]
      refine W.objInit hx hb hown (hts _ (lw_gm hw rfl)) (hts _ (lw_gi obj_words.1.1 rfl)) (hts _ (lw_gi obj_words.1.2 rfl)) rfl hsz rfl hd (by omega) (by show 2 * 0 + _ + 12 ≤ _; omega) ?_
      exact X.stk h h2
    · cases h
  · cases h
end SimC
