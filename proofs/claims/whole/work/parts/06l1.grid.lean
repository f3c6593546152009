/-! multianewarray of two dimensions of ints: the outer cell, then the rows, each put into its place as soon as it is made -/
def gO (c : ClassId) (N h i : Nat) : Cell := arrV c N (fun j => if j < i then .ref (h + 1 + j) else .null)
def gI (c : ClassId) (M : Nat) : Cell := arrV c M (fun _ => .int 0)
def gT (T : State) (cA cC : ClassId) (N M : Nat) : Nat → State
  | 0 => T.pushCell (gO cA N T.heap.size 0)
  | i + 1 => ((gT T cA cC N M i).pushCell (gI cC M)).setCell T.heap.size (gO cA N T.heap.size (i + 1))
theorem gO_new (c : ClassId) (N h : Nat) : ({ cls := c, slots := Array.replicate N .null, vm := .none } : Cell) = gO c N h 0 := by
  rw [arrV_new]
  unfold gO
  congr 1
theorem gO_put (c : ClassId) (N h i : Nat) : (gO c N h i).setSlot i (.ref (h + 1 + i)) = gO c N h (i + 1) := by
  unfold gO
  rw [arrV_store]
  congr 1
  funext j
  unfold updV
  by_cases e : j = i
  · subst e; rw [if_pos rfl, if_pos (by omega)]
  · rw [if_neg e]
    show (if j < i then Value.ref (h + 1 + j) else .null) = if j < i + 1 then Value.ref (h + 1 + j) else .null
    by_cases e2 : j < i
    · rw [if_pos e2, if_pos (by omega)]
    · rw [if_neg e2, if_neg (by omega)]
theorem gT_facts (T : State) (cA cC : ClassId) (N M : Nat) (i : Nat) : ((gT T cA cC N M i).heap.size = T.heap.size + 1 + i ∧ (gT T cA cC N M i).heap[T.heap.size]? = some (gO cA N T.heap.size i)) ∧ (gT T cA cC N M i).vm = T.vm ∧ (gT T cA cC N M i).slotsUsed = T.slotsUsed + N + i * M ∧ (∀ a, a < T.heap.size → (gT T cA cC N M i).heap[a]? = T.heap[a]?) ∧ ∀ j, j < i → (gT T cA cC N M i).heap[T.heap.size + 1 + j]? = some (gI cC M) := by
  induction i with
  | zero =>
    refine ⟨⟨by simp [gT], by simp [gT]⟩, rfl, ?_, fun a ha => State.heap_pushCell_of_lt _ _ ha, fun j hj => absurd hj (Nat.not_lt_zero _)⟩
    have : (gO cA N T.heap.size 0).slots.size = N := arrV_size _ _ _
    simp [gT, this]
  | succ i ih =>
    obtain ⟨⟨h1, h2⟩, h3, h4, h5, h6⟩ := ih
    have hlt : T.heap.size < (gT T cA cC N M i).heap.size := by rw [h1]; omega
    have hb : ((gT T cA cC N M i).pushCell (gI cC M)).heap[T.heap.size]? = some (gO cA N T.heap.size i) := by rw [State.heap_pushCell_of_lt (h := hlt)]; exact h2
    have hs : (gI cC M).slots.size = M := arrV_size _ _ _
    refine ⟨⟨?_, State.heap_setCell_self hb⟩, by simp [gT, h3], ?_, fun a ha => ?_, fun j hj => ?_⟩
    · simp [gT, State.setCell, h1]; omega
    · simp [gT, h4, hs, Nat.succ_mul]; omega
    · show (((gT T cA cC N M i).pushCell (gI cC M)).setCell T.heap.size _).heap[a]? = _
      have hla : a < (gT T cA cC N M i).heap.size := by rw [h1]; omega
      rw [State.heap_setCell_other (Nat.ne_of_gt ha), State.heap_pushCell_of_lt (h := hla)]
      exact h5 a ha
    · show (((gT T cA cC N M i).pushCell (gI cC M)).setCell T.heap.size _).heap[T.heap.size + 1 + j]? = _
      rw [State.heap_setCell_other (show T.heap.size ≠ T.heap.size + 1 + j by omega)]
      by_cases e : j < i
      · have hlj : T.heap.size + 1 + j < (gT T cA cC N M i).heap.size := by rw [h1]; omega
        rw [State.heap_pushCell_of_lt (h := hlj)]
        exact h6 j e
      · have e : j = i := by omega
        subst e
        rw [← h1]
        exact State.heap_pushCell_size _ _
theorem gT_top (T : State) (f : JFrame) (cA cC : ClassId) (N M : Nat) (i : Nat) : gT (T.setTop f) cA cC N M i = (gT T cA cC N M i).setTop f := by
  induction i with
  | zero => rfl
  | succ i ih => simp only [gT, ih, State.heap_setTop, State.pushCell_setTop, State.setCell_setTop]
section GridW
variable {E : CtlPost} {e : Env} {d : Bool} {acts : List Action} {s : State}
theorem wp_grid {cA cC cc : ClassId} {kA kC : Class} {n k : Int32} (hkA : s.vm.classes[cA]? = some kA) (hkindA : kA.kind = .array cC (.array .int)) (hkC : s.vm.classes[cC]? = some kC) (hkindC : kC.kind = .array cc .int) (hn : ¬ n < 0) (hk : ¬ k < 0) (hn1 : ¬ n.toNatClampNeg > e.platform.arrayLengthLimit) (hn2 : ¬ n.toNatClampNeg * componentBytes (.array .int) > e.platform.maxHeapBytes) (hk1 : ¬ k.toNatClampNeg > e.platform.arrayLengthLimit) (hk2 : ¬ k.toNatClampNeg * componentBytes .int > e.platform.maxHeapBytes)
    (hc : s.heap.size + 1 + n.toNatClampNeg ≤ e.platform.maxCells) (hs : s.slotsUsed + n.toNatClampNeg + n.toNatClampNeg * k.toNatClampNeg ≤ e.platform.maxSlots) {Q : Addr → Pre} (hq : ∀ d' acts', Q s.heap.size d' acts' (gT s cA cC n.toNatClampNeg k.toNatClampNeg n.toNatClampNeg)) : wp (multianewarray.make cA [n, k]) Q E e d acts s := by
  rw [multianewarray.make]
  simp only [wp_bind', W.ite, hn, if_false, wp_pure', W.theClass, hkA, hkindA, Option.some.injEq, exists_eq_left']
  refine W.newArray_of hkA hkindA hn1 hn2 (by omega) (by have := Nat.zero_le (n.toNatClampNeg * k.toNatClampNeg); omega) rfl (fun acts1 => ?_)
  have hfind : ([k].find? (· < 0)) = none := by simp [hk]
  simp only [hfind]
  rw [ite_self, wp_bind', Std.Legacy.Range.forIn_eq_forIn_range']
  have hsz : ([:n.toNatClampNeg] : Std.Legacy.Range).size = n.toNatClampNeg := by simp [Std.Legacy.Range.size]
  rw [hsz, gO_new cA _ s.heap.size]
  show wp (forIn (List.range' 0 n.toNatClampNeg 1) PUnit.unit _) _ E e d acts1 _
  refine wp_forIn_inv (fun rest u => ∃ i, i ≤ n.toNatClampNeg ∧ rest = List.range' i (n.toNatClampNeg - i) ∧ u = gT s cA cC n.toNatClampNeg k.toNatClampNeg i) _ _ ⟨0, Nat.zero_le _, rfl, rfl⟩ ?_ ?_
  · rintro x rest u d' acts' Q' ⟨i, hi, hl, rfl⟩ hnext
    have hlt : i < n.toNatClampNeg := by
      by_cases h : i < n.toNatClampNeg
      · exact h
      · rw [show n.toNatClampNeg - i = 0 by omega] at hl; cases hl
    rw [show n.toNatClampNeg - i = (n.toNatClampNeg - (i + 1)) + 1 by omega, List.range'_succ] at hl
    obtain ⟨rfl, rfl⟩ := List.cons.inj hl
    obtain ⟨⟨f1, f2⟩, f3, f4, -, -⟩ := gT_facts s cA cC n.toNatClampNeg k.toNatClampNeg x
    have hmul : x * k.toNatClampNeg + k.toNatClampNeg ≤ n.toNatClampNeg * k.toNatClampNeg := by
      have := Nat.mul_le_mul_right k.toNatClampNeg (show x + 1 ≤ n.toNatClampNeg from hlt)
      rw [Nat.succ_mul] at this; exact this
    simp only [wp_bind']
    rw [multianewarray.make]
    simp only [wp_bind', W.ite, hk, if_false, wp_pure', W.theClass, f3, hkC, hkindC, Option.some.injEq, exists_eq_left']
    refine W.newArray_of (by rw [f3]; exact hkC) hkindC hk1 hk2 (by rw [f1]; omega) (by rw [f4]; omega) rfl (fun acts2 => ?_)
    have e1 : ({ cls := cC, slots := Array.replicate k.toNatClampNeg (defaultValue .int) } : Cell) = gI cC k.toNatClampNeg := arrV_new _ _ _
    rw [e1]
    have hlt0 : s.heap.size < (gT s cA cC n.toNatClampNeg k.toNatClampNeg x).heap.size := by rw [f1]; omega
    simp only [wp_bind', W.writeLoc, wp_pure']
    refine ⟨gO cA n.toNatClampNeg s.heap.size x, by rw [State.heap_pushCell_of_lt (h := hlt0)]; exact f2, (fun h => by cases h), by rw [show (gO cA n.toNatClampNeg s.heap.size x).slots.size = n.toNatClampNeg from arrV_size _ _ _]; exact hlt, ?_, hnext _ _ _ ⟨x + 1, hlt, rfl, ?_⟩⟩
    · simp [gO, arrV, State.fitsSlot, State.slotType?, f3, hkA, hkindA, fits]
    · rw [f1, gO_put]; rfl
  · rintro u d' acts' ⟨i, hi, hl, rfl⟩
    have e : i = n.toNatClampNeg := by
      by_cases h : i < n.toNatClampNeg
      · rw [show n.toNatClampNeg - i = (n.toNatClampNeg - (i + 1)) + 1 by omega, List.range'_succ] at hl; cases hl
      · omega
    subst e
    simp only [wp_pure']
    exact hq _ _
end GridW
section GridS
variable {p : Program} {l : Launch} {e : Env} {R : Room} {s : State} {m : MethodId} {args : Array Value} {below : List Frame} {meth : Method} {c : Code} {T : State} {locs : List Loc} {cells slots : Nat}
theorem gT_stand (X : Stand p l e R s m args below meth c T locs cells slots) (cA cC : ClassId) (N M : Nat) (i : Nat) : Stand p l e R s m args below meth c (gT T cA cC N M i) (locs ++ (List.range i).map fun j => ⟨T.heap.size, j⟩) (cells + 1 + i) (slots + N + i * M) := by
  induction i with
  | zero =>
    have h := X.pushed (gO cA N T.heap.size 0)
    rw [show (gO cA N T.heap.size 0).slots.size = N from arrV_size _ _ _] at h
    simpa [gT] using h
  | succ i ih =>
    obtain ⟨⟨f1, f2⟩, -, -, -, -⟩ := gT_facts T cA cC N M i
    have hlt : T.heap.size < (gT T cA cC N M i).heap.size := by rw [f1]; omega
    have hcell : ((gT T cA cC N M i).pushCell (gI cC M)).heap[T.heap.size]? = some (gO cA N T.heap.size i) := by rw [State.heap_pushCell_of_lt (h := hlt)]; exact f2
    have h := (ih.pushed (gI cC M)).stored hcell i (.ref (T.heap.size + 1 + i))
    rw [gO_put, show (gI cC M).slots.size = M from arrV_size _ _ _] at h
    rw [List.range_succ, List.map_append, ← List.append_assoc, show slots + N + (i + 1) * M = slots + N + i * M + M by rw [Nat.succ_mul]; omega]
    exact h
theorem grid_step (X : Stand p l e R s m args below meth c T locs cells slots) (hexec : p.tables.exec = Jvm.exec) {own : String} {index : Nat} (hown : s.vm.findClass own = some m.cls) (hclink : (Cond.classLink own index "[[I").before args s = true) (hover : (Cond.arrayOver (.array .int)).before args s = true) (harr : (Cond.arrayClass .int).before args s = true)
    {g : JFrame} (hg : g.method = m) (hdg : decode c.code g.pc = .ok (.multianewarray index 2, 4)) {n k : Int32} {rest : List Value} (hstack : g.stack = .int k :: .int n :: rest) (hn : ¬ n < 0) (hk : ¬ k < 0) (hn1 : n.toNatClampNeg ≤ 1000) (hk1 : k.toNatClampNeg ≤ 1000) (hcells : cells + (1 + n.toNatClampNeg) ≤ R.cells) (hslots : slots + (n.toNatClampNeg + n.toNatClampNeg * k.toNatClampNeg) ≤ R.slots) :
    ∃ (vm₁ : Vm) (cA cC : ClassId), s.vm.findClass ("[" ++ (FieldType.array .int).toString) = some cA ∧ s.vm.findClass ("[" ++ FieldType.int.toString) = some cC ∧ Stand p l e R s m args below meth c (gT (T.setVm vm₁) cA cC n.toNatClampNeg k.toNatClampNeg n.toNatClampNeg) (locs ++ (List.range n.toNatClampNeg).map fun j => ⟨T.heap.size, j⟩) (cells + 1 + n.toNatClampNeg) (slots + n.toNatClampNeg + n.toNatClampNeg * k.toNatClampNeg) ∧
      ∀ target, Steps p.tables e below ((gT (T.setVm vm₁) cA cC n.toNatClampNeg k.toNatClampNeg n.toNatClampNeg).setTop { g with pc := g.pc + 4, stack := .ref T.heap.size :: rest }) target → Steps p.tables e below (T.setTop g) target := by
  subst hg
  have hpl : e.platform.magicAccessors = ({} : Platform).magicAccessors := by rw [X.admits.platform]
  obtain ⟨cC, cA, kA, hfC, hidx, hkA, hkindA, hfA⟩ := arrayOverA_spec hover
  obtain ⟨cC', kC, cc, hfC', hkC, hkindC⟩ := Cond.arrayClass_spec harr
  have ec : cC' = cC := Option.some.inj (hfC'.symm.trans hfC)
  subst ec
  obtain ⟨c0, hf0, hcl⟩ := Cond.classLink_spec hown hclink e.platform hpl
  have ea : c0 = cA := Option.some.inj (hf0.symm.trans hfA)
  subst ea
  obtain ⟨hg1, hwarm, -⟩ := State.classEntry (e := e) X.warmed hcl
  generalize T.vm.noted g.method.cls index (.cls c0) = vm₁ at hg1 hwarm
  obtain ⟨kA1, hkA1, heA⟩ := hwarm.alike.2.2 _ _ hkA
  obtain ⟨kC1, hkC1, heC⟩ := hwarm.alike.2.2 _ _ hkC
  have X1 := X.noted hwarm
  obtain ⟨hr1, hr2⟩ := X.roomAbove hcells hslots
  have XF := gT_stand X1 c0 cC' n.toNatClampNeg k.toNatClampNeg n.toNatClampNeg
  refine ⟨vm₁, c0, cC', hfA, hfC', XF, fun target hrest => ?_⟩
  have hl := Launch.admits_arrayLengthLimit X.admits
  have hh := Launch.admits_maxHeapBytes X.admits
  jvm_step X.here [hexec, hdg]
  simp only [multianewarray.sem, wp_bind', W.resolveClassAt_links (State.method?_setTop g X.here.top) hg1]
  rw [W.popN, if_neg (by decide)]
  refine ⟨g, State.topJava?_setTop' (s := T.setVm vm₁) g X.here.top, [.int n, .int k], rest, rfl, hstack, ?_⟩
  simp only [List.mapM_cons, List.mapM_nil, wp_bind', wp_pure']
  refine wp_grid (kA := kA1) (kC := kC1) (cC := cC') (cc := cc) hkA1 (by rw [heA]; exact hkindA) hkC1 (by rw [heC]; exact hkindC) hn hk (by rw [hl]; omega) (by rw [hh]; show ¬ n.toNatClampNeg * 4 > 536870912; omega) (by rw [hl]; omega) (by rw [hh]; show ¬ k.toNatClampNeg * 4 > 536870912; omega) (by show T.heap.size + 1 + _ ≤ _; omega) (by show T.slotsUsed + _ + _ ≤ _; omega) (fun d' acts' => ?_)
  have eS : ((T.setTop g).setVm vm₁).setTop { g with stack := rest } = (T.setVm vm₁).setTop { g with stack := rest } := by
    show ((T.setVm vm₁).setTop g).setTop _ = _
    rw [State.setTop_setTop]
  rw [eS, gT_top]
  simp only [wp_bind', W.mark, W.pushRef, State.topJava?_setTop' _ XF.here.top, Option.some.injEq, exists_eq_left', State.setTop_setTop, State.heap_setTop]
  intro acts
  simp [jvm, XF.here.top]
  exact hrest
end GridS
theorem arr_words : Cond.arrayClass .int ∈ lw_tbl := by decide +kernel
section SimG
variable {G : SG} {n y pc : Nat} {ls st : List PV} {μ : Mem} {r : PV × Mem} {p : Program} {l : Launch} {e : Env} {R : Room} {s : State} {m : MethodId} {args : Array Value} {below : List Frame} {meth : Method} {c : Code} {Q : State → Prop} {H : Heap} {locs : List Loc} {cells slots cE sE : Nat} {A : Array Slot}
/-- the picture behind a grid -/
theorem Pic.grid {H' : Heap} {n1 n2 : Int} (h : Pic G μ H) (hI : Inv μ) (h1 : 1 ≤ n1) (h2 : 1 ≤ n2) (hsz : H'.size = H.size + 1 + n1.toNat) (ho : ∀ a, a < H.size → H'[a]? = H[a]?) (he : H'[H.size]? = some (gO (gA G 5) n1.toNat H.size n1.toNat)) (hi : ∀ j, j < n1.toNat → H'[H.size + 1 + j]? = some (gI (gA G 1) n2.toNat)) : Pic G (mGrid μ n1 n2) H' := by
  have hs := h.size hI
  obtain ⟨e2, e3⟩ := mGrid_next (n2 := n2) hI h1
  have hN := hI.1.1
  have hlt : ∀ {r : Int}, 2 ≤ r → r < μ 0 2 → rho G r < H.size := fun a b => h.lt a b
  obtain ⟨⟨g1, g2⟩, ⟨g3, g4, g5⟩, g6⟩ := h
  have eo : ∀ r j, ¬ (μ 0 2 ≤ r ∧ r ≤ μ 0 2 + n1) → ¬ (-(μ 0 2) - n1 ≤ r ∧ r ≤ -(μ 0 2)) → r ≠ 0 → mGrid μ n1 n2 r j = μ r j := fun r j a1 a2 a3 => by
    unfold mGrid; rw [if_neg (by omega), if_neg (by omega), if_neg (by omega), if_neg (by omega), if_neg (by omega), if_neg (by omega)]
  refine ⟨⟨by rw [hsz, g1, e2]; omega, g2⟩, ⟨by rw [ho _ (by omega)]; exact g3, by rw [eo _ _ (by omega) (by omega) (by omega)]; exact g4, fun j hj => ?_⟩, fun q hq hqn => ?_⟩
  · rw [eo _ _ (by omega) (by omega) (by omega)] at hj ⊢
    exact g5 j hj
  · rw [e2] at hqn
    by_cases c1 : q = μ 0 2
    · subst c1
      have ek : mGrid μ n1 n2 (-(μ 0 2)) 0 = 5 := by unfold mGrid; rw [if_neg (by omega), if_neg (by omega), if_pos rfl, if_pos rfl]
      have el : mGrid μ n1 n2 (-(μ 0 2)) 1 = n1 := by unfold mGrid; rw [if_neg (by omega), if_neg (by omega), if_pos rfl, if_neg (by decide), if_pos rfl]
      refine ⟨fun _ => ?_, fun ci hci => by rw [ek] at hci; omega⟩
      rw [ek, el, ← hs, he]
      unfold gO
      congr 2
      funext j
      by_cases cj : j < n1.toNat
      · rw [if_pos cj]
        have : mGrid μ n1 n2 (μ 0 2) j = μ 0 2 + 1 + j := by unfold mGrid; rw [if_pos rfl, if_pos (by omega)]
        rw [this]
        show _ = rv G (3, _)
        rw [rv_3 G (by omega), rho_2 G (by omega), hs, rho_2 G (by omega)]
        exact congrArg Value.ref (show gN G + (μ 0 2 - 2).toNat + 1 + j = gN G + (μ 0 2 + 1 + (j : Int) - 2).toNat by omega)
      · rw [if_neg cj]
        have : mGrid μ n1 n2 (μ 0 2) j = 0 := by unfold mGrid; rw [if_pos rfl, if_neg (by omega)]
        rw [this]
        rfl
    · by_cases c2 : μ 0 2 < q
      · have ek : mGrid μ n1 n2 (-q) 0 = 1 := by unfold mGrid; rw [if_neg (by omega), if_neg (by omega), if_neg (by omega), if_pos (by omega), if_pos rfl]
        have el : mGrid μ n1 n2 (-q) 1 = n2 := by unfold mGrid; rw [if_neg (by omega), if_neg (by omega), if_neg (by omega), if_pos (by omega), if_neg (by decide), if_pos rfl]
        refine ⟨fun _ => ?_, fun ci hci => by rw [ek] at hci; omega⟩
        have := hi (q - μ 0 2 - 1).toNat (by omega)
        rw [hs, rho_2 G (by omega), show gN G + (μ 0 2 - 2).toNat + 1 + (q - μ 0 2 - 1).toNat = gN G + (q - 2).toNat by omega] at this
        rw [ek, el, rho_2 G (by omega), this]
        unfold gI
        congr 2
        funext j
        have : mGrid μ n1 n2 q j = 0 := by unfold mGrid; rw [if_neg c1, if_pos (by omega)]
        rw [this]
        rfl
      · exact (g6 q hq (by omega)).kept (ho _ (hlt hq (by omega))) (eo _ _ (by omega) (by omega) (by omega)) (eo _ _ (by omega) (by omega) (by omega)) (fun j => eo _ _ (by omega) (by omega) (by omega))
theorem si_grid {ix pos : Nat} (hl : lkT (pMNews.getD (qOw y) []) ix = some pos) (X : Ctx G n y ls st μ r p l e R s m args below meth c Q H locs cells slots cE sE A) (hd : decode (qCd y) pc = .ok (.multianewarray ix 2, 4)) (h : run1 (qX n) y (stp ls st μ 20 0 0 (pc + 4)) = some r) : W p l e R s m args below meth c H locs cells slots Q (F0 m pc A (st.map (rv G))) := by
  simp only [stp] at h
  split at h
  · rename_i n2 n1 rr
    obtain ⟨h1, h2⟩ := okSt_cons.mp X.okp
    obtain ⟨h3, h4⟩ := okSt_cons.mp h2
    split at h
    · rename_i hc
      obtain ⟨c1, c2, c3, c4⟩ := hc
      have h : qX n y (pc + 4) ls ((3, μ 0 2) :: rr) (mGrid μ n1 n2) = some r := h
      obtain ⟨e2, e3⟩ := mGrid_next (n2 := n2) X.inv c1
      have hI' := Inv_mGrid X.inv ⟨c1, c2⟩ ⟨c3, c4⟩
      have hN := X.inv.1.1
      have hs' : okSt ((3, μ 0 2) :: rr) := okSt_cons.mpr ⟨⟨Nat.le_of_ble_eq_true rfl, by show (0 : Int) ≤ μ 0 2; omega⟩, h4⟩
      have hk := qX_ok n h hI' X.2.2.1 hs'
      have cc := X.2.2.2.2.2.2.2.2.2.2.2
      obtain ⟨hx, hb, hml, hown, hts, hB, hnm⟩ := X.cx
      have hw := of_decide_eq_true (tab_at (f := fun (o : Nat) (q : Nat × Nat) => decide (lw_tbl[q.2]? = some (Cond.classLink (pcn o) q.1 "[[I"))) pMNews_ok rfl hl)
      have i1 : in32 n1 := h3.2
      have i2 : in32 n2 := h1.2
      have hm : (n1 * n2).toNat = n1.toNat * n2.toNat := by rw [Int.toNat_mul (by omega) (by omega)]
      have hm0 : 0 ≤ n1 * n2 := Int.mul_nonneg (by omega) (by omega)
      have hn0 : ∀ z : Int, in32 z → 0 ≤ z → ¬ Int32.ofInt z < 0 := fun z hz h0 hlt => by have := (i32_lt hz in32_0).mp hlt; omega
      have hsz := X.pic.size X.inv
      intro T hT XS
      obtain ⟨vm₁, cA, cC, fA, fC, XS', step⟩ := grid_step XS hx hown (hts _ (lw_gm hw rfl)) (over_moved (Vm.Alike.refl s.vm) hB.2.2.1.2.2) (hts _ (lw_gi arr_words rfl)) (g := F0 m pc A (.int (Int32.ofInt n2) :: .int (Int32.ofInt n1) :: rr.map (rv G))) rfl (by rw [hb]; exact hd) rfl (hn0 n1 i1 (by omega)) (hn0 n2 i2 (by omega)) (by rw [i32_clamp i1]; omega) (by rw [i32_clamp i2]; omega) (by rw [i32_clamp i1]; omega) (by rw [i32_clamp i1, i32_clamp i2, ← hm]; omega)
      rw [i32_clamp i1, i32_clamp i2] at XS' step
      have eA : cA = gA G 5 := Option.some.inj (fA.symm.trans (hB.1.2 4 _ rfl).2)
      have eC : cC = gA G 1 := Option.some.inj (fC.symm.trans (hB.1.2 0 _ rfl).2)
      subst eA; subst eC
      obtain ⟨⟨f1, f2⟩, f3, f4, f5, f6⟩ := gT_facts (T.setVm vm₁) (gA G 5) (gA G 1) n1.toNat n2.toNat n1.toNat
      have hH : (T.setVm vm₁).heap = H := hT
      rw [hH] at f1 f2 f5 f6
      have hP' : Pic G (mGrid μ n1 n2) (gT (T.setVm vm₁) (gA G 5) (gA G 1) n1.toNat n2.toNat n1.toNat).heap := X.pic.grid X.inv c1 c3 f1 f5 f2 f6
      have hgo := X.mem (μ' := mGrid μ n1 n2) (st' := (3, μ 0 2) :: rr) (cells' := cells + 1 + n1.toNat) (slots' := slots + n1.toNat + n1.toNat * n2.toNat) (locs' := locs ++ (List.range n1.toNat).map fun j => ⟨T.heap.size, j⟩) h hI' hs' hP' (fun a ha => by
        rcases List.mem_append.mp ha with hh | hh
        · exact X.loc a hh
        · obtain ⟨z, -, hz⟩ := List.mem_map.mp hh
          rw [← hz]
          show gN G ≤ T.heap.size
          rw [hT, X.pic.1.1]
          omega) (by omega) (by rw [← hm]; omega) (by omega) (by omega)
      obtain ⟨t, a1, b1⟩ := hgo _ rfl XS'
      refine ⟨t, step t ?_, b1⟩
      rw [List.map_cons, rv_3 G (by omega), ← hsz, ← hT] at a1
      exact a1
    · cases h
  · cases h
end SimG
