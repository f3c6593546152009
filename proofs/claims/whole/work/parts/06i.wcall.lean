/-! calls over a picture -/
def qDp (y : Nat) : Nat := if y = qLaw then 11 else pdp y
def dpB (y : Nat) (q : Nat × pOp) : Bool := if q.2.1 = 16 then decide (qDp q.2.2.1 + 1 ≤ qDp y) else if q.2.1 = 28 ∨ q.2.1 = 29 then decide (1 ≤ qDp y) else true
set_option maxRecDepth 100000 in
theorem dpB_ok : (List.range 220).all (fun y => (qCode y).all (dpB y)) = true := by decide +kernel
theorem dp_at {y pc : Nat} {o : pOp} (h : ins y pc = some o) : dpB y (pc, o) = true := by
  have hy := (ins_dec h).1
  exact List.all_eq_true.mp (List.all_eq_true.mp dpB_ok y (List.mem_range.mpr hy)) (pc, o) (lkp_mem h)
theorem Met_ofWF {l : Launch} {y : MethodName} {ws ws' : List Cond} {rm : Room} {Pc : Array Value → State → Prop} {Qc : Array Value → State → Outcome → State → Prop} {mc ms : Nat} {free : Addr → Prop} {cc : ByteArray} {maxL : Nat} {ret : Option FieldType}
    (hy : plainFor y = true) (hw : ws = Cond.code y cc maxL ret :: ws')
    (body : ∀ p e s m args below meth c s₁, BodyLoose p l y (headSpec ws rm) cc maxL ret e s m args below meth c s₁ → c.maxLocals = maxL → Pc args s →
      W p l e (headSpec ws rm).room s m args below meth c s.heap [] 0 0 (MQ below Qc args s mc ms free) (entryFrame m args maxL)) : Met l y ws rm Pc Qc mc ms free := by
  refine MetFree.of_bodySF (code := cc) (maxLocals := maxL) (ret := ret) hy ?_ ?_
  · intro args s m h hn
    obtain ⟨meth, c, h1, h2, h3, h4, h5, h6, -, -⟩ := Cond.code_spec hn (atoms_spec (ws := ws) h _ (by rw [hw]; exact List.mem_cons_self))
    exact ⟨meth, c, h1, h2, h3, h4, h5, h6⟩
  · intro p e s m args below meth c s₁ B hml hP _
    have hh0 : s₁.heap = s.heap := by rw [B.state]; rfl
    obtain ⟨t, a1, o, b1, b2, b3⟩ := body p e s m args below meth c s₁ B hml hP s₁ hh0 (Stand.of_body B)
    exact ⟨t, o, a1, b1, b2, ⟨b3.1, b3.2⟩⟩
def wsM (a : Nat) : List Cond := Cond.code (pnm a) (pcd a) (pml a) (prt a) :: lw_g
def retV (G : SG) (v : PV) : Option Value := if v.1 = 9 then none else some (rv G v)
def PcM (G : SG) (as : List PV) (μ : Mem) : Array Value → State → Prop := va_Pc (as.map (rv G)) (fun U => Base G U ∧ Pic G μ U.heap)
def QcM (G : SG) (r : PV × Mem) : Array Value → State → Outcome → State → Prop := fun _ _ o t => o = .returned (retV G r.1) ∧ Pic G r.2 t.heap
def rmM (a : Nat) (μ : Mem) (r : PV × Mem) : Room := { frames := qDp a, cells := (r.2 0 2 - μ 0 2).toNat, slots := (r.2 0 3 - μ 0 3).toNat, locals := 40 * qDp a }
def MetM (G : SG) (l : Launch) (a : Nat) (as : List PV) (μ : Mem) (r : PV × Mem) : Prop := Met l (pnm a) (wsM a) (rmM a μ r) (PcM G as μ) (QcM G r) (r.2 0 2 - μ 0 2).toNat (r.2 0 3 - μ 0 3).toNat (fun q => gN G ≤ q)
def RetOK (G : SG) (y : Nat) (p : Program) (l : Launch) (e : Env) (R : Room) (s : State) (m : MethodId) (args : Array Value) (below : List Frame) (meth : Method) (c : Code) (Q : State → Prop) (r : PV × Mem) (cE sE : Nat) : Prop :=
  ∀ (pc : Nat) (A : Array Slot) (H : Heap) (locs : List Loc) (i : Instr) (len op : Nat) (bb : Int) (nx : Nat), decode (qCd y) pc = .ok (i, len) → trI y pc i len = some (24, op, bb, nx) → (if op = 9 then r.1 = (9, 0) else r.1.1 = op ∧ okS r.1 ∧ (bb = 0 ∨ r.1.2 = 0 ∨ r.1.2 = 1)) → Pic G r.2 H → (∀ a ∈ locs, gN G ≤ a.base) → W p l e R s m args below meth c H locs cE sE Q (F0 m pc A (if op = 9 then [] else [rv G r.1]))
def SimP (G : SG) (n : Nat) : Prop := ∀ (y pc : Nat) (ls st : List PV) (μ : Mem) (r : PV × Mem), qX n y pc ls st μ = some r → Inv μ → okLs ls → okSt st →
  ∀ (p : Program) (l : Launch) (e : Env) (R : Room) (s : State) (m : MethodId) (args : Array Value) (below : List Frame) (meth : Method) (c : Code) (Q : State → Prop) (H : Heap) (locs : List Loc) (cells slots cE sE : Nat) (A : Array Slot),
  Cx G y p s m args meth c → RetOK G y p l e R s m args below meth c Q r cE sE → Pic G μ H → (∀ a ∈ locs, gN G ≤ a.base) → pLS G ls A → ls.length = qML y → (qDp y ≤ R.frames ∧ 40 * qDp y ≤ R.locals) → cE = cells + (r.2 0 2 - μ 0 2).toNat → sE = slots + (r.2 0 3 - μ 0 3).toNat → cE ≤ R.cells → sE ≤ R.slots → W p l e R s m args below meth c H locs cells slots Q (F0 m pc A (st.map (rv G)))
theorem pm_ok {a : Nat} (h : a < pNM) : pOKm (pmi a) = true := by
  have h1 : a < pTab.length := by rw [pTab_len]; exact h
  have e : pmi a = pTab[a] := by unfold pmi; rw [List.getD_eq_getElem?_getD, List.getElem?_eq_getElem h1]; rfl
  rw [e]
  exact List.all_eq_true.mp pTab_ok _ (List.getElem_mem h1)
theorem pm_code {a : Nat} (h : a < pNM) : Cond.code (pnm a) (pcd a) (pml a) (prt a) ∈ lw_g := by
  have h1 : a < pTab.length := by rw [pTab_len]; exact h
  have e : pmi a = pTab[a] := by unfold pmi; rw [List.getD_eq_getElem?_getD, List.getElem?_eq_getElem h1]; rfl
  refine lw_gi ?_ rfl
  have := pTc pTab[a] (List.getElem_mem h1)
  rw [← e] at this
  exact this
/-- what the tables say of a method -/
theorem pm_facts {a : Nat} (h : a < pNM) : (pcn (pow a) = (pnm a).cls ∧ plainFor (pnm a) = true) ∧ ((pnm a).cls ≠ "java/lang/invoke/MethodHandle" ∧ (pnm a).cls ≠ "java/lang/invoke/VarHandle") ∧ (parseMethodDescriptor (pnm a).desc).map (fun d => d.parameters.length) = some (if pkd a = 0 then pnp a else pnp a - 1) ∧ pml a ≤ 21 ∧ Cond.initialized (pnm a).cls ∈ lw_g ∧ (pkd a = 0 → Cond.static (pnm a) ∈ lw_g) ∧ (pkd a ≠ 0 → 1 ≤ pnp a ∧ Cond.instanceMethod (pnm a) ∈ lw_g ∧ (vwCl[pcl a]?).map (fun r => r.1) = some (pnm a).cls) ∧ (pkd a = 1 → Cond.selects (pnm a).cls (pnm a) (pnm a) ∈ lw_g) ∧ (pkd a = 2 → (pnm a).name = "<init>" ∧ prt a = none) := by
  have hk := pm_ok h
  unfold pOKm at hk
  simp only [Bool.and_eq_true, decide_eq_true_eq] at hk
  obtain ⟨⟨⟨⟨⟨⟨⟨⟨k1, k2⟩, k3⟩, k4⟩, k5⟩, k6⟩, k7⟩, k8⟩, k9⟩ := hk
  refine ⟨⟨k1, k2⟩, k3, k4, k5, lw_gm k6 rfl, fun h0 => ?_, fun h0 => ?_, fun h1 => ?_, fun h2 => ?_⟩
  · have h0 : (pmi a).2.2.2.2.2.2.2.1 = 0 := h0
    rw [if_pos h0] at k7
    exact lw_gm (of_decide_eq_true k7) rfl
  · have h0 : (pmi a).2.2.2.2.2.2.2.1 ≠ 0 := h0
    rw [if_neg h0] at k7
    simp only [Bool.and_eq_true, decide_eq_true_eq] at k7
    exact ⟨k7.1.1, lw_gm k7.1.2 rfl, k7.2⟩
  · have h1 : (pmi a).2.2.2.2.2.2.2.1 = 1 := h1
    rw [if_pos h1] at k8
    exact lw_gm (of_decide_eq_true k8) rfl
  · have h2 : (pmi a).2.2.2.2.2.2.2.1 = 2 := h2
    rw [if_pos h2] at k9
    simp only [Bool.and_eq_true, decide_eq_true_eq] at k9
    exact k9
theorem pNM_law : pNM = 219 := rfl
theorem q_ne {a : Nat} (h : a < pNM) : a ≠ qLaw := by
  rw [pNM_law] at h
  show a ≠ 219
  omega
theorem qML_m {a : Nat} (h : a < pNM) : qML a = pml a := if_neg (q_ne h)
theorem qCd_m {a : Nat} (h : a < pNM) : qCd a = pcd a := if_neg (q_ne h)
theorem qOw_m {a : Nat} (h : a < pNM) : qOw a = pow a := if_neg (q_ne h)
theorem qRt_m {a : Nat} (h : a < pNM) : qRt a = prt a := if_neg (q_ne h)
