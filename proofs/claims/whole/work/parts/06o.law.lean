/-! THE CLAIM OUT OF ONE WALK OF THE LAW'S BODY. Your part is whole_start (and what it stands on); all else here is the same for every law, but numbers. -/
def R_law : String := "NineKeysLaw"
def lw_P (b : Addr) (xs : List Int32) (args : Array Value) (s : State) : Prop := args = #[.ref b] ∧ s.IntsAt b xs ∧ xs.length ≤ 3072 ∧ (Jvm.Cond.and given_1 narrow_1).before args s = true
/-- what a walk over the start with the record d0 says of its end, said of the start itself -/
theorem lw_closed {s t : State} {o : Outcome} {d0 : Drawn} {L : List Loc} {k n : Nat} (hd0 : s.drawn.sameBut d0 lw_cs) (hv : ∃ v, o = .returned v) (hW : (s.setDrawn d0).WarmedH t.vm) (hs : (s.setDrawn d0).sameButNew ({ t with vm := s.vm } : State) L k n) : State.butDraws s t lw_cs (fun t1 => Framed s o t1 L k n) := by
  have h2 : t.drawn = d0 := congrArg State.drawn hs.1
  refine ⟨⟨hv, hW, State.sameButNew.setDrawn hs s.drawn⟩, ?_, by decide⟩
  rw [h2]
  exact hd0
def lw_Q (_ : Array Value) (s : State) (o : Outcome) (t : State) : Prop := o = .returned (some (.int 1)) ∧ State.butDraws s t lw_cs (fun t1 => Framed s o t1 [] room_1.cells room_1.slots)
def lw_Z (below : List Frame) (a : Array Value) (s : State) : State → Prop := fun t => ∃ o, t.status = .running ∧ Ended t below o ∧ lw_Q a s o t
/-- the law's own end, with 1 on the stack, nothing written that was there before, its room as the claim has it; d0: the record of draws at this point (at the entry s.drawn: begin with 'refine W.base ?_' and 'have hd0 := Drawn.sameBut.refl s.drawn lw_cs') -/
theorem lw_ret {p : Program} {l : Launch} {e : Env} {s : State} {m : MethodId} {below : List Frame} {meth : Method} {c : Code} {b : Nat} {d0 : Drawn} (hd0 : s.drawn.sameBut d0 lw_cs) (hx : p.tables.exec = Jvm.exec) (hb : c.code = code) (hr : meth.sig.returnType = ret) (hlocks : meth.locks = false) {pc : Nat} {H : Heap} {ls : Array Slot} (hdg : decode code pc = .ok (.ireturn, 1)) : W p l e room_1 (s.setDrawn d0) m #[Value.ref b] below meth c H [] room_1.cells room_1.slots (lw_Z below #[Value.ref b] s) (F0 m pc ls [.int 1]) := by
  intro T hT X
  obtain ⟨fs, hret, hrun, hended, hW, hframe⟩ := X.leave (v := some (.int 1)) (hlocks := hlocks) (fun h => by rw [hr] at h; cases h)
  have hmeth' : T.vm.method? m = some meth := X.method'
  refine ⟨T.setFrames fs, ?_, .returned (some (.int 1)), hrun, hended, rfl, lw_closed hd0 ⟨_, rfl⟩ hW hframe⟩
  jvm_step X.here [X.here.top, hx, hb, hdg, hmeth', hr, ret, narrow_b1]
  (try refine ⟨rfl, ?_⟩); (try refine ⟨rfl, ?_⟩)
  first | (intro acts; rw [hret _ acts rfl rfl rfl]) | rw [hret _ _ rfl rfl rfl]
  exact Steps.refl _
/-- what holds at the law's entry: the machine, the code, the tables' words (any of lw_tbl by 'hts w (by decide +kernel)'), the script of L ints xs at the cell b, what the Statement gives of the start (any of its parts by flat_of_before) -/
def lw_At (p : Program) (s : State) (m : MethodId) (meth : Method) (c : Code) (b L : Nat) (xs : Nat → Int32) : Prop :=
  p.tables.exec = Jvm.exec ∧ c.code = code ∧ meth.sig.returnType = ret ∧ c.maxLocals = 4 ∧ s.vm.findClass R_law = some m.cls ∧ (∀ w ∈ lw_tbl, w.before #[Value.ref b] s = true) ∧ va_X b L xs s s.heap ∧ b < s.heap.size ∧ meth.locks = false ∧ (Jvm.Cond.and given_1 narrow_1).before #[Value.ref b] s = true

theorem in32_mu0 (L : Nat) (xs : Nat → Int32) (i : Int) : in32 (mu0 L xs 1 i) := by
  unfold mu0
  rw [if_pos rfl]
  split
  · exact i32_in _
  · exact in32_0
theorem mu0_k (L : Nat) (xs : Nat → Int32) (q : Int) (hq : 0 ≤ q) : mu0 L xs (-q) 0 = if q = 1 then 1 else 0 := by
  unfold mu0
  rw [if_neg (by omega)]
  by_cases e : q = 1
  · rw [if_pos (by omega), if_pos rfl, if_pos e]
  · rw [if_neg (by omega), if_neg (by omega), if_neg e]
theorem Inv_mu0 {L : Nat} {xs : Nat → Int32} (hL : L ≤ 3072) : Inv (mu0 L xs) := by
  have e2 : mu0 L xs 0 2 = 2 := rfl
  have e3 : mu0 L xs 0 3 = 0 := rfl
  refine ⟨⟨by rw [e2]; decide, by rw [e3]; decide⟩, fun q hq hk => ?_, rfl, fun q hq => ?_⟩
  · rw [mu0_k L xs q hq] at hk
    rw [e2]
    split at hk
    · omega
    · exact absurd rfl hk
  · unfold okC
    rw [mu0_k L xs q (by omega)]
    by_cases e : q = 1
    · subst e
      rw [if_pos rfl]
      have e4 : mu0 L xs (-1) 1 = (L : Int) := rfl
      rw [e4]
      exact ⟨fun _ => ⟨by omega, fun j => in32_mu0 L xs j⟩, fun ci hci => by omega⟩
    · rw [if_neg e]
      exact ⟨fun hh => by omega, fun ci hci => by omega⟩
theorem base_of {s : State} {b L : Nat} {xs : Nat → Int32} (hts : ∀ w ∈ lw_tbl, w.before #[Value.ref b] s = true) (hX : va_X b L xs s s.heap) (hbl : b < s.heap.size) : ∃ G : SG, gB G = b ∧ gN G = s.heap.size ∧ Base G s ∧ Pic G (mu0 L xs) s.heap := by
  have h1 : ∀ k : Nat, ∃ (cC : ClassId) (iS : Nat → Nat), ∀ q, vwCl[k]? = some q → u_Kn s q.1 q.2.1 q.2.2 cC iS := by
    intro k
    cases hq : vwCl[k]? with
    | none => exact ⟨0, fun _ => 0, fun q h => by cases h⟩
    | some q =>
      obtain ⟨hws, -, -, hins, -⟩ := pCok_at hq
      obtain ⟨cC, iS, h⟩ := u_known hts hws (hts _ hins)
      exact ⟨cC, iS, fun q' h' => by cases h'; exact h⟩
  obtain ⟨dC, h2⟩ := Classical.skolem.mp h1
  obtain ⟨dI, h3⟩ := Classical.skolem.mp h2
  have arrP : ∀ ty : FieldType, (∀ c, ty ≠ .object c) → Cond.arrayClass ty ∈ lw_tbl → ∃ cA : ClassId, ArrOfT s cA ty ∧ va_RA s cA ty := by
    intro ty hty hw
    obtain ⟨cA, kA, comp, f1, f2, f3⟩ := Cond.arrayClass_spec (hts _ hw)
    refine ⟨cA, fun n z => ⟨fun k h => (by cases h), kA, f2, comp, f3⟩, ?_⟩
    cases ty with
    | object c => exact absurd rfl (hty c)
    | _ => exact f1
  have hkey : (Cond.arrayClass .int ∈ lw_tbl ∧ Cond.arrayClass .long ∈ lw_tbl) ∧ Cond.arrayClass .boolean ∈ lw_tbl := by decide +kernel
  have okey : (Cond.arrayOver (.object RX6) ∈ lw_tbl ∧ Cond.arrayOver (.object RX9) ∈ lw_tbl) ∧ Cond.arrayOver (.array .int) ∈ lw_tbl := by decide +kernel
  have arrO : ∀ C : String, Cond.arrayOver (.object C) ∈ lw_tbl → ∃ cA : ClassId, ArrOfT s cA (.object C) ∧ va_RA s cA (.object C) := by
    intro C hw
    obtain ⟨comp, cA, kA, f1, f2, f3, f4, f5⟩ := Cond.arrayOver_spec (hts _ hw)
    exact ⟨cA, fun n z => ⟨fun k h => (by cases h), kA, f3, comp, f4⟩, kA, comp, f3, f4, f1, f5⟩
  obtain ⟨a1, g1⟩ := arrP .int (fun _ h => by cases h) hkey.1.1
  obtain ⟨a2, g2⟩ := arrP .long (fun _ h => by cases h) hkey.1.2
  obtain ⟨a3, g3⟩ := arrO RX6 okey.1.1
  obtain ⟨a4, g4⟩ := arrO RX9 okey.1.2
  obtain ⟨a5, g5⟩ : ∃ cA : ClassId, ArrOfT s cA (.array .int) ∧ va_RA s cA (.array .int) := by
    obtain ⟨comp, cA, kA, f1, f2, f3, f4, f5⟩ := arrayOverA_spec (hts _ okey.2)
    exact ⟨cA, fun n z => ⟨fun k h => (by cases h), kA, f3, comp, f4⟩, f5⟩
  obtain ⟨a6, g6⟩ := arrP .boolean (fun _ h => by cases h) hkey.2
  obtain ⟨scr, x1, x2, x3, x4, x5⟩ := hX
  refine ⟨(b, s.heap.size, (fun k => if k = 1 then a1 else if k = 2 then a2 else if k = 3 then a3 else if k = 4 then a4 else if k = 5 then a5 else a6), (dC, dI), scr), rfl, rfl, ⟨⟨fun k q hq => h3 k q hq, fun k q hq => ?_⟩, fun w hw hn => ?_, ⟨hts _ okey.1.1, hts _ okey.1.2, over_moved (Vm.Alike.refl s.vm) (hts _ okey.2)⟩, x2, x3⟩, ⟨by show s.heap.size = s.heap.size + _; simp [mu0], hbl⟩, ⟨x1, by rw [show mu0 L xs (-1) 1 = (L : Int) from rfl]; exact x4, fun j hj => ?_⟩, fun q h2 hqn => ?_⟩
  · match k, hq with
    | 0, hq => cases hq; exact g1
    | 1, hq => cases hq; exact g2
    | 2, hq => cases hq; exact g3
    | 3, hq => cases hq; exact g4
    | 4, hq => cases hq; exact g5
    | 5, hq => cases hq; exact g6
    | k + 6, hq => simp [tysG] at hq
  · have := hts w hw
    unfold isNest at hn
    split at hn
    · exact va_Nw.of rfl this
    · exact va_Nw.of rfl this
    · cases hn
  · have hj : j < L := hj
    show scr.slots[j]? = _
    rw [x5 j hj]
    have : mu0 L xs 1 j = (xs j).toInt := by
      unfold mu0
      rw [if_pos rfl, if_pos (by omega), Int.toNat_natCast]
    rw [this, Int32.ofInt_toInt]
  · have hqn : q < 2 := hqn
    omega
/-- the law from its entry, out of the pure machine's run -/
theorem whole_of (hpure : PureLaw) {p : Program} {e : Env} {s : State} {m : MethodId} {below : List Frame} {meth : Method} {c : Code} (l : Launch) {b L : Nat} {xs : Nat → Int32} (hL : L ≤ 3072) (C0 : lw_At p s m meth c b L xs) : W p l e room_1 s m #[Value.ref b] below meth c s.heap [] 0 0 (lw_Z below #[Value.ref b] s) (entryFrame m ([Value.ref b] : List Value).toArray 4) := by
  obtain ⟨hx, hb, hr, hml, hown, hts, hX, hbl, hlocks, hgv⟩ := C0
  obtain ⟨G, gb, gn, hB, hP⟩ := base_of hts hX hbl
  obtain ⟨μ, hrun, hc, hsl⟩ := hpure L xs hL
  have hrc : 371 ≤ room_1.cells := by decide
  have hrs : 101280 ≤ room_1.slots := by decide
  obtain ⟨n, hn⟩ := qE_iff.mp hrun
  have hI := Inv_mu0 (xs := xs) hL
  have has : okSt [((3 : Nat), (1 : Int))] := fun v hv => by rw [List.mem_singleton.mp hv]; exact ⟨by decide, by show (0 : Int) ≤ 1; decide⟩
  have hlen : (layA [((3 : Nat), (1 : Int))]).length ≤ qML qLaw := by decide
  have hLS := pLS_entry G (y := qLaw) has hlen
  have hk := qX_ok n hn hI (okLs_entL has) (fun v hv => by cases hv)
  have e2 : mu0 L xs 0 2 = 2 := rfl
  have e3 : mu0 L xs 0 3 = 0 := rfl
  have hrv : ([((3 : Nat), (1 : Int))]).map (rv G) = [Value.ref b] := by
    show [rv G (3, 1)] = _
    rw [rv_3 G (by decide), rho_1, gb]
  rw [hrv] at hLS
  rw [lg_entry_eq]
  refine sim_all G n qLaw 0 (entL qLaw [(3, 1)]) [] (mu0 L xs) ((0, 1), μ) hn hI (okLs_entL has) (fun v hv => by cases hv) p l e room_1 s m _ below meth c _ s.heap [] 0 0 ((μ 0 2 - 2).toNat) ((μ 0 3 - 0).toNat) _ ⟨hx, hb, hml, hown, fun w hw => hts w (List.mem_filter.mp hw).1, hB, fun h => absurd rfl h⟩ ?_ hP (fun a ha => by cases ha) hLS (entL_len hlen) ⟨by decide, by decide⟩ (by show _ = 0 + (μ 0 2 - mu0 L xs 0 2).toNat; rw [e2]; omega) (by show _ = 0 + (μ 0 3 - mu0 L xs 0 3).toNat; rw [e3]; omega) (by omega) (by omega)
  intro pc A H locs i len op bb nx hd ht hc2 hP' hL'
  obtain ⟨rfl, hh⟩ := tr_ret ht
  have hq : qRt qLaw = some .boolean := rfl
  rw [hq] at hh
  rcases hh with ⟨rfl, rfl, -⟩ | ⟨-, -, hh⟩ | ⟨-, -, c', hh⟩ | ⟨-, -, hh⟩
  · rw [if_neg (by decide)]
    refine va_forget (fun q hq => by rw [← gn]; exact hL' q hq) ?_
    refine W.widen (k := room_1.cells) (n := room_1.slots) (by omega) (by omega) ?_
    refine W.base ?_
    exact lw_ret (Drawn.sameBut.refl s.drawn lw_cs) hx hb hr hlocks hd
  · cases hh
  · cases hh
  · cases hh
