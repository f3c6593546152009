/-! the machine's instructions over a picture: fields and arrays -/
def Cx (G : SG) (y : Nat) (p : Program) (s : State) (m : MethodId) (args : Array Value) (meth : Method) (c : Code) : Prop := p.tables.exec = Jvm.exec ∧ c.code = qCd y ∧ c.maxLocals = qML y ∧ s.vm.findClass (pcn (qOw y)) = some m.cls ∧ (∀ w ∈ lw_g, w.before args s = true) ∧ Base G s ∧ (y ≠ qLaw → meth.name = (pnm y).name)
theorem fit_of (G : SG) {ty : FieldType} {v : PV} (hty : ty = .int ∨ ty = .boolean ∨ (∃ c, ty = .object c) ∨ ∃ c, ty = .array c) (h : fok (fTag ty) v = true) : narrow ty (rv G v) = rv G v ∧ fits ty (rv G v) = true := by
  obtain ⟨t, x⟩ := v
  have hr : ∀ ty, (∃ c, ty = FieldType.object c) ∨ (∃ c, ty = FieldType.array c) → narrow ty (rv G (3, x)) = rv G (3, x) ∧ fits ty (rv G (3, x)) = true := by
    intro ty h
    show narrow ty (if x ≤ 0 then Value.null else Value.ref (rho G x)) = (if x ≤ 0 then Value.null else Value.ref (rho G x)) ∧ fits ty (if x ≤ 0 then Value.null else Value.ref (rho G x)) = true
    rcases h with ⟨c, rfl⟩ | ⟨c, rfl⟩ <;> split <;> exact ⟨rfl, rfl⟩
  rcases hty with rfl | rfl | h1 | h1
  · have h : (t == 0) = true := h
    rw [beq_iff_eq] at h
    subst h
    exact ⟨vp_nar_int _, rfl⟩
  · have h : (t == 0 && (decide (x = 0) || decide (x = 1))) = true := h
    simp only [Bool.and_eq_true, Bool.or_eq_true, decide_eq_true_eq, beq_iff_eq] at h
    obtain ⟨rfl, rfl | rfl⟩ := h
    · exact ⟨(show narrow .boolean (.int (Int32.ofInt 0)) = .int (Int32.ofInt 0) by decide), (show fits .boolean (.int (Int32.ofInt 0)) = true by decide)⟩
    · exact ⟨(show narrow .boolean (.int (Int32.ofInt 1)) = .int (Int32.ofInt 1) by decide), (show fits .boolean (.int (Int32.ofInt 1)) = true by decide)⟩
  · have h3 : t = 3 := by
      obtain ⟨c, rfl⟩ := h1
      exact beq_iff_eq.mp (show (t == 3) = true from h)
    subst h3
    exact hr _ (Or.inl h1)
  · have h3 : t = 3 := by
      obtain ⟨c, rfl⟩ := h1
      exact beq_iff_eq.mp (show (t == 3) = true from h)
    subst h3
    exact hr _ (Or.inr h1)
theorem fld_word {o ix ci k nest pos : Nat} (h : lkT (pFlds.getD o []) ix = some (ci, k, nest, pos)) : ∃ r, vwCl[ci]? = some r ∧ k < r.2.2 ∧ lw_tbl[pos]? = some (pFw o (ix, ci, k, nest, pos) r) := by
  have := fld_at h
  unfold pOKf at this
  dsimp only at this
  cases hr : vwCl[ci]? with
  | none => rw [hr] at this; cases this
  | some r =>
    rw [hr] at this
    simp only [Bool.and_eq_true, decide_eq_true_eq] at this
    exact ⟨r, rfl, this.1, this.2⟩
section WOps
variable {G : SG} {y : Nat} {p : Program} {l : Launch} {e : Env} {R : Room} {s : State} {m : MethodId} {args : Array Value} {below : List Frame} {meth : Method} {c : Code} {Q : State → Prop} {H : Heap} {locs : List Loc} {cells slots : Nat} {A : Array Slot} {pc : Nat} {μ : Mem} {rest : List Value}
theorem obj_2 {q : Int} {ci : Nat} (hI : Inv μ) (hq : 0 ≤ q) (hk : μ (-q) 0 = 10 + (ci : Int)) : 2 ≤ q ∧ q < μ 0 2 := by
  have h1 := kind_pos hI hq (by rw [hk]; omega)
  have h2 : q ≠ 1 := fun e => by
    subst e
    have := hI.2.2.1
    omega
  omega
theorem obj_P {q : Int} {ci : Nat} {r : vw_C} (hc : vwCl[ci]? = some r) (h : cAt G μ q H) (hk : μ (-q) 0 = 10 + (ci : Int)) : va_P (gV G) vwCl [(rho G q, .inr (ci, (List.range (nF ci)).map (fun k : Nat => rv G (gTag (fT ci k), μ q k))))] H := by
  intro k x hx
  match k, hx with
  | 0, hx =>
    cases hx
    refine ⟨r, hc, ?_⟩
    have hn : nF ci = r.2.2 := by unfold nF; rw [hc]
    rw [← hn]
    exact (h.2 ci hk).to (fun j hj => by simp [vp_V, hj])
  | k + 1, hx => cases hx
theorem w_get {ix ci k nest pos : Nat} {q : Int} (C : Cx G y p s m args meth c) (hI : Inv μ) (hP : Pic G μ H) (hd : decode (qCd y) pc = .ok (.getfield ix, 3)) (hf : lkT (pFlds.getD (qOw y) []) ix = some (ci, k, nest, pos)) (hq : 0 ≤ q) (hk : μ (-q) 0 = 10 + (ci : Int))
    (kk : W p l e R s m args below meth c H locs cells slots Q (F0 m (pc + 3) A (rv G (gTag (fT ci k), μ q k) :: rest))) : W p l e R s m args below meth c H locs cells slots Q (F0 m pc A (rv G (3, q) :: rest)) := by
  obtain ⟨hx, hb, hml, hown, hts, hB, -⟩ := C
  obtain ⟨h2, hqn⟩ := obj_2 hI hq hk
  obtain ⟨r, hr, hkr, hw⟩ := fld_word hf
  have hn : nF ci = r.2.2 := by unfold nF; rw [hr]
  obtain ⟨hws, -, -, -, -⟩ := pCok_at hr
  have hws := u_good hws
  have hV := obj_P hr (hP.2.2 q h2 hqn) hk
  rw [rv_3 G (by omega)]
  have hv : ((List.range (nF ci)).map (fun k : Nat => rv G (gTag (fT ci k), μ q k)))[k]? = some (rv G (gTag (fT ci k), μ q k)) := by simp [show k < nF ci by omega]
  unfold pFw at hw
  dsimp only at hw
  split at hw
  · exact va_get (C := r.1) (T := r.2.1) (N := r.2.2) hx hb hts hws hown hB.1 hV 0 rfl hr k hkr (hts _ (lw_gm hw rfl)) (fun x h => h) hv hd kk
  · exact va_getN (C := r.1) (T := r.2.1) (N := r.2.2) hx hb hts hws hown hB.1 hV 0 rfl hr k hkr (va_Nw.use rfl (hB.2.1 _ (List.mem_of_getElem? hw) rfl)) (fun x h => h) hv hd kk
theorem w_put {ix ci k nest pos : Nat} {q : Int} {v : PV} (C : Cx G y p s m args meth c) (hI : Inv μ) (hP : Pic G μ H) (hL : ∀ a ∈ locs, gN G ≤ a.base) (hd : decode (qCd y) pc = .ok (.putfield ix, 3)) (hf : lkT (pFlds.getD (qOw y) []) ix = some (ci, k, nest, pos)) (hfin : finOK y ci k nest = true) (hq : 0 ≤ q) (hk : μ (-q) 0 = 10 + (ci : Int)) (hfo : fok (fT ci k) v = true)
    (kk : ∀ (H1 : Heap) (locs1 : List Loc), Pic G (mU μ q k v.2) H1 → (∀ a ∈ locs1, gN G ≤ a.base) → W p l e R s m args below meth c H1 locs1 cells slots Q (F0 m (pc + 3) A rest)) : W p l e R s m args below meth c H locs cells slots Q (F0 m pc A (rv G v :: rv G (3, q) :: rest)) := by
  obtain ⟨hx, hb, hml, hown, hts, hB, hnm⟩ := C
  obtain ⟨h2, hqn⟩ := obj_2 hI hq hk
  obtain ⟨r, hr, hkr, hw⟩ := fld_word hf
  have hn : nF ci = r.2.2 := by unfold nF; rw [hr]
  obtain ⟨hws, -, hap0, -, -⟩ := pCok_at hr
  have hws := u_good hws
  have hty := pTys_ok hr hkr
  have hK := hB.1
  have hap := va_apart (own := pcn (qOw y)) hts hws (pTys.getD ci (fun _ => .int)) (fun j hj => pTys_ok hr hj) hap0 hK hr
  obtain ⟨cell, q1, q2, q3, q4⟩ := (hP.2.2 q h2 hqn).2 ci hk
  rw [hn] at q4
  obtain ⟨hS, hfc, kC, hkC, hkind⟩ := hK.1 ci _ hr
  obtain ⟨cf, kf, fi, f, hi, hsl⟩ := hS k hkr
  have hst := (u_facts hfc hkC (u_lays hts hws hkr) hi).1
  obtain ⟨f1, f2⟩ := fit_of G (pTys_in hr hkr) hfo
  have hlay := hts _ (hws _ (u_in_lay hkr))
  have hvt := fok_g hfo
  have hrv : rv G v = rv G (gTag (fT ci k), v.2) := by rw [← hvt]
  rw [rv_3 G (by omega)]
  have goal : ∀ H' : Heap, H'[rho G q]? = some (cell.setSlot f.slot (rv G v)) → H'.size = H.size → (∀ a, a ≠ rho G q → H'[a]? = H[a]?) → Pic G (mU μ q k v.2) H' := by
    intro H' e1 e2 e3
    refine hP.put h2 e2 e3 ⟨fun hh => ?_, fun cj hcj => ?_⟩
    · rw [mU_neg (by omega) (by omega)] at hh; omega
    · rw [mU_neg (by omega) (by omega)] at hcj
      have e4 : cj = ci := by omega
      subst e4
      rw [hsl] at e1
      rw [hn]
      refine t_OB.to (V := updV (fun j : Nat => rv G (gTag (fT cj j), μ q j)) k (rv G v)) ⟨_, e1, q2, q3, t_set q4 hap hkr _⟩ (fun j _ => ?_)
      unfold updV
      by_cases e5 : j = k
      · subst e5; rw [if_pos rfl, mU_same, hrv]
      · rw [if_neg e5, mU_other (by omega)]
  have hL1 : ∀ a ∈ locs ++ [(⟨rho G q, f.slot⟩ : Loc)], gN G ≤ a.base := fun a ha => by
    rcases List.mem_append.mp ha with h | h
    · exact hL a h
    · rw [List.mem_singleton.mp h]
      show gN G ≤ rho G q
      rw [rho_2 G h2]; omega
  unfold finOK at hfin
  rw [hr] at hfin
  simp only [Bool.and_eq_true, decide_eq_true_eq] at hfin
  by_cases hF : (r.2.1 k).2.2.2 = true
  · rw [if_pos hF] at hfin
    simp only [Bool.and_eq_true, decide_eq_true_eq] at hfin
    obtain ⟨-, ⟨⟨rfl, hi2⟩, hyl⟩, hdecl⟩ := hfin
    unfold u_lay at hlay
    rw [if_pos hF] at hlay
    have hcf : m.cls = cf := by
      obtain ⟨_, _, c', _, _, _, -, -, hf', -, -, -, hown2, -⟩ := Cond.laysFinal_spec hlay
      have e1 : c' = cf := by have := hi.symm.trans hf'; simp at this; exact this.1.symm
      rw [hdecl] at hown2
      rw [← e1]; exact Option.some.inj (hown.symm.trans hown2)
    have h6 := u_fits hfc hkC hkind (Or.inr hlay) hi hty f1 f2
    have hlink : (Cond.fieldLink (pcn (qOw y)) ix (r.2.1 k).1 (r.2.1 k).2.1 (r.2.1 k).2.2.1).before args s = true := hts _ (lw_gm (by unfold pFw at hw; exact hw) rfl)
    exact W.putFinK hx hb hown hlink hi hst hcf (by rw [hnm hyl]; exact hi2) (by rw [q2]; exact h6) q1 q3 (by rw [hsl]; exact k2_hasslot (q4 k hkr)) rfl rfl hd fun H' e1 e2 e3 => kk H' _ (goal H' e1 e2 e3) hL1
  · unfold u_lay at hlay
    rw [if_neg hF] at hlay
    have h6 := u_store hfc hkC hkind hlay hi hty f1 f2
    unfold pFw at hw
    dsimp only at hw
    split at hw
    · exact W.putK hx hb (f := f) ⟨hown, hts _ (lw_gm hw rfl), ⟨_, _, _, hi⟩, hst⟩ (by rw [q2]; exact h6) q1 q3 (by rw [hsl]; exact k2_hasslot (q4 k hkr)) rfl rfl hd fun H' e1 e2 e3 => kk H' _ (goal H' e1 e2 e3) hL1
    · exact va_WputK hx hb (f := f) hown (va_Nw.use rfl (hB.2.1 _ (List.mem_of_getElem? hw) rfl)) hi hst (by rw [q2]; exact h6) q1 q3 (by rw [hsl]; exact k2_hasslot (q4 k hkr)) rfl rfl hd fun H' e1 e2 e3 => kk H' _ (goal H' e1 e2 e3) hL1
end WOps
