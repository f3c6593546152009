/-! what the tables say of an instruction -/
theorem lkT_mem {α : Type} {l : List (Nat × α)} {i : Nat} {v : α} (h : lkT l i = some v) : (i, v) ∈ l := by
  induction l with
  | nil => cases h
  | cons q r ih =>
    obtain ⟨k, o'⟩ := q
    simp only [lkT] at h
    split at h
    · rename_i e; subst e; cases h; exact List.mem_cons_self
    · exact List.mem_cons_of_mem _ (ih h)
theorem tab_at {α : Type} {T : List (List (Nat × α))} {f : Nat → Nat × α → Bool} (hT : (List.range 16).all (fun o => (T.getD o []).all (f o)) = true) (hlen : T.length = 16) {o i : Nat} {v : α} (h : lkT (T.getD o []) i = some v) : f o (i, v) = true := by
  have hm := lkT_mem h
  by_cases ho : o < 16
  · exact List.all_eq_true.mp (List.all_eq_true.mp hT o (List.mem_range.mpr ho)) _ hm
  · have e2 : T[o]? = none := List.getElem?_eq_none (by omega)
    simp [List.getD_eq_getElem?_getD, e2] at hm
theorem fld_at {o ix ci k nest pos : Nat} (h : lkT (pFlds.getD o []) ix = some (ci, k, nest, pos)) : pOKf o (ix, ci, k, nest, pos) = true := tab_at pFlds_ok rfl h
theorem fld_lt {o ix ci k nest pos : Nat} (h : lkT (pFlds.getD o []) ix = some (ci, k, nest, pos)) : k < nF ci := by
  have := fld_at h
  unfold pOKf at this
  dsimp only at this
  unfold nF
  cases hr : vwCl[ci]? with
  | none => rw [hr] at this; cases this
  | some r =>
    rw [hr] at this
    simp only [Bool.and_eq_true, decide_eq_true_eq] at this
    exact this.1
theorem nF_le (ci : Nat) : nF ci ≤ 35 := by
  by_cases h : ci < 11
  · exact (show ∀ c, c < 11 → nF c ≤ 35 by decide +kernel) ci h
  · have e2 : vwCl[ci]? = none := List.getElem?_eq_none (by show 11 ≤ ci; omega)
    unfold nF
    rw [e2]
    exact Nat.zero_le _
theorem anew_at {o ix k pos : Nat} (h : lkT (pANews.getD o []) ix = some (k, pos)) : k = 3 ∨ k = 4 := by
  have := tab_at pANews_ok rfl h
  unfold pOKa at this
  simp only [Bool.and_eq_true, decide_eq_true_eq] at this
  exact this.1
theorem rg_some {len n : Nat} {o p : pOp} (h : rg len n o = some p) : len = n ∧ o = p := by
  unfold rg at h
  split at h
  · rename_i e; cases h; exact ⟨e, rfl⟩
  · cases h
/-- the side conditions of stp_ok -/
def trF (o : pOp) : Prop := (o.1 = 0 → okS (o.2.1, o.2.2.1)) ∧ (o.1 = 1 → o.2.1 ≤ 3) ∧ (o.1 = 14 ∨ o.1 = 15 → ∃ k : Nat, o.2.2.1 = (k : Int) ∧ k < nF o.2.1) ∧ (o.1 = 18 ∨ o.1 = 19 → (o.2.1 : Int) ≠ 0)
theorem trF_no {op a : Nat} {b : Int} {nx : Nat} (h : op ≠ 0 ∧ op ≠ 1 ∧ op ≠ 14 ∧ op ≠ 15 ∧ op ≠ 18 ∧ op ≠ 19) : trF (op, a, b, nx) := ⟨fun e => absurd e h.1, fun e => absurd e h.2.1, fun e => e.elim (fun e => absurd e h.2.2.1) (fun e => absurd e h.2.2.2.1), fun e => e.elim (fun e => absurd e h.2.2.2.2.1) (fun e => absurd e h.2.2.2.2.2)⟩
theorem trF_0 {a : Nat} {b : Int} {nx : Nat} (h : okS (a, b)) : trF (0, a, b, nx) := ⟨fun _ => h, (fun e => by cases e), (fun e => by rcases e with e | e <;> cases e), (fun e => by rcases e with e | e <;> cases e)⟩
theorem trF_1 {a : Nat} {b : Int} {nx : Nat} (h : a ≤ 3) : trF (1, a, b, nx) := ⟨(fun e => by cases e), fun _ => h, (fun e => by rcases e with e | e <;> cases e), (fun e => by rcases e with e | e <;> cases e)⟩
theorem rng_in {v : Int} (h : rng v = true) : in32 v := by
  unfold rng at h
  simp only [Bool.and_eq_true, decide_eq_true_eq] at h
  exact h
set_option maxHeartbeats 4000000 in
theorem tr_facts {y pc len : Nat} {i : Instr} {o : pOp} (h : trI y pc i len = some o) : trF o := by
  unfold trI at h
  split at h
  case h_1 => split at h; (rename_i hr; obtain ⟨-, rfl⟩ := rg_some h; exact trF_0 ⟨Nat.zero_le _, rng_in hr⟩); cases h
  case h_2 => split at h; (rename_i hr; obtain ⟨-, rfl⟩ := rg_some h; exact trF_0 ⟨Nat.zero_le _, rng_in hr.2⟩); cases h
  case h_3 => split at h; (rename_i hr; obtain ⟨-, rfl⟩ := rg_some h; exact trF_0 ⟨Nat.zero_le _, rng_in hr.2⟩); cases h
  case h_4 n => obtain ⟨-, rfl⟩ := rg_some h; exact trF_0 ⟨Nat.le_of_ble_eq_true rfl, by have := n.2; show in64 _; unfold in64; omega⟩
  case h_5 =>
    split at h
    · obtain ⟨-, rfl⟩ := rg_some h; exact trF_0 ⟨Nat.zero_le _, i32_in _⟩
    · obtain ⟨-, rfl⟩ := rg_some h; exact trF_0 ⟨Nat.le_of_ble_eq_true rfl, u32_in _⟩
    · cases h
  case h_6 =>
    split at h
    · obtain ⟨-, rfl⟩ := rg_some h; exact trF_0 ⟨Nat.le_of_ble_eq_true rfl, i64_in _⟩
    · cases h
  case h_7 => obtain ⟨-, rfl⟩ := rg_some h; exact trF_0 ⟨Nat.le_of_ble_eq_true rfl, by show (0 : Int) ≤ 0; decide⟩
  all_goals first
    | (obtain ⟨-, rfl⟩ := rg_some h; exact trF_no (by decide))
    | (obtain ⟨-, rfl⟩ := rg_some h; exact trF_1 (by decide))
    | (split at h; (obtain ⟨-, rfl⟩ := rg_some h; exact trF_no (by decide)); cases h)
    | (split at h; (cases h; exact trF_no (by decide)); cases h)
    | (split at h; (rename_i hl; obtain ⟨-, rfl⟩ := rg_some h; exact ⟨(fun e => by cases e), (fun e => by cases e), fun _ => ⟨_, rfl, fld_lt hl⟩, (fun e => by rcases e with e | e <;> cases e)⟩); cases h)
    | (split at h; (rename_i hl; split at h; (obtain ⟨-, rfl⟩ := rg_some h; exact ⟨(fun e => by cases e), (fun e => by cases e), fun _ => ⟨_, rfl, fld_lt hl⟩, (fun e => by rcases e with e | e <;> cases e)⟩); cases h); cases h)
    | (split at h; (split at h; (obtain ⟨-, rfl⟩ := rg_some h; exact trF_no (by decide)); cases h); cases h)
    | (split at h; (split at h; (obtain ⟨-, rfl⟩ := rg_some h; exact trF_no (by decide)); cases h); (split at h; (obtain ⟨-, rfl⟩ := rg_some h; exact trF_no (by decide)); cases h))
    | (obtain ⟨-, rfl⟩ := rg_some h; exact ⟨(fun e => by cases e), (fun e => by cases e), (fun e => by rcases e with e | e <;> cases e), fun _ => by simp⟩)
    | (split at h; (rename_i hl; obtain ⟨-, rfl⟩ := rg_some h; exact ⟨(fun e => by cases e), (fun e => by cases e), (fun e => by rcases e with e | e <;> cases e), fun _ => by rcases anew_at hl with e | e <;> (subst e; simp)⟩); cases h)
    | (split at h; (obtain ⟨-, rfl⟩ := rg_some h; exact trF_no (by decide)); (split at h; (obtain ⟨-, rfl⟩ := rg_some h; exact trF_no (by decide)); cases h))
    | cases h
theorem pstep_ok {y pc : Nat} {ls st : List PV} {μ : Mem} (hI : Inv μ) (hl : okLs ls) (hs : okSt st) : okQ μ (pstep y pc ls st μ) := by
  unfold pstep
  cases ho : ins y pc with
  | none => trivial
  | some o =>
    obtain ⟨hy, i, len, hd, ht⟩ := ins_dec ho
    obtain ⟨f0, f1, f2, f3⟩ := tr_facts ht
    exact stp_ok hI hl hs f0 f1 f2 (fun _ => Nat.le_trans (nF_le _) (by decide)) f3
theorem okLs_layA {as : List PV} (h : okSt as) : okLs (layA as) := by
  induction as with
  | nil => intro v hv; cases hv
  | cons v r ih =>
    obtain ⟨h1, h2⟩ := okSt_cons.mp h
    unfold layA
    split
    · intro w hw
      rcases List.mem_cons.mp hw with rfl | hw
      · exact h1.2
      · rcases List.mem_cons.mp hw with rfl | hw
        · exact ok9
        · exact ih h2 w hw
    · intro w hw
      rcases List.mem_cons.mp hw with rfl | hw
      · exact h1.2
      · exact ih h2 w hw
theorem okLs_entL {y : Nat} {as : List PV} (h : okSt as) : okLs (entL y as) := fun v hv => by
  rcases List.mem_append.mp hv with hv | hv
  · exact okLs_layA h v hv
  · rw [List.eq_of_mem_replicate hv]; exact ok9
theorem okSt_psh {v : PV} {st : List PV} (hv : v = (9, 0) ∨ okS v) (hs : okSt st) : okSt (psh v st) := by
  unfold psh
  split
  · exact hs
  · rename_i h9
    rcases hv with rfl | hv
    · exact absurd rfl h9
    · exact okSt_cons.mpr ⟨hv, hs⟩
/-- a run keeps what is kept, and makes no cell unmade -/
theorem qX_ok (n : Nat) : ∀ {y pc : Nat} {ls st : List PV} {μ : Mem} {r : PV × Mem}, qX n y pc ls st μ = some r → Inv μ → okLs ls → okSt st → Inv r.2 ∧ (r.1 = (9, 0) ∨ okS r.1) ∧ μ 0 2 ≤ r.2 0 2 ∧ μ 0 3 ≤ r.2 0 3 := by
  induction n with
  | zero => intro y pc ls st μ r h; cases h
  | succ n ih =>
    intro y pc ls st μ r h hI hl hs
    have h : run1 (qX n) y (pstep y pc ls st μ) = some r := h
    have hq := pstep_ok (y := y) (pc := pc) hI hl hs
    generalize pstep y pc ls st μ = q at h hq
    match q, h, hq with
    | none, h, _ => cases h
    | some (.inl _), h, hq =>
      cases h
      obtain ⟨e, hv⟩ := hq
      rw [e]
      exact ⟨hI, hv, Int.le_refl _, Int.le_refl _⟩
    | some (.inr (.inl g)), h, hq =>
      obtain ⟨a1, a2, a3, a4, a5⟩ := hq
      obtain ⟨b1, b2, b3, b4⟩ := ih h a3 a1 a2
      exact ⟨b1, b2, by omega, by omega⟩
    | some (.inr (.inr c)), h, hq =>
      simp only [run1] at h
      obtain ⟨a1, a2, a3, a4⟩ := hq
      obtain ⟨r1, h1, h2⟩ := Option.bind_eq_some_iff.mp h
      rw [a2] at h1
      obtain ⟨b1, b2, b3, b4⟩ := ih h1 hI (okLs_entL a1) (fun v hv => by cases hv)
      obtain ⟨c1, c2, c3, c4⟩ := ih h2 b1 a3 (okSt_psh b2 a4)
      exact ⟨c1, c2, by omega, by omega⟩
