/-! the script stays -/
def k1 (μ ν : Mem) : Prop := ν 1 = μ 1 ∧ ν (-1) = μ (-1)
theorem k1_U {μ : Mem} {q i v : Int} (h : 2 ≤ q) : k1 μ (mU μ q i v) := ⟨funext fun j => mU_other (by omega), funext fun j => mU_other (by omega)⟩
theorem k1_new {μ : Mem} {k n : Int} (h : Inv μ) : k1 μ (mNew μ k n) := by
  have := h.1.1
  refine ⟨funext fun j => ?_, funext fun j => ?_⟩ <;> (unfold mNew; rw [if_neg (by omega), if_neg (by omega), if_neg (by omega), if_neg (by omega)])
theorem k1_grid {μ : Mem} {n1 n2 : Int} (h : Inv μ) (hn : 1 ≤ n1) : k1 μ (mGrid μ n1 n2) := by
  have := h.1.1
  refine ⟨funext fun j => ?_, funext fun j => ?_⟩ <;> (unfold mGrid; rw [if_neg (by omega), if_neg (by omega), if_neg (by omega), if_neg (by omega), if_neg (by omega), if_neg (by omega)])
theorem k1_cpy {μ : Mem} {s sp d dp n : Int} (h : 2 ≤ d) : k1 μ (mCpy μ s sp d dp n) := ⟨funext fun j => if_neg (by omega), funext fun j => if_neg (by omega)⟩
theorem stp_keep {ls st : List PV} {μ : Mem} {op a : Nat} {b : Int} {nx : Nat} {g : Nat × List PV × List PV × Mem} (hI : Inv μ) (hs : okSt st) (h : stp ls st μ op a b nx = some (.inr (.inl g))) : k1 μ g.2.2.2 := by
  have far : ∀ q, 0 ≤ q → μ (-q) 0 ≠ 0 → q ≠ 1 → 2 ≤ q := fun q q0 hk h1 => by
    have := kind_pos hI q0 hk
    omega
  unfold stp at h
  split at h <;> (repeat' split at h) <;> try (first | (cases h; done) | (cases h; exact ⟨rfl, rfl⟩))
  · rename_i v q r c
    have q0 : 0 ≤ q := (hs (3, q) (List.mem_cons_of_mem _ List.mem_cons_self)).2
    have q1 : q ≠ 1 := fun e => by
      have := c.1
      rw [e, hI.2.2.1] at this
      omega
    cases h
    exact k1_U (far q q0 (by omega) q1)
  · cases h; exact k1_new hI
  · cases h; exact k1_new hI
  · cases h; exact k1_new hI
  · rename_i c
    cases h; exact k1_grid hI c.1
  · rename_i v i q r c
    have q0 : 0 ≤ q := (hs (3, q) (List.mem_cons_of_mem _ (List.mem_cons_of_mem _ List.mem_cons_self))).2
    have := (aPut_in c.2.1).1
    cases h
    exact k1_U (far q q0 (by omega) c.1)
  · rename_i n dp d sp s r c
    have q0 : 0 ≤ d := (hs (3, d) (List.mem_cons_of_mem _ (List.mem_cons_of_mem _ List.mem_cons_self))).2
    cases h
    exact k1_cpy (far d q0 (by omega) c.2.1)
theorem k1_trans {μ ν κ : Mem} (h1 : k1 μ ν) (h2 : k1 ν κ) : k1 μ κ := ⟨h2.1.trans h1.1, h2.2.trans h1.2⟩
theorem qX_keep : ∀ (n y pc : Nat) (ls st : List PV) (μ : Mem) (r : PV × Mem), Inv μ → okLs ls → okSt st → qX n y pc ls st μ = some r → Inv r.2 ∧ k1 μ r.2 ∧ (r.1 = (9, 0) ∨ okS r.1)
  | 0, _, _, _, _, _, _, _, _, _, h => by cases h
  | n + 1, y, pc, ls, st, μ, r, hI, hl, hs, h => by
    have ih := qX_keep n
    have h : run1 (qX n) y (pstep y pc ls st μ) = some r := h
    have ok := pstep_ok (y := y) (pc := pc) hI hl hs
    match hq : pstep y pc ls st μ with
    | none => rw [hq] at h; cases h
    | some (.inl z) =>
      rw [hq] at h ok
      cases h
      obtain ⟨o1, o2⟩ := ok
      rw [o1]
      exact ⟨hI, ⟨rfl, rfl⟩, o2⟩
    | some (.inr (.inl g)) =>
      have kg : k1 μ g.2.2.2 := by
        unfold pstep at hq
        match hi : ins y pc with
        | none => rw [hi] at hq; cases hq
        | some o => rw [hi] at hq; exact stp_keep hI hs hq
      rw [hq] at h ok
      obtain ⟨o1, o2, o3, _⟩ := ok
      obtain ⟨r1, r2, r3⟩ := ih _ _ _ _ _ _ o3 o1 o2 h
      exact ⟨r1, k1_trans kg r2, r3⟩
    | some (.inr (.inr c)) =>
      rw [hq] at h ok
      obtain ⟨o1, o2, o3, o4⟩ := ok
      have h : (qX n c.1 0 (entL c.1 c.2.1) [] c.2.2.1).bind (fun r => qX n y c.2.2.2.1 c.2.2.2.2.1 (psh r.1 c.2.2.2.2.2) r.2) = some r := h
      rw [o2] at h
      obtain ⟨z, h1, h2⟩ := Option.bind_eq_some_iff.mp h
      obtain ⟨z1, z2, z3⟩ := ih _ _ _ _ _ _ hI (okLs_entL o1) (fun v hv => by cases hv) h1
      have ps : okSt (psh z.1 c.2.2.2.2.2) := by
        unfold psh
        split
        · exact o4
        · rename_i ne
          rcases z3 with z3 | z3
          · exact absurd (by rw [z3]) ne
          · exact okSt_cons.mpr ⟨z3, o4⟩
      obtain ⟨r1, r2, r3⟩ := ih _ _ _ _ _ _ z1 o3 ps h2
      exact ⟨r1, k1_trans z2 r2, r3⟩
theorem qR_keep {y : Nat} {as : List PV} {μ : Mem} {r : PV × Mem} (hI : Inv μ) (hs : okSt as) (h : qR y as μ = some r) : Inv r.2 ∧ k1 μ r.2 := by
  obtain ⟨n, hn⟩ := qE_iff.mp h
  obtain ⟨h1, h2, _⟩ := qX_keep n _ _ _ _ _ _ hI (okLs_entL hs) (fun v hv => by cases hv) hn
  exact ⟨h1, h2⟩
