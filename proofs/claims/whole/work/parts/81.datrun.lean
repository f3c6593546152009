abbrev DQ : Type := (PV × Dat) ⊕ ((Nat × List PV × List PV × Dat) ⊕ (Nat × List PV × Dat × Nat × List PV × List PV))
def fre (op : Nat) : Bool := op == 0 || op == 1 || op == 2 || op == 3 || op == 4 || op == 10 || op == 11 || op == 24 || op == 26 || op == 28
def frM (μ : Mem) (q : Req) : Req := match q with
  | some (.inl r) => some (.inl (r.1, μ))
  | some (.inr (.inl g)) => some (.inr (.inl (g.1, g.2.1, g.2.2.1, μ)))
  | _ => none
def frD (d : Dat) (q : Req) : Option DQ := match q with
  | some (.inl r) => some (.inl (r.1, d))
  | some (.inr (.inl g)) => some (.inr (.inl (g.1, g.2.1, g.2.2.1, d)))
  | _ => none
theorem fre_ok {op : Nat} (h : fre op = true) (ls st : List PV) (μ ν : Mem) (a : Nat) (b : Int) (nx : Nat) : frM μ (stp ls st ν op a b nx) = stp ls st μ op a b nx := by
  unfold fre at h
  simp only [Bool.or_eq_true, beq_iff_eq] at h
  rcases h with ((((((((h | h) | h) | h) | h) | h) | h) | h) | h) | h <;> subst h <;> unfold stp <;> dsimp only [rGo, rRet] <;> (repeat' split) <;> first | rfl | simp_all [frM]
def o14 (ls st : List PV) (d : Dat) (a : Nat) (b : Int) (nx : Nat) : Option DQ := match st with
  | (3, q) :: r => if 2 ≤ q ∧ (cel d q).1 = 10 + (a : Int) then some (.inr (.inl (nx, ls, (gTag (fT a b.toNat), look (cel d q).2.2 b) :: r, d))) else none
  | _ => none
def o15 (ls st : List PV) (d : Dat) (a : Nat) (b : Int) (nx : Nat) : Option DQ := match st with
  | v :: (3, q) :: r => if (2 ≤ q ∧ q < 2 + (d.1.length : Int)) ∧ (cel d q).1 = 10 + (a : Int) ∧ fok (fT a b.toNat) v = true then some (.inr (.inl (nx, ls, r, dU d q b v.2))) else none
  | _ => none
def o16 (ls st : List PV) (d : Dat) (a nx : Nat) : Option DQ := if pnp a ≤ st.length ∧ ((st.drop (pnp a)).map pcat).sum ≤ 8 ∧ (layA (st.take (pnp a)).reverse).length ≤ qML a ∧ (pkd a = 0 ∨ ((st.take (pnp a)).reverse.headD (9, 0)).1 = 3 ∧ 2 ≤ ((st.take (pnp a)).reverse.headD (9, 0)).2 ∧ (cel d ((st.take (pnp a)).reverse.headD (9, 0)).2).1 = 10 + (pcl a : Int)) then some (.inr (.inr (a, (st.take (pnp a)).reverse, d, nx, ls, st.drop (pnp a)))) else none
def o18 (ls st : List PV) (d : Dat) (a nx : Nat) : Option DQ := match st with
  | (0, n) :: r => if 0 ≤ n ∧ n ≤ 10000 then some (.inr (.inl (nx, ls, (3, 2 + (d.1.length : Int)) :: r, dNew d a n))) else none
  | _ => none
def o20 (ls st : List PV) (d : Dat) (nx : Nat) : Option DQ := match st with
  | (0, n2) :: (0, n1) :: r => if 1 ≤ n1 ∧ n1 ≤ 100 ∧ 1 ≤ n2 ∧ n2 ≤ 100 then some (.inr (.inl (nx, ls, (3, 2 + (d.1.length : Int)) :: r, dGrid d n1 n2))) else none
  | _ => none
def o21 (ls st : List PV) (d : Dat) (nx : Nat) : Option DQ := match st with
  | (3, q) :: r => if 2 ≤ q ∧ 1 ≤ (cel d q).1 ∧ (cel d q).1 ≤ 6 then some (.inr (.inl (nx, ls, (0, (cel d q).2.1) :: r, d))) else none
  | _ => none
def o23 (ls st : List PV) (d : Dat) (a nx : Nat) : Option DQ := match st with
  | v :: (0, i) :: (3, q) :: r => if (2 ≤ q ∧ q < 2 + (d.1.length : Int)) ∧ ((a = 1 ∧ (cel d q).1 = 1 ∧ v.1 = 0) ∨ (a = 3 ∧ (cel d q).1 = 3 ∧ v.1 = 3 ∧ 2 ≤ v.2 ∧ (cel d v.2).1 = 15)) ∧ 0 ≤ i ∧ i < (cel d q).2.1 then some (.inr (.inl (nx, ls, r, dU d q i v.2))) else none
  | _ => none
def stpD (ls st : List PV) (d : Dat) (op a : Nat) (b : Int) (nx : Nat) : Option DQ := if fre op = true then frD d (stp ls st (fun _ _ => 0) op a b nx) else match op with
  | 14 => o14 ls st d a b nx
  | 15 => o15 ls st d a b nx
  | 16 => o16 ls st d a nx
  | 17 => some (.inr (.inl (nx, ls, (3, 2 + (d.1.length : Int)) :: st, dNew d (10 + (a : Int)) (nF a))))
  | 18 => o18 ls st d a nx
  | 19 => o18 ls st d a nx
  | 20 => o20 ls st d nx
  | 21 => o21 ls st d nx
  | 23 => o23 ls st d a nx
  | _ => none
def dqM (L : Nat) (xs : Nat → Int32) (q : DQ) : (PV × Mem) ⊕ ((Nat × List PV × List PV × Mem) ⊕ (Nat × List PV × Mem × Nat × List PV × List PV)) := match q with
  | .inl r => .inl (r.1, den L xs r.2)
  | .inr (.inl g) => .inr (.inl (g.1, g.2.1, g.2.2.1, den L xs g.2.2.2))
  | .inr (.inr c) => .inr (.inr (c.1, c.2.1, den L xs c.2.2.1, c.2.2.2.1, c.2.2.2.2.1, c.2.2.2.2.2))
theorem stpD_ok {L : Nat} {xs : Nat → Int32} {ls st : List PV} {d : Dat} {op a : Nat} {b : Int} {nx : Nat} {q : DQ} (h : stpD ls st d op a b nx = some q) : stp ls st (den L xs d) op a b nx = some (dqM L xs q) := by
  unfold stpD at h
  by_cases f : fre op = true
  · rw [if_pos f] at h
    rw [← fre_ok f ls st (den L xs d) (fun _ _ => 0) a b nx]
    generalize stp ls st (fun _ _ => 0) op a b nx = z at h ⊢
    match z, h with
    | some (.inl r), h => cases h; rfl
    | some (.inr (.inl g)), h => cases h; rfl
  · rw [if_neg f] at h
    split at h
    · unfold o14 at h
      split at h
      · rename_i p r
        split at h
        · rename_i c
          cases h
          show (if den L xs d (-p) 0 = 10 + (a : Int) then rGo nx ls ((gTag (fT a b.toNat), den L xs d p b) :: r) (den L xs d) else none) = _
          rw [den_k _ _ _ c.1, if_pos c.2, den_c _ _ _ c.1]; rfl
        · cases h
      · cases h
    · unfold o15 at h
      split at h
      · rename_i v p r
        split at h
        · rename_i c
          cases h
          show (if den L xs d (-p) 0 = 10 + (a : Int) ∧ fok (fT a b.toNat) v = true then rGo nx ls r (mU (den L xs d) p b v.2) else none) = _
          rw [den_k _ _ _ c.1.1, if_pos c.2, den_U c.1.1 c.1.2]; rfl
        · cases h
      · cases h
    · unfold o16 at h
      split at h
      · rename_i c
        cases h
        show (if pnp a ≤ st.length ∧ ((st.drop (pnp a)).map pcat).sum ≤ 8 ∧ (layA (st.take (pnp a)).reverse).length ≤ qML a ∧ (pkd a = 0 ∨ ((st.take (pnp a)).reverse.headD (9, 0)).1 = 3 ∧ den L xs d (-((st.take (pnp a)).reverse.headD (9, 0)).2) 0 = 10 + (pcl a : Int)) then rCall a (st.take (pnp a)).reverse (den L xs d) nx ls (st.drop (pnp a)) else none) = _
        rw [if_pos ⟨c.1, c.2.1, c.2.2.1, c.2.2.2.imp id (fun z => ⟨z.1, by rw [den_k _ _ _ z.2.1]; exact z.2.2⟩)⟩]
        rfl
      · cases h
    · cases h
      show rGo nx ls ((3, den L xs d 0 2) :: st) (mNew (den L xs d) (10 + (a : Int)) (nF a)) = _
      rw [den_new]; rfl
    · unfold o18 at h
      split at h
      · rename_i n r
        split at h
        · rename_i c
          cases h
          show (if 0 ≤ n ∧ n ≤ 10000 then rGo nx ls ((3, den L xs d 0 2) :: r) (mNew (den L xs d) a n) else none) = _
          rw [if_pos c, den_new]; rfl
        · cases h
      · cases h
    · unfold o18 at h
      split at h
      · rename_i n r
        split at h
        · rename_i c
          cases h
          show (if 0 ≤ n ∧ n ≤ 10000 then rGo nx ls ((3, den L xs d 0 2) :: r) (mNew (den L xs d) a n) else none) = _
          rw [if_pos c, den_new]; rfl
        · cases h
      · cases h
    · unfold o20 at h
      split at h
      · rename_i n2 n1 r
        split at h
        · rename_i c
          cases h
          show (if 1 ≤ n1 ∧ n1 ≤ 100 ∧ 1 ≤ n2 ∧ n2 ≤ 100 then rGo nx ls ((3, den L xs d 0 2) :: r) (mGrid (den L xs d) n1 n2) else none) = _
          rw [if_pos c, den_grid _ _ _ c.1]; rfl
        · cases h
      · cases h
    · unfold o21 at h
      split at h
      · rename_i p r
        split at h
        · rename_i c
          cases h
          show (if 1 ≤ den L xs d (-p) 0 ∧ den L xs d (-p) 0 ≤ 6 then rGo nx ls ((0, den L xs d (-p) 1) :: r) (den L xs d) else none) = _
          rw [den_k _ _ _ c.1, den_l _ _ _ c.1, if_pos c.2]; rfl
        · cases h
      · cases h
    · unfold o23 at h
      split at h
      · rename_i v i p r
        split at h
        · rename_i c
          cases h
          obtain ⟨c1, c2, c3⟩ := c
          have ap : aPut (den L xs d) a (cel d p).1 v = true := by
            rcases c2 with ⟨z1, z2, z3⟩ | ⟨z1, z2, z3, z4, z5⟩
            · subst z1
              show (decide ((cel d p).1 = 1) && v.1 == 0) = true
              rw [z2, z3]; rfl
            · subst z1
              show (v.1 == 3 && ((decide ((cel d p).1 = 3) && decide (den L xs d (-v.2) 0 = 15)) || (decide ((cel d p).1 = 4) && decide (den L xs d (-v.2) 0 = 18)))) = true
              rw [den_k _ _ _ z4, z5, z3, z2]; rfl
          show (if p ≠ 1 ∧ aPut (den L xs d) a (den L xs d (-p) 0) v = true ∧ 0 ≤ i ∧ i < den L xs d (-p) 1 then rGo nx ls r (mU (den L xs d) p i v.2) else none) = _
          rw [den_k _ _ _ c1.1, den_l _ _ _ c1.1, if_pos ⟨by omega, ap, c3⟩, den_U c1.1 c1.2]; rfl
        · cases h
      · cases h
    · cases h
def pstepD (y pc : Nat) (ls st : List PV) (d : Dat) : Option DQ := match ins y pc with
  | some o => stpD ls st d o.1 o.2.1 o.2.2.1 o.2.2.2
  | none => none
def run1D (F : Nat → Nat → List PV → List PV → Dat → Option (PV × Dat)) (y : Nat) (q : Option DQ) : Option (PV × Dat) := match q with
  | none => none
  | some (.inl r) => some r
  | some (.inr (.inl g)) => F y g.1 g.2.1 g.2.2.1 g.2.2.2
  | some (.inr (.inr c)) => (F c.1 0 (entL c.1 c.2.1) [] c.2.2.1).bind (fun r => F y c.2.2.2.1 c.2.2.2.2.1 (psh r.1 c.2.2.2.2.2) r.2)
def qXD : Nat → Nat → Nat → List PV → List PV → Dat → Option (PV × Dat)
  | 0 => fun _ _ _ _ _ => none
  | n + 1 => fun y pc ls st d => run1D (qXD n) y (pstepD y pc ls st d)
theorem qXD_ok {L : Nat} {xs : Nat → Int32} : ∀ (n y pc : Nat) (ls st : List PV) (d : Dat) (r : PV × Dat), qXD n y pc ls st d = some r → qX n y pc ls st (den L xs d) = some (r.1, den L xs r.2)
  | 0, _, _, _, _, _, _, h => by cases h
  | n + 1, y, pc, ls, st, d, r, h => by
    have ih := qXD_ok (L := L) (xs := xs) n
    show run1 (qX n) y (pstep y pc ls st (den L xs d)) = _
    have h : run1D (qXD n) y (pstepD y pc ls st d) = some r := h
    unfold pstepD at h
    unfold pstep
    match hi : ins y pc with
    | none => rw [hi] at h; cases h
    | some o =>
      rw [hi] at h
      dsimp only at h ⊢
      match hq : stpD ls st d o.1 o.2.1 o.2.2.1 o.2.2.2 with
      | none => rw [hq] at h; cases h
      | some q =>
        rw [stpD_ok (L := L) (xs := xs) hq]
        rw [hq] at h
        match q, h with
        | .inl z, h => cases h; rfl
        | .inr (.inl g), h => exact ih _ _ _ _ _ _ h
        | .inr (.inr c), h =>
          have h : (qXD n c.1 0 (entL c.1 c.2.1) [] c.2.2.1).bind (fun r => qXD n y c.2.2.2.1 c.2.2.2.2.1 (psh r.1 c.2.2.2.2.2) r.2) = some r := h
          obtain ⟨r1, h1, h2⟩ := Option.bind_eq_some_iff.mp h
          show (qX n c.1 0 (entL c.1 c.2.1) [] (den L xs c.2.2.1)).bind (fun r => qX n y c.2.2.2.1 c.2.2.2.2.1 (psh r.1 c.2.2.2.2.2) r.2) = _
          rw [ih _ _ _ _ _ _ h1]
          exact ih _ _ _ _ _ _ h2
