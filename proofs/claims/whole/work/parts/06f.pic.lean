/-! the heap as the memory pictures it -/
def tysG (G : SG) : List (ClassId × FieldType) := [(gA G 1, .int), (gA G 2, .long), (gA G 3, .object RX6), (gA G 4, .object RX9), (gA G 5, .array .int), (gA G 6, .boolean)]
def isNest (w : Cond) : Bool := match w with
  | .fieldLinkNest _ _ _ _ _ _ => true
  | .methodLinkNest _ _ _ _ => true
  | _ => false
def Base (G : SG) (U : State) : Prop := va_K (gV G) vwCl (tysG G) U ∧ (∀ w ∈ lw_tbl, isNest w = true → va_Nw w U) ∧ (va_AO RX6 U ∧ va_AO RX9 U ∧ (Cond.arrayOver (.array .int)).before #[] U = true) ∧ U.isArrayOf (gS G) .int ∧ (gS G).vm ≠ .unknown
theorem Base.moved {G : SG} {s U : State} (hW : s.WarmedH U.vm) (h : Base G s) : Base G U := by
  obtain ⟨h1, h2, ⟨h3, h4, h5⟩, h6, h7⟩ := h
  refine ⟨va_K.moved hW.alike h1, fun w hw hn => ?_, ⟨va_AO.moved hW.alike h3, va_AO.moved hW.alike h4, over_moved hW.alike h5⟩, State.isArrayOf_alike hW.alike h6, h7⟩
  have := h2 w hw hn
  unfold isNest at hn
  split at hn
  · exact va_Nw.warmF hW this
  · exact va_Nw.warmM hW this
  · cases hn
def cAt (G : SG) (μ : Mem) (q : Int) (H : Heap) : Prop :=
  (1 ≤ μ (-q) 0 ∧ μ (-q) 0 ≤ 6 → H[rho G q]? = some (arrV (gA G (μ (-q) 0).toNat) (μ (-q) 1).toNat (fun j => rv G (aTag (μ (-q) 0), μ q j)))) ∧
  ∀ ci : Nat, μ (-q) 0 = 10 + (ci : Int) → t_OB (rho G q) ((gV G).1 ci) (nF ci) ((gV G).2 ci) H (fun k => rv G (gTag (fT ci k), μ q k))
def Pic (G : SG) (μ : Mem) (H : Heap) : Prop := (H.size = gN G + (μ 0 2 - 2).toNat ∧ gB G < gN G) ∧ (H[gB G]? = some (gS G) ∧ (gS G).slots.size = (μ (-1) 1).toNat ∧ ∀ j : Nat, j < (μ (-1) 1).toNat → (gS G).slots[j]? = some (.int (Int32.ofInt (μ 1 j)))) ∧ ∀ q, 2 ≤ q → q < μ 0 2 → cAt G μ q H
theorem rho_2 (G : SG) {q : Int} (h : 2 ≤ q) : rho G q = gN G + (q - 2).toNat := if_neg (by omega)
theorem rho_1 (G : SG) : rho G 1 = gB G := if_pos (by decide)
theorem rho_ne (G : SG) {q r : Int} (hq : 2 ≤ q) (hr : 2 ≤ r) (h : r ≠ q) : rho G r ≠ rho G q := by rw [rho_2 G hq, rho_2 G hr]; omega
theorem cAt.kept {G : SG} {μ μ' : Mem} {q : Int} {H H' : Heap} (h : cAt G μ q H) (hH : H'[rho G q]? = H[rho G q]?) (h0 : μ' (-q) 0 = μ (-q) 0) (h1 : μ' (-q) 1 = μ (-q) 1) (hc : ∀ j, μ' q j = μ q j) : cAt G μ' q H' := by
  refine ⟨fun hk => ?_, fun ci hk => ?_⟩
  · rw [h0] at hk
    rw [hH, h0, h1, h.1 hk]
    congr 2
    funext j
    rw [hc]
  · rw [h0] at hk
    exact ((h.2 ci hk).kept hH).to (fun k _ => by rw [hc])
/-- one cell is written -/
theorem Pic.put {G : SG} {μ : Mem} {H H' : Heap} {q i v : Int} (h : Pic G μ H) (hq : 2 ≤ q) (hsz : H'.size = H.size) (ho : ∀ a, a ≠ rho G q → H'[a]? = H[a]?) (hc : cAt G (mU μ q i v) q H') : Pic G (mU μ q i v) H' := by
  obtain ⟨⟨h1, h2⟩, ⟨h3, h4, h5⟩, h6⟩ := h
  have hb : gB G ≠ rho G q := by rw [rho_2 G hq]; omega
  refine ⟨⟨by rw [hsz, mU_neg (by omega) (by decide)]; exact h1, h2⟩, ⟨by rw [ho _ hb]; exact h3, by rw [mU_neg (by omega) (by decide)]; exact h4, fun j hj => ?_⟩, fun r hr hrn => ?_⟩
  · rw [mU_neg (by omega) (by decide)] at hj
    rw [mU_other (by omega)]
    exact h5 j hj
  · rw [mU_neg (by omega) (by decide)] at hrn
    by_cases e : r = q
    · subst e; exact hc
    · exact (h6 r hr hrn).kept (ho _ (rho_ne G hq hr e)) (mU_neg (by omega) (by omega)) (mU_neg (by omega) (by omega)) (fun j => mU_other (fun hh => e hh.1))
theorem Pic.putA {G : SG} {μ : Mem} {H H' : Heap} {q i v : Int} (h : Pic G μ H) (hq : 2 ≤ q) (hqn : q < μ 0 2) (hk : 1 ≤ μ (-q) 0 ∧ μ (-q) 0 ≤ 6) (hi : 0 ≤ i) (he : H'[rho G q]? = some ((arrV (gA G (μ (-q) 0).toNat) (μ (-q) 1).toNat (fun j => rv G (aTag (μ (-q) 0), μ q j))).setSlot i.toNat (rv G (aTag (μ (-q) 0), v)))) (hsz : H'.size = H.size) (ho : ∀ a, a ≠ rho G q → H'[a]? = H[a]?) : Pic G (mU μ q i v) H' := by
  refine h.put hq hsz ho ⟨fun _ => ?_, fun ci hci => ?_⟩
  · rw [mU_neg (by omega) (by omega), mU_neg (by omega) (by omega), he, arrV_store]
    congr 2
    funext j
    unfold updV
    by_cases e : j = i.toNat
    · rw [if_pos e, show (j : Int) = i by omega, mU_same]
    · rw [if_neg e, mU_other (by omega)]
  · rw [mU_neg (by omega) (by omega)] at hci
    omega
theorem Pic.size {G : SG} {μ : Mem} {H : Heap} (h : Pic G μ H) (hI : Inv μ) : H.size = rho G (μ 0 2) := by rw [h.1.1, rho_2 G hI.1.1]
theorem Pic.lt {G : SG} {μ : Mem} {H : Heap} {q : Int} (h : Pic G μ H) (hq : 2 ≤ q) (hqn : q < μ 0 2) : rho G q < H.size := by rw [h.1.1, rho_2 G hq]; omega
/-- a cell is made -/
theorem Pic.new {G : SG} {μ : Mem} {H H' : Heap} {k n : Int} (h : Pic G μ H) (hI : Inv μ) (hsz : H'.size = H.size + 1) (ho : ∀ a, a < H.size → H'[a]? = H[a]?) (hc : cAt G (mNew μ k n) (μ 0 2) H') : Pic G (mNew μ k n) H' := by
  have hs := h.size hI
  have hN := mNew_next (k := k) (n := n) hI
  have h2 := hI.1.1
  have hlt : ∀ {r : Int}, 2 ≤ r → r < μ 0 2 → rho G r < H.size := fun a b => h.lt a b
  obtain ⟨⟨g1, g2⟩, ⟨g3, g4, g5⟩, g6⟩ := h
  have eo : ∀ r j, r ≠ μ 0 2 → r ≠ -(μ 0 2) → r ≠ 0 → mNew μ k n r j = μ r j := fun r j a1 a2 a3 => by unfold mNew; rw [if_neg a1, if_neg a2, if_neg (by omega), if_neg (by omega)]
  refine ⟨⟨by rw [hsz, g1, hN.1]; omega, g2⟩, ⟨by rw [ho _ (by omega)]; exact g3, by rw [eo _ _ (by omega) (by omega) (by omega)]; exact g4, fun j hj => ?_⟩, fun r hr hrn => ?_⟩
  · rw [eo _ _ (by omega) (by omega) (by omega)] at hj ⊢
    exact g5 j hj
  · rw [hN.1] at hrn
    by_cases e : r = μ 0 2
    · subst e; exact hc
    · exact (g6 r hr (by omega)).kept (ho _ (hlt hr (by omega))) (eo _ _ (by omega) (by omega) (by omega)) (eo _ _ (by omega) (by omega) (by omega)) (fun j => eo _ _ (by omega) (by omega) (by omega))
theorem mNew_k {μ : Mem} {k n : Int} (hI : Inv μ) : mNew μ k n (-(μ 0 2)) 0 = k ∧ mNew μ k n (-(μ 0 2)) 1 = n ∧ ∀ j, mNew μ k n (μ 0 2) j = 0 := by
  have := hI.1.1
  refine ⟨?_, ?_, fun j => ?_⟩
  · unfold mNew; rw [if_neg (by omega), if_pos rfl, if_pos rfl]
  · unfold mNew; rw [if_neg (by omega), if_pos rfl, if_neg (by decide), if_pos rfl]
  · unfold mNew; rw [if_pos rfl]
theorem Pic.newA {G : SG} {μ : Mem} {H H' : Heap} {k n : Int} (h : Pic G μ H) (hI : Inv μ) (hk : 1 ≤ k ∧ k ≤ 6) (hsz : H'.size = H.size + 1) (ho : ∀ a, a < H.size → H'[a]? = H[a]?) (he : H'[H.size]? = some (arrV (gA G k.toNat) n.toNat (fun _ => rv G (aTag k, 0)))) : Pic G (mNew μ k n) H' := by
  obtain ⟨e1, e2, e3⟩ := mNew_k (k := k) (n := n) hI
  refine h.new hI hsz ho ⟨fun _ => ?_, fun ci hci => ?_⟩
  · rw [e1, e2, ← h.size hI, he]
    congr 2
    funext j
    rw [e3]
  · rw [e1] at hci; omega
theorem rv_def (G : SG) (t : Nat) (h : t = 0 ∨ t = 1 ∨ t = 3) : rv G (t, 0) = if t = 1 then .long 0 else if t = 3 then .null else .int 0 := by
  rcases h with rfl | rfl | rfl <;> rfl
theorem rv_defF (G : SG) (ty : FieldType) (h : ty = .int ∨ ty = .boolean ∨ (∃ c, ty = .object c) ∨ ∃ c, ty = .array c) : rv G (gTag (fTag ty), 0) = defaultValue ty := by
  rcases h with rfl | rfl | ⟨c, rfl⟩ | ⟨c, rfl⟩ <;> rfl
theorem pTys_in {ci k : Nat} {r : vw_C} (h : vwCl[ci]? = some r) (hk : k < r.2.2) : (pTys.getD ci (fun _ => .int)) k = .int ∨ (pTys.getD ci (fun _ => .int)) k = .boolean ∨ (∃ c, (pTys.getD ci (fun _ => .int)) k = .object c) ∨ ∃ c, (pTys.getD ci (fun _ => .int)) k = .array c := by
  have key : ∀ c, c < 11 → ∀ j, j < nF c → (match (pTys.getD c (fun _ => .int)) j with
    | .int => true
    | .boolean => true
    | .object _ => true
    | .array _ => true
    | _ => false) = true := by decide +kernel
  have hci : ci < 11 := (List.getElem?_eq_some_iff.mp h).1
  have hn : nF ci = r.2.2 := by unfold nF; rw [h]
  have := key ci hci k (by omega)
  split at this
  · rename_i e; exact Or.inl e
  · rename_i e; exact Or.inr (Or.inl e)
  · rename_i c e; exact Or.inr (Or.inr (Or.inl ⟨c, e⟩))
  · rename_i c e; exact Or.inr (Or.inr (Or.inr ⟨c, e⟩))
  · cases this
theorem u_good {C : String} {T : u_T} {N : Nat} (h : ∀ w ∈ u_ws C T N, w ∈ lw_tbl) : ∀ w ∈ u_ws C T N, w ∈ lw_g := fun w hw => by
  refine lw_gi (h w hw) ?_
  obtain ⟨k, -, rfl⟩ := List.mem_map.mp hw
  unfold u_lay
  split <;> rfl
