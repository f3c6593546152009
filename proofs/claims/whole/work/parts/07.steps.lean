/-! one instruction of the pure machine, as equations -/
section SSteps
variable {y pc nx : Nat} {ls st : List PV} {μ : Mem}
theorem s_run {o : pOp} (h : ins y pc = some o) (ls st : List PV) (μ : Mem) : qE y pc ls st μ = run1 qE y (stp ls st μ o.1 o.2.1 o.2.2.1 o.2.2.2) := by rw [qE_eq, pstep, h]
theorem s_push {a : Nat} {b : Int} (h : ins y pc = some (0, a, b, nx)) : qE y pc ls st μ = qE y nx ls ((a, b) :: st) μ := s_run h ls st μ
theorem s_load {a : Nat} {b x : Int} (h : ins y pc = some (1, a, b, nx)) (hl : ls[b.toNat]? = some (a, x)) : qE y pc ls st μ = qE y nx ls ((a, x) :: st) μ := by
  rw [s_run h]; simp [stp, hl, run1, rGo]
theorem s_store {a : Nat} {b x : Int} {ls' : List PV} (h : ins y pc = some (2, a, b, nx)) (hn : b.toNat + (if a = 1 then 1 else 0) < ls.length) (hl : stL ls b.toNat (a, x) = ls') : qE y pc ls ((a, x) :: st) μ = qE y nx ls' st μ := by
  rw [s_run h]; subst hl; simp only [stp]; rw [if_pos ⟨trivial, hn⟩]; rfl
theorem s_iinc {a : Nat} {b x : Int} {ls' : List PV} (h : ins y pc = some (3, a, b, nx)) (hl : ls[a]? = some (0, x)) (hs : stL ls a (0, w32 (x + b)) = ls') : qE y pc ls st μ = qE y nx ls' st μ := by
  rw [s_run h]; subst hs; simp [stp, hl, run1, rGo]
theorem s_bI {a : Nat} {b v w z : Int} (h : ins y pc = some (4, a, b, nx)) (hz : bI a v w = some z) : qE y pc ls ((0, w) :: (0, v) :: st) μ = qE y nx ls ((0, z) :: st) μ := by
  rw [s_run h]; simp [stp, hz, run1, rGo]
theorem s_add {b v w : Int} (h : ins y pc = some (4, 0, b, nx)) : qE y pc ls ((0, w) :: (0, v) :: st) μ = qE y nx ls ((0, w32 (v + w)) :: st) μ := s_bI h rfl
theorem s_sub {b v w : Int} (h : ins y pc = some (4, 1, b, nx)) : qE y pc ls ((0, w) :: (0, v) :: st) μ = qE y nx ls ((0, w32 (v - w)) :: st) μ := s_bI h rfl
theorem s_mul {b v w : Int} (h : ins y pc = some (4, 2, b, nx)) : qE y pc ls ((0, w) :: (0, v) :: st) μ = qE y nx ls ((0, w32 (v * w)) :: st) μ := s_bI h rfl
theorem s_div {b v w : Int} (h : ins y pc = some (4, 3, b, nx)) (hw : w ≠ 0) : qE y pc ls ((0, w) :: (0, v) :: st) μ = qE y nx ls ((0, w32 (v.tdiv w)) :: st) μ := s_bI h (if_neg hw)
theorem s_rem {b v w : Int} (h : ins y pc = some (4, 4, b, nx)) (hw : w ≠ 0) : qE y pc ls ((0, w) :: (0, v) :: st) μ = qE y nx ls ((0, w32 (v - v.tdiv w * w)) :: st) μ := s_bI h (if_neg hw)
theorem s_and {b v w : Int} (h : ins y pc = some (4, 5, b, nx)) : qE y pc ls ((0, w) :: (0, v) :: st) μ = qE y nx ls ((0, (Int32.ofInt v &&& Int32.ofInt w).toInt) :: st) μ := s_bI h rfl
theorem s_bL {a : Nat} {b v w z : Int} (h : ins y pc = some (5, a, b, nx)) (hz : bL a v w = some z) : qE y pc ls ((1, w) :: (1, v) :: st) μ = qE y nx ls ((1, z) :: st) μ := by
  rw [s_run h]; simp [stp, hz, run1, rGo]
theorem s_lsub {b v w : Int} (h : ins y pc = some (5, 0, b, nx)) : qE y pc ls ((1, w) :: (1, v) :: st) μ = qE y nx ls ((1, w64 (v - w)) :: st) μ := s_bL h rfl
theorem s_land {b v w : Int} (h : ins y pc = some (5, 1, b, nx)) : qE y pc ls ((1, w) :: (1, v) :: st) μ = qE y nx ls ((1, (Int64.ofInt v &&& Int64.ofInt w).toInt) :: st) μ := s_bL h rfl
theorem s_lor {b v w : Int} (h : ins y pc = some (5, 2, b, nx)) : qE y pc ls ((1, w) :: (1, v) :: st) μ = qE y nx ls ((1, (Int64.ofInt v ||| Int64.ofInt w).toInt) :: st) μ := s_bL h rfl
theorem s_lshl {b v w : Int} (h : ins y pc = some (5, 3, b, nx)) : qE y pc ls ((0, w) :: (1, v) :: st) μ = qE y nx ls ((1, lshl v w) :: st) μ := by
  rw [s_run h]; rfl
theorem s_lushr {b v w : Int} (h : ins y pc = some (5, 4, b, nx)) : qE y pc ls ((0, w) :: (1, v) :: st) μ = qE y nx ls ((1, lushr v w) :: st) μ := by
  rw [s_run h]; rfl
theorem s_lcmp {a : Nat} {b v w : Int} (h : ins y pc = some (6, a, b, nx)) : qE y pc ls ((1, w) :: (1, v) :: st) μ = qE y nx ls ((0, cmpL v w) :: st) μ := by
  rw [s_run h]; rfl
theorem s_bF {a : Nat} {b v w : Int} (h : ins y pc = some (7, a, b, nx)) : qE y pc ls ((2, w) :: (2, v) :: st) μ = (bF a v w).bind (fun z => qE y nx ls ((2, z) :: st) μ) := by
  rw [s_run h]; simp only [stp]; cases bF a v w <;> rfl
theorem s_cV {a t : Nat} {b v : Int} {z : PV} (h : ins y pc = some (8, a, b, nx)) (hz : cV a (t, v) = some z) : qE y pc ls ((t, v) :: st) μ = qE y nx ls (z :: st) μ := by
  rw [s_run h]; simp [stp, hz, run1, rGo]
theorem s_i2f {b v : Int} (h : ins y pc = some (8, 0, b, nx)) : qE y pc ls ((0, v) :: st) μ = qE y nx ls ((2, ((FP.i2f (Int32.ofInt v)).toNat : Int)) :: st) μ := s_cV h rfl
theorem s_f2i {b v : Int} (h : ins y pc = some (8, 1, b, nx)) : qE y pc ls ((2, v) :: st) μ = qE y nx ls ((0, (FP.f2i (u32 v)).toInt) :: st) μ := s_cV h rfl
theorem s_i2l {b v : Int} (h : ins y pc = some (8, 2, b, nx)) : qE y pc ls ((0, v) :: st) μ = qE y nx ls ((1, v) :: st) μ := s_cV h rfl
theorem s_l2i {b v : Int} (h : ins y pc = some (8, 3, b, nx)) : qE y pc ls ((1, v) :: st) μ = qE y nx ls ((0, w32 v) :: st) μ := s_cV h rfl
theorem s_if {op a : Nat} {b : Int} {tg : Nat} {c : Bool} {r : List PV} (h : ins y pc = some (op, a, b, nx)) (hb : b.toNat = tg) (hs : stp ls st μ op a b nx = if c = true then rGo b.toNat ls r μ else rGo nx ls r μ) : qE y pc ls st μ = if c = true then qE y tg ls r μ else qE y nx ls r μ := by
  rw [s_run h]; subst hb; show run1 qE y (stp ls st μ op a b nx) = _; rw [hs]; cases c <;> rfl
theorem s_ifeq {b v : Int} {tg : Nat} (h : ins y pc = some (9, 0, b, nx)) (hb : b.toNat = tg) : qE y pc ls ((0, v) :: st) μ = if v = 0 then qE y tg ls st μ else qE y nx ls st μ := by
  rw [s_if (c := decide (v = 0)) h hb rfl]; simp only [decide_eq_true_eq]
theorem s_ifne {b v : Int} {tg : Nat} (h : ins y pc = some (9, 1, b, nx)) (hb : b.toNat = tg) : qE y pc ls ((0, v) :: st) μ = if v = 0 then qE y nx ls st μ else qE y tg ls st μ := by
  rw [s_if (c := !decide (v = 0)) h hb rfl]; by_cases q : v = 0 <;> simp [q]
theorem s_iflt {b v : Int} {tg : Nat} (h : ins y pc = some (9, 2, b, nx)) (hb : b.toNat = tg) : qE y pc ls ((0, v) :: st) μ = if v < 0 then qE y tg ls st μ else qE y nx ls st μ := by
  rw [s_if (c := decide (v < 0)) h hb rfl]; simp only [decide_eq_true_eq]
theorem s_ifge {b v : Int} {tg : Nat} (h : ins y pc = some (9, 3, b, nx)) (hb : b.toNat = tg) : qE y pc ls ((0, v) :: st) μ = if v < 0 then qE y nx ls st μ else qE y tg ls st μ := by
  rw [s_if (c := decide (0 ≤ v)) h hb rfl]; by_cases q : v < 0
  · rw [if_pos q, if_neg (by simp; omega)]
  · rw [if_neg q, if_pos (by simp; omega)]
theorem s_ifgt {b v : Int} {tg : Nat} (h : ins y pc = some (9, 4, b, nx)) (hb : b.toNat = tg) : qE y pc ls ((0, v) :: st) μ = if v ≤ 0 then qE y nx ls st μ else qE y tg ls st μ := by
  rw [s_if (c := decide (0 < v)) h hb rfl]; by_cases q : v ≤ 0
  · rw [if_pos q, if_neg (by simp; omega)]
  · rw [if_neg q, if_pos (by simp; omega)]
theorem s_ifle {b v : Int} {tg : Nat} (h : ins y pc = some (9, 5, b, nx)) (hb : b.toNat = tg) : qE y pc ls ((0, v) :: st) μ = if v ≤ 0 then qE y tg ls st μ else qE y nx ls st μ := by
  rw [s_if (c := decide (v ≤ 0)) h hb rfl]; simp only [decide_eq_true_eq]
theorem s_iceq {b v w : Int} {tg : Nat} (h : ins y pc = some (10, 0, b, nx)) (hb : b.toNat = tg) : qE y pc ls ((0, w) :: (0, v) :: st) μ = if v = w then qE y tg ls st μ else qE y nx ls st μ := by
  rw [s_if (c := decide (v = w)) h hb rfl]; simp only [decide_eq_true_eq]
theorem s_icne {b v w : Int} {tg : Nat} (h : ins y pc = some (10, 1, b, nx)) (hb : b.toNat = tg) : qE y pc ls ((0, w) :: (0, v) :: st) μ = if v = w then qE y nx ls st μ else qE y tg ls st μ := by
  rw [s_if (c := !decide (v = w)) h hb rfl]; by_cases q : v = w <;> simp [q]
theorem s_iclt {b v w : Int} {tg : Nat} (h : ins y pc = some (10, 2, b, nx)) (hb : b.toNat = tg) : qE y pc ls ((0, w) :: (0, v) :: st) μ = if v < w then qE y tg ls st μ else qE y nx ls st μ := by
  rw [s_if (c := decide (v < w)) h hb rfl]; simp only [decide_eq_true_eq]
theorem s_icge {b v w : Int} {tg : Nat} (h : ins y pc = some (10, 3, b, nx)) (hb : b.toNat = tg) : qE y pc ls ((0, w) :: (0, v) :: st) μ = if v < w then qE y nx ls st μ else qE y tg ls st μ := by
  rw [s_if (c := decide (w ≤ v)) h hb rfl]; by_cases q : v < w
  · rw [if_pos q, if_neg (by simp; omega)]
  · rw [if_neg q, if_pos (by simp; omega)]
theorem s_icgt {b v w : Int} {tg : Nat} (h : ins y pc = some (10, 4, b, nx)) (hb : b.toNat = tg) : qE y pc ls ((0, w) :: (0, v) :: st) μ = if v ≤ w then qE y nx ls st μ else qE y tg ls st μ := by
  rw [s_if (c := decide (w < v)) h hb rfl]; by_cases q : v ≤ w
  · rw [if_pos q, if_neg (by simp; omega)]
  · rw [if_neg q, if_pos (by simp; omega)]
theorem s_icle {b v w : Int} {tg : Nat} (h : ins y pc = some (10, 5, b, nx)) (hb : b.toNat = tg) : qE y pc ls ((0, w) :: (0, v) :: st) μ = if v ≤ w then qE y tg ls st μ else qE y nx ls st μ := by
  rw [s_if (c := decide (v ≤ w)) h hb rfl]; simp only [decide_eq_true_eq]
theorem s_goto {a : Nat} {b : Int} {tg : Nat} (h : ins y pc = some (11, a, b, nx)) (hb : b.toNat = tg) : qE y pc ls st μ = qE y tg ls st μ := by
  rw [s_run h]; subst hb; rfl
theorem s_null {b v : Int} {tg : Nat} (h : ins y pc = some (12, 0, b, nx)) (hb : b.toNat = tg) : qE y pc ls ((3, v) :: st) μ = if v = 0 then qE y tg ls st μ else qE y nx ls st μ := by
  rw [s_if (c := decide (v = 0)) h hb rfl]; simp only [decide_eq_true_eq]
theorem s_nonn {b v : Int} {tg : Nat} (h : ins y pc = some (12, 1, b, nx)) (hb : b.toNat = tg) : qE y pc ls ((3, v) :: st) μ = if v = 0 then qE y nx ls st μ else qE y tg ls st μ := by
  rw [s_if (c := !decide (v = 0)) h hb rfl]; by_cases q : v = 0 <;> simp [q]
theorem s_sw {a : Nat} {b v : Int} (h : ins y pc = some (13, a, b, nx)) : qE y pc ls ((0, v) :: st) μ = qE y (swG (pSw.getD a []) v b.toNat) ls st μ := by
  rw [s_run h]; rfl
/-- a field: the cell's kind known, or asked -/
theorem s_get {a t : Nat} {b q v : Int} (h : ins y pc = some (14, a, b, nx)) (hk : μ (-q) 0 = 10 + (a : Int)) (ht : gTag (fT a b.toNat) = t) (hv : μ q b = v) : qE y pc ls ((3, q) :: st) μ = qE y nx ls ((t, v) :: st) μ := by
  rw [s_run h]; subst ht; subst hv; simp only [stp]; rw [if_pos hk]; rfl
theorem s_getq {a t : Nat} {b q : Int} {k : Int} (h : ins y pc = some (14, a, b, nx)) (ht : gTag (fT a b.toNat) = t) (hk : 10 + (a : Int) = k) : qE y pc ls ((3, q) :: st) μ = if μ (-q) 0 = k then qE y nx ls ((t, μ q b) :: st) μ else none := by
  rw [s_run h]; subst ht; subst hk; simp only [stp]; split <;> rfl
theorem s_put {a t : Nat} {b q v : Int} {μ' : Mem} (h : ins y pc = some (15, a, b, nx)) (hk : μ (-q) 0 = 10 + (a : Int)) (hf : fok (fT a b.toNat) (t, v) = true) (hm : mU μ q b v = μ') : qE y pc ls ((t, v) :: (3, q) :: st) μ = qE y nx ls st μ' := by
  rw [s_run h]; subst hm; simp only [stp]; rw [if_pos ⟨hk, hf⟩]; rfl
theorem s_putq {a t : Nat} {b q v k : Int} (h : ins y pc = some (15, a, b, nx)) (hk : 10 + (a : Int) = k) (hf : fok (fT a b.toNat) (t, v) = true) : qE y pc ls ((t, v) :: (3, q) :: st) μ = if μ (-q) 0 = k then qE y nx ls st (mU μ q b v) else none := by
  rw [s_run h]; subst hk; simp only [stp, hf, and_true]; split <;> rfl
theorem s_call {a : Nat} {b : Int} {as r : List PV} (h : ins y pc = some (16, a, b, nx)) (hn : pnp a ≤ st.length) (ha : (st.take (pnp a)).reverse = as) (hr : st.drop (pnp a) = r) (hc : (r.map pcat).sum ≤ 8) (hl : (layA as).length ≤ qML a) (hk : pkd a = 0 ∨ (as.headD (9, 0)).1 = 3 ∧ μ (-(as.headD (9, 0)).2) 0 = 10 + (pcl a : Int)) : qE y pc ls st μ = (qR a as μ).bind (fun w => qE y nx ls (psh w.1 r) w.2) := by
  rw [s_run h]; subst ha; subst hr; simp only [stp]; rw [if_pos ⟨hn, hc, hl, hk⟩]; rfl
theorem s_callq {a : Nat} {b k : Int} {as r : List PV} (h : ins y pc = some (16, a, b, nx)) (hn : pnp a ≤ st.length) (ha : (st.take (pnp a)).reverse = as) (hr : st.drop (pnp a) = r) (hc : (r.map pcat).sum ≤ 8) (hl : (layA as).length ≤ qML a) (hk : pkd a ≠ 0) (h3 : (as.headD (9, 0)).1 = 3) (hk2 : 10 + (pcl a : Int) = k) : qE y pc ls st μ = if μ (-(as.headD (9, 0)).2) 0 = k then (qR a as μ).bind (fun w => qE y nx ls (psh w.1 r) w.2) else none := by
  rw [s_run h]; subst ha; subst hr; subst hk2; simp only [stp, hn, hc, hl, hk, h3, true_and, false_or]; split <;> rfl
theorem s_new {a : Nat} {b : Int} (h : ins y pc = some (17, a, b, nx)) : qE y pc ls st μ = qE y nx ls ((3, μ 0 2) :: st) (mNew μ (10 + (a : Int)) (nF a)) := by
  rw [s_run h]; rfl
theorem s_newa {a : Nat} {b n : Int} (h : ins y pc = some (18, a, b, nx)) (h0 : 0 ≤ n) (h1 : n ≤ 10000) : qE y pc ls ((0, n) :: st) μ = qE y nx ls ((3, μ 0 2) :: st) (mNew μ a n) := by
  rw [s_run h]; simp only [stp]; rw [if_pos ⟨h0, h1⟩]; rfl
theorem s_newaq {a : Nat} {b n : Int} (h : ins y pc = some (18, a, b, nx)) : qE y pc ls ((0, n) :: st) μ = if 0 ≤ n ∧ n ≤ 10000 then qE y nx ls ((3, μ 0 2) :: st) (mNew μ a n) else none := by
  rw [s_run h]; simp only [stp]; split <;> rfl
theorem s_anew {a : Nat} {b n : Int} (h : ins y pc = some (19, a, b, nx)) (h0 : 0 ≤ n) (h1 : n ≤ 10000) : qE y pc ls ((0, n) :: st) μ = qE y nx ls ((3, μ 0 2) :: st) (mNew μ a n) := by
  rw [s_run h]; simp only [stp]; rw [if_pos ⟨h0, h1⟩]; rfl
theorem s_grid {a : Nat} {b n1 n2 : Int} (h : ins y pc = some (20, a, b, nx)) (h1 : 1 ≤ n1) (h2 : n1 ≤ 100) (h3 : 1 ≤ n2) (h4 : n2 ≤ 100) : qE y pc ls ((0, n2) :: (0, n1) :: st) μ = qE y nx ls ((3, μ 0 2) :: st) (mGrid μ n1 n2) := by
  rw [s_run h]; simp only [stp]; rw [if_pos ⟨h1, h2, h3, h4⟩]; rfl
theorem s_len {a : Nat} {b q n k : Int} (h : ins y pc = some (21, a, b, nx)) (hk : μ (-q) 0 = k) (h1 : 1 ≤ k ∧ k ≤ 6) (hn : μ (-q) 1 = n) : qE y pc ls ((3, q) :: st) μ = qE y nx ls ((0, n) :: st) μ := by
  rw [s_run h]; subst hk; subst hn; simp only [stp]; rw [if_pos h1]; rfl
theorem s_lenq {a : Nat} {b q : Int} (h : ins y pc = some (21, a, b, nx)) : qE y pc ls ((3, q) :: st) μ = if 1 ≤ μ (-q) 0 ∧ μ (-q) 0 ≤ 6 then qE y nx ls ((0, μ (-q) 1) :: st) μ else none := by
  rw [s_run h]; simp only [stp]; split <;> rfl
/-- an element: the array's kind and length known, the index asked -/
theorem s_ald {a t : Nat} {b q i k n v : Int} (h : ins y pc = some (22, a, b, nx)) (hk : μ (-q) 0 = k) (ha : aKind a k = true) (ht : aTag k = t) (hn : μ (-q) 1 = n) (hv : μ q i = v) : qE y pc ls ((0, i) :: (3, q) :: st) μ = if 0 ≤ i ∧ i < n then qE y nx ls ((t, v) :: st) μ else none := by
  rw [s_run h]; subst hk; subst ht; subst hn; subst hv; simp only [stp, ha, true_and]; split <;> rfl
theorem s_aldq {a t : Nat} {b q i : Int} (h : ins y pc = some (22, a, b, nx)) (ht : ∀ k, aKind a k = true → aTag k = t) : qE y pc ls ((0, i) :: (3, q) :: st) μ = if aKind a (μ (-q) 0) = true ∧ 0 ≤ i ∧ i < μ (-q) 1 then qE y nx ls ((t, μ q i) :: st) μ else none := by
  rw [s_run h]; simp only [stp]; split
  · rename_i hc; rw [ht _ hc.1]; rfl
  · rfl
theorem s_ast {a t : Nat} {b q i k n v : Int} {μ' : Mem} (h : ins y pc = some (23, a, b, nx)) (h1 : q ≠ 1) (hk : μ (-q) 0 = k) (hp : aPut μ a k (t, v) = true) (hn : μ (-q) 1 = n) (hm : mU μ q i v = μ') : qE y pc ls ((t, v) :: (0, i) :: (3, q) :: st) μ = if 0 ≤ i ∧ i < n then qE y nx ls st μ' else none := by
  rw [s_run h]; subst hk; subst hn; subst hm; simp only [stp, hp, h1, true_and, ne_eq, not_false_eq_true]; split <;> rfl
theorem s_astq {a t : Nat} {b q i v : Int} (h : ins y pc = some (23, a, b, nx)) : qE y pc ls ((t, v) :: (0, i) :: (3, q) :: st) μ = if q ≠ 1 ∧ aPut μ a (μ (-q) 0) (t, v) = true ∧ 0 ≤ i ∧ i < μ (-q) 1 then qE y nx ls st (mU μ q i v) else none := by
  rw [s_run h]; simp only [stp]; split <;> rfl
theorem s_ret {a : Nat} {v : Int} (h : ins y pc = some (24, a, 0, nx)) (ha : a ≠ 9) : qE y pc ls [(a, v)] μ = some ((a, v), μ) := by
  rw [s_run h]; simp [stp, ha, run1, rRet]
theorem s_retz {v : Int} (h : ins y pc = some (24, 0, 1, nx)) (hv : v = 0 ∨ v = 1) : qE y pc ls [(0, v)] μ = some ((0, v), μ) := by
  rw [s_run h]; simp [stp, hv, run1, rRet]
theorem s_retzq {v : Int} (h : ins y pc = some (24, 0, 1, nx)) : qE y pc ls [(0, v)] μ = if v = 0 ∨ v = 1 then some ((0, v), μ) else none := by
  rw [s_run h]; simp only [stp]; by_cases hv : v = 0 ∨ v = 1 <;> simp [hv, run1, rRet]
theorem s_retv {b : Int} (h : ins y pc = some (24, 9, b, nx)) : qE y pc ls [] μ = some ((9, 0), μ) := by
  rw [s_run h]; rfl
theorem s_pop {a t : Nat} {b v : Int} (h : ins y pc = some (25, a, b, nx)) (ht : t ≠ 1) : qE y pc ls ((t, v) :: st) μ = qE y nx ls st μ := by
  rw [s_run h]; simp [stp, ht, run1, rGo]
theorem s_dup {a t : Nat} {b v : Int} (h : ins y pc = some (26, a, b, nx)) (ht : t ≠ 1) : qE y pc ls ((t, v) :: st) μ = qE y nx ls ((t, v) :: (t, v) :: st) μ := by
  rw [s_run h]; simp [stp, ht, run1, rGo]
theorem s_dup2 {a t u : Nat} {b v w : Int} (h : ins y pc = some (27, a, b, nx)) (ht : t ≠ 1) (hu : u ≠ 1) : qE y pc ls ((t, v) :: (u, w) :: st) μ = qE y nx ls ((t, v) :: (u, w) :: (t, v) :: (u, w) :: st) μ := by
  rw [s_run h]; simp [stp, ht, hu, run1, rGo]
theorem s_obj {a : Nat} {b q : Int} (h : ins y pc = some (28, a, b, nx)) (hq : 1 ≤ q) (hc : (st.map pcat).sum ≤ 8) : qE y pc ls ((3, q) :: st) μ = qE y nx ls st μ := by
  rw [s_run h]; simp only [stp]; rw [if_pos ⟨hq, hc⟩]; rfl
theorem s_objq {a : Nat} {b q : Int} (h : ins y pc = some (28, a, b, nx)) (hc : (st.map pcat).sum ≤ 8) : qE y pc ls ((3, q) :: st) μ = if 1 ≤ q then qE y nx ls st μ else none := by
  rw [s_run h]; simp only [stp, hc, and_true]; split <;> rfl
theorem s_cpy {a : Nat} {b n dp d sp s : Int} (h : ins y pc = some (29, a, b, nx)) (hc : s ≠ d ∧ d ≠ 1 ∧ s ≠ 1 ∧ μ (-s) 0 = 1 ∧ μ (-d) 0 = 1 ∧ 0 ≤ n ∧ 0 ≤ sp ∧ 0 ≤ dp ∧ sp + n ≤ μ (-s) 1 ∧ dp + n ≤ μ (-d) 1 ∧ (st.map pcat).sum ≤ 3) : qE y pc ls ((0, n) :: (0, dp) :: (3, d) :: (0, sp) :: (3, s) :: st) μ = qE y nx ls st (mCpy μ s sp d dp n) := by
  rw [s_run h]; simp only [stp]; rw [if_pos hc]; rfl
end SSteps
theorem ite_c {α : Type} {c : Prop} [Decidable c] {a b a' b' : α} (h1 : a = a') (h2 : b = b') : (if c then a else b) = if c then a' else b' := by rw [h1, h2]
theorem bind_c {α β : Type} {o : Option α} {f g : α → Option β} (h : ∀ x, f x = g x) : o.bind f = o.bind g := by rw [show f = g from funext h]
theorem psh_0 (x : Int) (st : List PV) : psh (0, x) st = (0, x) :: st := rfl
theorem psh_1 (x : Int) (st : List PV) : psh (1, x) st = (1, x) :: st := rfl
theorem psh_3 (x : Int) (st : List PV) : psh (3, x) st = (3, x) :: st := rfl
theorem psh_9 (x : Int) (st : List PV) : psh (9, x) st = st := rfl
/-- a loop that counts up -/
theorem it_up {α : Type} (f : Int → α) {a n : Int} (h : a ≤ n) (hs : ∀ i, a ≤ i → i < n → f i = f (i + 1)) : f a = f n := by
  obtain ⟨k, rfl⟩ : ∃ k : Nat, n = a + k := ⟨(n - a).toNat, by omega⟩
  clear h
  induction k with
  | zero => simp
  | succ k ih =>
    rw [ih (fun i h1 h2 => hs i h1 (by omega)), hs (a + k) (by omega) (by omega)]
    congr 1
    omega
theorem it_dn {α : Type} (f : Int → α) {a n : Int} (h : a ≤ n) (hs : ∀ i, a < i → i ≤ n → f i = f (i - 1)) : f n = f a := by
  obtain ⟨k, rfl⟩ : ∃ k : Nat, n = a + k := ⟨(n - a).toNat, by omega⟩
  clear h
  induction k with
  | zero => simp
  | succ k ih =>
    rw [← ih (fun i h1 h2 => hs i h1 (by omega)), hs (a + (k + 1 : Nat)) (by omega) (by omega)]
    congr 1
    omega
theorem w32_id {x : Int} (h1 : -2147483648 ≤ x) (h2 : x < 2147483648) : w32 x = x := by unfold w32; omega
theorem w64_id {x : Int} (h1 : -9223372036854775808 ≤ x) (h2 : x < 9223372036854775808) : w64 x = x := by unfold w64; omega
