/-! what the class and the reference have in common behind k calls -/
def RK (D : Mem) : Prop := D 4 = D 107 ∧ ∀ l, 0 ≤ l → l < 26 → 1 ≤ D 107 l ∧ D 107 l ≤ 9
def wordOK (D : Mem) (w : Int) : Prop := (D (132 + 3 * w) 1 = D 109 w ∧ D (-(133 + 3 * w)) 1 = D 109 w ∧ 1 ≤ D 109 w ∧ D 109 w ≤ 10) ∧ (∀ i, 0 ≤ i → i < D 109 w → D (133 + 3 * w) i = D 108 (10 * w + i) ∧ 0 ≤ D 108 (10 * w + i) ∧ D 108 (10 * w + i) ≤ 25) ∧ (D (131 + 3 * w) 1 = D 110 w ∧ 1 ≤ D 110 w ∧ D 110 w ≤ 1000000) ∧ (D (131 + 3 * w) 2 = D 111 w ∧ 0 ≤ D 111 w ∧ D 111 w ≤ D 106 8) ∧ D (131 + 3 * w) 3 = D 112 w ∧ (D 112 w = 0 ∨ D 112 w = 1)
def sameW (D : Mem) (v w : Int) : Prop := D 109 v = D 109 w ∧ ∀ i, 0 ≤ i → i < D 109 v → D 108 (10 * v + i) = D 108 (10 * w + i)
def RW (D : Mem) (k : Int) : Prop := (D 5 2 = D 106 6 ∧ 0 ≤ D 106 6 ∧ D 106 6 ≤ 80) ∧ (D 5 4 = D 106 8 ∧ 0 ≤ D 106 8 ∧ D 106 8 ≤ 2 * k) ∧ (∀ w, 0 ≤ w → w < D 106 6 → wordOK D w) ∧ (D 5 3 = S (D 112) (D 106 6) ∧ D 5 3 ≤ 40) ∧ ∀ v w, 0 ≤ v → v < w → w < D 106 6 → D 112 v = 1 → D 112 w = 1 → ¬ sameW D v w
def RP (D : Mem) : Prop := (0 ≤ D 7 3 ∧ D 7 3 ≤ 150) ∧ (∀ p, 0 ≤ p → p < D 7 3 → (0 ≤ D 8 p ∧ D 8 p < D 106 6) ∧ (0 ≤ D 9 p ∧ D 9 p < D 106 6) ∧ (1 ≤ D 10 p ∧ D 10 p ≤ 1000000) ∧ D 113 (80 * D 8 p + D 9 p) = D 10 p) ∧ (∀ p q, 0 ≤ p → p < q → q < D 7 3 → ¬ (D 8 p = D 8 q ∧ D 9 p = D 9 q)) ∧ ∀ a b, 0 ≤ a → a < 80 → 0 ≤ b → b < 80 → (∀ p, 0 ≤ p → p < D 7 3 → ¬ (D 8 p = a ∧ D 9 p = b)) → D 113 (80 * a + b) = 0
def RSa (D : Mem) : Prop := D 98 1 = D 106 12 ∧ 0 ≤ D 106 12 ∧ D 106 12 ≤ 10 ∧ D 99 = D 115 ∧ ∀ i, 0 ≤ i → i < D 106 12 → 0 ≤ D 115 i ∧ D 115 i ≤ 25
def RSb (D : Mem) : Prop := D 100 1 = D 106 14 ∧ 0 ≤ D 106 14 ∧ D 106 14 ≤ 12 ∧ D 101 = D 116 ∧ ∀ i, 0 ≤ i → i < D 106 14 → 1 ≤ D 116 i ∧ D 116 i ≤ 9
def RSc (D : Mem) : Prop := D 102 1 = D 106 16 ∧ 0 ≤ D 106 16 ∧ D 106 16 ≤ 60 ∧ D 103 = D 117 ∧ ∀ i, 0 ≤ i → i < D 106 16 → 0 ≤ D 117 i ∧ D 117 i < D 106 6
def RSe (D : Mem) : Prop := D 31 10 = D 106 9 ∧ 0 ≤ D 106 9 ∧ D 106 9 ≤ 100
def RSf (D : Mem) : Prop := D 38 = D 114 ∧ ∀ i, 0 ≤ i → i < 3 → 0 ≤ D 114 i ∧ D 114 i ≤ 100000
def RS (D : Mem) : Prop := RSa D ∧ RSb D ∧ RSc D ∧ RSe D ∧ RSf D
/-- class slot n and the reference's newcomer c are one -/
def ncEq (D : Mem) (n c : Int) : Prop := D 14 n = D 121 c ∧ D 13 n = D 120 c ∧ D (15 + 2 * n) 1 = D 119 c ∧ ∀ i, 0 ≤ i → i < D 119 c → D (16 + 2 * n) i = D 118 (10 * c + i)
def RN0 (D : Mem) (k : Int) : Prop := (D 11 3 = D 106 22 ∧ 0 ≤ D 106 22 ∧ D 106 22 ≤ k) ∧ (0 ≤ D 106 21 ∧ D 106 21 ≤ 8 ∧ S (fun n => if 0 < D 13 n then 1 else 0) 8 = D 106 21) ∧ (∀ n, 0 ≤ n → n < 8 → (0 ≤ D (15 + 2 * n) 1 ∧ D (15 + 2 * n) 1 ≤ 10) ∧ ((D 13 n = 0 ∧ D 14 n = 0) ∨ ((D 13 n = 1 ∨ D 13 n = 2) ∧ 1 ≤ D 14 n ∧ D 14 n ≤ D 106 22 ∧ ∃ c, 0 ≤ c ∧ c < D 106 21 ∧ ncEq D n c))) ∧ (∀ c, 0 ≤ c → c < D 106 21 → (1 ≤ D 119 c ∧ D 119 c ≤ 10) ∧ ∃ n, 0 ≤ n ∧ n < 8 ∧ 0 < D 13 n ∧ ncEq D n c) ∧ (∀ c d, 0 ≤ c → c < d → d < D 106 21 → D 121 c ≠ D 121 d ∧ ¬ (D 119 c = D 119 d ∧ ∀ i, 0 ≤ i → i < D 119 c → D 118 (10 * c + i) = D 118 (10 * d + i))) ∧ ∀ m n, 0 ≤ m → m < n → n < 8 → 0 < D 13 m → 0 < D 13 n → D 14 m ≠ D 14 n
/-- the newcomers, and the slots used -/
def RN (D : Mem) (k : Int) : Prop := D 0 3 ≤ 16 * D 106 6 + 100000 ∧ RN0 D k
def Rel (D : Mem) (k : Int) : Prop := RK D ∧ RW D k ∧ RP D ∧ RS D ∧ RN D k
