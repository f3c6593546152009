/-! the two constructors, run -/
def dA : Dat := dNew ([], 0) 19 11
def dB : Option (PV × Dat) := qXD 700 94 0 (entL 94 [(3, 2)]) [] dA
def dC : Option (PV × Dat) := match dB with
  | some r => qXD 900 141 0 (entL 141 [(3, 106)]) [] (dNew r.2 20 35)
  | none => none
#eval (dC.map fun r => r.2.1)
