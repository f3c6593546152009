/-! the bytes say what the code tables say -/
def lkT {α : Type} : List (Nat × α) → Nat → Option α
  | [], _ => none
  | (k, o) :: r, i => if k = i then some o else lkT r i
def qOw (y : Nat) : Nat := if y = qLaw then 12 else pow y
def qRt (y : Nat) : Option FieldType := if y = qLaw then ret else prt y
def qCd (y : Nat) : ByteArray := if y = qLaw then code else pcd y
def cN (c : ClassFile.Cond) : Nat := match c with
  | .eq => 0
  | .ne => 1
  | .lt => 2
  | .ge => 3
  | .gt => 4
  | .le => 5
def rg (len n : Nat) (o : pOp) : Option pOp := if len = n then some o else none
def rng (v : Int) : Bool := decide (-2147483648 ≤ v) && decide (v < 2147483648)
def tgt (pc : Nat) (off : Int) : Int := (pc : Int) + off
/-- a final field is written by its own class's constructor alone -/
def finOK (y ci k nest : Nat) : Bool := match vwCl[ci]? with
  | some r => decide (k < r.2.2) && (if (r.2.1 k).2.2.2 = true then decide (nest = 0) && decide ((pnm y).name = "<init>") && decide (y ≠ qLaw) && decide ((r.2.1 k).1 = pcn (qOw y)) else true)
  | none => false
def swT (pc : Nat) (lo : Int) (offs : List Int) : List (Int × Nat) := match offs with
  | [] => []
  | f :: r => (lo, (tgt pc f).toNat) :: swT pc (lo + 1) r
def trI (y pc : Nat) (i : Instr) (len : Nat) : Option pOp := match i with
  | .iconst n => if rng n = true then rg len 1 (0, 0, n, pc + 1) else none
  | .bipush n => if (Int8.ofInt n).toInt32.toInt = n ∧ rng n = true then rg len 2 (0, 0, n, pc + 2) else none
  | .sipush n => if (Int16.ofInt n).toInt32.toInt = n ∧ rng n = true then rg len 3 (0, 0, n, pc + 3) else none
  | .lconst n => rg len 1 (0, 1, (n.val : Int), pc + 1)
  | .ldc ix => match lkT (pLdcs.getD (qOw y) []) ix with
    | some (.int v, _) => rg len 2 (0, 0, v.toInt, pc + 2)
    | some (.float v, _) => rg len 2 (0, 2, (v.toNat : Int), pc + 2)
    | _ => none
  | .ldc2_w ix => match lkT (pLdcs.getD (qOw y) []) ix with
    | some (.long v, _) => rg len 3 (0, 1, v.toInt, pc + 3)
    | _ => none
  | .aconst_null => rg len 1 (0, 3, 0, pc + 1)
  | .iload k => rg len 2 (1, 0, k, pc + 2)
  | .iload_n k => rg len 1 (1, 0, (k.val : Int), pc + 1)
  | .lload k => rg len 2 (1, 1, k, pc + 2)
  | .lload_n k => rg len 1 (1, 1, (k.val : Int), pc + 1)
  | .fload k => rg len 2 (1, 2, k, pc + 2)
  | .fload_n k => rg len 1 (1, 2, (k.val : Int), pc + 1)
  | .aload k => rg len 2 (1, 3, k, pc + 2)
  | .aload_n k => rg len 1 (1, 3, (k.val : Int), pc + 1)
  | .istore k => rg len 2 (2, 0, k, pc + 2)
  | .istore_n k => rg len 1 (2, 0, (k.val : Int), pc + 1)
  | .lstore k => rg len 2 (2, 1, k, pc + 2)
  | .lstore_n k => rg len 1 (2, 1, (k.val : Int), pc + 1)
  | .fstore k => rg len 2 (2, 2, k, pc + 2)
  | .fstore_n k => rg len 1 (2, 2, (k.val : Int), pc + 1)
  | .astore k => rg len 2 (2, 3, k, pc + 2)
  | .astore_n k => rg len 1 (2, 3, (k.val : Int), pc + 1)
  | .iinc k n => if rng n = true then rg len 3 (3, k, n, pc + 3) else none
  | .iadd => rg len 1 (4, 0, 0, pc + 1)
  | .isub => rg len 1 (4, 1, 0, pc + 1)
  | .imul => rg len 1 (4, 2, 0, pc + 1)
  | .idiv => rg len 1 (4, 3, 0, pc + 1)
  | .irem => rg len 1 (4, 4, 0, pc + 1)
  | .iand => rg len 1 (4, 5, 0, pc + 1)
  | .lsub => rg len 1 (5, 0, 0, pc + 1)
  | .land => rg len 1 (5, 1, 0, pc + 1)
  | .lor => rg len 1 (5, 2, 0, pc + 1)
  | .lshl => rg len 1 (5, 3, 0, pc + 1)
  | .lushr => rg len 1 (5, 4, 0, pc + 1)
  | .lcmp => rg len 1 (6, 0, 0, pc + 1)
  | .fadd => rg len 1 (7, 0, 0, pc + 1)
  | .fmul => rg len 1 (7, 1, 0, pc + 1)
  | .fdiv => rg len 1 (7, 2, 0, pc + 1)
  | .i2f => rg len 1 (8, 0, 0, pc + 1)
  | .f2i => rg len 1 (8, 1, 0, pc + 1)
  | .i2l => rg len 1 (8, 2, 0, pc + 1)
  | .l2i => rg len 1 (8, 3, 0, pc + 1)
  | .ifCond c off => if 0 ≤ tgt pc off then rg len 3 (9, cN c, tgt pc off, pc + 3) else none
  | .if_icmp c off => if 0 ≤ tgt pc off then rg len 3 (10, cN c, tgt pc off, pc + 3) else none
  | .goto off => if 0 ≤ tgt pc off then rg len 3 (11, 0, tgt pc off, pc + 3) else none
  | .ifnull off => if 0 ≤ tgt pc off then rg len 3 (12, 0, tgt pc off, pc + 3) else none
  | .ifnonnull off => if 0 ≤ tgt pc off then rg len 3 (12, 1, tgt pc off, pc + 3) else none
  | .tableswitch d lo hi offs => if 0 ≤ tgt pc d ∧ offs.toList.all (fun f => decide (0 ≤ tgt pc f)) = true ∧ hi = lo + (offs.size : Int) - 1 then some (13, pSw.findIdx (fun l => decide (l = swT pc lo offs.toList)), tgt pc d, 0) else none
  | .lookupswitch d ps => if 0 ≤ tgt pc d ∧ ps.toList.all (fun f => decide (0 ≤ tgt pc f.2)) = true ∧ (ps.toList.zip (ps.toList.drop 1)).all (fun (a, next) => a.1 < next.1) = true then some (13, pSw.findIdx (fun l => decide (l = ps.toList.map (fun f => (f.1, (tgt pc f.2).toNat)))), tgt pc d, 0) else none
  | .getfield ix => match lkT (pFlds.getD (qOw y) []) ix with
    | some (ci, k, _, _) => rg len 3 (14, ci, k, pc + 3)
    | none => none
  | .putfield ix => match lkT (pFlds.getD (qOw y) []) ix with
    | some (ci, k, nest, _) => if finOK y ci k nest = true then rg len 3 (15, ci, k, pc + 3) else none
    | none => none
  | .invokevirtual ix => match lkT (pCalls.getD (qOw y) []) ix with
    | some (a, _, _) => if pkd a = 1 then rg len 3 (16, a, 0, pc + 3) else none
    | none => none
  | .invokespecial ix => match lkT (pCalls.getD (qOw y) []) ix with
    | some (a, _, _) => if pkd a = 2 then rg len 3 (16, a, 0, pc + 3) else none
    | none => match lkT (pObjs.getD (qOw y) []) ix with
      | some _ => rg len 3 (28, 0, 0, pc + 3)
      | none => none
  | .invokestatic ix => match lkT (pCalls.getD (qOw y) []) ix with
    | some (a, _, _) => if pkd a = 0 then rg len 3 (16, a, 0, pc + 3) else none
    | none => match lkT (pCopies.getD (qOw y) []) ix with
      | some _ => rg len 3 (29, 0, 0, pc + 3)
      | none => none
  | .new ix => match lkT (pNews.getD (qOw y) []) ix with
    | some (ci, _) => rg len 3 (17, ci, 0, pc + 3)
    | none => none
  | .newarray .int => rg len 2 (18, 1, 0, pc + 2)
  | .newarray .long => rg len 2 (18, 2, 0, pc + 2)
  | .newarray .boolean => rg len 2 (18, 6, 0, pc + 2)
  | .anewarray ix => match lkT (pANews.getD (qOw y) []) ix with
    | some (k, _) => rg len 3 (19, k, 0, pc + 3)
    | none => none
  | .multianewarray ix d => match lkT (pMNews.getD (qOw y) []) ix with
    | some _ => if d = 2 then rg len 4 (20, 0, 0, pc + 4) else none
    | none => none
  | .arraylength => rg len 1 (21, 0, 0, pc + 1)
  | .iaload => rg len 1 (22, 1, 0, pc + 1)
  | .laload => rg len 1 (22, 2, 0, pc + 1)
  | .baload => rg len 1 (22, 6, 0, pc + 1)
  | .aaload => rg len 1 (22, 3, 0, pc + 1)
  | .iastore => rg len 1 (23, 1, 0, pc + 1)
  | .lastore => rg len 1 (23, 2, 0, pc + 1)
  | .bastore => rg len 1 (23, 6, 0, pc + 1)
  | .aastore => rg len 1 (23, 3, 0, pc + 1)
  | .ireturn => if qRt y = some .boolean then rg len 1 (24, 0, 1, pc + 1) else if qRt y = some .int then rg len 1 (24, 0, 0, pc + 1) else none
  | .lreturn => if qRt y = some .long then rg len 1 (24, 1, 0, pc + 1) else none
  | .areturn => match qRt y with
    | some (.object _) => rg len 1 (24, 3, 0, pc + 1)
    | _ => none
  | .return_ => if qRt y = none then rg len 1 (24, 9, 0, pc + 1) else none
  | .pop => rg len 1 (25, 0, 0, pc + 1)
  | .dup => rg len 1 (26, 0, 0, pc + 1)
  | .dup2 => rg len 1 (27, 0, 0, pc + 1)
  | _ => none
def decOK (y : Nat) (q : Nat × pOp) : Bool := match decode (qCd y) q.1 with
  | .ok (i, len) => decide (trI y q.1 i len = some q.2)
  | .error _ => false
theorem decOK_spec {y : Nat} {q : Nat × pOp} (h : decOK y q = true) : ∃ (i : Instr) (len : Nat), decode (qCd y) q.1 = .ok (i, len) ∧ trI y q.1 i len = some q.2 := by
  unfold decOK at h
  split at h
  · rename_i i len he
    exact ⟨i, len, he, of_decide_eq_true h⟩
  · cases h
set_option maxRecDepth 100000 in
theorem dk_0 : (qCode 0).all (decOK 0) = true := by decide +kernel
set_option maxRecDepth 100000 in
theorem dk_1 : (qCode 1).all (decOK 1) = true := by decide +kernel
set_option maxRecDepth 100000 in
theorem dk_2 : (qCode 2).all (decOK 2) = true := by decide +kernel
set_option maxRecDepth 100000 in
theorem dk_3 : (qCode 3).all (decOK 3) = true := by decide +kernel
set_option maxRecDepth 100000 in
theorem dk_4 : (qCode 4).all (decOK 4) = true := by decide +kernel
set_option maxRecDepth 100000 in
theorem dk_5 : (qCode 5).all (decOK 5) = true := by decide +kernel
set_option maxRecDepth 100000 in
theorem dk_6 : (qCode 6).all (decOK 6) = true := by decide +kernel
set_option maxRecDepth 100000 in
theorem dk_7 : (qCode 7).all (decOK 7) = true := by decide +kernel
set_option maxRecDepth 100000 in
theorem dk_8 : (qCode 8).all (decOK 8) = true := by decide +kernel
set_option maxRecDepth 100000 in
theorem dk_9 : (qCode 9).all (decOK 9) = true := by decide +kernel
set_option maxRecDepth 100000 in
theorem dk_10 : (qCode 10).all (decOK 10) = true := by decide +kernel
set_option maxRecDepth 100000 in
theorem dk_11 : (qCode 11).all (decOK 11) = true := by decide +kernel
set_option maxRecDepth 100000 in
theorem dk_12 : (qCode 12).all (decOK 12) = true := by decide +kernel
set_option maxRecDepth 100000 in
theorem dk_13 : (qCode 13).all (decOK 13) = true := by decide +kernel
set_option maxRecDepth 100000 in
theorem dk_14 : (qCode 14).all (decOK 14) = true := by decide +kernel
set_option maxRecDepth 100000 in
theorem dk_15 : (qCode 15).all (decOK 15) = true := by decide +kernel
set_option maxRecDepth 100000 in
theorem dk_16 : (qCode 16).all (decOK 16) = true := by decide +kernel
set_option maxRecDepth 100000 in
theorem dk_17 : (qCode 17).all (decOK 17) = true := by decide +kernel
set_option maxRecDepth 100000 in
theorem dk_18 : (qCode 18).all (decOK 18) = true := by decide +kernel
set_option maxRecDepth 100000 in
theorem dk_19 : (qCode 19).all (decOK 19) = true := by decide +kernel
set_option maxRecDepth 100000 in
theorem dk_20 : (qCode 20).all (decOK 20) = true := by decide +kernel
set_option maxRecDepth 100000 in
theorem dk_21 : (qCode 21).all (decOK 21) = true := by decide +kernel
set_option maxRecDepth 100000 in
theorem dk_22 : (qCode 22).all (decOK 22) = true := by decide +kernel
set_option maxRecDepth 100000 in
theorem dk_23 : (qCode 23).all (decOK 23) = true := by decide +kernel
set_option maxRecDepth 100000 in
theorem dk_24 : (qCode 24).all (decOK 24) = true := by decide +kernel
set_option maxRecDepth 100000 in
theorem dk_25 : (qCode 25).all (decOK 25) = true := by decide +kernel
set_option maxRecDepth 100000 in
theorem dk_26 : (qCode 26).all (decOK 26) = true := by decide +kernel
set_option maxRecDepth 100000 in
theorem dk_27 : (qCode 27).all (decOK 27) = true := by decide +kernel
set_option maxRecDepth 100000 in
theorem dk_28 : (qCode 28).all (decOK 28) = true := by decide +kernel
set_option maxRecDepth 100000 in
theorem dk_29 : (qCode 29).all (decOK 29) = true := by decide +kernel
set_option maxRecDepth 100000 in
theorem dk_30 : (qCode 30).all (decOK 30) = true := by decide +kernel
set_option maxRecDepth 100000 in
theorem dk_31 : (qCode 31).all (decOK 31) = true := by decide +kernel
set_option maxRecDepth 100000 in
theorem dk_32 : (qCode 32).all (decOK 32) = true := by decide +kernel
set_option maxRecDepth 100000 in
theorem dk_33 : (qCode 33).all (decOK 33) = true := by decide +kernel
set_option maxRecDepth 100000 in
theorem dk_34 : (qCode 34).all (decOK 34) = true := by decide +kernel
set_option maxRecDepth 100000 in
theorem dk_35 : (qCode 35).all (decOK 35) = true := by decide +kernel
set_option maxRecDepth 100000 in
theorem dk_36 : (qCode 36).all (decOK 36) = true := by decide +kernel
set_option maxRecDepth 100000 in
theorem dk_37 : (qCode 37).all (decOK 37) = true := by decide +kernel
set_option maxRecDepth 100000 in
theorem dk_38 : (qCode 38).all (decOK 38) = true := by decide +kernel
set_option maxRecDepth 100000 in
theorem dk_39 : (qCode 39).all (decOK 39) = true := by decide +kernel
set_option maxRecDepth 100000 in
theorem dk_40 : (qCode 40).all (decOK 40) = true := by decide +kernel
set_option maxRecDepth 100000 in
theorem dk_41 : (qCode 41).all (decOK 41) = true := by decide +kernel
set_option maxRecDepth 100000 in
theorem dk_42 : (qCode 42).all (decOK 42) = true := by decide +kernel
set_option maxRecDepth 100000 in
theorem dk_43 : (qCode 43).all (decOK 43) = true := by decide +kernel
set_option maxRecDepth 100000 in
theorem dk_44 : (qCode 44).all (decOK 44) = true := by decide +kernel
set_option maxRecDepth 100000 in
theorem dk_45 : (qCode 45).all (decOK 45) = true := by decide +kernel
set_option maxRecDepth 100000 in
theorem dk_46 : (qCode 46).all (decOK 46) = true := by decide +kernel
set_option maxRecDepth 100000 in
theorem dk_47 : (qCode 47).all (decOK 47) = true := by decide +kernel
set_option maxRecDepth 100000 in
theorem dk_48 : (qCode 48).all (decOK 48) = true := by decide +kernel
set_option maxRecDepth 100000 in
theorem dk_49 : (qCode 49).all (decOK 49) = true := by decide +kernel
set_option maxRecDepth 100000 in
theorem dk_50 : (qCode 50).all (decOK 50) = true := by decide +kernel
set_option maxRecDepth 100000 in
theorem dk_51 : (qCode 51).all (decOK 51) = true := by decide +kernel
set_option maxRecDepth 100000 in
theorem dk_52 : (qCode 52).all (decOK 52) = true := by decide +kernel
set_option maxRecDepth 100000 in
theorem dk_53 : (qCode 53).all (decOK 53) = true := by decide +kernel
set_option maxRecDepth 100000 in
theorem dk_54 : (qCode 54).all (decOK 54) = true := by decide +kernel
set_option maxRecDepth 100000 in
theorem dk_55 : (qCode 55).all (decOK 55) = true := by decide +kernel
set_option maxRecDepth 100000 in
theorem dk_56 : (qCode 56).all (decOK 56) = true := by decide +kernel
set_option maxRecDepth 100000 in
theorem dk_57 : (qCode 57).all (decOK 57) = true := by decide +kernel
set_option maxRecDepth 100000 in
theorem dk_58 : (qCode 58).all (decOK 58) = true := by decide +kernel
set_option maxRecDepth 100000 in
theorem dk_59 : (qCode 59).all (decOK 59) = true := by decide +kernel
set_option maxRecDepth 100000 in
theorem dk_60 : (qCode 60).all (decOK 60) = true := by decide +kernel
set_option maxRecDepth 100000 in
theorem dk_61 : (qCode 61).all (decOK 61) = true := by decide +kernel
set_option maxRecDepth 100000 in
theorem dk_62 : (qCode 62).all (decOK 62) = true := by decide +kernel
set_option maxRecDepth 100000 in
theorem dk_63 : (qCode 63).all (decOK 63) = true := by decide +kernel
set_option maxRecDepth 100000 in
theorem dk_64 : (qCode 64).all (decOK 64) = true := by decide +kernel
set_option maxRecDepth 100000 in
theorem dk_65 : (qCode 65).all (decOK 65) = true := by decide +kernel
set_option maxRecDepth 100000 in
theorem dk_66 : (qCode 66).all (decOK 66) = true := by decide +kernel
set_option maxRecDepth 100000 in
theorem dk_67 : (qCode 67).all (decOK 67) = true := by decide +kernel
set_option maxRecDepth 100000 in
theorem dk_68 : (qCode 68).all (decOK 68) = true := by decide +kernel
set_option maxRecDepth 100000 in
theorem dk_69 : (qCode 69).all (decOK 69) = true := by decide +kernel
set_option maxRecDepth 100000 in
theorem dk_70 : (qCode 70).all (decOK 70) = true := by decide +kernel
set_option maxRecDepth 100000 in
theorem dk_71 : (qCode 71).all (decOK 71) = true := by decide +kernel
set_option maxRecDepth 100000 in
theorem dk_72 : (qCode 72).all (decOK 72) = true := by decide +kernel
set_option maxRecDepth 100000 in
theorem dk_73 : (qCode 73).all (decOK 73) = true := by decide +kernel
set_option maxRecDepth 100000 in
theorem dk_74 : (qCode 74).all (decOK 74) = true := by decide +kernel
set_option maxRecDepth 100000 in
theorem dk_75 : (qCode 75).all (decOK 75) = true := by decide +kernel
set_option maxRecDepth 100000 in
theorem dk_76 : (qCode 76).all (decOK 76) = true := by decide +kernel
set_option maxRecDepth 100000 in
theorem dk_77 : (qCode 77).all (decOK 77) = true := by decide +kernel
set_option maxRecDepth 100000 in
theorem dk_78 : (qCode 78).all (decOK 78) = true := by decide +kernel
set_option maxRecDepth 100000 in
theorem dk_79 : (qCode 79).all (decOK 79) = true := by decide +kernel
set_option maxRecDepth 100000 in
theorem dk_80 : (qCode 80).all (decOK 80) = true := by decide +kernel
set_option maxRecDepth 100000 in
theorem dk_81 : (qCode 81).all (decOK 81) = true := by decide +kernel
set_option maxRecDepth 100000 in
theorem dk_82 : (qCode 82).all (decOK 82) = true := by decide +kernel
set_option maxRecDepth 100000 in
theorem dk_83 : (qCode 83).all (decOK 83) = true := by decide +kernel
set_option maxRecDepth 100000 in
theorem dk_84 : (qCode 84).all (decOK 84) = true := by decide +kernel
set_option maxRecDepth 100000 in
theorem dk_85 : (qCode 85).all (decOK 85) = true := by decide +kernel
set_option maxRecDepth 100000 in
theorem dk_86 : (qCode 86).all (decOK 86) = true := by decide +kernel
set_option maxRecDepth 100000 in
theorem dk_87 : (qCode 87).all (decOK 87) = true := by decide +kernel
set_option maxRecDepth 100000 in
theorem dk_88 : (qCode 88).all (decOK 88) = true := by decide +kernel
set_option maxRecDepth 100000 in
theorem dk_89 : (qCode 89).all (decOK 89) = true := by decide +kernel
set_option maxRecDepth 100000 in
theorem dk_90 : (qCode 90).all (decOK 90) = true := by decide +kernel
set_option maxRecDepth 100000 in
theorem dk_91 : (qCode 91).all (decOK 91) = true := by decide +kernel
set_option maxRecDepth 100000 in
theorem dk_92 : (qCode 92).all (decOK 92) = true := by decide +kernel
set_option maxRecDepth 100000 in
theorem dk_93 : (qCode 93).all (decOK 93) = true := by decide +kernel
set_option maxRecDepth 100000 in
theorem dk_94 : (qCode 94).all (decOK 94) = true := by decide +kernel
set_option maxRecDepth 100000 in
theorem dk_95 : (qCode 95).all (decOK 95) = true := by decide +kernel
set_option maxRecDepth 100000 in
theorem dk_96 : (qCode 96).all (decOK 96) = true := by decide +kernel
set_option maxRecDepth 100000 in
theorem dk_97 : (qCode 97).all (decOK 97) = true := by decide +kernel
set_option maxRecDepth 100000 in
theorem dk_98 : (qCode 98).all (decOK 98) = true := by decide +kernel
set_option maxRecDepth 100000 in
theorem dk_99 : (qCode 99).all (decOK 99) = true := by decide +kernel
set_option maxRecDepth 100000 in
theorem dk_100 : (qCode 100).all (decOK 100) = true := by decide +kernel
set_option maxRecDepth 100000 in
theorem dk_101 : (qCode 101).all (decOK 101) = true := by decide +kernel
set_option maxRecDepth 100000 in
theorem dk_102 : (qCode 102).all (decOK 102) = true := by decide +kernel
set_option maxRecDepth 100000 in
theorem dk_103 : (qCode 103).all (decOK 103) = true := by decide +kernel
set_option maxRecDepth 100000 in
theorem dk_104 : (qCode 104).all (decOK 104) = true := by decide +kernel
set_option maxRecDepth 100000 in
theorem dk_105 : (qCode 105).all (decOK 105) = true := by decide +kernel
set_option maxRecDepth 100000 in
theorem dk_106 : (qCode 106).all (decOK 106) = true := by decide +kernel
set_option maxRecDepth 100000 in
theorem dk_107 : (qCode 107).all (decOK 107) = true := by decide +kernel
set_option maxRecDepth 100000 in
theorem dk_108 : (qCode 108).all (decOK 108) = true := by decide +kernel
set_option maxRecDepth 100000 in
theorem dk_109 : (qCode 109).all (decOK 109) = true := by decide +kernel
set_option maxRecDepth 100000 in
theorem dk_110 : (qCode 110).all (decOK 110) = true := by decide +kernel
set_option maxRecDepth 100000 in
theorem dk_111 : (qCode 111).all (decOK 111) = true := by decide +kernel
set_option maxRecDepth 100000 in
theorem dk_112 : (qCode 112).all (decOK 112) = true := by decide +kernel
set_option maxRecDepth 100000 in
theorem dk_113 : (qCode 113).all (decOK 113) = true := by decide +kernel
set_option maxRecDepth 100000 in
theorem dk_114 : (qCode 114).all (decOK 114) = true := by decide +kernel
set_option maxRecDepth 100000 in
theorem dk_115 : (qCode 115).all (decOK 115) = true := by decide +kernel
set_option maxRecDepth 100000 in
theorem dk_116 : (qCode 116).all (decOK 116) = true := by decide +kernel
set_option maxRecDepth 100000 in
theorem dk_117 : (qCode 117).all (decOK 117) = true := by decide +kernel
set_option maxRecDepth 100000 in
theorem dk_118 : (qCode 118).all (decOK 118) = true := by decide +kernel
set_option maxRecDepth 100000 in
theorem dk_119 : (qCode 119).all (decOK 119) = true := by decide +kernel
set_option maxRecDepth 100000 in
theorem dk_120 : (qCode 120).all (decOK 120) = true := by decide +kernel
set_option maxRecDepth 100000 in
theorem dk_121 : (qCode 121).all (decOK 121) = true := by decide +kernel
set_option maxRecDepth 100000 in
theorem dk_122 : (qCode 122).all (decOK 122) = true := by decide +kernel
set_option maxRecDepth 100000 in
theorem dk_123 : (qCode 123).all (decOK 123) = true := by decide +kernel
set_option maxRecDepth 100000 in
theorem dk_124 : (qCode 124).all (decOK 124) = true := by decide +kernel
set_option maxRecDepth 100000 in
theorem dk_125 : (qCode 125).all (decOK 125) = true := by decide +kernel
set_option maxRecDepth 100000 in
theorem dk_126 : (qCode 126).all (decOK 126) = true := by decide +kernel
set_option maxRecDepth 100000 in
theorem dk_127 : (qCode 127).all (decOK 127) = true := by decide +kernel
set_option maxRecDepth 100000 in
theorem dk_128 : (qCode 128).all (decOK 128) = true := by decide +kernel
set_option maxRecDepth 100000 in
theorem dk_129 : (qCode 129).all (decOK 129) = true := by decide +kernel
set_option maxRecDepth 100000 in
theorem dk_130 : (qCode 130).all (decOK 130) = true := by decide +kernel
set_option maxRecDepth 100000 in
theorem dk_131 : (qCode 131).all (decOK 131) = true := by decide +kernel
set_option maxRecDepth 100000 in
theorem dk_132 : (qCode 132).all (decOK 132) = true := by decide +kernel
set_option maxRecDepth 100000 in
theorem dk_133 : (qCode 133).all (decOK 133) = true := by decide +kernel
set_option maxRecDepth 100000 in
theorem dk_134 : (qCode 134).all (decOK 134) = true := by decide +kernel
set_option maxRecDepth 100000 in
theorem dk_135 : (qCode 135).all (decOK 135) = true := by decide +kernel
set_option maxRecDepth 100000 in
theorem dk_136 : (qCode 136).all (decOK 136) = true := by decide +kernel
set_option maxRecDepth 100000 in
theorem dk_137 : (qCode 137).all (decOK 137) = true := by decide +kernel
set_option maxRecDepth 100000 in
theorem dk_138 : (qCode 138).all (decOK 138) = true := by decide +kernel
set_option maxRecDepth 100000 in
theorem dk_139 : (qCode 139).all (decOK 139) = true := by decide +kernel
set_option maxRecDepth 100000 in
theorem dk_140 : (qCode 140).all (decOK 140) = true := by decide +kernel
set_option maxRecDepth 100000 in
theorem dk_141 : (qCode 141).all (decOK 141) = true := by decide +kernel
set_option maxRecDepth 100000 in
theorem dk_142 : (qCode 142).all (decOK 142) = true := by decide +kernel
set_option maxRecDepth 100000 in
theorem dk_143 : (qCode 143).all (decOK 143) = true := by decide +kernel
set_option maxRecDepth 100000 in
theorem dk_144 : (qCode 144).all (decOK 144) = true := by decide +kernel
set_option maxRecDepth 100000 in
theorem dk_145 : (qCode 145).all (decOK 145) = true := by decide +kernel
set_option maxRecDepth 100000 in
theorem dk_146 : (qCode 146).all (decOK 146) = true := by decide +kernel
set_option maxRecDepth 100000 in
theorem dk_147 : (qCode 147).all (decOK 147) = true := by decide +kernel
set_option maxRecDepth 100000 in
theorem dk_148 : (qCode 148).all (decOK 148) = true := by decide +kernel
set_option maxRecDepth 100000 in
theorem dk_149 : (qCode 149).all (decOK 149) = true := by decide +kernel
set_option maxRecDepth 100000 in
theorem dk_150 : (qCode 150).all (decOK 150) = true := by decide +kernel
set_option maxRecDepth 100000 in
theorem dk_151 : (qCode 151).all (decOK 151) = true := by decide +kernel
set_option maxRecDepth 100000 in
theorem dk_152 : (qCode 152).all (decOK 152) = true := by decide +kernel
set_option maxRecDepth 100000 in
theorem dk_153 : (qCode 153).all (decOK 153) = true := by decide +kernel
set_option maxRecDepth 100000 in
theorem dk_154 : (qCode 154).all (decOK 154) = true := by decide +kernel
set_option maxRecDepth 100000 in
theorem dk_155 : (qCode 155).all (decOK 155) = true := by decide +kernel
set_option maxRecDepth 100000 in
theorem dk_156 : (qCode 156).all (decOK 156) = true := by decide +kernel
set_option maxRecDepth 100000 in
theorem dk_157 : (qCode 157).all (decOK 157) = true := by decide +kernel
set_option maxRecDepth 100000 in
theorem dk_158 : (qCode 158).all (decOK 158) = true := by decide +kernel
set_option maxRecDepth 100000 in
theorem dk_159 : (qCode 159).all (decOK 159) = true := by decide +kernel
set_option maxRecDepth 100000 in
theorem dk_160 : (qCode 160).all (decOK 160) = true := by decide +kernel
set_option maxRecDepth 100000 in
theorem dk_161 : (qCode 161).all (decOK 161) = true := by decide +kernel
set_option maxRecDepth 100000 in
theorem dk_162 : (qCode 162).all (decOK 162) = true := by decide +kernel
set_option maxRecDepth 100000 in
theorem dk_163 : (qCode 163).all (decOK 163) = true := by decide +kernel
set_option maxRecDepth 100000 in
theorem dk_164 : (qCode 164).all (decOK 164) = true := by decide +kernel
set_option maxRecDepth 100000 in
theorem dk_165 : (qCode 165).all (decOK 165) = true := by decide +kernel
set_option maxRecDepth 100000 in
theorem dk_166 : (qCode 166).all (decOK 166) = true := by decide +kernel
set_option maxRecDepth 100000 in
theorem dk_167 : (qCode 167).all (decOK 167) = true := by decide +kernel
set_option maxRecDepth 100000 in
theorem dk_168 : (qCode 168).all (decOK 168) = true := by decide +kernel
set_option maxRecDepth 100000 in
theorem dk_169 : (qCode 169).all (decOK 169) = true := by decide +kernel
set_option maxRecDepth 100000 in
theorem dk_170 : (qCode 170).all (decOK 170) = true := by decide +kernel
set_option maxRecDepth 100000 in
theorem dk_171 : (qCode 171).all (decOK 171) = true := by decide +kernel
set_option maxRecDepth 100000 in
theorem dk_172 : (qCode 172).all (decOK 172) = true := by decide +kernel
set_option maxRecDepth 100000 in
theorem dk_173 : (qCode 173).all (decOK 173) = true := by decide +kernel
set_option maxRecDepth 100000 in
theorem dk_174 : (qCode 174).all (decOK 174) = true := by decide +kernel
set_option maxRecDepth 100000 in
theorem dk_175 : (qCode 175).all (decOK 175) = true := by decide +kernel
set_option maxRecDepth 100000 in
theorem dk_176 : (qCode 176).all (decOK 176) = true := by decide +kernel
set_option maxRecDepth 100000 in
theorem dk_177 : (qCode 177).all (decOK 177) = true := by decide +kernel
set_option maxRecDepth 100000 in
theorem dk_178 : (qCode 178).all (decOK 178) = true := by decide +kernel
set_option maxRecDepth 100000 in
theorem dk_179 : (qCode 179).all (decOK 179) = true := by decide +kernel
set_option maxRecDepth 100000 in
theorem dk_180 : (qCode 180).all (decOK 180) = true := by decide +kernel
set_option maxRecDepth 100000 in
theorem dk_181 : (qCode 181).all (decOK 181) = true := by decide +kernel
set_option maxRecDepth 100000 in
theorem dk_182 : (qCode 182).all (decOK 182) = true := by decide +kernel
set_option maxRecDepth 100000 in
theorem dk_183 : (qCode 183).all (decOK 183) = true := by decide +kernel
set_option maxRecDepth 100000 in
theorem dk_184 : (qCode 184).all (decOK 184) = true := by decide +kernel
set_option maxRecDepth 100000 in
theorem dk_185 : (qCode 185).all (decOK 185) = true := by decide +kernel
set_option maxRecDepth 100000 in
theorem dk_186 : (qCode 186).all (decOK 186) = true := by decide +kernel
set_option maxRecDepth 100000 in
theorem dk_187 : (qCode 187).all (decOK 187) = true := by decide +kernel
set_option maxRecDepth 100000 in
theorem dk_188 : (qCode 188).all (decOK 188) = true := by decide +kernel
set_option maxRecDepth 100000 in
theorem dk_189 : (qCode 189).all (decOK 189) = true := by decide +kernel
set_option maxRecDepth 100000 in
theorem dk_190 : (qCode 190).all (decOK 190) = true := by decide +kernel
set_option maxRecDepth 100000 in
theorem dk_191 : (qCode 191).all (decOK 191) = true := by decide +kernel
set_option maxRecDepth 100000 in
theorem dk_192 : (qCode 192).all (decOK 192) = true := by decide +kernel
set_option maxRecDepth 100000 in
theorem dk_193 : (qCode 193).all (decOK 193) = true := by decide +kernel
set_option maxRecDepth 100000 in
theorem dk_194 : (qCode 194).all (decOK 194) = true := by decide +kernel
set_option maxRecDepth 100000 in
theorem dk_195 : (qCode 195).all (decOK 195) = true := by decide +kernel
set_option maxRecDepth 100000 in
theorem dk_196 : (qCode 196).all (decOK 196) = true := by decide +kernel
set_option maxRecDepth 100000 in
theorem dk_197 : (qCode 197).all (decOK 197) = true := by decide +kernel
set_option maxRecDepth 100000 in
theorem dk_198 : (qCode 198).all (decOK 198) = true := by decide +kernel
set_option maxRecDepth 100000 in
theorem dk_199 : (qCode 199).all (decOK 199) = true := by decide +kernel
set_option maxRecDepth 100000 in
theorem dk_200 : (qCode 200).all (decOK 200) = true := by decide +kernel
set_option maxRecDepth 100000 in
theorem dk_201 : (qCode 201).all (decOK 201) = true := by decide +kernel
set_option maxRecDepth 100000 in
theorem dk_202 : (qCode 202).all (decOK 202) = true := by decide +kernel
set_option maxRecDepth 100000 in
theorem dk_203 : (qCode 203).all (decOK 203) = true := by decide +kernel
set_option maxRecDepth 100000 in
theorem dk_204 : (qCode 204).all (decOK 204) = true := by decide +kernel
set_option maxRecDepth 100000 in
theorem dk_205 : (qCode 205).all (decOK 205) = true := by decide +kernel
set_option maxRecDepth 100000 in
theorem dk_206 : (qCode 206).all (decOK 206) = true := by decide +kernel
set_option maxRecDepth 100000 in
theorem dk_207 : (qCode 207).all (decOK 207) = true := by decide +kernel
set_option maxRecDepth 100000 in
theorem dk_208 : (qCode 208).all (decOK 208) = true := by decide +kernel
set_option maxRecDepth 100000 in
theorem dk_209 : (qCode 209).all (decOK 209) = true := by decide +kernel
set_option maxRecDepth 100000 in
theorem dk_210 : (qCode 210).all (decOK 210) = true := by decide +kernel
set_option maxRecDepth 100000 in
theorem dk_211 : (qCode 211).all (decOK 211) = true := by decide +kernel
set_option maxRecDepth 100000 in
theorem dk_212 : (qCode 212).all (decOK 212) = true := by decide +kernel
set_option maxRecDepth 100000 in
theorem dk_213 : (qCode 213).all (decOK 213) = true := by decide +kernel
set_option maxRecDepth 100000 in
theorem dk_214 : (qCode 214).all (decOK 214) = true := by decide +kernel
set_option maxRecDepth 100000 in
theorem dk_215 : (qCode 215).all (decOK 215) = true := by decide +kernel
set_option maxRecDepth 100000 in
theorem dk_216 : (qCode 216).all (decOK 216) = true := by decide +kernel
set_option maxRecDepth 100000 in
theorem dk_217 : (qCode 217).all (decOK 217) = true := by decide +kernel
set_option maxRecDepth 100000 in
theorem dk_218 : (qCode 218).all (decOK 218) = true := by decide +kernel
