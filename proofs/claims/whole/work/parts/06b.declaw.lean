theorem all_td {α : Type} {l : List α} {p : α → Bool} (n : Nat) (h1 : (l.take n).all p = true) (h2 : (l.drop n).all p = true) : l.all p = true := by
  rw [← List.take_append_drop n l, List.all_append, h1, h2]; rfl
set_option maxRecDepth 100000 in
theorem dl_0 : (((qCode 219).drop 0).take 25).all (decOK 219) = true := by decide +kernel
set_option maxRecDepth 100000 in
theorem dl_25 : (((qCode 219).drop 25).take 25).all (decOK 219) = true := by decide +kernel
set_option maxRecDepth 100000 in
theorem dl_50 : (((qCode 219).drop 50).take 25).all (decOK 219) = true := by decide +kernel
set_option maxRecDepth 100000 in
theorem dl_75 : (((qCode 219).drop 75).take 25).all (decOK 219) = true := by decide +kernel
set_option maxRecDepth 100000 in
theorem dl_100 : (((qCode 219).drop 100).take 25).all (decOK 219) = true := by decide +kernel
set_option maxRecDepth 100000 in
theorem dl_125 : (((qCode 219).drop 125).take 25).all (decOK 219) = true := by decide +kernel
set_option maxRecDepth 100000 in
theorem dl_150 : (((qCode 219).drop 150).take 25).all (decOK 219) = true := by decide +kernel
set_option maxRecDepth 100000 in
theorem dl_175 : (((qCode 219).drop 175).take 25).all (decOK 219) = true := by decide +kernel
set_option maxRecDepth 100000 in
theorem dl_200 : (((qCode 219).drop 200).take 25).all (decOK 219) = true := by decide +kernel
set_option maxRecDepth 100000 in
theorem dl_225 : (((qCode 219).drop 225).take 25).all (decOK 219) = true := by decide +kernel
set_option maxRecDepth 100000 in
theorem dl_250 : (((qCode 219).drop 250).take 25).all (decOK 219) = true := by decide +kernel
set_option maxRecDepth 100000 in
theorem dl_275 : (((qCode 219).drop 275).take 25).all (decOK 219) = true := by decide +kernel
set_option maxRecDepth 100000 in
theorem dl_300 : (((qCode 219).drop 300).take 25).all (decOK 219) = true := by decide +kernel
set_option maxRecDepth 100000 in
theorem dl_325 : (((qCode 219).drop 325).take 25).all (decOK 219) = true := by decide +kernel
set_option maxRecDepth 100000 in
theorem dl_350 : (((qCode 219).drop 350).take 25).all (decOK 219) = true := by decide +kernel
set_option maxRecDepth 100000 in
theorem dl_375 : (((qCode 219).drop 375).take 25).all (decOK 219) = true := by decide +kernel
set_option maxRecDepth 100000 in
theorem dl_400 : (((qCode 219).drop 400).take 25).all (decOK 219) = true := by decide +kernel
set_option maxRecDepth 100000 in
theorem dl_425 : (((qCode 219).drop 425).take 25).all (decOK 219) = true := by decide +kernel
set_option maxRecDepth 100000 in
theorem dl_450 : (((qCode 219).drop 450).take 25).all (decOK 219) = true := by decide +kernel
set_option maxRecDepth 100000 in
theorem dl_475 : (((qCode 219).drop 475).take 25).all (decOK 219) = true := by decide +kernel
set_option maxRecDepth 100000 in
theorem dl_500 : (((qCode 219).drop 500).take 25).all (decOK 219) = true := by decide +kernel
set_option maxRecDepth 100000 in
theorem dl_525 : (((qCode 219).drop 525).take 25).all (decOK 219) = true := by decide +kernel
set_option maxRecDepth 100000 in
theorem dl_550 : (((qCode 219).drop 550).take 25).all (decOK 219) = true := by decide +kernel
set_option maxRecDepth 100000 in
theorem dl_575 : (((qCode 219).drop 575).take 25).all (decOK 219) = true := by decide +kernel
set_option maxRecDepth 100000 in
theorem dl_600 : (((qCode 219).drop 600).take 25).all (decOK 219) = true := by decide +kernel
set_option maxRecDepth 100000 in
theorem dl_625 : (((qCode 219).drop 625).take 25).all (decOK 219) = true := by decide +kernel
set_option maxRecDepth 100000 in
theorem dl_650 : (((qCode 219).drop 650).take 25).all (decOK 219) = true := by decide +kernel
set_option maxRecDepth 100000 in
theorem dl_675 : (((qCode 219).drop 675).take 25).all (decOK 219) = true := by decide +kernel
set_option maxRecDepth 100000 in
theorem dl_700 : (((qCode 219).drop 700).take 25).all (decOK 219) = true := by decide +kernel
set_option maxRecDepth 100000 in
theorem dm_725 : ((qCode 219).drop 725).all (decOK 219) = true := by decide +kernel
theorem dm_700 : ((qCode 219).drop 700).all (decOK 219) = true := all_td 25 dl_700 (by rw [List.drop_drop]; exact dm_725)
theorem dm_675 : ((qCode 219).drop 675).all (decOK 219) = true := all_td 25 dl_675 (by rw [List.drop_drop]; exact dm_700)
theorem dm_650 : ((qCode 219).drop 650).all (decOK 219) = true := all_td 25 dl_650 (by rw [List.drop_drop]; exact dm_675)
theorem dm_625 : ((qCode 219).drop 625).all (decOK 219) = true := all_td 25 dl_625 (by rw [List.drop_drop]; exact dm_650)
theorem dm_600 : ((qCode 219).drop 600).all (decOK 219) = true := all_td 25 dl_600 (by rw [List.drop_drop]; exact dm_625)
theorem dm_575 : ((qCode 219).drop 575).all (decOK 219) = true := all_td 25 dl_575 (by rw [List.drop_drop]; exact dm_600)
theorem dm_550 : ((qCode 219).drop 550).all (decOK 219) = true := all_td 25 dl_550 (by rw [List.drop_drop]; exact dm_575)
theorem dm_525 : ((qCode 219).drop 525).all (decOK 219) = true := all_td 25 dl_525 (by rw [List.drop_drop]; exact dm_550)
theorem dm_500 : ((qCode 219).drop 500).all (decOK 219) = true := all_td 25 dl_500 (by rw [List.drop_drop]; exact dm_525)
theorem dm_475 : ((qCode 219).drop 475).all (decOK 219) = true := all_td 25 dl_475 (by rw [List.drop_drop]; exact dm_500)
theorem dm_450 : ((qCode 219).drop 450).all (decOK 219) = true := all_td 25 dl_450 (by rw [List.drop_drop]; exact dm_475)
theorem dm_425 : ((qCode 219).drop 425).all (decOK 219) = true := all_td 25 dl_425 (by rw [List.drop_drop]; exact dm_450)
theorem dm_400 : ((qCode 219).drop 400).all (decOK 219) = true := all_td 25 dl_400 (by rw [List.drop_drop]; exact dm_425)
theorem dm_375 : ((qCode 219).drop 375).all (decOK 219) = true := all_td 25 dl_375 (by rw [List.drop_drop]; exact dm_400)
theorem dm_350 : ((qCode 219).drop 350).all (decOK 219) = true := all_td 25 dl_350 (by rw [List.drop_drop]; exact dm_375)
theorem dm_325 : ((qCode 219).drop 325).all (decOK 219) = true := all_td 25 dl_325 (by rw [List.drop_drop]; exact dm_350)
theorem dm_300 : ((qCode 219).drop 300).all (decOK 219) = true := all_td 25 dl_300 (by rw [List.drop_drop]; exact dm_325)
theorem dm_275 : ((qCode 219).drop 275).all (decOK 219) = true := all_td 25 dl_275 (by rw [List.drop_drop]; exact dm_300)
theorem dm_250 : ((qCode 219).drop 250).all (decOK 219) = true := all_td 25 dl_250 (by rw [List.drop_drop]; exact dm_275)
theorem dm_225 : ((qCode 219).drop 225).all (decOK 219) = true := all_td 25 dl_225 (by rw [List.drop_drop]; exact dm_250)
theorem dm_200 : ((qCode 219).drop 200).all (decOK 219) = true := all_td 25 dl_200 (by rw [List.drop_drop]; exact dm_225)
theorem dm_175 : ((qCode 219).drop 175).all (decOK 219) = true := all_td 25 dl_175 (by rw [List.drop_drop]; exact dm_200)
theorem dm_150 : ((qCode 219).drop 150).all (decOK 219) = true := all_td 25 dl_150 (by rw [List.drop_drop]; exact dm_175)
theorem dm_125 : ((qCode 219).drop 125).all (decOK 219) = true := all_td 25 dl_125 (by rw [List.drop_drop]; exact dm_150)
theorem dm_100 : ((qCode 219).drop 100).all (decOK 219) = true := all_td 25 dl_100 (by rw [List.drop_drop]; exact dm_125)
theorem dm_75 : ((qCode 219).drop 75).all (decOK 219) = true := all_td 25 dl_75 (by rw [List.drop_drop]; exact dm_100)
theorem dm_50 : ((qCode 219).drop 50).all (decOK 219) = true := all_td 25 dl_50 (by rw [List.drop_drop]; exact dm_75)
theorem dm_25 : ((qCode 219).drop 25).all (decOK 219) = true := all_td 25 dl_25 (by rw [List.drop_drop]; exact dm_50)
theorem dm_0 : ((qCode 219).drop 0).all (decOK 219) = true := all_td 25 dl_0 (by rw [List.drop_drop]; exact dm_25)
theorem dk_219 : (qCode 219).all (decOK 219) = true := dm_0
theorem dk_all : ∀ y, y < 220 → (qCode y).all (decOK y) = true := by
  intro y hy
  match y, hy with
  | 0, _ => exact dk_0
  | 1, _ => exact dk_1
  | 2, _ => exact dk_2
  | 3, _ => exact dk_3
  | 4, _ => exact dk_4
  | 5, _ => exact dk_5
  | 6, _ => exact dk_6
  | 7, _ => exact dk_7
  | 8, _ => exact dk_8
  | 9, _ => exact dk_9
  | 10, _ => exact dk_10
  | 11, _ => exact dk_11
  | 12, _ => exact dk_12
  | 13, _ => exact dk_13
  | 14, _ => exact dk_14
  | 15, _ => exact dk_15
  | 16, _ => exact dk_16
  | 17, _ => exact dk_17
  | 18, _ => exact dk_18
  | 19, _ => exact dk_19
  | 20, _ => exact dk_20
  | 21, _ => exact dk_21
  | 22, _ => exact dk_22
  | 23, _ => exact dk_23
  | 24, _ => exact dk_24
  | 25, _ => exact dk_25
  | 26, _ => exact dk_26
  | 27, _ => exact dk_27
  | 28, _ => exact dk_28
  | 29, _ => exact dk_29
  | 30, _ => exact dk_30
  | 31, _ => exact dk_31
  | 32, _ => exact dk_32
  | 33, _ => exact dk_33
  | 34, _ => exact dk_34
  | 35, _ => exact dk_35
  | 36, _ => exact dk_36
  | 37, _ => exact dk_37
  | 38, _ => exact dk_38
  | 39, _ => exact dk_39
  | 40, _ => exact dk_40
  | 41, _ => exact dk_41
  | 42, _ => exact dk_42
  | 43, _ => exact dk_43
  | 44, _ => exact dk_44
  | 45, _ => exact dk_45
  | 46, _ => exact dk_46
  | 47, _ => exact dk_47
  | 48, _ => exact dk_48
  | 49, _ => exact dk_49
  | 50, _ => exact dk_50
  | 51, _ => exact dk_51
  | 52, _ => exact dk_52
  | 53, _ => exact dk_53
  | 54, _ => exact dk_54
  | 55, _ => exact dk_55
  | 56, _ => exact dk_56
  | 57, _ => exact dk_57
  | 58, _ => exact dk_58
  | 59, _ => exact dk_59
  | 60, _ => exact dk_60
  | 61, _ => exact dk_61
  | 62, _ => exact dk_62
  | 63, _ => exact dk_63
  | 64, _ => exact dk_64
  | 65, _ => exact dk_65
  | 66, _ => exact dk_66
  | 67, _ => exact dk_67
  | 68, _ => exact dk_68
  | 69, _ => exact dk_69
  | 70, _ => exact dk_70
  | 71, _ => exact dk_71
  | 72, _ => exact dk_72
  | 73, _ => exact dk_73
  | 74, _ => exact dk_74
  | 75, _ => exact dk_75
  | 76, _ => exact dk_76
  | 77, _ => exact dk_77
  | 78, _ => exact dk_78
  | 79, _ => exact dk_79
  | 80, _ => exact dk_80
  | 81, _ => exact dk_81
  | 82, _ => exact dk_82
  | 83, _ => exact dk_83
  | 84, _ => exact dk_84
  | 85, _ => exact dk_85
  | 86, _ => exact dk_86
  | 87, _ => exact dk_87
  | 88, _ => exact dk_88
  | 89, _ => exact dk_89
  | 90, _ => exact dk_90
  | 91, _ => exact dk_91
  | 92, _ => exact dk_92
  | 93, _ => exact dk_93
  | 94, _ => exact dk_94
  | 95, _ => exact dk_95
  | 96, _ => exact dk_96
  | 97, _ => exact dk_97
  | 98, _ => exact dk_98
  | 99, _ => exact dk_99
  | 100, _ => exact dk_100
  | 101, _ => exact dk_101
  | 102, _ => exact dk_102
  | 103, _ => exact dk_103
  | 104, _ => exact dk_104
  | 105, _ => exact dk_105
  | 106, _ => exact dk_106
  | 107, _ => exact dk_107
  | 108, _ => exact dk_108
  | 109, _ => exact dk_109
  | 110, _ => exact dk_110
  | 111, _ => exact dk_111
  | 112, _ => exact dk_112
  | 113, _ => exact dk_113
  | 114, _ => exact dk_114
  | 115, _ => exact dk_115
  | 116, _ => exact dk_116
  | 117, _ => exact dk_117
  | 118, _ => exact dk_118
  | 119, _ => exact dk_119
  | 120, _ => exact dk_120
  | 121, _ => exact dk_121
  | 122, _ => exact dk_122
  | 123, _ => exact dk_123
  | 124, _ => exact dk_124
  | 125, _ => exact dk_125
  | 126, _ => exact dk_126
  | 127, _ => exact dk_127
  | 128, _ => exact dk_128
  | 129, _ => exact dk_129
  | 130, _ => exact dk_130
  | 131, _ => exact dk_131
  | 132, _ => exact dk_132
  | 133, _ => exact dk_133
  | 134, _ => exact dk_134
  | 135, _ => exact dk_135
  | 136, _ => exact dk_136
  | 137, _ => exact dk_137
  | 138, _ => exact dk_138
  | 139, _ => exact dk_139
  | 140, _ => exact dk_140
  | 141, _ => exact dk_141
  | 142, _ => exact dk_142
  | 143, _ => exact dk_143
  | 144, _ => exact dk_144
  | 145, _ => exact dk_145
  | 146, _ => exact dk_146
  | 147, _ => exact dk_147
  | 148, _ => exact dk_148
  | 149, _ => exact dk_149
  | 150, _ => exact dk_150
  | 151, _ => exact dk_151
  | 152, _ => exact dk_152
  | 153, _ => exact dk_153
  | 154, _ => exact dk_154
  | 155, _ => exact dk_155
  | 156, _ => exact dk_156
  | 157, _ => exact dk_157
  | 158, _ => exact dk_158
  | 159, _ => exact dk_159
  | 160, _ => exact dk_160
  | 161, _ => exact dk_161
  | 162, _ => exact dk_162
  | 163, _ => exact dk_163
  | 164, _ => exact dk_164
  | 165, _ => exact dk_165
  | 166, _ => exact dk_166
  | 167, _ => exact dk_167
  | 168, _ => exact dk_168
  | 169, _ => exact dk_169
  | 170, _ => exact dk_170
  | 171, _ => exact dk_171
  | 172, _ => exact dk_172
  | 173, _ => exact dk_173
  | 174, _ => exact dk_174
  | 175, _ => exact dk_175
  | 176, _ => exact dk_176
  | 177, _ => exact dk_177
  | 178, _ => exact dk_178
  | 179, _ => exact dk_179
  | 180, _ => exact dk_180
  | 181, _ => exact dk_181
  | 182, _ => exact dk_182
  | 183, _ => exact dk_183
  | 184, _ => exact dk_184
  | 185, _ => exact dk_185
  | 186, _ => exact dk_186
  | 187, _ => exact dk_187
  | 188, _ => exact dk_188
  | 189, _ => exact dk_189
  | 190, _ => exact dk_190
  | 191, _ => exact dk_191
  | 192, _ => exact dk_192
  | 193, _ => exact dk_193
  | 194, _ => exact dk_194
  | 195, _ => exact dk_195
  | 196, _ => exact dk_196
  | 197, _ => exact dk_197
  | 198, _ => exact dk_198
  | 199, _ => exact dk_199
  | 200, _ => exact dk_200
  | 201, _ => exact dk_201
  | 202, _ => exact dk_202
  | 203, _ => exact dk_203
  | 204, _ => exact dk_204
  | 205, _ => exact dk_205
  | 206, _ => exact dk_206
  | 207, _ => exact dk_207
  | 208, _ => exact dk_208
  | 209, _ => exact dk_209
  | 210, _ => exact dk_210
  | 211, _ => exact dk_211
  | 212, _ => exact dk_212
  | 213, _ => exact dk_213
  | 214, _ => exact dk_214
  | 215, _ => exact dk_215
  | 216, _ => exact dk_216
  | 217, _ => exact dk_217
  | 218, _ => exact dk_218
  | 219, _ => exact dk_219
  | n + 220, h => omega
theorem qCode_out {y : Nat} (h : 220 ≤ y) : qCode y = [] := by
  have e : pIcs.length = 11 := rfl
  have e2 : pIcs[y / 20]? = none := List.getElem?_eq_none (by rw [e]; omega)
  simp [qCode, List.getD_eq_getElem?_getD, e2]
theorem lkp_mem {l : List (Nat × pOp)} {pc : Nat} {o : pOp} (h : lkp l pc = some o) : (pc, o) ∈ l := by
  induction l with
  | nil => cases h
  | cons q r ih =>
    obtain ⟨k, o'⟩ := q
    simp only [lkp] at h
    split at h
    · rename_i e; subst e; cases h; exact List.mem_cons_self
    · exact List.mem_cons_of_mem _ (ih h)
/-- an instruction of the tables is one of the bytes -/
theorem ins_dec {y pc : Nat} {o : pOp} (h : ins y pc = some o) : y < 220 ∧ ∃ (i : Instr) (len : Nat), decode (qCd y) pc = .ok (i, len) ∧ trI y pc i len = some o := by
  have hm := lkp_mem h
  by_cases hy : y < 220
  · have h2 := List.all_eq_true.mp (dk_all y hy) (pc, o) hm
    obtain ⟨i, len, h3, h4⟩ := decOK_spec h2
    exact ⟨hy, i, len, h3, h4⟩
  · rw [qCode_out (by omega)] at hm; cases hm
