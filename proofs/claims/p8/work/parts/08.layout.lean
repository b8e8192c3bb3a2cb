/-! LAYOUT: the cells of the object graph as the two constructors make it, and the rows of the judgement over it -/
def layL : List (Nat ⊕ (Nat × Nat)) := [.inl 11, .inr (1, 12000), .inl 2, .inr (1, 12000), .inr (0, 11), .inr (0, 11), .inr (0, 7), .inr (4, 8), .inr (0, 200), .inr (0, 200), .inr (0, 200), .inr (0, 200), .inr (0, 200), .inr (0, 200), .inr (0, 200), .inr (0, 200), .inl 3, .inl 8, .inr (0, 20), .inr (0, 2), .inr (0, 2), .inr (0, 100), .inr (0, 100), .inr (0, 100), .inr (0, 100), .inr (0, 100), .inr (0, 100), .inr (0, 100), .inr (0, 200), .inl 4, .inl 6, .inl 7, .inr (0, 256), .inr (0, 64), .inl 8, .inr (0, 20), .inr (0, 2), .inr (0, 2), .inr (0, 64), .inr (0, 64), .inr (0, 64), .inr (0, 64), .inr (0, 64), .inr (0, 64), .inr (0, 9), .inl 7, .inr (0, 256), .inr (0, 64), .inl 8, .inr (0, 20), .inr (0, 2), .inr (0, 2), .inr (0, 64), .inr (0, 64), .inr (0, 64), .inr (0, 64), .inr (0, 64), .inr (0, 64), .inr (0, 9), .inr (5, 5), .inl 10, .inr (0, 100), .inr (0, 100), .inr (0, 100), .inr (0, 100), .inr (0, 100), .inr (0, 100), .inr (2, 100), .inr (0, 100), .inl 5, .inl 9, .inr (0, 3), .inr (0, 3), .inl 0, .inr (0, 320), .inr (0, 320), .inr (0, 320), .inr (0, 32), .inr (0, 32), .inr (0, 32), .inr (0, 32), .inr (0, 32), .inl 8, .inr (0, 20), .inr (0, 2), .inr (0, 2), .inr (0, 0), .inr (0, 0), .inr (0, 0), .inr (0, 0), .inr (0, 0), .inr (0, 0), .inr (0, 256), .inl 8, .inr (0, 20), .inr (0, 2), .inr (0, 2), .inr (0, 102), .inr (0, 102), .inr (0, 102), .inr (0, 102), .inr (0, 102), .inr (0, 102), .inl 8, .inr (0, 20), .inr (0, 2), .inr (0, 2), .inr (0, 102), .inr (0, 102), .inr (0, 102), .inr (0, 102), .inr (0, 102), .inr (0, 102), .inl 8, .inr (0, 20), .inr (0, 2), .inr (0, 2), .inr (0, 102), .inr (0, 102), .inr (0, 102), .inr (0, 102), .inr (0, 102), .inr (0, 102), .inl 8, .inr (0, 20), .inr (0, 2), .inr (0, 2), .inr (0, 102), .inr (0, 102), .inr (0, 102), .inr (0, 102), .inr (0, 102), .inr (0, 102), .inl 8, .inr (0, 20), .inr (0, 2), .inr (0, 2), .inr (0, 102), .inr (0, 102), .inr (0, 102), .inr (0, 102), .inr (0, 102), .inr (0, 102), .inl 1, .inr (1, 16384), .inr (0, 100), .inl 12, .inr (1, 12000), .inr (1, 12000), .inr (0, 16), .inr (3, 16), .inr (3, 16), .inr (3, 16), .inr (0, 12), .inr (0, 100), .inr (0, 100), .inr (0, 100), .inr (0, 8), .inr (0, 8), .inr (0, 8), .inr (0, 8), .inr (0, 32), .inr (2, 200), .inr (2, 200), .inr (0, 256), .inr (0, 64), .inr (0, 204), .inr (0, 204), .inr (0, 204), .inr (0, 204), .inr (0, 204), .inr (2, 102), .inr (0, 20), .inr (0, 256), .inr (0, 3), .inr (0, 3), .inr (0, 64), .inr (0, 64), .inr (0, 256), .inr (0, 256), .inr (0, 32), .inr (0, 32), .inr (0, 32), .inr (0, 32), .inr (0, 32), .inr (0, 256), .inr (0, 64), .inr (0, 256), .inr (0, 9), .inr (0, 64), .inr (0, 6), .inr (0, 6), .inr (0, 612), .inr (0, 612), .inr (2, 612), .inr (0, 120), .inr (0, 24), .inr (0, 100), .inr (0, 100), .inr (2, 100), .inr (0, 20), .inr (0, 220), .inr (0, 220), .inr (2, 220), .inr (2, 16384), .inr (0, 100)]
def layS : List Nat := [11, 7, 9, 7, 7, 256, 256]
def lay (a : Nat) : Nat ⊕ (Nat × Nat) := if a < 206 then layL.getD a (.inr (8, 0)) else if 1001 ≤ a ∧ a < 1008 then .inr (9, layS.getD (a - 1001) 0) else .inr (8, 0)
def crL : List (List Nat) := [[2, 0, 3, 30, 31, 144, 146], [], [4, 0, 0, 5, 6, 0, 0, 0, 0, 0, 7, 0, 0, 0, 0, 0, 8], [], [], [], [], [9, 10, 11, 12, 13, 14, 15, 16], [], [], [], [], [], [], [], [], [3, 18, 28, 29], [22, 23, 24, 25, 26, 27, 19, 20, 21], [], [], [], [], [], [], [], [], [], [], [], [3, 17], [3, 17, 70, 32, 46, 60, 61], [33, 0, 34, 0, 35, 45], [], [], [39, 40, 41, 42, 43, 44, 36, 37, 38], [], [], [], [], [], [], [], [], [], [], [47, 0, 48, 0, 49, 59], [], [], [53, 54, 55, 56, 57, 58, 50, 51, 52], [], [], [], [], [], [], [], [], [], [], [94, 104, 114, 124, 134], [62, 63, 64, 65, 66, 67, 68, 0, 69], [], [], [], [], [], [], [], [], [3, 71, 74, 83, 93], [0, 0, 0, 0, 0, 0, 72, 73], [], [], [75, 76, 77, 0, 78, 79, 80, 81, 82], [], [], [], [], [], [], [], [], [87, 88, 89, 90, 91, 92, 84, 85, 86], [], [], [], [], [], [], [], [], [], [], [98, 99, 100, 101, 102, 103, 95, 96, 97], [], [], [], [], [], [], [], [], [], [108, 109, 110, 111, 112, 113, 105, 106, 107], [], [], [], [], [], [], [], [], [], [118, 119, 120, 121, 122, 123, 115, 116, 117], [], [], [], [], [], [], [], [], [], [128, 129, 130, 131, 132, 133, 125, 126, 127], [], [], [], [], [], [], [], [], [], [138, 139, 140, 141, 142, 143, 135, 136, 137], [], [], [], [], [], [], [], [], [], [145], [], [], [148, 0, 149, 0, 0, 0, 150, 151, 152, 153, 0, 0, 0, 0, 0, 0, 0, 0, 0, 0, 0, 0, 0, 0, 0, 0, 0, 0, 0, 0, 0, 0, 0, 154, 155, 156, 157, 158, 159, 160, 161, 162, 163, 164, 165, 166, 167, 168, 169, 170, 171, 172, 0, 0, 173, 174, 0, 0, 0, 0, 0, 0, 0, 0, 0, 0, 0, 0, 0, 0, 0, 0, 0, 0, 0, 0, 0, 0, 0, 0, 0, 0, 0, 0, 0, 0, 0, 0, 0, 175, 176, 0, 0, 0, 177, 178, 179, 180, 0, 0, 181, 182, 183, 184, 185, 0, 0, 0, 0, 0, 0, 0, 0, 186, 187, 188, 189, 190, 191, 192, 193, 194, 195, 196, 197, 0, 0, 0, 0, 0, 198, 199, 200, 201, 0, 0, 202, 203, 204, 0, 0, 0, 0, 205, 0, 206], [], [], [], [], [], [], [], [], [], [], [], [], [], [], [], [], [], [], [], [], [], [], [], [], [], [], [], [], [], [], [], [], [], [], [], [], [], [], [], [], [], [], [], [], [], [], [], [], [], [], [], [], [], [], [], [], [], [], []]
def cr (a k : Nat) : Option Nat := match (crL.getD a []).getD k 0 with
  | 0 => none
  | b + 1 => some b
theorem lay_0 : lay 0 = .inl 11 := rfl
theorem lay_1 : lay 1 = .inr (1, 12000) := rfl
theorem lay_2 : lay 2 = .inl 2 := rfl
theorem lay_3 : lay 3 = .inr (1, 12000) := rfl
theorem lay_4 : lay 4 = .inr (0, 11) := rfl
theorem lay_5 : lay 5 = .inr (0, 11) := rfl
theorem lay_6 : lay 6 = .inr (0, 7) := rfl
theorem lay_7 : lay 7 = .inr (4, 8) := rfl
theorem lay_8 : lay 8 = .inr (0, 200) := rfl
theorem lay_9 : lay 9 = .inr (0, 200) := rfl
theorem lay_10 : lay 10 = .inr (0, 200) := rfl
theorem lay_11 : lay 11 = .inr (0, 200) := rfl
theorem lay_12 : lay 12 = .inr (0, 200) := rfl
theorem lay_13 : lay 13 = .inr (0, 200) := rfl
theorem lay_14 : lay 14 = .inr (0, 200) := rfl
theorem lay_15 : lay 15 = .inr (0, 200) := rfl
theorem lay_16 : lay 16 = .inl 3 := rfl
theorem lay_17 : lay 17 = .inl 8 := rfl
theorem lay_18 : lay 18 = .inr (0, 20) := rfl
theorem lay_19 : lay 19 = .inr (0, 2) := rfl
theorem lay_20 : lay 20 = .inr (0, 2) := rfl
theorem lay_21 : lay 21 = .inr (0, 100) := rfl
theorem lay_22 : lay 22 = .inr (0, 100) := rfl
theorem lay_23 : lay 23 = .inr (0, 100) := rfl
theorem lay_24 : lay 24 = .inr (0, 100) := rfl
theorem lay_25 : lay 25 = .inr (0, 100) := rfl
theorem lay_26 : lay 26 = .inr (0, 100) := rfl
theorem lay_27 : lay 27 = .inr (0, 100) := rfl
theorem lay_28 : lay 28 = .inr (0, 200) := rfl
theorem lay_29 : lay 29 = .inl 4 := rfl
theorem lay_30 : lay 30 = .inl 6 := rfl
theorem lay_31 : lay 31 = .inl 7 := rfl
theorem lay_32 : lay 32 = .inr (0, 256) := rfl
theorem lay_33 : lay 33 = .inr (0, 64) := rfl
theorem lay_34 : lay 34 = .inl 8 := rfl
theorem lay_35 : lay 35 = .inr (0, 20) := rfl
theorem lay_36 : lay 36 = .inr (0, 2) := rfl
theorem lay_37 : lay 37 = .inr (0, 2) := rfl
theorem lay_38 : lay 38 = .inr (0, 64) := rfl
theorem lay_39 : lay 39 = .inr (0, 64) := rfl
theorem lay_40 : lay 40 = .inr (0, 64) := rfl
theorem lay_41 : lay 41 = .inr (0, 64) := rfl
theorem lay_42 : lay 42 = .inr (0, 64) := rfl
theorem lay_43 : lay 43 = .inr (0, 64) := rfl
theorem lay_44 : lay 44 = .inr (0, 9) := rfl
theorem lay_45 : lay 45 = .inl 7 := rfl
theorem lay_46 : lay 46 = .inr (0, 256) := rfl
theorem lay_47 : lay 47 = .inr (0, 64) := rfl
theorem lay_48 : lay 48 = .inl 8 := rfl
theorem lay_49 : lay 49 = .inr (0, 20) := rfl
theorem lay_50 : lay 50 = .inr (0, 2) := rfl
theorem lay_51 : lay 51 = .inr (0, 2) := rfl
theorem lay_52 : lay 52 = .inr (0, 64) := rfl
theorem lay_53 : lay 53 = .inr (0, 64) := rfl
theorem lay_54 : lay 54 = .inr (0, 64) := rfl
theorem lay_55 : lay 55 = .inr (0, 64) := rfl
theorem lay_56 : lay 56 = .inr (0, 64) := rfl
theorem lay_57 : lay 57 = .inr (0, 64) := rfl
theorem lay_58 : lay 58 = .inr (0, 9) := rfl
theorem lay_59 : lay 59 = .inr (5, 5) := rfl
theorem lay_60 : lay 60 = .inl 10 := rfl
theorem lay_61 : lay 61 = .inr (0, 100) := rfl
theorem lay_62 : lay 62 = .inr (0, 100) := rfl
theorem lay_63 : lay 63 = .inr (0, 100) := rfl
theorem lay_64 : lay 64 = .inr (0, 100) := rfl
theorem lay_65 : lay 65 = .inr (0, 100) := rfl
theorem lay_66 : lay 66 = .inr (0, 100) := rfl
theorem lay_67 : lay 67 = .inr (2, 100) := rfl
theorem lay_68 : lay 68 = .inr (0, 100) := rfl
theorem lay_69 : lay 69 = .inl 5 := rfl
theorem lay_70 : lay 70 = .inl 9 := rfl
theorem lay_71 : lay 71 = .inr (0, 3) := rfl
theorem lay_72 : lay 72 = .inr (0, 3) := rfl
theorem lay_73 : lay 73 = .inl 0 := rfl
theorem lay_74 : lay 74 = .inr (0, 320) := rfl
theorem lay_75 : lay 75 = .inr (0, 320) := rfl
theorem lay_76 : lay 76 = .inr (0, 320) := rfl
theorem lay_77 : lay 77 = .inr (0, 32) := rfl
theorem lay_78 : lay 78 = .inr (0, 32) := rfl
theorem lay_79 : lay 79 = .inr (0, 32) := rfl
theorem lay_80 : lay 80 = .inr (0, 32) := rfl
theorem lay_81 : lay 81 = .inr (0, 32) := rfl
theorem lay_82 : lay 82 = .inl 8 := rfl
theorem lay_83 : lay 83 = .inr (0, 20) := rfl
theorem lay_84 : lay 84 = .inr (0, 2) := rfl
theorem lay_85 : lay 85 = .inr (0, 2) := rfl
theorem lay_86 : lay 86 = .inr (0, 0) := rfl
theorem lay_87 : lay 87 = .inr (0, 0) := rfl
theorem lay_88 : lay 88 = .inr (0, 0) := rfl
theorem lay_89 : lay 89 = .inr (0, 0) := rfl
theorem lay_90 : lay 90 = .inr (0, 0) := rfl
theorem lay_91 : lay 91 = .inr (0, 0) := rfl
theorem lay_92 : lay 92 = .inr (0, 256) := rfl
theorem lay_93 : lay 93 = .inl 8 := rfl
theorem lay_94 : lay 94 = .inr (0, 20) := rfl
theorem lay_95 : lay 95 = .inr (0, 2) := rfl
theorem lay_96 : lay 96 = .inr (0, 2) := rfl
theorem lay_97 : lay 97 = .inr (0, 102) := rfl
theorem lay_98 : lay 98 = .inr (0, 102) := rfl
theorem lay_99 : lay 99 = .inr (0, 102) := rfl
theorem lay_100 : lay 100 = .inr (0, 102) := rfl
theorem lay_101 : lay 101 = .inr (0, 102) := rfl
theorem lay_102 : lay 102 = .inr (0, 102) := rfl
theorem lay_103 : lay 103 = .inl 8 := rfl
theorem lay_104 : lay 104 = .inr (0, 20) := rfl
theorem lay_105 : lay 105 = .inr (0, 2) := rfl
theorem lay_106 : lay 106 = .inr (0, 2) := rfl
theorem lay_107 : lay 107 = .inr (0, 102) := rfl
theorem lay_108 : lay 108 = .inr (0, 102) := rfl
theorem lay_109 : lay 109 = .inr (0, 102) := rfl
theorem lay_110 : lay 110 = .inr (0, 102) := rfl
theorem lay_111 : lay 111 = .inr (0, 102) := rfl
theorem lay_112 : lay 112 = .inr (0, 102) := rfl
theorem lay_113 : lay 113 = .inl 8 := rfl
theorem lay_114 : lay 114 = .inr (0, 20) := rfl
theorem lay_115 : lay 115 = .inr (0, 2) := rfl
theorem lay_116 : lay 116 = .inr (0, 2) := rfl
theorem lay_117 : lay 117 = .inr (0, 102) := rfl
theorem lay_118 : lay 118 = .inr (0, 102) := rfl
theorem lay_119 : lay 119 = .inr (0, 102) := rfl
theorem lay_120 : lay 120 = .inr (0, 102) := rfl
theorem lay_121 : lay 121 = .inr (0, 102) := rfl
theorem lay_122 : lay 122 = .inr (0, 102) := rfl
theorem lay_123 : lay 123 = .inl 8 := rfl
theorem lay_124 : lay 124 = .inr (0, 20) := rfl
theorem lay_125 : lay 125 = .inr (0, 2) := rfl
theorem lay_126 : lay 126 = .inr (0, 2) := rfl
theorem lay_127 : lay 127 = .inr (0, 102) := rfl
theorem lay_128 : lay 128 = .inr (0, 102) := rfl
theorem lay_129 : lay 129 = .inr (0, 102) := rfl
theorem lay_130 : lay 130 = .inr (0, 102) := rfl
theorem lay_131 : lay 131 = .inr (0, 102) := rfl
theorem lay_132 : lay 132 = .inr (0, 102) := rfl
theorem lay_133 : lay 133 = .inl 8 := rfl
theorem lay_134 : lay 134 = .inr (0, 20) := rfl
theorem lay_135 : lay 135 = .inr (0, 2) := rfl
theorem lay_136 : lay 136 = .inr (0, 2) := rfl
theorem lay_137 : lay 137 = .inr (0, 102) := rfl
theorem lay_138 : lay 138 = .inr (0, 102) := rfl
theorem lay_139 : lay 139 = .inr (0, 102) := rfl
theorem lay_140 : lay 140 = .inr (0, 102) := rfl
theorem lay_141 : lay 141 = .inr (0, 102) := rfl
theorem lay_142 : lay 142 = .inr (0, 102) := rfl
theorem lay_143 : lay 143 = .inl 1 := rfl
theorem lay_144 : lay 144 = .inr (1, 16384) := rfl
theorem lay_145 : lay 145 = .inr (0, 100) := rfl
theorem lay_146 : lay 146 = .inl 12 := rfl
theorem lay_147 : lay 147 = .inr (1, 12000) := rfl
theorem lay_148 : lay 148 = .inr (1, 12000) := rfl
theorem lay_149 : lay 149 = .inr (0, 16) := rfl
theorem lay_150 : lay 150 = .inr (3, 16) := rfl
theorem lay_151 : lay 151 = .inr (3, 16) := rfl
theorem lay_152 : lay 152 = .inr (3, 16) := rfl
theorem lay_153 : lay 153 = .inr (0, 12) := rfl
theorem lay_154 : lay 154 = .inr (0, 100) := rfl
theorem lay_155 : lay 155 = .inr (0, 100) := rfl
theorem lay_156 : lay 156 = .inr (0, 100) := rfl
theorem lay_157 : lay 157 = .inr (0, 8) := rfl
theorem lay_158 : lay 158 = .inr (0, 8) := rfl
theorem lay_159 : lay 159 = .inr (0, 8) := rfl
theorem lay_160 : lay 160 = .inr (0, 8) := rfl
theorem lay_161 : lay 161 = .inr (0, 32) := rfl
theorem lay_162 : lay 162 = .inr (2, 200) := rfl
theorem lay_163 : lay 163 = .inr (2, 200) := rfl
theorem lay_164 : lay 164 = .inr (0, 256) := rfl
theorem lay_165 : lay 165 = .inr (0, 64) := rfl
theorem lay_166 : lay 166 = .inr (0, 204) := rfl
theorem lay_167 : lay 167 = .inr (0, 204) := rfl
theorem lay_168 : lay 168 = .inr (0, 204) := rfl
theorem lay_169 : lay 169 = .inr (0, 204) := rfl
theorem lay_170 : lay 170 = .inr (0, 204) := rfl
theorem lay_171 : lay 171 = .inr (2, 102) := rfl
theorem lay_172 : lay 172 = .inr (0, 20) := rfl
theorem lay_173 : lay 173 = .inr (0, 256) := rfl
theorem lay_174 : lay 174 = .inr (0, 3) := rfl
theorem lay_175 : lay 175 = .inr (0, 3) := rfl
theorem lay_176 : lay 176 = .inr (0, 64) := rfl
theorem lay_177 : lay 177 = .inr (0, 64) := rfl
theorem lay_178 : lay 178 = .inr (0, 256) := rfl
theorem lay_179 : lay 179 = .inr (0, 256) := rfl
theorem lay_180 : lay 180 = .inr (0, 32) := rfl
theorem lay_181 : lay 181 = .inr (0, 32) := rfl
theorem lay_182 : lay 182 = .inr (0, 32) := rfl
theorem lay_183 : lay 183 = .inr (0, 32) := rfl
theorem lay_184 : lay 184 = .inr (0, 32) := rfl
theorem lay_185 : lay 185 = .inr (0, 256) := rfl
theorem lay_186 : lay 186 = .inr (0, 64) := rfl
theorem lay_187 : lay 187 = .inr (0, 256) := rfl
theorem lay_188 : lay 188 = .inr (0, 9) := rfl
theorem lay_189 : lay 189 = .inr (0, 64) := rfl
theorem lay_190 : lay 190 = .inr (0, 6) := rfl
theorem lay_191 : lay 191 = .inr (0, 6) := rfl
theorem lay_192 : lay 192 = .inr (0, 612) := rfl
theorem lay_193 : lay 193 = .inr (0, 612) := rfl
theorem lay_194 : lay 194 = .inr (2, 612) := rfl
theorem lay_195 : lay 195 = .inr (0, 120) := rfl
theorem lay_196 : lay 196 = .inr (0, 24) := rfl
theorem lay_197 : lay 197 = .inr (0, 100) := rfl
theorem lay_198 : lay 198 = .inr (0, 100) := rfl
theorem lay_199 : lay 199 = .inr (2, 100) := rfl
theorem lay_200 : lay 200 = .inr (0, 20) := rfl
theorem lay_201 : lay 201 = .inr (0, 220) := rfl
theorem lay_202 : lay 202 = .inr (0, 220) := rfl
theorem lay_203 : lay 203 = .inr (2, 220) := rfl
theorem lay_204 : lay 204 = .inr (2, 16384) := rfl
theorem lay_205 : lay 205 = .inr (0, 100) := rfl
theorem lay_1001 : lay 1001 = .inr (9, 11) := rfl
theorem lay_1002 : lay 1002 = .inr (9, 7) := rfl
theorem lay_1003 : lay 1003 = .inr (9, 9) := rfl
theorem lay_1004 : lay 1004 = .inr (9, 7) := rfl
theorem lay_1005 : lay 1005 = .inr (9, 7) := rfl
theorem lay_1006 : lay 1006 = .inr (9, 256) := rfl
theorem lay_1007 : lay 1007 = .inr (9, 256) := rfl
theorem cr_0_0 : cr 0 0 = some 1 := rfl
theorem cr_0_2 : cr 0 2 = some 2 := rfl
theorem cr_0_3 : cr 0 3 = some 29 := rfl
theorem cr_0_4 : cr 0 4 = some 30 := rfl
theorem cr_0_5 : cr 0 5 = some 143 := rfl
theorem cr_0_6 : cr 0 6 = some 145 := rfl
theorem cr_2_0 : cr 2 0 = some 3 := rfl
theorem cr_2_3 : cr 2 3 = some 4 := rfl
theorem cr_2_4 : cr 2 4 = some 5 := rfl
theorem cr_2_10 : cr 2 10 = some 6 := rfl
theorem cr_2_16 : cr 2 16 = some 7 := rfl
theorem cr_7_0 : cr 7 0 = some 8 := rfl
theorem cr_7_1 : cr 7 1 = some 9 := rfl
theorem cr_7_2 : cr 7 2 = some 10 := rfl
theorem cr_7_3 : cr 7 3 = some 11 := rfl
theorem cr_7_4 : cr 7 4 = some 12 := rfl
theorem cr_7_5 : cr 7 5 = some 13 := rfl
theorem cr_7_6 : cr 7 6 = some 14 := rfl
theorem cr_7_7 : cr 7 7 = some 15 := rfl
theorem cr_16_0 : cr 16 0 = some 2 := rfl
theorem cr_16_1 : cr 16 1 = some 17 := rfl
theorem cr_16_2 : cr 16 2 = some 27 := rfl
theorem cr_16_3 : cr 16 3 = some 28 := rfl
theorem cr_17_0 : cr 17 0 = some 21 := rfl
theorem cr_17_1 : cr 17 1 = some 22 := rfl
theorem cr_17_2 : cr 17 2 = some 23 := rfl
theorem cr_17_3 : cr 17 3 = some 24 := rfl
theorem cr_17_4 : cr 17 4 = some 25 := rfl
theorem cr_17_5 : cr 17 5 = some 26 := rfl
theorem cr_17_6 : cr 17 6 = some 18 := rfl
theorem cr_17_7 : cr 17 7 = some 19 := rfl
theorem cr_17_8 : cr 17 8 = some 20 := rfl
theorem cr_29_0 : cr 29 0 = some 2 := rfl
theorem cr_29_1 : cr 29 1 = some 16 := rfl
theorem cr_30_0 : cr 30 0 = some 2 := rfl
theorem cr_30_1 : cr 30 1 = some 16 := rfl
theorem cr_30_2 : cr 30 2 = some 69 := rfl
theorem cr_30_3 : cr 30 3 = some 31 := rfl
theorem cr_30_4 : cr 30 4 = some 45 := rfl
theorem cr_30_5 : cr 30 5 = some 59 := rfl
theorem cr_30_6 : cr 30 6 = some 60 := rfl
theorem cr_31_0 : cr 31 0 = some 32 := rfl
theorem cr_31_2 : cr 31 2 = some 33 := rfl
theorem cr_31_4 : cr 31 4 = some 34 := rfl
theorem cr_31_5 : cr 31 5 = some 44 := rfl
theorem cr_34_0 : cr 34 0 = some 38 := rfl
theorem cr_34_1 : cr 34 1 = some 39 := rfl
theorem cr_34_2 : cr 34 2 = some 40 := rfl
theorem cr_34_3 : cr 34 3 = some 41 := rfl
theorem cr_34_4 : cr 34 4 = some 42 := rfl
theorem cr_34_5 : cr 34 5 = some 43 := rfl
theorem cr_34_6 : cr 34 6 = some 35 := rfl
theorem cr_34_7 : cr 34 7 = some 36 := rfl
theorem cr_34_8 : cr 34 8 = some 37 := rfl
theorem cr_45_0 : cr 45 0 = some 46 := rfl
theorem cr_45_2 : cr 45 2 = some 47 := rfl
theorem cr_45_4 : cr 45 4 = some 48 := rfl
theorem cr_45_5 : cr 45 5 = some 58 := rfl
theorem cr_48_0 : cr 48 0 = some 52 := rfl
theorem cr_48_1 : cr 48 1 = some 53 := rfl
theorem cr_48_2 : cr 48 2 = some 54 := rfl
theorem cr_48_3 : cr 48 3 = some 55 := rfl
theorem cr_48_4 : cr 48 4 = some 56 := rfl
theorem cr_48_5 : cr 48 5 = some 57 := rfl
theorem cr_48_6 : cr 48 6 = some 49 := rfl
theorem cr_48_7 : cr 48 7 = some 50 := rfl
theorem cr_48_8 : cr 48 8 = some 51 := rfl
theorem cr_59_0 : cr 59 0 = some 93 := rfl
theorem cr_59_1 : cr 59 1 = some 103 := rfl
theorem cr_59_2 : cr 59 2 = some 113 := rfl
theorem cr_59_3 : cr 59 3 = some 123 := rfl
theorem cr_59_4 : cr 59 4 = some 133 := rfl
theorem cr_60_0 : cr 60 0 = some 61 := rfl
theorem cr_60_1 : cr 60 1 = some 62 := rfl
theorem cr_60_2 : cr 60 2 = some 63 := rfl
theorem cr_60_3 : cr 60 3 = some 64 := rfl
theorem cr_60_4 : cr 60 4 = some 65 := rfl
theorem cr_60_5 : cr 60 5 = some 66 := rfl
theorem cr_60_6 : cr 60 6 = some 67 := rfl
theorem cr_60_8 : cr 60 8 = some 68 := rfl
theorem cr_69_0 : cr 69 0 = some 2 := rfl
theorem cr_69_1 : cr 69 1 = some 70 := rfl
theorem cr_69_2 : cr 69 2 = some 73 := rfl
theorem cr_69_3 : cr 69 3 = some 82 := rfl
theorem cr_69_4 : cr 69 4 = some 92 := rfl
theorem cr_70_6 : cr 70 6 = some 71 := rfl
theorem cr_70_7 : cr 70 7 = some 72 := rfl
theorem cr_73_0 : cr 73 0 = some 74 := rfl
theorem cr_73_1 : cr 73 1 = some 75 := rfl
theorem cr_73_2 : cr 73 2 = some 76 := rfl
theorem cr_73_4 : cr 73 4 = some 77 := rfl
theorem cr_73_5 : cr 73 5 = some 78 := rfl
theorem cr_73_6 : cr 73 6 = some 79 := rfl
theorem cr_73_7 : cr 73 7 = some 80 := rfl
theorem cr_73_8 : cr 73 8 = some 81 := rfl
theorem cr_82_0 : cr 82 0 = some 86 := rfl
theorem cr_82_1 : cr 82 1 = some 87 := rfl
theorem cr_82_2 : cr 82 2 = some 88 := rfl
theorem cr_82_3 : cr 82 3 = some 89 := rfl
theorem cr_82_4 : cr 82 4 = some 90 := rfl
theorem cr_82_5 : cr 82 5 = some 91 := rfl
theorem cr_82_6 : cr 82 6 = some 83 := rfl
theorem cr_82_7 : cr 82 7 = some 84 := rfl
theorem cr_82_8 : cr 82 8 = some 85 := rfl
theorem cr_93_0 : cr 93 0 = some 97 := rfl
theorem cr_93_1 : cr 93 1 = some 98 := rfl
theorem cr_93_2 : cr 93 2 = some 99 := rfl
theorem cr_93_3 : cr 93 3 = some 100 := rfl
theorem cr_93_4 : cr 93 4 = some 101 := rfl
theorem cr_93_5 : cr 93 5 = some 102 := rfl
theorem cr_93_6 : cr 93 6 = some 94 := rfl
theorem cr_93_7 : cr 93 7 = some 95 := rfl
theorem cr_93_8 : cr 93 8 = some 96 := rfl
theorem cr_103_0 : cr 103 0 = some 107 := rfl
theorem cr_103_1 : cr 103 1 = some 108 := rfl
theorem cr_103_2 : cr 103 2 = some 109 := rfl
theorem cr_103_3 : cr 103 3 = some 110 := rfl
theorem cr_103_4 : cr 103 4 = some 111 := rfl
theorem cr_103_5 : cr 103 5 = some 112 := rfl
theorem cr_103_6 : cr 103 6 = some 104 := rfl
theorem cr_103_7 : cr 103 7 = some 105 := rfl
theorem cr_103_8 : cr 103 8 = some 106 := rfl
theorem cr_113_0 : cr 113 0 = some 117 := rfl
theorem cr_113_1 : cr 113 1 = some 118 := rfl
theorem cr_113_2 : cr 113 2 = some 119 := rfl
theorem cr_113_3 : cr 113 3 = some 120 := rfl
theorem cr_113_4 : cr 113 4 = some 121 := rfl
theorem cr_113_5 : cr 113 5 = some 122 := rfl
theorem cr_113_6 : cr 113 6 = some 114 := rfl
theorem cr_113_7 : cr 113 7 = some 115 := rfl
theorem cr_113_8 : cr 113 8 = some 116 := rfl
theorem cr_123_0 : cr 123 0 = some 127 := rfl
theorem cr_123_1 : cr 123 1 = some 128 := rfl
theorem cr_123_2 : cr 123 2 = some 129 := rfl
theorem cr_123_3 : cr 123 3 = some 130 := rfl
theorem cr_123_4 : cr 123 4 = some 131 := rfl
theorem cr_123_5 : cr 123 5 = some 132 := rfl
theorem cr_123_6 : cr 123 6 = some 124 := rfl
theorem cr_123_7 : cr 123 7 = some 125 := rfl
theorem cr_123_8 : cr 123 8 = some 126 := rfl
theorem cr_133_0 : cr 133 0 = some 137 := rfl
theorem cr_133_1 : cr 133 1 = some 138 := rfl
theorem cr_133_2 : cr 133 2 = some 139 := rfl
theorem cr_133_3 : cr 133 3 = some 140 := rfl
theorem cr_133_4 : cr 133 4 = some 141 := rfl
theorem cr_133_5 : cr 133 5 = some 142 := rfl
theorem cr_133_6 : cr 133 6 = some 134 := rfl
theorem cr_133_7 : cr 133 7 = some 135 := rfl
theorem cr_133_8 : cr 133 8 = some 136 := rfl
theorem cr_143_0 : cr 143 0 = some 144 := rfl
theorem cr_146_0 : cr 146 0 = some 147 := rfl
theorem cr_146_2 : cr 146 2 = some 148 := rfl
theorem cr_146_6 : cr 146 6 = some 149 := rfl
theorem cr_146_7 : cr 146 7 = some 150 := rfl
theorem cr_146_8 : cr 146 8 = some 151 := rfl
theorem cr_146_9 : cr 146 9 = some 152 := rfl
theorem cr_146_33 : cr 146 33 = some 153 := rfl
theorem cr_146_34 : cr 146 34 = some 154 := rfl
theorem cr_146_35 : cr 146 35 = some 155 := rfl
theorem cr_146_36 : cr 146 36 = some 156 := rfl
theorem cr_146_37 : cr 146 37 = some 157 := rfl
theorem cr_146_38 : cr 146 38 = some 158 := rfl
theorem cr_146_39 : cr 146 39 = some 159 := rfl
theorem cr_146_40 : cr 146 40 = some 160 := rfl
theorem cr_146_41 : cr 146 41 = some 161 := rfl
theorem cr_146_42 : cr 146 42 = some 162 := rfl
theorem cr_146_43 : cr 146 43 = some 163 := rfl
theorem cr_146_44 : cr 146 44 = some 164 := rfl
theorem cr_146_45 : cr 146 45 = some 165 := rfl
theorem cr_146_46 : cr 146 46 = some 166 := rfl
theorem cr_146_47 : cr 146 47 = some 167 := rfl
theorem cr_146_48 : cr 146 48 = some 168 := rfl
theorem cr_146_49 : cr 146 49 = some 169 := rfl
theorem cr_146_50 : cr 146 50 = some 170 := rfl
theorem cr_146_51 : cr 146 51 = some 171 := rfl
theorem cr_146_54 : cr 146 54 = some 172 := rfl
theorem cr_146_55 : cr 146 55 = some 173 := rfl
theorem cr_146_89 : cr 146 89 = some 174 := rfl
theorem cr_146_90 : cr 146 90 = some 175 := rfl
theorem cr_146_94 : cr 146 94 = some 176 := rfl
theorem cr_146_95 : cr 146 95 = some 177 := rfl
theorem cr_146_96 : cr 146 96 = some 178 := rfl
theorem cr_146_97 : cr 146 97 = some 179 := rfl
theorem cr_146_100 : cr 146 100 = some 180 := rfl
theorem cr_146_101 : cr 146 101 = some 181 := rfl
theorem cr_146_102 : cr 146 102 = some 182 := rfl
theorem cr_146_103 : cr 146 103 = some 183 := rfl
theorem cr_146_104 : cr 146 104 = some 184 := rfl
theorem cr_146_113 : cr 146 113 = some 185 := rfl
theorem cr_146_114 : cr 146 114 = some 186 := rfl
theorem cr_146_115 : cr 146 115 = some 187 := rfl
theorem cr_146_116 : cr 146 116 = some 188 := rfl
theorem cr_146_117 : cr 146 117 = some 189 := rfl
theorem cr_146_118 : cr 146 118 = some 190 := rfl
theorem cr_146_119 : cr 146 119 = some 191 := rfl
theorem cr_146_120 : cr 146 120 = some 192 := rfl
theorem cr_146_121 : cr 146 121 = some 193 := rfl
theorem cr_146_122 : cr 146 122 = some 194 := rfl
theorem cr_146_123 : cr 146 123 = some 195 := rfl
theorem cr_146_124 : cr 146 124 = some 196 := rfl
theorem cr_146_130 : cr 146 130 = some 197 := rfl
theorem cr_146_131 : cr 146 131 = some 198 := rfl
theorem cr_146_132 : cr 146 132 = some 199 := rfl
theorem cr_146_133 : cr 146 133 = some 200 := rfl
theorem cr_146_136 : cr 146 136 = some 201 := rfl
theorem cr_146_137 : cr 146 137 = some 202 := rfl
theorem cr_146_138 : cr 146 138 = some 203 := rfl
theorem cr_146_143 : cr 146 143 = some 204 := rfl
theorem cr_146_145 : cr 146 145 = some 205 := rfl
theorem lay_o {a ci : Nat} (h : lay a = .inl ci) : a < 206 ∧ a ≠ 1000 := by
  unfold lay at h
  split at h
  · exact ⟨by assumption, by omega⟩
  · split at h <;> cases h
theorem lay_a {a t n : Nat} (h : lay a = .inr (t, n)) (ht : t < 8) : a < 206 ∧ a ≠ 1000 := by
  unfold lay at h
  split at h
  · exact ⟨by assumption, by omega⟩
  · split at h
    · cases h; omega
    · cases h; omega
theorem lay_x {a n : Nat} (h : lay a = .inr (9, n)) : a ≠ 1000 := by
  intro e
  subst e
  revert h
  rw [show lay 1000 = .inr (8, 0) from rfl]
  intro h
  cases h
/-- the memory of numbers: ints, longs, the references that change -/
abbrev sv_V : Type := (Nat → Nat → Int32) × (Nat → Nat → Int64) × (Nat → Nat → Option Nat)
def sv_f (V : sv_V) : sx_M := (206, V.1, V.2.1, fun a k => match cr a k with
  | some b => some b
  | none => V.2.2 a k)
def sv_I (V : sv_V) (a k : Nat) (x : Int32) : sv_V := ((fun b j => if b = a ∧ j = k then x else V.1 b j), V.2)
def sv_L (V : sv_V) (a k : Nat) (x : Int64) : sv_V := (V.1, (fun b j => if b = a ∧ j = k then x else V.2.1 b j), V.2.2)
def sv_R (V : sv_V) (a k : Nat) (x : Option Nat) : sv_V := (V.1, V.2.1, fun b j => if b = a ∧ j = k then x else V.2.2 b j)
def sv_C (V : sv_V) (a sp b dp n : Nat) : sv_V := ((fun c j => if c = b then va_cpy (V.1 a) (V.1 b) sp dp n j else V.1 c j), V.2)
theorem sv_fI (V : sv_V) (a k : Nat) (x : Int32) : sx_sI (sv_f V) a k x = sv_f (sv_I V a k x) := rfl
theorem sv_fL (V : sv_V) (a k : Nat) (x : Int64) : sx_sL (sv_f V) a k x = sv_f (sv_L V a k x) := rfl
theorem sv_fR (V : sv_V) (a k : Nat) (x : Option Nat) (h : cr a k = none) : sx_sR (sv_f V) a k x = sv_f (sv_R V a k x) := by
  unfold sx_sR sv_f sv_R
  congr 3
  funext b j
  by_cases e : b = a ∧ j = k
  · obtain ⟨rfl, rfl⟩ := e
    simp [h]
  · simp [e]
def sx_Go (g : sx_G) : Prop := ∀ a, a ≠ 1000 → g.2.2.2.2.2 a = lay a
abbrev sv_N (g : sx_G) (q : sx_Y) (d pc : Nat) (lo : List (Nat × Value)) (st : List Value) (V : sv_V) (P : Option Value → sv_V → Prop) : Prop := sx_J g q d pc lo st (sv_f V) 0 0 (fun r M' => ∃ V', M' = sv_f V' ∧ P r V')
/-! words of the functions that the methods are -/
def sx_let {α β : Type} (e : α) (f : α → β) : β := f e
theorem sx_letE {α β : Type} {e x : α} {f : α → β} {y : β} (hx : x = e) (h : sx_let e f = y) : f x = y := by subst hx; exact h
theorem sx_pos {α : Type} {c : Prop} [Decidable c] {a b y : α} (hc : c) (h : (if c then a else b) = y) : a = y := by rw [if_pos hc] at h; exact h
theorem sx_neg {α : Type} {c : Prop} [Decidable c] {a b y : α} (hc : ¬ c) (h : (if c then a else b) = y) : b = y := by rw [if_neg hc] at h; exact h
theorem sx_grd {α : Type} {c : Prop} [Decidable c] {a : Option α} {y : α} (h : (if c then a else none) = some y) : c ∧ a = some y := by
  by_cases hc : c
  · rw [if_pos hc] at h; exact ⟨hc, h⟩
  · rw [if_neg hc] at h; cases h
theorem sx_bnd {α β : Type} {e : Option α} {f : α → Option β} {y : β} (h : e.bind f = some y) : ∃ x, e = some x ∧ f x = some y := by
  cases e with
  | none => cases h
  | some x => exact ⟨x, rfl, h⟩
def sv_len (t a : Nat) : Option Nat := match lay a with
  | .inl _ => none
  | .inr x => if x.1 = t then some x.2 else none
theorem sv_len_e {t a n : Nat} (h : sv_len t a = some n) : lay a = .inr (t, n) := by
  unfold sv_len at h
  cases e : lay a with
  | inl c => rw [e] at h; cases h
  | inr x =>
    rw [e] at h
    obtain ⟨t', n'⟩ := x
    simp only at h
    by_cases c : t' = t
    · rw [if_pos c] at h; cases h; rw [c]
    · rw [if_neg c] at h; cases h
def sv_bl (x : Int32) : Bool := x == 0 || x == 1
theorem sv_bl_n {x : Int32} (h : sv_bl x = true) : narrow .boolean (.int x) = .int x := by
  simp [sv_bl] at h
  rcases h with rfl | rfl <;> rfl
theorem sv_bl_f {x : Int32} (h : sv_bl x = true) : fits .boolean (.int x) = true := by
  simp [sv_bl] at h
  rcases h with rfl | rfl <;> rfl
theorem sx_m0 {α : Type} {x : α} {l : List α} : x ∈ x :: l := List.mem_cons_self
theorem sx_m1 {α : Type} {x a : α} {l : List α} : x ∈ a :: x :: l := List.mem_cons_of_mem _ sx_m0
theorem sx_m2 {α : Type} {x a0 a1 : α} {l : List α} : x ∈ a0 :: a1 :: x :: l := List.mem_cons_of_mem _ sx_m1
theorem sx_m3 {α : Type} {x a0 a1 a2 : α} {l : List α} : x ∈ a0 :: a1 :: a2 :: x :: l := List.mem_cons_of_mem _ sx_m2
theorem sx_m4 {α : Type} {x a0 a1 a2 a3 : α} {l : List α} : x ∈ a0 :: a1 :: a2 :: a3 :: x :: l := List.mem_cons_of_mem _ sx_m3
theorem sx_m5 {α : Type} {x a0 a1 a2 a3 a4 : α} {l : List α} : x ∈ a0 :: a1 :: a2 :: a3 :: a4 :: x :: l := List.mem_cons_of_mem _ sx_m4
theorem sx_m6 {α : Type} {x a0 a1 a2 a3 a4 a5 : α} {l : List α} : x ∈ a0 :: a1 :: a2 :: a3 :: a4 :: a5 :: x :: l := List.mem_cons_of_mem _ sx_m5
theorem sx_m7 {α : Type} {x a0 a1 a2 a3 a4 a5 a6 : α} {l : List α} : x ∈ a0 :: a1 :: a2 :: a3 :: a4 :: a5 :: a6 :: x :: l := List.mem_cons_of_mem _ sx_m6
theorem sx_m8 {α : Type} {x a0 a1 a2 a3 a4 a5 a6 a7 : α} {l : List α} : x ∈ a0 :: a1 :: a2 :: a3 :: a4 :: a5 :: a6 :: a7 :: x :: l := List.mem_cons_of_mem _ sx_m7
theorem sx_m9 {α : Type} {x a0 a1 a2 a3 a4 a5 a6 a7 a8 : α} {l : List α} : x ∈ a0 :: a1 :: a2 :: a3 :: a4 :: a5 :: a6 :: a7 :: a8 :: x :: l := List.mem_cons_of_mem _ sx_m8
theorem sx_m10 {α : Type} {x a0 a1 a2 a3 a4 a5 a6 a7 a8 a9 : α} {l : List α} : x ∈ a0 :: a1 :: a2 :: a3 :: a4 :: a5 :: a6 :: a7 :: a8 :: a9 :: x :: l := List.mem_cons_of_mem _ sx_m9
theorem sx_m11 {α : Type} {x a0 a1 a2 a3 a4 a5 a6 a7 a8 a9 a10 : α} {l : List α} : x ∈ a0 :: a1 :: a2 :: a3 :: a4 :: a5 :: a6 :: a7 :: a8 :: a9 :: a10 :: x :: l := List.mem_cons_of_mem _ sx_m10
theorem sx_m12 {α : Type} {x a0 a1 a2 a3 a4 a5 a6 a7 a8 a9 a10 a11 : α} {l : List α} : x ∈ a0 :: a1 :: a2 :: a3 :: a4 :: a5 :: a6 :: a7 :: a8 :: a9 :: a10 :: a11 :: x :: l := List.mem_cons_of_mem _ sx_m11
theorem sx_m13 {α : Type} {x a0 a1 a2 a3 a4 a5 a6 a7 a8 a9 a10 a11 a12 : α} {l : List α} : x ∈ a0 :: a1 :: a2 :: a3 :: a4 :: a5 :: a6 :: a7 :: a8 :: a9 :: a10 :: a11 :: a12 :: x :: l := List.mem_cons_of_mem _ sx_m12
theorem sx_m14 {α : Type} {x a0 a1 a2 a3 a4 a5 a6 a7 a8 a9 a10 a11 a12 a13 : α} {l : List α} : x ∈ a0 :: a1 :: a2 :: a3 :: a4 :: a5 :: a6 :: a7 :: a8 :: a9 :: a10 :: a11 :: a12 :: a13 :: x :: l := List.mem_cons_of_mem _ sx_m13
theorem sx_m15 {α : Type} {x a0 a1 a2 a3 a4 a5 a6 a7 a8 a9 a10 a11 a12 a13 a14 : α} {l : List α} : x ∈ a0 :: a1 :: a2 :: a3 :: a4 :: a5 :: a6 :: a7 :: a8 :: a9 :: a10 :: a11 :: a12 :: a13 :: a14 :: x :: l := List.mem_cons_of_mem _ sx_m14
theorem sx_m16 {α : Type} {x a0 a1 a2 a3 a4 a5 a6 a7 a8 a9 a10 a11 a12 a13 a14 a15 : α} {l : List α} : x ∈ a0 :: a1 :: a2 :: a3 :: a4 :: a5 :: a6 :: a7 :: a8 :: a9 :: a10 :: a11 :: a12 :: a13 :: a14 :: a15 :: x :: l := List.mem_cons_of_mem _ sx_m15
theorem sx_m17 {α : Type} {x a0 a1 a2 a3 a4 a5 a6 a7 a8 a9 a10 a11 a12 a13 a14 a15 a16 : α} {l : List α} : x ∈ a0 :: a1 :: a2 :: a3 :: a4 :: a5 :: a6 :: a7 :: a8 :: a9 :: a10 :: a11 :: a12 :: a13 :: a14 :: a15 :: a16 :: x :: l := List.mem_cons_of_mem _ sx_m16
theorem sx_m18 {α : Type} {x a0 a1 a2 a3 a4 a5 a6 a7 a8 a9 a10 a11 a12 a13 a14 a15 a16 a17 : α} {l : List α} : x ∈ a0 :: a1 :: a2 :: a3 :: a4 :: a5 :: a6 :: a7 :: a8 :: a9 :: a10 :: a11 :: a12 :: a13 :: a14 :: a15 :: a16 :: a17 :: x :: l := List.mem_cons_of_mem _ sx_m17
theorem sx_m19 {α : Type} {x a0 a1 a2 a3 a4 a5 a6 a7 a8 a9 a10 a11 a12 a13 a14 a15 a16 a17 a18 : α} {l : List α} : x ∈ a0 :: a1 :: a2 :: a3 :: a4 :: a5 :: a6 :: a7 :: a8 :: a9 :: a10 :: a11 :: a12 :: a13 :: a14 :: a15 :: a16 :: a17 :: a18 :: x :: l := List.mem_cons_of_mem _ sx_m18
theorem sx_m20 {α : Type} {x a0 a1 a2 a3 a4 a5 a6 a7 a8 a9 a10 a11 a12 a13 a14 a15 a16 a17 a18 a19 : α} {l : List α} : x ∈ a0 :: a1 :: a2 :: a3 :: a4 :: a5 :: a6 :: a7 :: a8 :: a9 :: a10 :: a11 :: a12 :: a13 :: a14 :: a15 :: a16 :: a17 :: a18 :: a19 :: x :: l := List.mem_cons_of_mem _ sx_m19
theorem sx_m21 {α : Type} {x a0 a1 a2 a3 a4 a5 a6 a7 a8 a9 a10 a11 a12 a13 a14 a15 a16 a17 a18 a19 a20 : α} {l : List α} : x ∈ a0 :: a1 :: a2 :: a3 :: a4 :: a5 :: a6 :: a7 :: a8 :: a9 :: a10 :: a11 :: a12 :: a13 :: a14 :: a15 :: a16 :: a17 :: a18 :: a19 :: a20 :: x :: l := List.mem_cons_of_mem _ sx_m20
theorem sx_m22 {α : Type} {x a0 a1 a2 a3 a4 a5 a6 a7 a8 a9 a10 a11 a12 a13 a14 a15 a16 a17 a18 a19 a20 a21 : α} {l : List α} : x ∈ a0 :: a1 :: a2 :: a3 :: a4 :: a5 :: a6 :: a7 :: a8 :: a9 :: a10 :: a11 :: a12 :: a13 :: a14 :: a15 :: a16 :: a17 :: a18 :: a19 :: a20 :: a21 :: x :: l := List.mem_cons_of_mem _ sx_m21
theorem sx_m23 {α : Type} {x a0 a1 a2 a3 a4 a5 a6 a7 a8 a9 a10 a11 a12 a13 a14 a15 a16 a17 a18 a19 a20 a21 a22 : α} {l : List α} : x ∈ a0 :: a1 :: a2 :: a3 :: a4 :: a5 :: a6 :: a7 :: a8 :: a9 :: a10 :: a11 :: a12 :: a13 :: a14 :: a15 :: a16 :: a17 :: a18 :: a19 :: a20 :: a21 :: a22 :: x :: l := List.mem_cons_of_mem _ sx_m22
section SV
variable {g : sx_G} {q : sx_Y} {d pc : Nat} {lo lo' : List (Nat × Value)} {st : List Value} {V V1 : sv_V} {P : Option Value → sv_V → Prop}
theorem sv_topi {x y : Int32} (e : x = y) (k : sv_N g q d pc lo (.int x :: st) V P) : sv_N g q d pc lo (.int y :: st) V P := by subst e; exact k
theorem sv_topl {x y : Int64} (e : x = y) (k : sv_N g q d pc lo (.long x :: st) V P) : sv_N g q d pc lo (.long y :: st) V P := by subst e; exact k
theorem sv_mem {W : sv_V} (e : W = V) (k : sv_N g q d pc lo st W P) : sv_N g q d pc lo st V P := by subst e; exact k
theorem sv_getI {idx ci k a : Nat} {b : Bool} (hG : sx_Go g) (hd : decode q.2.1 pc = .ok (.getfield idx, 3)) (hF : sx_F q.1.cls idx ci k b) (hk : lay a = .inl ci) (ht : sx_ty ci k = .int) (kk : sv_N g q d (pc + 3) lo (.int (V.1 a k) :: st) V P) : sv_N g q d pc lo (.ref a :: st) V P :=
  sx_get hd hF ((hG a (lay_o hk).2).trans hk) (lay_o hk).1 (by rw [ht]; exact kk)
theorem sv_getZ {idx ci k a : Nat} {b : Bool} (hG : sx_Go g) (hd : decode q.2.1 pc = .ok (.getfield idx, 3)) (hF : sx_F q.1.cls idx ci k b) (hk : lay a = .inl ci) (ht : sx_ty ci k = .boolean) (kk : sv_N g q d (pc + 3) lo (.int (V.1 a k) :: st) V P) : sv_N g q d pc lo (.ref a :: st) V P :=
  sx_get hd hF ((hG a (lay_o hk).2).trans hk) (lay_o hk).1 (by rw [ht]; exact kk)
theorem sv_getJ {idx ci k a : Nat} {b : Bool} (hG : sx_Go g) (hd : decode q.2.1 pc = .ok (.getfield idx, 3)) (hF : sx_F q.1.cls idx ci k b) (hk : lay a = .inl ci) (ht : sx_ty ci k = .long) (kk : sv_N g q d (pc + 3) lo (.long (V.2.1 a k) :: st) V P) : sv_N g q d pc lo (.ref a :: st) V P :=
  sx_get hd hF ((hG a (lay_o hk).2).trans hk) (lay_o hk).1 (by rw [ht]; exact kk)
theorem sv_f_c {a k b : Nat} (h : cr a k = some b) : (sv_f V).2.2.2 a k = some b := by
  show (match cr a k with | some b => some b | none => V.2.2 a k) = some b
  rw [h]
theorem sv_f_v {a k : Nat} (h : cr a k = none) : (sv_f V).2.2.2 a k = V.2.2 a k := by
  show (match cr a k with | some b => some b | none => V.2.2 a k) = _
  rw [h]
/-- a field that holds an array, or an object, for ever -/
theorem sv_getA {idx ci k a c : Nat} {b : Bool} {t : FieldType} (hG : sx_Go g) (hd : decode q.2.1 pc = .ok (.getfield idx, 3)) (hF : sx_F q.1.cls idx ci k b) (hk : lay a = .inl ci) (ht : sx_ty ci k = .array t) (hc : cr a k = some c) (kk : sv_N g q d (pc + 3) lo (.ref c :: st) V P) : sv_N g q d pc lo (.ref a :: st) V P :=
  sx_get hd hF ((hG a (lay_o hk).2).trans hk) (lay_o hk).1 (by rw [ht]; show sx_J g q d (pc + 3) lo (va_rf ((sv_f V).2.2.2 a k) :: st) _ 0 0 _; rw [sv_f_c hc]; exact kk)
theorem sv_getO {idx ci k a c : Nat} {b : Bool} {t : String} (hG : sx_Go g) (hd : decode q.2.1 pc = .ok (.getfield idx, 3)) (hF : sx_F q.1.cls idx ci k b) (hk : lay a = .inl ci) (ht : sx_ty ci k = .object t) (hc : cr a k = some c) (kk : sv_N g q d (pc + 3) lo (.ref c :: st) V P) : sv_N g q d pc lo (.ref a :: st) V P :=
  sx_get hd hF ((hG a (lay_o hk).2).trans hk) (lay_o hk).1 (by rw [ht]; show sx_J g q d (pc + 3) lo (va_rf ((sv_f V).2.2.2 a k) :: st) _ 0 0 _; rw [sv_f_c hc]; exact kk)
/-- a field whose object changes -/
theorem sv_getV {idx ci k a c : Nat} {b : Bool} {t : String} (hG : sx_Go g) (hd : decode q.2.1 pc = .ok (.getfield idx, 3)) (hF : sx_F q.1.cls idx ci k b) (hk : lay a = .inl ci) (ht : sx_ty ci k = .object t) (hn : cr a k = none) (hc : V.2.2 a k = some c) (kk : sv_N g q d (pc + 3) lo (.ref c :: st) V P) : sv_N g q d pc lo (.ref a :: st) V P :=
  sx_get hd hF ((hG a (lay_o hk).2).trans hk) (lay_o hk).1 (by rw [ht]; show sx_J g q d (pc + 3) lo (va_rf ((sv_f V).2.2.2 a k) :: st) _ 0 0 _; rw [sv_f_v hn, hc]; exact kk)
theorem sv_putI {idx ci k a : Nat} {x : Int32} {W : sv_V} (hG : sx_Go g) (hd : decode q.2.1 pc = .ok (.putfield idx, 3)) (hF : sx_F q.1.cls idx ci k false) (hk : lay a = .inl ci) (ht : sx_ty ci k = .int) (hW : W = sv_I V a k x) (kk : sv_N g q d (pc + 3) lo st W P) : sv_N g q d pc lo (.int x :: .ref a :: st) V P :=
  sx_putI hd hF ((hG a (lay_o hk).2).trans hk) (lay_o hk).1 ht (by rw [sv_fI, ← hW]; exact kk)
theorem sv_putZ {idx ci k a : Nat} {x : Int32} {W : sv_V} (hG : sx_Go g) (hd : decode q.2.1 pc = .ok (.putfield idx, 3)) (hF : sx_F q.1.cls idx ci k false) (hk : lay a = .inl ci) (ht : sx_ty ci k = .boolean) (hx : sv_bl x = true) (hW : W = sv_I V a k x) (kk : sv_N g q d (pc + 3) lo st W P) : sv_N g q d pc lo (.int x :: .ref a :: st) V P :=
  sx_putZ hd hF ((hG a (lay_o hk).2).trans hk) (lay_o hk).1 ht (sv_bl_n hx) (sv_bl_f hx) (by rw [sv_fI, ← hW]; exact kk)
theorem sv_putJ {idx ci k a : Nat} {x : Int64} {W : sv_V} (hG : sx_Go g) (hd : decode q.2.1 pc = .ok (.putfield idx, 3)) (hF : sx_F q.1.cls idx ci k false) (hk : lay a = .inl ci) (ht : sx_ty ci k = .long) (hW : W = sv_L V a k x) (kk : sv_N g q d (pc + 3) lo st W P) : sv_N g q d pc lo (.long x :: .ref a :: st) V P :=
  sx_putL hd hF ((hG a (lay_o hk).2).trans hk) (lay_o hk).1 ht (by rw [sv_fL, ← hW]; exact kk)
theorem sv_putO {idx ci k a b : Nat} {t : String} {W : sv_V} (hG : sx_Go g) (hd : decode q.2.1 pc = .ok (.putfield idx, 3)) (hF : sx_F q.1.cls idx ci k false) (hk : lay a = .inl ci) (ht : sx_ty ci k = .object t) (hn : cr a k = none) (hW : W = sv_R V a k (some b)) (kk : sv_N g q d (pc + 3) lo st W P) : sv_N g q d pc lo (.ref b :: .ref a :: st) V P :=
  sx_putO hd hF ((hG a (lay_o hk).2).trans hk) (lay_o hk).1 ht (by rw [sv_fR _ _ _ _ hn, ← hW]; exact kk)
theorem sv_iald {a n : Nat} {i : Int32} (hG : sx_Go g) (hd : decode q.2.1 pc = .ok (.iaload, 1)) (hk : lay a = .inr (0, n)) (hi : sx_in i n = true) (kk : sv_N g q d (pc + 1) lo (.int (V.1 a i.toNatClampNeg) :: st) V P) : sv_N g q d pc lo (.int i :: .ref a :: st) V P :=
  sx_iald hd ((hG a (lay_a hk (by decide)).2).trans hk) (lay_a hk (by decide)).1 hi kk
theorem sv_bald {a n : Nat} {i : Int32} (hG : sx_Go g) (hd : decode q.2.1 pc = .ok (.baload, 1)) (hk : lay a = .inr (1, n)) (hi : sx_in i n = true) (kk : sv_N g q d (pc + 1) lo (.int (V.1 a i.toNatClampNeg) :: st) V P) : sv_N g q d pc lo (.int i :: .ref a :: st) V P :=
  sx_bald hd ((hG a (lay_a hk (by decide)).2).trans hk) (lay_a hk (by decide)).1 hi kk
theorem sv_zald {a n : Nat} {i : Int32} (hG : sx_Go g) (hd : decode q.2.1 pc = .ok (.baload, 1)) (hk : lay a = .inr (2, n)) (hi : sx_in i n = true) (kk : sv_N g q d (pc + 1) lo (.int (V.1 a i.toNatClampNeg) :: st) V P) : sv_N g q d pc lo (.int i :: .ref a :: st) V P :=
  sx_zald hd ((hG a (lay_a hk (by decide)).2).trans hk) (lay_a hk (by decide)).1 hi kk
theorem sv_lald {a n : Nat} {i : Int32} (hG : sx_Go g) (hd : decode q.2.1 pc = .ok (.laload, 1)) (hk : lay a = .inr (3, n)) (hi : sx_in i n = true) (kk : sv_N g q d (pc + 1) lo (.long (V.2.1 a i.toNatClampNeg) :: st) V P) : sv_N g q d pc lo (.int i :: .ref a :: st) V P :=
  sx_lald hd ((hG a (lay_a hk (by decide)).2).trans hk) (lay_a hk (by decide)).1 hi kk
theorem sv_aald {a n t c : Nat} {i : Int32} (hG : sx_Go g) (hd : decode q.2.1 pc = .ok (.aaload, 1)) (ht : t = 4 ∨ t = 5) (hk : lay a = .inr (t, n)) (hi : sx_in i n = true) (hc : cr a i.toNatClampNeg = some c) (kk : sv_N g q d (pc + 1) lo (.ref c :: st) V P) : sv_N g q d pc lo (.int i :: .ref a :: st) V P :=
  sx_aald hd ht ((hG a (lay_a hk (by omega)).2).trans hk) (lay_a hk (by omega)).1 hi (by rw [sv_f_c hc]; exact kk)
theorem sv_xld {a n : Nat} {i : Int32} (hG : sx_Go g) (hd : decode q.2.1 pc = .ok (.iaload, 1)) (hk : lay a = .inr (9, n)) (hi : sx_in i n = true) (kk : sv_N g q d (pc + 1) lo (.int (V.1 a i.toNatClampNeg) :: st) V P) : sv_N g q d pc lo (.int i :: .ref a :: st) V P :=
  sx_xld hd ((hG a (lay_x hk)).trans hk) hi kk
theorem sv_xlen {a n : Nat} (hG : sx_Go g) (hd : decode q.2.1 pc = .ok (.arraylength, 1)) (hk : lay a = .inr (9, n)) (kk : sv_N g q d (pc + 1) lo (.int (Int32.ofNat n) :: st) V P) : sv_N g q d pc lo (.ref a :: st) V P :=
  sx_xlen hd ((hG a (lay_x hk)).trans hk) kk
theorem sv_alen {a n t : Nat} (hG : sx_Go g) (hd : decode q.2.1 pc = .ok (.arraylength, 1)) (ht : t < 6) (hk : lay a = .inr (t, n)) (kk : sv_N g q d (pc + 1) lo (.int (Int32.ofNat n) :: st) V P) : sv_N g q d pc lo (.ref a :: st) V P :=
  sx_alen hd ht ((hG a (lay_a hk (by omega)).2).trans hk) (lay_a hk (by omega)).1 kk
theorem sv_iast {a n : Nat} {i x : Int32} {W : sv_V} (hG : sx_Go g) (hd : decode q.2.1 pc = .ok (.iastore, 1)) (hk : lay a = .inr (0, n)) (hi : sx_in i n = true) (hW : W = sv_I V a i.toNatClampNeg x) (kk : sv_N g q d (pc + 1) lo st W P) : sv_N g q d pc lo (.int x :: .int i :: .ref a :: st) V P :=
  sx_iast hd ((hG a (lay_a hk (by decide)).2).trans hk) (lay_a hk (by decide)).1 hi (by rw [sv_fI, ← hW]; exact kk)
theorem sv_bast {a n : Nat} {i x : Int32} {W : sv_V} (hG : sx_Go g) (hd : decode q.2.1 pc = .ok (.bastore, 1)) (hk : lay a = .inr (1, n)) (hi : sx_in i n = true) (hW : W = sv_I V a i.toNatClampNeg x.toInt8.toInt32) (kk : sv_N g q d (pc + 1) lo st W P) : sv_N g q d pc lo (.int x :: .int i :: .ref a :: st) V P :=
  sx_bast hd ((hG a (lay_a hk (by decide)).2).trans hk) (lay_a hk (by decide)).1 hi (by rw [sv_fI, ← hW]; exact kk)
theorem sv_zast {a n : Nat} {i x : Int32} {W : sv_V} (hG : sx_Go g) (hd : decode q.2.1 pc = .ok (.bastore, 1)) (hk : lay a = .inr (2, n)) (hi : sx_in i n = true) (hx : sv_bl x = true) (hW : W = sv_I V a i.toNatClampNeg x) (kk : sv_N g q d (pc + 1) lo st W P) : sv_N g q d pc lo (.int x :: .int i :: .ref a :: st) V P :=
  sx_zast hd ((hG a (lay_a hk (by decide)).2).trans hk) (lay_a hk (by decide)).1 hi (sv_bl_n hx) (by rw [sv_fI, ← hW]; exact kk)
theorem sv_last {a n : Nat} {i : Int32} {x : Int64} {W : sv_V} (hG : sx_Go g) (hd : decode q.2.1 pc = .ok (.lastore, 1)) (hk : lay a = .inr (3, n)) (hi : sx_in i n = true) (hW : W = sv_L V a i.toNatClampNeg x) (kk : sv_N g q d (pc + 1) lo st W P) : sv_N g q d pc lo (.long x :: .int i :: .ref a :: st) V P :=
  sx_last hd ((hG a (lay_a hk (by decide)).2).trans hk) (lay_a hk (by decide)).1 hi (by rw [sv_fL, ← hW]; exact kk)
def sv_cpo (sp n : Int32) (m : Nat) : Bool := decide (¬ sp < 0) && decide (¬ n < 0) && decide (sp.toNatClampNeg + n.toNatClampNeg ≤ m)
theorem sv_cpo_e {sp n : Int32} {m : Nat} (h : sv_cpo sp n m = true) : ¬ sp < 0 ∧ ¬ n < 0 ∧ sp.toNatClampNeg + n.toNatClampNeg ≤ m := by
  unfold sv_cpo at h
  rw [Bool.and_eq_true, Bool.and_eq_true] at h
  exact ⟨of_decide_eq_true h.1.1, of_decide_eq_true h.1.2, of_decide_eq_true h.2⟩
def sv_fb (V : sv_V) (a s n : Nat) : Bool := (List.range n).all fun i => fits .byte (.int (V.1 a (s + i)))
theorem sv_copyI {idx a b n0 n1 : Nat} {sp dp n : Int32} {W : sv_V} (hG : sx_Go g) (hd : decode q.2.1 pc = .ok (.invokestatic idx, 3)) (hl0 : Cond.methodLink q.1.cls idx arraycopyName ∈ lw_good) (hka : lay a = .inr (0, n0)) (hkb : lay b = .inr (0, n1)) (h1 : sv_cpo sp n n0 = true) (h2 : sv_cpo dp n n1 = true) (hdd : 0 < d) (hst : (st.map fun v => v.category).sum ≤ 8) (hW : W = sv_C V a sp.toNatClampNeg b dp.toNatClampNeg n.toNatClampNeg) (kk : sv_N g q d (pc + 3) lo st W P) : sv_N g q d pc lo (.int n :: .int dp :: .ref b :: .int sp :: .ref a :: st) V P := by
  obtain ⟨p1, p3, p4⟩ := sv_cpo_e h1
  obtain ⟨p2, -, p5⟩ := sv_cpo_e h2
  subst hW
  exact sx_copy hd hl0 cp_w (Or.inl rfl) ((hG a (lay_a hka (by decide)).2).trans hka) (lay_a hka (by decide)).1 ((hG b (lay_a hkb (by decide)).2).trans hkb) (lay_a hkb (by decide)).1 p1 p2 p3 p4 p5 (fun _ _ => rfl) hdd hst kk
theorem sv_copyX {idx a b n0 n1 : Nat} {sp dp n : Int32} {W : sv_V} (hG : sx_Go g) (hd : decode q.2.1 pc = .ok (.invokestatic idx, 3)) (hl0 : Cond.methodLink q.1.cls idx arraycopyName ∈ lw_good) (hka : lay a = .inr (9, n0)) (hkb : lay b = .inr (0, n1)) (h1 : sv_cpo sp n n0 = true) (h2 : sv_cpo dp n n1 = true) (hdd : 0 < d) (hst : (st.map fun v => v.category).sum ≤ 8) (hW : W = sv_C V a sp.toNatClampNeg b dp.toNatClampNeg n.toNatClampNeg) (kk : sv_N g q d (pc + 3) lo st W P) : sv_N g q d pc lo (.int n :: .int dp :: .ref b :: .int sp :: .ref a :: st) V P := by
  obtain ⟨p1, p3, p4⟩ := sv_cpo_e h1
  obtain ⟨p2, -, p5⟩ := sv_cpo_e h2
  subst hW
  exact sx_copyX hd hl0 cp_w ((hG a (lay_x hka)).trans hka) ((hG b (lay_a hkb (by decide)).2).trans hkb) (lay_a hkb (by decide)).1 p1 p2 p3 p4 p5 hdd hst kk
theorem sv_copyB {idx a b n0 n1 : Nat} {sp dp n : Int32} {W : sv_V} (hG : sx_Go g) (hd : decode q.2.1 pc = .ok (.invokestatic idx, 3)) (hl0 : Cond.methodLink q.1.cls idx arraycopyName ∈ lw_good) (hka : lay a = .inr (1, n0)) (hkb : lay b = .inr (1, n1)) (h1 : sv_cpo sp n n0 = true) (h2 : sv_cpo dp n n1 = true) (hfb : sv_fb V a sp.toNatClampNeg n.toNatClampNeg = true) (hdd : 0 < d) (hst : (st.map fun v => v.category).sum ≤ 8) (hW : W = sv_C V a sp.toNatClampNeg b dp.toNatClampNeg n.toNatClampNeg) (kk : sv_N g q d (pc + 3) lo st W P) : sv_N g q d pc lo (.int n :: .int dp :: .ref b :: .int sp :: .ref a :: st) V P := by
  obtain ⟨p1, p3, p4⟩ := sv_cpo_e h1
  obtain ⟨p2, -, p5⟩ := sv_cpo_e h2
  subst hW
  exact sx_copy hd hl0 cp_w (Or.inr rfl) ((hG a (lay_a hka (by decide)).2).trans hka) (lay_a hka (by decide)).1 ((hG b (lay_a hkb (by decide)).2).trans hkb) (lay_a hkb (by decide)).1 p1 p2 p3 p4 p5 (fun i hi => List.all_eq_true.mp hfb i (List.mem_range.mpr hi)) hdd hst kk
theorem sv_acmp {x y ca cb : Nat} {off : Int} {tgt : Nat} (hd : decode q.2.1 pc = .ok (.if_acmp .ne off, 3)) (ht : (pc : Int) + off = (tgt : Int)) (hx : lay x = .inl ca) (hy : lay y = .inl cb) (kt : ¬ x = y → sv_N g q d tgt lo st V P) (kf : x = y → sv_N g q d (pc + 3) lo st V P) : sv_N g q d pc lo (.ref y :: .ref x :: st) V P :=
  sx_acmp_ne hd ht (by have := (lay_o hx).1; omega) (by have := (lay_o hy).1; omega) kt kf
/-! ends -/
theorem sv_iret {x r : Int32} {W : sv_V} (hd : decode q.2.1 pc = .ok (.ireturn, 1)) (hr : q.2.2.2 = some .int) (h : some (x, V) = some (r, W)) (hP : P (some (.int r)) W) : sv_N g q d pc lo [.int x] V P := by cases h; exact sx_iret hd hr ⟨V, rfl, hP⟩
theorem sv_zret {x r : Int32} {W : sv_V} (hd : decode q.2.1 pc = .ok (.ireturn, 1)) (hr : q.2.2.2 = some .boolean) (hx : sv_bl x = true) (h : some (x, V) = some (r, W)) (hP : P (some (.int r)) W) : sv_N g q d pc lo [.int x] V P := by cases h; exact sx_zret hd hr (sv_bl_n hx) ⟨V, rfl, hP⟩
theorem sv_lret {x r : Int64} {W : sv_V} (hd : decode q.2.1 pc = .ok (.lreturn, 1)) (hr : q.2.2.2 = some .long) (h : some (x, V) = some (r, W)) (hP : P (some (.long r)) W) : sv_N g q d pc lo [.long x] V P := by cases h; exact sx_lret hd hr ⟨V, rfl, hP⟩
theorem sv_aret {x r : Nat} {n : String} {W : sv_V} (hd : decode q.2.1 pc = .ok (.areturn, 1)) (hr : q.2.2.2 = some (.object n)) (h : some (x, V) = some (r, W)) (hP : P (some (.ref r)) W) : sv_N g q d pc lo [.ref x] V P := by cases h; exact sx_aret hd hr ⟨V, rfl, hP⟩
theorem sv_vret {W : sv_V} (hd : decode q.2.1 pc = .ok (.return_, 1)) (hr : q.2.2.2 = none) (h : some V = some W) (hP : P none W) : sv_N g q d pc lo [] V P := by cases h; exact sx_vret hd hr ⟨V, rfl, hP⟩
/-! calls -/
theorem sv_cV {idx n d' a ci : Nat} {y : sx_Y} {o : Option Value} {as stk st2 : List Value} {la : List (Nat × Value)} (hG : sx_Go g) (hd : decode q.2.1 pc = .ok (.invokevirtual idx, 3)) (hl0 : Cond.methodLink q.1.cls idx y.1 ∈ lw_good) (hy : sx_Y0 y n) (hv : Cond.instanceMethod y.1 ∈ lw_good ∧ Cond.selects y.1.cls y.1 y.1 ∈ lw_good) (hn : as.length = n) (hfit : (lg_sl (.ref a :: as)).length ≤ y.2.2.1) (hk : lay a = .inl ci) (hc : ∀ r, vwCl[ci]? = some r → r.1 = y.1.cls) (hdd : d' < d) (hst : (st.map fun v => v.category).sum ≤ 8) (hstk : stk = as.reverse ++ .ref a :: st) (hla : lv_args 0 (.ref a :: as) = la) (h2 : o.toList ++ st = st2)
    (hM : sv_N g y d' 0 la [] V (fun r W => r = o ∧ W = V1)) (kk : sv_N g q d (pc + 3) lo st2 V1 P) : sv_N g q d pc lo stk V P := by
  subst hla
  subst h2
  exact sx_callV (bc := 0) (bs := 0) (mc' := 0) (ms' := 0) hd hl0 hy hv hn hfit ((hG a (lay_o hk).2).trans hk) hc (lay_o hk).1 hdd hst hstk hM (fun r M1 h => by obtain ⟨W, rfl, rfl, rfl⟩ := h; exact kk)
theorem sv_cS {idx n d' : Nat} {y : sx_Y} {o : Option Value} {as stk st2 : List Value} {la : List (Nat × Value)} (hd : decode q.2.1 pc = .ok (.invokestatic idx, 3)) (hl0 : Cond.methodLink q.1.cls idx y.1 ∈ lw_good) (hy : sx_Y0 y n) (hv : Cond.static y.1 ∈ lw_good) (hn : as.length = n) (hfit : (lg_sl as).length ≤ y.2.2.1) (hdd : d' < d) (hst : (st.map fun v => v.category).sum ≤ 8) (hstk : stk = as.reverse ++ st) (hla : lv_args 0 as = la) (h2 : o.toList ++ st = st2)
    (hM : sv_N g y d' 0 la [] V (fun r W => r = o ∧ W = V1)) (kk : sv_N g q d (pc + 3) lo st2 V1 P) : sv_N g q d pc lo stk V P := by
  subst hla
  subst h2
  exact sx_callS (bc := 0) (bs := 0) (mc' := 0) (ms' := 0) hd hl0 hy hv hn hfit hdd hst hstk hM (fun r M1 h => by obtain ⟨W, rfl, rfl, rfl⟩ := h; exact kk)
theorem sv_cN {idx n d' : Nat} {y : sx_Y} {host : String} {o : Option Value} {as stk st2 : List Value} {la : List (Nat × Value)} (hd : decode q.2.1 pc = .ok (.invokestatic idx, 3)) (hl0 : Cond.methodLinkNest q.1.cls idx y.1 host ∈ lw_nest) (hy : sx_Y0 y n) (hv : Cond.static y.1 ∈ lw_good) (hn : as.length = n) (hfit : (lg_sl as).length ≤ y.2.2.1) (hdd : d' < d) (hst : (st.map fun v => v.category).sum ≤ 8) (hstk : stk = as.reverse ++ st) (hla : lv_args 0 as = la) (h2 : o.toList ++ st = st2)
    (hM : sv_N g y d' 0 la [] V (fun r W => r = o ∧ W = V1)) (kk : sv_N g q d (pc + 3) lo st2 V1 P) : sv_N g q d pc lo stk V P := by
  subst hla
  subst h2
  exact sx_callSN (bc := 0) (bs := 0) (mc' := 0) (ms' := 0) hd hl0 hy hv hn hfit hdd hst hstk hM (fun r M1 h => by obtain ⟨W, rfl, rfl, rfl⟩ := h; exact kk)
/-- a static array -/
theorem sv_getS {idx j : Nat} {z : String × String × String} {host : String} (hd : decode q.2.1 pc = .ok (.getstatic idx, 3)) (hz : sx_st[j]? = some z) (hl0 : Cond.fieldLinkNest q.1.cls idx z.1 z.2.1 z.2.2 host ∈ lw_nest) (kk : sv_N g q d (pc + 3) lo (.ref (1001 + j) :: st) V P) : sv_N g q d pc lo st V P := sx_getSN hd hz hl0 kk
end SV
