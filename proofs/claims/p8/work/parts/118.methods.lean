section
/-! methods: X12_followAll, X12_likeReference, X12_inBetween, X12_toDistance, X12_toCvt, X12_settle, X12_relative -/
def ncX12_followAll : Nat := 624256619530374211152344381895274847836422951748932223177443896344382450739599149572505780212893815621021643994200007067976021941937029486587426337150176408618672797661151676989373317557698222505204344152013270510403482939742987445838718450413765856755885578246434649411472323623967701301381753396064787195443847860556976049500597030935865797961644297171172230894795816497776147961967389568348221155234020157764666814958846405855236472059925723913816866887182951566846962242853867158155405179933622155942786512387
theorem kcX12_followAll : CK cX12_followAll ncX12_followAll 213 := ⟨by decide +kernel, by decide +kernel⟩
theorem dX12_followAll_0 : decode cX12_followAll 0 = .ok (.iconst 0, 1) := dl_o3 kcX12_followAll (by decide +kernel)
theorem dX12_followAll_1 : decode cX12_followAll 1 = .ok (.istore 4, 2) := dl_o54 kcX12_followAll (by decide +kernel)
theorem dX12_followAll_3 : decode cX12_followAll 3 = .ok (.iconst 0, 1) := dl_o3 kcX12_followAll (by decide +kernel)
theorem dX12_followAll_4 : decode cX12_followAll 4 = .ok (.istore 5, 2) := dl_o54 kcX12_followAll (by decide +kernel)
theorem dX12_followAll_6 : decode cX12_followAll 6 = .ok (.iload 5, 2) := dl_o21 kcX12_followAll (by decide +kernel)
theorem dX12_followAll_8 : decode cX12_followAll 8 = .ok (.aload_n 0, 1) := dl_o42 kcX12_followAll (by decide +kernel)
theorem dX12_followAll_9 : decode cX12_followAll 9 = .ok (.getfield 706, 3) := dl_o180 kcX12_followAll (by decide +kernel)
theorem dX12_followAll_12 : decode cX12_followAll 12 = .ok (.if_icmp .ge 200, 3) := dl_o162 kcX12_followAll 200 (by decide +kernel) (by decide +kernel)
theorem dX12_followAll_15 : decode cX12_followAll 15 = .ok (.aload_n 0, 1) := dl_o42 kcX12_followAll (by decide +kernel)
theorem dX12_followAll_16 : decode cX12_followAll 16 = .ok (.getfield 88, 3) := dl_o180 kcX12_followAll (by decide +kernel)
theorem dX12_followAll_19 : decode cX12_followAll 19 = .ok (.iload 5, 2) := dl_o21 kcX12_followAll (by decide +kernel)
theorem dX12_followAll_21 : decode cX12_followAll 21 = .ok (.iaload, 1) := dl_o46 kcX12_followAll (by decide +kernel)
theorem dX12_followAll_22 : decode cX12_followAll 22 = .ok (.istore 6, 2) := dl_o54 kcX12_followAll (by decide +kernel)
theorem dX12_followAll_24 : decode cX12_followAll 24 = .ok (.iconst 0, 1) := dl_o3 kcX12_followAll (by decide +kernel)
theorem dX12_followAll_25 : decode cX12_followAll 25 = .ok (.istore 7, 2) := dl_o54 kcX12_followAll (by decide +kernel)
theorem dX12_followAll_27 : decode cX12_followAll 27 = .ok (.iload 4, 2) := dl_o21 kcX12_followAll (by decide +kernel)
theorem dX12_followAll_29 : decode cX12_followAll 29 = .ok (.istore 8, 2) := dl_o54 kcX12_followAll (by decide +kernel)
theorem dX12_followAll_31 : decode cX12_followAll 31 = .ok (.iload 8, 2) := dl_o21 kcX12_followAll (by decide +kernel)
theorem dX12_followAll_33 : decode cX12_followAll 33 = .ok (.iload 6, 2) := dl_o21 kcX12_followAll (by decide +kernel)
theorem dX12_followAll_35 : decode cX12_followAll 35 = .ok (.if_icmp .gt 34, 3) := dl_o163 kcX12_followAll 34 (by decide +kernel) (by decide +kernel)
theorem dX12_followAll_38 : decode cX12_followAll 38 = .ok (.iload 7, 2) := dl_o21 kcX12_followAll (by decide +kernel)
theorem dX12_followAll_40 : decode cX12_followAll 40 = .ok (.aload_n 0, 1) := dl_o42 kcX12_followAll (by decide +kernel)
theorem dX12_followAll_41 : decode cX12_followAll 41 = .ok (.getfield 82, 3) := dl_o180 kcX12_followAll (by decide +kernel)
theorem dX12_followAll_44 : decode cX12_followAll 44 = .ok (.bipush 102, 2) := dl_o16 kcX12_followAll 102 (by decide +kernel) (by decide +kernel)
theorem dX12_followAll_46 : decode cX12_followAll 46 = .ok (.iload 8, 2) := dl_o21 kcX12_followAll (by decide +kernel)
theorem dX12_followAll_48 : decode cX12_followAll 48 = .ok (.iadd, 1) := dl_o96 kcX12_followAll (by decide +kernel)
theorem dX12_followAll_49 : decode cX12_followAll 49 = .ok (.iaload, 1) := dl_o46 kcX12_followAll (by decide +kernel)
theorem dX12_followAll_50 : decode cX12_followAll 50 = .ok (.iload_n 3, 1) := dl_o29 kcX12_followAll (by decide +kernel)
theorem dX12_followAll_51 : decode cX12_followAll 51 = .ok (.iand, 1) := dl_o126 kcX12_followAll (by decide +kernel)
theorem dX12_followAll_52 : decode cX12_followAll 52 = .ok (.ifCond .eq 7, 3) := dl_o153 kcX12_followAll 7 (by decide +kernel) (by decide +kernel)
theorem dX12_followAll_55 : decode cX12_followAll 55 = .ok (.iconst 1, 1) := dl_o4 kcX12_followAll (by decide +kernel)
theorem dX12_followAll_56 : decode cX12_followAll 56 = .ok (.goto 4, 3) := dl_o167 kcX12_followAll 4 (by decide +kernel) (by decide +kernel)
theorem dX12_followAll_59 : decode cX12_followAll 59 = .ok (.iconst 0, 1) := dl_o3 kcX12_followAll (by decide +kernel)
theorem dX12_followAll_60 : decode cX12_followAll 60 = .ok (.iadd, 1) := dl_o96 kcX12_followAll (by decide +kernel)
theorem dX12_followAll_61 : decode cX12_followAll 61 = .ok (.istore 7, 2) := dl_o54 kcX12_followAll (by decide +kernel)
theorem dX12_followAll_63 : decode cX12_followAll 63 = .ok (.iinc 8 1, 3) := by decide +kernel
theorem dX12_followAll_66 : decode cX12_followAll 66 = .ok (.goto (-35), 3) := dl_o167 kcX12_followAll 65501 (by decide +kernel) (by decide +kernel)
theorem dX12_followAll_69 : decode cX12_followAll 69 = .ok (.iload 4, 2) := dl_o21 kcX12_followAll (by decide +kernel)
theorem dX12_followAll_71 : decode cX12_followAll 71 = .ok (.istore 8, 2) := dl_o54 kcX12_followAll (by decide +kernel)
theorem dX12_followAll_73 : decode cX12_followAll 73 = .ok (.iload 8, 2) := dl_o21 kcX12_followAll (by decide +kernel)
theorem dX12_followAll_75 : decode cX12_followAll 75 = .ok (.iload 6, 2) := dl_o21 kcX12_followAll (by decide +kernel)
theorem dX12_followAll_77 : decode cX12_followAll 77 = .ok (.if_icmp .gt 123, 3) := dl_o163 kcX12_followAll 123 (by decide +kernel) (by decide +kernel)
theorem dX12_followAll_80 : decode cX12_followAll 80 = .ok (.iload 7, 2) := dl_o21 kcX12_followAll (by decide +kernel)
theorem dX12_followAll_82 : decode cX12_followAll 82 = .ok (.ifCond .le 118, 3) := dl_o158 kcX12_followAll 118 (by decide +kernel) (by decide +kernel)
theorem dX12_followAll_85 : decode cX12_followAll 85 = .ok (.aload_n 0, 1) := dl_o42 kcX12_followAll (by decide +kernel)
theorem dX12_followAll_86 : decode cX12_followAll 86 = .ok (.getfield 82, 3) := dl_o180 kcX12_followAll (by decide +kernel)
theorem dX12_followAll_89 : decode cX12_followAll 89 = .ok (.bipush 102, 2) := dl_o16 kcX12_followAll 102 (by decide +kernel) (by decide +kernel)
theorem dX12_followAll_91 : decode cX12_followAll 91 = .ok (.iload 8, 2) := dl_o21 kcX12_followAll (by decide +kernel)
theorem dX12_followAll_93 : decode cX12_followAll 93 = .ok (.iadd, 1) := dl_o96 kcX12_followAll (by decide +kernel)
theorem dX12_followAll_94 : decode cX12_followAll 94 = .ok (.iaload, 1) := dl_o46 kcX12_followAll (by decide +kernel)
theorem dX12_followAll_95 : decode cX12_followAll 95 = .ok (.iload_n 3, 1) := dl_o29 kcX12_followAll (by decide +kernel)
theorem dX12_followAll_96 : decode cX12_followAll 96 = .ok (.iand, 1) := dl_o126 kcX12_followAll (by decide +kernel)
theorem dX12_followAll_97 : decode cX12_followAll 97 = .ok (.ifCond .ne 97, 3) := dl_o154 kcX12_followAll 97 (by decide +kernel) (by decide +kernel)
theorem dX12_followAll_100 : decode cX12_followAll 100 = .ok (.iload 8, 2) := dl_o21 kcX12_followAll (by decide +kernel)
theorem dX12_followAll_102 : decode cX12_followAll 102 = .ok (.istore 9, 2) := dl_o54 kcX12_followAll (by decide +kernel)
theorem dX12_followAll_104 : decode cX12_followAll 104 = .ok (.iload 8, 2) := dl_o21 kcX12_followAll (by decide +kernel)
theorem dX12_followAll_106 : decode cX12_followAll 106 = .ok (.istore 10, 2) := dl_o54 kcX12_followAll (by decide +kernel)
theorem dX12_followAll_108 : decode cX12_followAll 108 = .ok (.iload 9, 2) := dl_o21 kcX12_followAll (by decide +kernel)
theorem dX12_followAll_110 : decode cX12_followAll 110 = .ok (.iload 4, 2) := dl_o21 kcX12_followAll (by decide +kernel)
theorem dX12_followAll_112 : decode cX12_followAll 112 = .ok (.if_icmp .ne 8, 3) := dl_o160 kcX12_followAll 8 (by decide +kernel) (by decide +kernel)
theorem dX12_followAll_115 : decode cX12_followAll 115 = .ok (.iload 6, 2) := dl_o21 kcX12_followAll (by decide +kernel)
theorem dX12_followAll_117 : decode cX12_followAll 117 = .ok (.goto 7, 3) := dl_o167 kcX12_followAll 7 (by decide +kernel) (by decide +kernel)
theorem dX12_followAll_120 : decode cX12_followAll 120 = .ok (.iload 9, 2) := dl_o21 kcX12_followAll (by decide +kernel)
theorem dX12_followAll_122 : decode cX12_followAll 122 = .ok (.iconst 1, 1) := dl_o4 kcX12_followAll (by decide +kernel)
theorem dX12_followAll_123 : decode cX12_followAll 123 = .ok (.isub, 1) := dl_o100 kcX12_followAll (by decide +kernel)
theorem dX12_followAll_124 : decode cX12_followAll 124 = .ok (.istore 9, 2) := dl_o54 kcX12_followAll (by decide +kernel)
theorem dX12_followAll_126 : decode cX12_followAll 126 = .ok (.aload_n 0, 1) := dl_o42 kcX12_followAll (by decide +kernel)
theorem dX12_followAll_127 : decode cX12_followAll 127 = .ok (.getfield 82, 3) := dl_o180 kcX12_followAll (by decide +kernel)
theorem dX12_followAll_130 : decode cX12_followAll 130 = .ok (.bipush 102, 2) := dl_o16 kcX12_followAll 102 (by decide +kernel) (by decide +kernel)
theorem dX12_followAll_132 : decode cX12_followAll 132 = .ok (.iload 9, 2) := dl_o21 kcX12_followAll (by decide +kernel)
theorem dX12_followAll_134 : decode cX12_followAll 134 = .ok (.iadd, 1) := dl_o96 kcX12_followAll (by decide +kernel)
theorem dX12_followAll_135 : decode cX12_followAll 135 = .ok (.iaload, 1) := dl_o46 kcX12_followAll (by decide +kernel)
theorem dX12_followAll_136 : decode cX12_followAll 136 = .ok (.iload_n 3, 1) := dl_o29 kcX12_followAll (by decide +kernel)
theorem dX12_followAll_137 : decode cX12_followAll 137 = .ok (.iand, 1) := dl_o126 kcX12_followAll (by decide +kernel)
theorem dX12_followAll_138 : decode cX12_followAll 138 = .ok (.ifCond .eq (-30), 3) := dl_o153 kcX12_followAll 65506 (by decide +kernel) (by decide +kernel)
theorem dX12_followAll_141 : decode cX12_followAll 141 = .ok (.iload 10, 2) := dl_o21 kcX12_followAll (by decide +kernel)
theorem dX12_followAll_143 : decode cX12_followAll 143 = .ok (.iload 6, 2) := dl_o21 kcX12_followAll (by decide +kernel)
theorem dX12_followAll_145 : decode cX12_followAll 145 = .ok (.if_icmp .ne 8, 3) := dl_o160 kcX12_followAll 8 (by decide +kernel) (by decide +kernel)
theorem dX12_followAll_148 : decode cX12_followAll 148 = .ok (.iload 4, 2) := dl_o21 kcX12_followAll (by decide +kernel)
theorem dX12_followAll_150 : decode cX12_followAll 150 = .ok (.goto 7, 3) := dl_o167 kcX12_followAll 7 (by decide +kernel) (by decide +kernel)
theorem dX12_followAll_153 : decode cX12_followAll 153 = .ok (.iload 10, 2) := dl_o21 kcX12_followAll (by decide +kernel)
theorem dX12_followAll_155 : decode cX12_followAll 155 = .ok (.iconst 1, 1) := dl_o4 kcX12_followAll (by decide +kernel)
theorem dX12_followAll_156 : decode cX12_followAll 156 = .ok (.iadd, 1) := dl_o96 kcX12_followAll (by decide +kernel)
theorem dX12_followAll_157 : decode cX12_followAll 157 = .ok (.istore 10, 2) := dl_o54 kcX12_followAll (by decide +kernel)
theorem dX12_followAll_159 : decode cX12_followAll 159 = .ok (.aload_n 0, 1) := dl_o42 kcX12_followAll (by decide +kernel)
theorem dX12_followAll_160 : decode cX12_followAll 160 = .ok (.getfield 82, 3) := dl_o180 kcX12_followAll (by decide +kernel)
theorem dX12_followAll_163 : decode cX12_followAll 163 = .ok (.bipush 102, 2) := dl_o16 kcX12_followAll 102 (by decide +kernel) (by decide +kernel)
theorem dX12_followAll_165 : decode cX12_followAll 165 = .ok (.iload 10, 2) := dl_o21 kcX12_followAll (by decide +kernel)
theorem dX12_followAll_167 : decode cX12_followAll 167 = .ok (.iadd, 1) := dl_o96 kcX12_followAll (by decide +kernel)
theorem dX12_followAll_168 : decode cX12_followAll 168 = .ok (.iaload, 1) := dl_o46 kcX12_followAll (by decide +kernel)
theorem dX12_followAll_169 : decode cX12_followAll 169 = .ok (.iload_n 3, 1) := dl_o29 kcX12_followAll (by decide +kernel)
theorem dX12_followAll_170 : decode cX12_followAll 170 = .ok (.iand, 1) := dl_o126 kcX12_followAll (by decide +kernel)
theorem dX12_followAll_171 : decode cX12_followAll 171 = .ok (.ifCond .eq (-30), 3) := dl_o153 kcX12_followAll 65506 (by decide +kernel) (by decide +kernel)
theorem dX12_followAll_174 : decode cX12_followAll 174 = .ok (.aload_n 1, 1) := dl_o43 kcX12_followAll (by decide +kernel)
theorem dX12_followAll_175 : decode cX12_followAll 175 = .ok (.aload_n 2, 1) := dl_o44 kcX12_followAll (by decide +kernel)
theorem dX12_followAll_176 : decode cX12_followAll 176 = .ok (.bipush 102, 2) := dl_o16 kcX12_followAll 102 (by decide +kernel) (by decide +kernel)
theorem dX12_followAll_178 : decode cX12_followAll 178 = .ok (.iload 8, 2) := dl_o21 kcX12_followAll (by decide +kernel)
theorem dX12_followAll_180 : decode cX12_followAll 180 = .ok (.iadd, 1) := dl_o96 kcX12_followAll (by decide +kernel)
theorem dX12_followAll_181 : decode cX12_followAll 181 = .ok (.bipush 102, 2) := dl_o16 kcX12_followAll 102 (by decide +kernel) (by decide +kernel)
theorem dX12_followAll_183 : decode cX12_followAll 183 = .ok (.iload 9, 2) := dl_o21 kcX12_followAll (by decide +kernel)
theorem dX12_followAll_185 : decode cX12_followAll 185 = .ok (.iadd, 1) := dl_o96 kcX12_followAll (by decide +kernel)
theorem dX12_followAll_186 : decode cX12_followAll 186 = .ok (.bipush 102, 2) := dl_o16 kcX12_followAll 102 (by decide +kernel) (by decide +kernel)
theorem dX12_followAll_188 : decode cX12_followAll 188 = .ok (.iload 10, 2) := dl_o21 kcX12_followAll (by decide +kernel)
theorem dX12_followAll_190 : decode cX12_followAll 190 = .ok (.iadd, 1) := dl_o96 kcX12_followAll (by decide +kernel)
theorem dX12_followAll_191 : decode cX12_followAll 191 = .ok (.invokestatic 709, 3) := dl_o184 kcX12_followAll (by decide +kernel)
theorem dX12_followAll_194 : decode cX12_followAll 194 = .ok (.iinc 8 1, 3) := by decide +kernel
theorem dX12_followAll_197 : decode cX12_followAll 197 = .ok (.goto (-124), 3) := dl_o167 kcX12_followAll 65412 (by decide +kernel) (by decide +kernel)
theorem dX12_followAll_200 : decode cX12_followAll 200 = .ok (.iload 6, 2) := dl_o21 kcX12_followAll (by decide +kernel)
theorem dX12_followAll_202 : decode cX12_followAll 202 = .ok (.iconst 1, 1) := dl_o4 kcX12_followAll (by decide +kernel)
theorem dX12_followAll_203 : decode cX12_followAll 203 = .ok (.iadd, 1) := dl_o96 kcX12_followAll (by decide +kernel)
theorem dX12_followAll_204 : decode cX12_followAll 204 = .ok (.istore 4, 2) := dl_o54 kcX12_followAll (by decide +kernel)
theorem dX12_followAll_206 : decode cX12_followAll 206 = .ok (.iinc 5 1, 3) := by decide +kernel
theorem dX12_followAll_209 : decode cX12_followAll 209 = .ok (.goto (-203), 3) := dl_o167 kcX12_followAll 65333 (by decide +kernel) (by decide +kernel)
theorem dX12_followAll_212 : decode cX12_followAll 212 = .ok (.return_, 1) := dl_o177 kcX12_followAll (by decide +kernel)
def B_X12_followAll_60 (N : Nat) (k6 : Nat → Nat → Int32 → Int32 → Int32 → sv_V → Option sv_V) (k31 : Nat → Nat → Int32 → Int32 → Int32 → Int32 → Int32 → Int32 → sv_V → Option sv_V) (l1 : Nat) (l2 : Nat) (l3 : Int32) (l4 : Int32) (l5 : Int32) (l6 : Int32) (l8 : Int32) (s0 : Int32) (s1 : Int32) (V : sv_V) : Option sv_V := sx_let (s0 + s1) (fun x1 => sx_let (l8 + 1) (fun x2 => k31 l1 l2 l3 l4 l5 l6 x1 x2 V))
set_option maxRecDepth 20000 in
theorem tB_X12_followAll_60 {g : sx_G} (hG : sx_Go g) {P : Option Value → sv_V → Prop} {Vr : sv_V} (hP : P none Vr) {N : Nat} {k6 : Nat → Nat → Int32 → Int32 → Int32 → sv_V → Option sv_V} {k31 : Nat → Nat → Int32 → Int32 → Int32 → Int32 → Int32 → Int32 → sv_V → Option sv_V} (hk6 : ∀ (l1 : Nat) (l2 : Nat) (l3 : Int32) (l4 : Int32) (l5 : Int32) (V : sv_V), k6 l1 l2 l3 l4 l5 V = some Vr → sv_N g qX12_followAll 3 6 [(0, .ref 146), (1, .ref l1), (2, .ref l2), (3, .int l3), (4, .int l4), (5, .int l5)] [] V P) (hk31 : ∀ (l1 : Nat) (l2 : Nat) (l3 : Int32) (l4 : Int32) (l5 : Int32) (l6 : Int32) (l7 : Int32) (l8 : Int32) (V : sv_V), k31 l1 l2 l3 l4 l5 l6 l7 l8 V = some Vr → sv_N g qX12_followAll 3 31 [(0, .ref 146), (1, .ref l1), (2, .ref l2), (3, .int l3), (4, .int l4), (5, .int l5), (6, .int l6), (7, .int l7), (8, .int l8)] [] V P) {l1 : Nat} {l2 : Nat} {l3 : Int32} {l4 : Int32} {l5 : Int32} {l6 : Int32} {l8 : Int32} {s0 : Int32} {s1 : Int32} {V : sv_V} (h : B_X12_followAll_60 N k6 k31 l1 l2 l3 l4 l5 l6 l8 s0 s1 V = some Vr) : sv_N g qX12_followAll 3 60 [(0, .ref 146), (1, .ref l1), (2, .ref l2), (3, .int l3), (4, .int l4), (5, .int l5), (6, .int l6), (8, .int l8)] [.int s1, .int s0] V P := by
  unfold B_X12_followAll_60 at h
  refine sx_iadd (pc := 60) dX12_followAll_60 ?_
  refine sv_tI (fun x1 hx1 => ?_)
  have h := sx_letE hx1 h
  refine sx_istore (pc := 61) (lo' := [(7, .int x1), (0, .ref 146), (1, .ref l1), (2, .ref l2), (3, .int l3), (4, .int l4), (5, .int l5), (6, .int l6), (8, .int l8)]) dX12_followAll_61 (by decide) rfl ?_
  obtain ⟨x2, hx2⟩ : ∃ z : Int32, z = l8 + 1 := ⟨_, rfl⟩
  have h := sx_letE hx2 h
  refine sx_iinc (pc := 63) (v := x2) (lo' := [(8, .int x2), (7, .int x1), (0, .ref 146), (1, .ref l1), (2, .ref l2), (3, .int l3), (4, .int l4), (5, .int l5), (6, .int l6)]) dX12_followAll_63 sx_m8 (by rw [hx2]; rfl) (by decide) rfl ?_
  refine sx_goto (pc := 66) (tgt := 31) dX12_followAll_66 (by decide) ?_
  refine sx_wk (sx_s1 sx_m2 (sx_s1 sx_m3 (sx_s1 sx_m4 (sx_s1 sx_m5 (sx_s1 sx_m6 (sx_s1 sx_m7 (sx_s1 sx_m8 (sx_s1 sx_m1 (sx_s1 sx_m0 sx_s0))))))))) ?_
  exact hk31 _ _ _ _ _ _ _ _ _ h
def B_X12_followAll_194 (N : Nat) (k6 : Nat → Nat → Int32 → Int32 → Int32 → sv_V → Option sv_V) (k73 : Nat → Nat → Int32 → Int32 → Int32 → Int32 → Int32 → Int32 → sv_V → Option sv_V) (l1 : Nat) (l2 : Nat) (l3 : Int32) (l4 : Int32) (l5 : Int32) (l6 : Int32) (l7 : Int32) (l8 : Int32) (V : sv_V) : Option sv_V := sx_let (l8 + 1) (fun x3 => k73 l1 l2 l3 l4 l5 l6 l7 x3 V)
set_option maxRecDepth 20000 in
theorem tB_X12_followAll_194 {g : sx_G} (hG : sx_Go g) {P : Option Value → sv_V → Prop} {Vr : sv_V} (hP : P none Vr) {N : Nat} {k6 : Nat → Nat → Int32 → Int32 → Int32 → sv_V → Option sv_V} {k73 : Nat → Nat → Int32 → Int32 → Int32 → Int32 → Int32 → Int32 → sv_V → Option sv_V} (hk6 : ∀ (l1 : Nat) (l2 : Nat) (l3 : Int32) (l4 : Int32) (l5 : Int32) (V : sv_V), k6 l1 l2 l3 l4 l5 V = some Vr → sv_N g qX12_followAll 3 6 [(0, .ref 146), (1, .ref l1), (2, .ref l2), (3, .int l3), (4, .int l4), (5, .int l5)] [] V P) (hk73 : ∀ (l1 : Nat) (l2 : Nat) (l3 : Int32) (l4 : Int32) (l5 : Int32) (l6 : Int32) (l7 : Int32) (l8 : Int32) (V : sv_V), k73 l1 l2 l3 l4 l5 l6 l7 l8 V = some Vr → sv_N g qX12_followAll 3 73 [(0, .ref 146), (1, .ref l1), (2, .ref l2), (3, .int l3), (4, .int l4), (5, .int l5), (6, .int l6), (7, .int l7), (8, .int l8)] [] V P) {l1 : Nat} {l2 : Nat} {l3 : Int32} {l4 : Int32} {l5 : Int32} {l6 : Int32} {l7 : Int32} {l8 : Int32} {V : sv_V} (h : B_X12_followAll_194 N k6 k73 l1 l2 l3 l4 l5 l6 l7 l8 V = some Vr) : sv_N g qX12_followAll 3 194 [(0, .ref 146), (1, .ref l1), (2, .ref l2), (3, .int l3), (4, .int l4), (5, .int l5), (6, .int l6), (7, .int l7), (8, .int l8)] [] V P := by
  unfold B_X12_followAll_194 at h
  obtain ⟨x3, hx3⟩ : ∃ z : Int32, z = l8 + 1 := ⟨_, rfl⟩
  have h := sx_letE hx3 h
  refine sx_iinc (pc := 194) (v := x3) (lo' := [(8, .int x3), (0, .ref 146), (1, .ref l1), (2, .ref l2), (3, .int l3), (4, .int l4), (5, .int l5), (6, .int l6), (7, .int l7)]) dX12_followAll_194 sx_m8 (by rw [hx3]; rfl) (by decide) rfl ?_
  refine sx_goto (pc := 197) (tgt := 73) dX12_followAll_197 (by decide) ?_
  refine sx_wk (sx_s1 sx_m1 (sx_s1 sx_m2 (sx_s1 sx_m3 (sx_s1 sx_m4 (sx_s1 sx_m5 (sx_s1 sx_m6 (sx_s1 sx_m7 (sx_s1 sx_m8 (sx_s1 sx_m0 sx_s0))))))))) ?_
  exact hk73 _ _ _ _ _ _ _ _ _ h
def B_X12_followAll_157 (N : Nat) (k6 : Nat → Nat → Int32 → Int32 → Int32 → sv_V → Option sv_V) (k73 : Nat → Nat → Int32 → Int32 → Int32 → Int32 → Int32 → Int32 → sv_V → Option sv_V) (k141 : Nat → Nat → Int32 → Int32 → Int32 → Int32 → Int32 → Int32 → Int32 → Int32 → sv_V → Option sv_V) (l1 : Nat) (l2 : Nat) (l3 : Int32) (l4 : Int32) (l5 : Int32) (l6 : Int32) (l7 : Int32) (l8 : Int32) (l9 : Int32) (s0 : Int32) (V : sv_V) : Option sv_V := if sx_in ((102 : Int32) + s0) 204 = true then if ((V.1 170 ((102 : Int32) + s0).toNatClampNeg) &&& l3) = 0 then (k141 l1 l2 l3 l4 l5 l6 l7 l8 l9 s0 V) else ((F_X12_follow l1 l2 ((102 : Int32) + l8) ((102 : Int32) + l9) ((102 : Int32) + s0) V).bind (fun V6 => B_X12_followAll_194 N k6 k73 l1 l2 l3 l4 l5 l6 l7 l8 V6)) else none
set_option maxRecDepth 20000 in
theorem tB_X12_followAll_157 {g : sx_G} (hG : sx_Go g) {P : Option Value → sv_V → Prop} {Vr : sv_V} (hP : P none Vr) {N : Nat} {k6 : Nat → Nat → Int32 → Int32 → Int32 → sv_V → Option sv_V} {k73 : Nat → Nat → Int32 → Int32 → Int32 → Int32 → Int32 → Int32 → sv_V → Option sv_V} {k141 : Nat → Nat → Int32 → Int32 → Int32 → Int32 → Int32 → Int32 → Int32 → Int32 → sv_V → Option sv_V} (hk6 : ∀ (l1 : Nat) (l2 : Nat) (l3 : Int32) (l4 : Int32) (l5 : Int32) (V : sv_V), k6 l1 l2 l3 l4 l5 V = some Vr → sv_N g qX12_followAll 3 6 [(0, .ref 146), (1, .ref l1), (2, .ref l2), (3, .int l3), (4, .int l4), (5, .int l5)] [] V P) (hk73 : ∀ (l1 : Nat) (l2 : Nat) (l3 : Int32) (l4 : Int32) (l5 : Int32) (l6 : Int32) (l7 : Int32) (l8 : Int32) (V : sv_V), k73 l1 l2 l3 l4 l5 l6 l7 l8 V = some Vr → sv_N g qX12_followAll 3 73 [(0, .ref 146), (1, .ref l1), (2, .ref l2), (3, .int l3), (4, .int l4), (5, .int l5), (6, .int l6), (7, .int l7), (8, .int l8)] [] V P) (hk141 : ∀ (l1 : Nat) (l2 : Nat) (l3 : Int32) (l4 : Int32) (l5 : Int32) (l6 : Int32) (l7 : Int32) (l8 : Int32) (l9 : Int32) (l10 : Int32) (V : sv_V), k141 l1 l2 l3 l4 l5 l6 l7 l8 l9 l10 V = some Vr → sv_N g qX12_followAll 3 141 [(0, .ref 146), (1, .ref l1), (2, .ref l2), (3, .int l3), (4, .int l4), (5, .int l5), (6, .int l6), (7, .int l7), (8, .int l8), (9, .int l9), (10, .int l10)] [] V P) {l1 : Nat} {l2 : Nat} {l3 : Int32} {l4 : Int32} {l5 : Int32} {l6 : Int32} {l7 : Int32} {l8 : Int32} {l9 : Int32} {s0 : Int32} {V : sv_V} (h : B_X12_followAll_157 N k6 k73 k141 l1 l2 l3 l4 l5 l6 l7 l8 l9 s0 V = some Vr) : sv_N g qX12_followAll 3 157 [(0, .ref 146), (1, .ref l1), (2, .ref l2), (3, .int l3), (4, .int l4), (5, .int l5), (6, .int l6), (7, .int l7), (8, .int l8), (9, .int l9)] [.int s0] V P := by
  unfold B_X12_followAll_157 at h
  refine sx_istore (pc := 157) (lo' := [(10, .int s0), (0, .ref 146), (1, .ref l1), (2, .ref l2), (3, .int l3), (4, .int l4), (5, .int l5), (6, .int l6), (7, .int l7), (8, .int l8), (9, .int l9)]) dX12_followAll_157 (by decide) rfl ?_
  refine sx_aload_n (pc := 159) dX12_followAll_159 sx_m1 ?_
  refine sv_getA (pc := 160) hG dX12_followAll_160 f_12_82 lay_146 rfl cr_146_50 ?_
  refine sx_bipush (pc := 163) (v := 102) dX12_followAll_163 (by decide) ?_
  refine sx_iload (pc := 165) dX12_followAll_165 sx_m0 ?_
  refine sx_iadd (pc := 167) dX12_followAll_167 ?_
  obtain ⟨g4, h⟩ := sx_grd h
  refine sv_iald (pc := 168) hG dX12_followAll_168 lay_170 g4 ?_
  refine sx_iload_n (pc := 169) dX12_followAll_169 sx_m4 ?_
  refine sx_iand (pc := 170) dX12_followAll_170 ?_
  refine sx_if_eq (pc := 171) (tgt := 141) dX12_followAll_171 (by decide) (fun c5 => ?_) (fun c5 => ?_)
  · have h := sx_pos c5 h
    refine sx_wk (sx_s1 sx_m1 (sx_s1 sx_m2 (sx_s1 sx_m3 (sx_s1 sx_m4 (sx_s1 sx_m5 (sx_s1 sx_m6 (sx_s1 sx_m7 (sx_s1 sx_m8 (sx_s1 sx_m9 (sx_s1 sx_m10 (sx_s1 sx_m0 sx_s0))))))))))) ?_
    exact hk141 _ _ _ _ _ _ _ _ _ _ _ h
  · have h := sx_neg c5 h
    refine sx_aload_n (pc := 174) dX12_followAll_174 sx_m2 ?_
    refine sx_aload_n (pc := 175) dX12_followAll_175 sx_m3 ?_
    refine sx_bipush (pc := 176) (v := 102) dX12_followAll_176 (by decide) ?_
    refine sx_iload (pc := 178) dX12_followAll_178 sx_m9 ?_
    refine sx_iadd (pc := 180) dX12_followAll_180 ?_
    refine sx_bipush (pc := 181) (v := 102) dX12_followAll_181 (by decide) ?_
    refine sx_iload (pc := 183) dX12_followAll_183 sx_m10 ?_
    refine sx_iadd (pc := 185) dX12_followAll_185 ?_
    refine sx_bipush (pc := 186) (v := 102) dX12_followAll_186 (by decide) ?_
    refine sx_iload (pc := 188) dX12_followAll_188 sx_m0 ?_
    refine sx_iadd (pc := 190) dX12_followAll_190 ?_
    obtain ⟨V6, g7, h⟩ := sx_bnd h
    refine sv_cS (pc := 191) (y := qX12_follow) (o := none) (as := [.ref l1, .ref l2, .int ((102 : Int32) + l8), .int ((102 : Int32) + l9), .int ((102 : Int32) + s0)]) (V1 := V6) dX12_followAll_191 l_X12_709 y0X12_follow ysX12_follow rfl (Nat.le_of_ble_eq_true rfl) (by decide) (Nat.le_of_ble_eq_true rfl) rfl rfl rfl (t_X12_follow hG ⟨rfl, rfl⟩ g7) ?_
    refine sx_wk (sx_s1 sx_m1 (sx_s1 sx_m2 (sx_s1 sx_m3 (sx_s1 sx_m4 (sx_s1 sx_m5 (sx_s1 sx_m6 (sx_s1 sx_m7 (sx_s1 sx_m8 (sx_s1 sx_m9 sx_s0))))))))) ?_
    exact tB_X12_followAll_194 hG hP hk6 hk73 h
def B_X12_followAll_141 (N : Nat) (k6 : Nat → Nat → Int32 → Int32 → Int32 → sv_V → Option sv_V) (k73 : Nat → Nat → Int32 → Int32 → Int32 → Int32 → Int32 → Int32 → sv_V → Option sv_V) (k141 : Nat → Nat → Int32 → Int32 → Int32 → Int32 → Int32 → Int32 → Int32 → Int32 → sv_V → Option sv_V) (l1 : Nat) (l2 : Nat) (l3 : Int32) (l4 : Int32) (l5 : Int32) (l6 : Int32) (l7 : Int32) (l8 : Int32) (l9 : Int32) (l10 : Int32) (V : sv_V) : Option sv_V := if l10 = l6 then (B_X12_followAll_157 N k6 k73 k141 l1 l2 l3 l4 l5 l6 l7 l8 l9 l4 V) else (B_X12_followAll_157 N k6 k73 k141 l1 l2 l3 l4 l5 l6 l7 l8 l9 (l10 + (1 : Int32)) V)
set_option maxRecDepth 20000 in
theorem tB_X12_followAll_141 {g : sx_G} (hG : sx_Go g) {P : Option Value → sv_V → Prop} {Vr : sv_V} (hP : P none Vr) {N : Nat} {k6 : Nat → Nat → Int32 → Int32 → Int32 → sv_V → Option sv_V} {k73 : Nat → Nat → Int32 → Int32 → Int32 → Int32 → Int32 → Int32 → sv_V → Option sv_V} {k141 : Nat → Nat → Int32 → Int32 → Int32 → Int32 → Int32 → Int32 → Int32 → Int32 → sv_V → Option sv_V} (hk6 : ∀ (l1 : Nat) (l2 : Nat) (l3 : Int32) (l4 : Int32) (l5 : Int32) (V : sv_V), k6 l1 l2 l3 l4 l5 V = some Vr → sv_N g qX12_followAll 3 6 [(0, .ref 146), (1, .ref l1), (2, .ref l2), (3, .int l3), (4, .int l4), (5, .int l5)] [] V P) (hk73 : ∀ (l1 : Nat) (l2 : Nat) (l3 : Int32) (l4 : Int32) (l5 : Int32) (l6 : Int32) (l7 : Int32) (l8 : Int32) (V : sv_V), k73 l1 l2 l3 l4 l5 l6 l7 l8 V = some Vr → sv_N g qX12_followAll 3 73 [(0, .ref 146), (1, .ref l1), (2, .ref l2), (3, .int l3), (4, .int l4), (5, .int l5), (6, .int l6), (7, .int l7), (8, .int l8)] [] V P) (hk141 : ∀ (l1 : Nat) (l2 : Nat) (l3 : Int32) (l4 : Int32) (l5 : Int32) (l6 : Int32) (l7 : Int32) (l8 : Int32) (l9 : Int32) (l10 : Int32) (V : sv_V), k141 l1 l2 l3 l4 l5 l6 l7 l8 l9 l10 V = some Vr → sv_N g qX12_followAll 3 141 [(0, .ref 146), (1, .ref l1), (2, .ref l2), (3, .int l3), (4, .int l4), (5, .int l5), (6, .int l6), (7, .int l7), (8, .int l8), (9, .int l9), (10, .int l10)] [] V P) {l1 : Nat} {l2 : Nat} {l3 : Int32} {l4 : Int32} {l5 : Int32} {l6 : Int32} {l7 : Int32} {l8 : Int32} {l9 : Int32} {l10 : Int32} {V : sv_V} (h : B_X12_followAll_141 N k6 k73 k141 l1 l2 l3 l4 l5 l6 l7 l8 l9 l10 V = some Vr) : sv_N g qX12_followAll 3 141 [(0, .ref 146), (1, .ref l1), (2, .ref l2), (3, .int l3), (4, .int l4), (5, .int l5), (6, .int l6), (7, .int l7), (8, .int l8), (9, .int l9), (10, .int l10)] [] V P := by
  unfold B_X12_followAll_141 at h
  refine sx_iload (pc := 141) dX12_followAll_141 sx_m10 ?_
  refine sx_iload (pc := 143) dX12_followAll_143 sx_m6 ?_
  refine sx_icmp_ne (pc := 145) (tgt := 153) dX12_followAll_145 (by decide) (fun c8 => ?_) (fun c8 => ?_)
  · have h := sx_neg c8 h
    refine sx_iload (pc := 153) dX12_followAll_153 sx_m10 ?_
    refine sx_iconst (pc := 155) (v := 1) dX12_followAll_155 (by decide) ?_
    refine sx_iadd (pc := 156) dX12_followAll_156 ?_
    refine sx_wk (sx_s1 sx_m0 (sx_s1 sx_m1 (sx_s1 sx_m2 (sx_s1 sx_m3 (sx_s1 sx_m4 (sx_s1 sx_m5 (sx_s1 sx_m6 (sx_s1 sx_m7 (sx_s1 sx_m8 (sx_s1 sx_m9 sx_s0)))))))))) ?_
    exact tB_X12_followAll_157 hG hP hk6 hk73 hk141 h
  · have h := sx_pos c8 h
    refine sx_iload (pc := 148) dX12_followAll_148 sx_m4 ?_
    refine sx_goto (pc := 150) (tgt := 157) dX12_followAll_150 (by decide) ?_
    refine sx_wk (sx_s1 sx_m0 (sx_s1 sx_m1 (sx_s1 sx_m2 (sx_s1 sx_m3 (sx_s1 sx_m4 (sx_s1 sx_m5 (sx_s1 sx_m6 (sx_s1 sx_m7 (sx_s1 sx_m8 (sx_s1 sx_m9 sx_s0)))))))))) ?_
    exact tB_X12_followAll_157 hG hP hk6 hk73 hk141 h
theorem tL_X12_followAll_141 {g : sx_G} (hG : sx_Go g) {P : Option Value → sv_V → Prop} {Vr : sv_V} (hP : P none Vr) {N : Nat} {k6 : Nat → Nat → Int32 → Int32 → Int32 → sv_V → Option sv_V} {k73 : Nat → Nat → Int32 → Int32 → Int32 → Int32 → Int32 → Int32 → sv_V → Option sv_V} (hk6 : ∀ (l1 : Nat) (l2 : Nat) (l3 : Int32) (l4 : Int32) (l5 : Int32) (V : sv_V), k6 l1 l2 l3 l4 l5 V = some Vr → sv_N g qX12_followAll 3 6 [(0, .ref 146), (1, .ref l1), (2, .ref l2), (3, .int l3), (4, .int l4), (5, .int l5)] [] V P) (hk73 : ∀ (l1 : Nat) (l2 : Nat) (l3 : Int32) (l4 : Int32) (l5 : Int32) (l6 : Int32) (l7 : Int32) (l8 : Int32) (V : sv_V), k73 l1 l2 l3 l4 l5 l6 l7 l8 V = some Vr → sv_N g qX12_followAll 3 73 [(0, .ref 146), (1, .ref l1), (2, .ref l2), (3, .int l3), (4, .int l4), (5, .int l5), (6, .int l6), (7, .int l7), (8, .int l8)] [] V P) : ∀ (n : Nat) (l1 : Nat) (l2 : Nat) (l3 : Int32) (l4 : Int32) (l5 : Int32) (l6 : Int32) (l7 : Int32) (l8 : Int32) (l9 : Int32) (l10 : Int32) (V : sv_V), sx_lp11 (B_X12_followAll_141 N k6 k73) n l1 l2 l3 l4 l5 l6 l7 l8 l9 l10 V = some Vr → sv_N g qX12_followAll 3 141 [(0, .ref 146), (1, .ref l1), (2, .ref l2), (3, .int l3), (4, .int l4), (5, .int l5), (6, .int l6), (7, .int l7), (8, .int l8), (9, .int l9), (10, .int l10)] [] V P :=
  sx_lp11_ind (fun k0 ih _ _ _ _ _ _ _ _ _ _ V h => tB_X12_followAll_141 hG hP hk6 hk73 ih h)
def B_X12_followAll_124 (N : Nat) (k6 : Nat → Nat → Int32 → Int32 → Int32 → sv_V → Option sv_V) (k73 : Nat → Nat → Int32 → Int32 → Int32 → Int32 → Int32 → Int32 → sv_V → Option sv_V) (k108 : Nat → Nat → Int32 → Int32 → Int32 → Int32 → Int32 → Int32 → Int32 → Int32 → sv_V → Option sv_V) (l1 : Nat) (l2 : Nat) (l3 : Int32) (l4 : Int32) (l5 : Int32) (l6 : Int32) (l7 : Int32) (l8 : Int32) (l10 : Int32) (s0 : Int32) (V : sv_V) : Option sv_V := if sx_in ((102 : Int32) + s0) 204 = true then if ((V.1 170 ((102 : Int32) + s0).toNatClampNeg) &&& l3) = 0 then (k108 l1 l2 l3 l4 l5 l6 l7 l8 s0 l10 V) else (sx_lp11 (B_X12_followAll_141 N k6 k73) N l1 l2 l3 l4 l5 l6 l7 l8 s0 l10 V) else none
set_option maxRecDepth 20000 in
theorem tB_X12_followAll_124 {g : sx_G} (hG : sx_Go g) {P : Option Value → sv_V → Prop} {Vr : sv_V} (hP : P none Vr) {N : Nat} {k6 : Nat → Nat → Int32 → Int32 → Int32 → sv_V → Option sv_V} {k73 : Nat → Nat → Int32 → Int32 → Int32 → Int32 → Int32 → Int32 → sv_V → Option sv_V} {k108 : Nat → Nat → Int32 → Int32 → Int32 → Int32 → Int32 → Int32 → Int32 → Int32 → sv_V → Option sv_V} (hk6 : ∀ (l1 : Nat) (l2 : Nat) (l3 : Int32) (l4 : Int32) (l5 : Int32) (V : sv_V), k6 l1 l2 l3 l4 l5 V = some Vr → sv_N g qX12_followAll 3 6 [(0, .ref 146), (1, .ref l1), (2, .ref l2), (3, .int l3), (4, .int l4), (5, .int l5)] [] V P) (hk73 : ∀ (l1 : Nat) (l2 : Nat) (l3 : Int32) (l4 : Int32) (l5 : Int32) (l6 : Int32) (l7 : Int32) (l8 : Int32) (V : sv_V), k73 l1 l2 l3 l4 l5 l6 l7 l8 V = some Vr → sv_N g qX12_followAll 3 73 [(0, .ref 146), (1, .ref l1), (2, .ref l2), (3, .int l3), (4, .int l4), (5, .int l5), (6, .int l6), (7, .int l7), (8, .int l8)] [] V P) (hk108 : ∀ (l1 : Nat) (l2 : Nat) (l3 : Int32) (l4 : Int32) (l5 : Int32) (l6 : Int32) (l7 : Int32) (l8 : Int32) (l9 : Int32) (l10 : Int32) (V : sv_V), k108 l1 l2 l3 l4 l5 l6 l7 l8 l9 l10 V = some Vr → sv_N g qX12_followAll 3 108 [(0, .ref 146), (1, .ref l1), (2, .ref l2), (3, .int l3), (4, .int l4), (5, .int l5), (6, .int l6), (7, .int l7), (8, .int l8), (9, .int l9), (10, .int l10)] [] V P) {l1 : Nat} {l2 : Nat} {l3 : Int32} {l4 : Int32} {l5 : Int32} {l6 : Int32} {l7 : Int32} {l8 : Int32} {l10 : Int32} {s0 : Int32} {V : sv_V} (h : B_X12_followAll_124 N k6 k73 k108 l1 l2 l3 l4 l5 l6 l7 l8 l10 s0 V = some Vr) : sv_N g qX12_followAll 3 124 [(0, .ref 146), (1, .ref l1), (2, .ref l2), (3, .int l3), (4, .int l4), (5, .int l5), (6, .int l6), (7, .int l7), (8, .int l8), (10, .int l10)] [.int s0] V P := by
  unfold B_X12_followAll_124 at h
  refine sx_istore (pc := 124) (lo' := [(9, .int s0), (0, .ref 146), (1, .ref l1), (2, .ref l2), (3, .int l3), (4, .int l4), (5, .int l5), (6, .int l6), (7, .int l7), (8, .int l8), (10, .int l10)]) dX12_followAll_124 (by decide) rfl ?_
  refine sx_aload_n (pc := 126) dX12_followAll_126 sx_m1 ?_
  refine sv_getA (pc := 127) hG dX12_followAll_127 f_12_82 lay_146 rfl cr_146_50 ?_
  refine sx_bipush (pc := 130) (v := 102) dX12_followAll_130 (by decide) ?_
  refine sx_iload (pc := 132) dX12_followAll_132 sx_m0 ?_
  refine sx_iadd (pc := 134) dX12_followAll_134 ?_
  obtain ⟨g9, h⟩ := sx_grd h
  refine sv_iald (pc := 135) hG dX12_followAll_135 lay_170 g9 ?_
  refine sx_iload_n (pc := 136) dX12_followAll_136 sx_m4 ?_
  refine sx_iand (pc := 137) dX12_followAll_137 ?_
  refine sx_if_eq (pc := 138) (tgt := 108) dX12_followAll_138 (by decide) (fun c10 => ?_) (fun c10 => ?_)
  · have h := sx_pos c10 h
    refine sx_wk (sx_s1 sx_m1 (sx_s1 sx_m2 (sx_s1 sx_m3 (sx_s1 sx_m4 (sx_s1 sx_m5 (sx_s1 sx_m6 (sx_s1 sx_m7 (sx_s1 sx_m8 (sx_s1 sx_m9 (sx_s1 sx_m0 (sx_s1 sx_m10 sx_s0))))))))))) ?_
    exact hk108 _ _ _ _ _ _ _ _ _ _ _ h
  · have h := sx_neg c10 h
    refine sx_wk (sx_s1 sx_m1 (sx_s1 sx_m2 (sx_s1 sx_m3 (sx_s1 sx_m4 (sx_s1 sx_m5 (sx_s1 sx_m6 (sx_s1 sx_m7 (sx_s1 sx_m8 (sx_s1 sx_m9 (sx_s1 sx_m0 (sx_s1 sx_m10 sx_s0))))))))))) ?_
    exact tL_X12_followAll_141 hG hP hk6 hk73 N _ _ _ _ _ _ _ _ _ _ _ h
def B_X12_followAll_108 (N : Nat) (k6 : Nat → Nat → Int32 → Int32 → Int32 → sv_V → Option sv_V) (k73 : Nat → Nat → Int32 → Int32 → Int32 → Int32 → Int32 → Int32 → sv_V → Option sv_V) (k108 : Nat → Nat → Int32 → Int32 → Int32 → Int32 → Int32 → Int32 → Int32 → Int32 → sv_V → Option sv_V) (l1 : Nat) (l2 : Nat) (l3 : Int32) (l4 : Int32) (l5 : Int32) (l6 : Int32) (l7 : Int32) (l8 : Int32) (l9 : Int32) (l10 : Int32) (V : sv_V) : Option sv_V := if l9 = l4 then (B_X12_followAll_124 N k6 k73 k108 l1 l2 l3 l4 l5 l6 l7 l8 l10 l6 V) else (B_X12_followAll_124 N k6 k73 k108 l1 l2 l3 l4 l5 l6 l7 l8 l10 (l9 - (1 : Int32)) V)
set_option maxRecDepth 20000 in
theorem tB_X12_followAll_108 {g : sx_G} (hG : sx_Go g) {P : Option Value → sv_V → Prop} {Vr : sv_V} (hP : P none Vr) {N : Nat} {k6 : Nat → Nat → Int32 → Int32 → Int32 → sv_V → Option sv_V} {k73 : Nat → Nat → Int32 → Int32 → Int32 → Int32 → Int32 → Int32 → sv_V → Option sv_V} {k108 : Nat → Nat → Int32 → Int32 → Int32 → Int32 → Int32 → Int32 → Int32 → Int32 → sv_V → Option sv_V} (hk6 : ∀ (l1 : Nat) (l2 : Nat) (l3 : Int32) (l4 : Int32) (l5 : Int32) (V : sv_V), k6 l1 l2 l3 l4 l5 V = some Vr → sv_N g qX12_followAll 3 6 [(0, .ref 146), (1, .ref l1), (2, .ref l2), (3, .int l3), (4, .int l4), (5, .int l5)] [] V P) (hk73 : ∀ (l1 : Nat) (l2 : Nat) (l3 : Int32) (l4 : Int32) (l5 : Int32) (l6 : Int32) (l7 : Int32) (l8 : Int32) (V : sv_V), k73 l1 l2 l3 l4 l5 l6 l7 l8 V = some Vr → sv_N g qX12_followAll 3 73 [(0, .ref 146), (1, .ref l1), (2, .ref l2), (3, .int l3), (4, .int l4), (5, .int l5), (6, .int l6), (7, .int l7), (8, .int l8)] [] V P) (hk108 : ∀ (l1 : Nat) (l2 : Nat) (l3 : Int32) (l4 : Int32) (l5 : Int32) (l6 : Int32) (l7 : Int32) (l8 : Int32) (l9 : Int32) (l10 : Int32) (V : sv_V), k108 l1 l2 l3 l4 l5 l6 l7 l8 l9 l10 V = some Vr → sv_N g qX12_followAll 3 108 [(0, .ref 146), (1, .ref l1), (2, .ref l2), (3, .int l3), (4, .int l4), (5, .int l5), (6, .int l6), (7, .int l7), (8, .int l8), (9, .int l9), (10, .int l10)] [] V P) {l1 : Nat} {l2 : Nat} {l3 : Int32} {l4 : Int32} {l5 : Int32} {l6 : Int32} {l7 : Int32} {l8 : Int32} {l9 : Int32} {l10 : Int32} {V : sv_V} (h : B_X12_followAll_108 N k6 k73 k108 l1 l2 l3 l4 l5 l6 l7 l8 l9 l10 V = some Vr) : sv_N g qX12_followAll 3 108 [(0, .ref 146), (1, .ref l1), (2, .ref l2), (3, .int l3), (4, .int l4), (5, .int l5), (6, .int l6), (7, .int l7), (8, .int l8), (9, .int l9), (10, .int l10)] [] V P := by
  unfold B_X12_followAll_108 at h
  refine sx_iload (pc := 108) dX12_followAll_108 sx_m9 ?_
  refine sx_iload (pc := 110) dX12_followAll_110 sx_m4 ?_
  refine sx_icmp_ne (pc := 112) (tgt := 120) dX12_followAll_112 (by decide) (fun c11 => ?_) (fun c11 => ?_)
  · have h := sx_neg c11 h
    refine sx_iload (pc := 120) dX12_followAll_120 sx_m9 ?_
    refine sx_iconst (pc := 122) (v := 1) dX12_followAll_122 (by decide) ?_
    refine sx_isub (pc := 123) dX12_followAll_123 ?_
    refine sx_wk (sx_s1 sx_m0 (sx_s1 sx_m1 (sx_s1 sx_m2 (sx_s1 sx_m3 (sx_s1 sx_m4 (sx_s1 sx_m5 (sx_s1 sx_m6 (sx_s1 sx_m7 (sx_s1 sx_m8 (sx_s1 sx_m10 sx_s0)))))))))) ?_
    exact tB_X12_followAll_124 hG hP hk6 hk73 hk108 h
  · have h := sx_pos c11 h
    refine sx_iload (pc := 115) dX12_followAll_115 sx_m6 ?_
    refine sx_goto (pc := 117) (tgt := 124) dX12_followAll_117 (by decide) ?_
    refine sx_wk (sx_s1 sx_m0 (sx_s1 sx_m1 (sx_s1 sx_m2 (sx_s1 sx_m3 (sx_s1 sx_m4 (sx_s1 sx_m5 (sx_s1 sx_m6 (sx_s1 sx_m7 (sx_s1 sx_m8 (sx_s1 sx_m10 sx_s0)))))))))) ?_
    exact tB_X12_followAll_124 hG hP hk6 hk73 hk108 h
theorem tL_X12_followAll_108 {g : sx_G} (hG : sx_Go g) {P : Option Value → sv_V → Prop} {Vr : sv_V} (hP : P none Vr) {N : Nat} {k6 : Nat → Nat → Int32 → Int32 → Int32 → sv_V → Option sv_V} {k73 : Nat → Nat → Int32 → Int32 → Int32 → Int32 → Int32 → Int32 → sv_V → Option sv_V} (hk6 : ∀ (l1 : Nat) (l2 : Nat) (l3 : Int32) (l4 : Int32) (l5 : Int32) (V : sv_V), k6 l1 l2 l3 l4 l5 V = some Vr → sv_N g qX12_followAll 3 6 [(0, .ref 146), (1, .ref l1), (2, .ref l2), (3, .int l3), (4, .int l4), (5, .int l5)] [] V P) (hk73 : ∀ (l1 : Nat) (l2 : Nat) (l3 : Int32) (l4 : Int32) (l5 : Int32) (l6 : Int32) (l7 : Int32) (l8 : Int32) (V : sv_V), k73 l1 l2 l3 l4 l5 l6 l7 l8 V = some Vr → sv_N g qX12_followAll 3 73 [(0, .ref 146), (1, .ref l1), (2, .ref l2), (3, .int l3), (4, .int l4), (5, .int l5), (6, .int l6), (7, .int l7), (8, .int l8)] [] V P) : ∀ (n : Nat) (l1 : Nat) (l2 : Nat) (l3 : Int32) (l4 : Int32) (l5 : Int32) (l6 : Int32) (l7 : Int32) (l8 : Int32) (l9 : Int32) (l10 : Int32) (V : sv_V), sx_lp11 (B_X12_followAll_108 N k6 k73) n l1 l2 l3 l4 l5 l6 l7 l8 l9 l10 V = some Vr → sv_N g qX12_followAll 3 108 [(0, .ref 146), (1, .ref l1), (2, .ref l2), (3, .int l3), (4, .int l4), (5, .int l5), (6, .int l6), (7, .int l7), (8, .int l8), (9, .int l9), (10, .int l10)] [] V P :=
  sx_lp11_ind (fun k0 ih _ _ _ _ _ _ _ _ _ _ V h => tB_X12_followAll_108 hG hP hk6 hk73 ih h)
def B_X12_followAll_200 (N : Nat) (k6 : Nat → Nat → Int32 → Int32 → Int32 → sv_V → Option sv_V) (l1 : Nat) (l2 : Nat) (l3 : Int32) (l5 : Int32) (l6 : Int32) (V : sv_V) : Option sv_V := sx_let (l6 + (1 : Int32)) (fun x12 => sx_let (l5 + 1) (fun x13 => k6 l1 l2 l3 x12 x13 V))
set_option maxRecDepth 20000 in
theorem tB_X12_followAll_200 {g : sx_G} (hG : sx_Go g) {P : Option Value → sv_V → Prop} {Vr : sv_V} (hP : P none Vr) {N : Nat} {k6 : Nat → Nat → Int32 → Int32 → Int32 → sv_V → Option sv_V} (hk6 : ∀ (l1 : Nat) (l2 : Nat) (l3 : Int32) (l4 : Int32) (l5 : Int32) (V : sv_V), k6 l1 l2 l3 l4 l5 V = some Vr → sv_N g qX12_followAll 3 6 [(0, .ref 146), (1, .ref l1), (2, .ref l2), (3, .int l3), (4, .int l4), (5, .int l5)] [] V P) {l1 : Nat} {l2 : Nat} {l3 : Int32} {l5 : Int32} {l6 : Int32} {V : sv_V} (h : B_X12_followAll_200 N k6 l1 l2 l3 l5 l6 V = some Vr) : sv_N g qX12_followAll 3 200 [(0, .ref 146), (1, .ref l1), (2, .ref l2), (3, .int l3), (5, .int l5), (6, .int l6)] [] V P := by
  unfold B_X12_followAll_200 at h
  refine sx_iload (pc := 200) dX12_followAll_200 sx_m5 ?_
  refine sx_iconst (pc := 202) (v := 1) dX12_followAll_202 (by decide) ?_
  refine sx_iadd (pc := 203) dX12_followAll_203 ?_
  refine sv_tI (fun x12 hx12 => ?_)
  have h := sx_letE hx12 h
  refine sx_istore (pc := 204) (lo' := [(4, .int x12), (0, .ref 146), (1, .ref l1), (2, .ref l2), (3, .int l3), (5, .int l5), (6, .int l6)]) dX12_followAll_204 (by decide) rfl ?_
  obtain ⟨x13, hx13⟩ : ∃ z : Int32, z = l5 + 1 := ⟨_, rfl⟩
  have h := sx_letE hx13 h
  refine sx_iinc (pc := 206) (v := x13) (lo' := [(5, .int x13), (4, .int x12), (0, .ref 146), (1, .ref l1), (2, .ref l2), (3, .int l3), (6, .int l6)]) dX12_followAll_206 sx_m5 (by rw [hx13]; rfl) (by decide) rfl ?_
  refine sx_goto (pc := 209) (tgt := 6) dX12_followAll_209 (by decide) ?_
  refine sx_wk (sx_s1 sx_m2 (sx_s1 sx_m3 (sx_s1 sx_m4 (sx_s1 sx_m5 (sx_s1 sx_m1 (sx_s1 sx_m0 sx_s0)))))) ?_
  exact hk6 _ _ _ _ _ _ h
def B_X12_followAll_73 (N : Nat) (k6 : Nat → Nat → Int32 → Int32 → Int32 → sv_V → Option sv_V) (k73 : Nat → Nat → Int32 → Int32 → Int32 → Int32 → Int32 → Int32 → sv_V → Option sv_V) (l1 : Nat) (l2 : Nat) (l3 : Int32) (l4 : Int32) (l5 : Int32) (l6 : Int32) (l7 : Int32) (l8 : Int32) (V : sv_V) : Option sv_V := if l6 < l8 then (B_X12_followAll_200 N k6 l1 l2 l3 l5 l6 V) else (if l7 ≤ 0 then (B_X12_followAll_200 N k6 l1 l2 l3 l5 l6 V) else (if sx_in ((102 : Int32) + l8) 204 = true then if ((V.1 170 ((102 : Int32) + l8).toNatClampNeg) &&& l3) = 0 then (sx_lp11 (B_X12_followAll_108 N k6 k73) N l1 l2 l3 l4 l5 l6 l7 l8 l8 l8 V) else (B_X12_followAll_194 N k6 k73 l1 l2 l3 l4 l5 l6 l7 l8 V) else none))
set_option maxRecDepth 20000 in
theorem tB_X12_followAll_73 {g : sx_G} (hG : sx_Go g) {P : Option Value → sv_V → Prop} {Vr : sv_V} (hP : P none Vr) {N : Nat} {k6 : Nat → Nat → Int32 → Int32 → Int32 → sv_V → Option sv_V} {k73 : Nat → Nat → Int32 → Int32 → Int32 → Int32 → Int32 → Int32 → sv_V → Option sv_V} (hk6 : ∀ (l1 : Nat) (l2 : Nat) (l3 : Int32) (l4 : Int32) (l5 : Int32) (V : sv_V), k6 l1 l2 l3 l4 l5 V = some Vr → sv_N g qX12_followAll 3 6 [(0, .ref 146), (1, .ref l1), (2, .ref l2), (3, .int l3), (4, .int l4), (5, .int l5)] [] V P) (hk73 : ∀ (l1 : Nat) (l2 : Nat) (l3 : Int32) (l4 : Int32) (l5 : Int32) (l6 : Int32) (l7 : Int32) (l8 : Int32) (V : sv_V), k73 l1 l2 l3 l4 l5 l6 l7 l8 V = some Vr → sv_N g qX12_followAll 3 73 [(0, .ref 146), (1, .ref l1), (2, .ref l2), (3, .int l3), (4, .int l4), (5, .int l5), (6, .int l6), (7, .int l7), (8, .int l8)] [] V P) {l1 : Nat} {l2 : Nat} {l3 : Int32} {l4 : Int32} {l5 : Int32} {l6 : Int32} {l7 : Int32} {l8 : Int32} {V : sv_V} (h : B_X12_followAll_73 N k6 k73 l1 l2 l3 l4 l5 l6 l7 l8 V = some Vr) : sv_N g qX12_followAll 3 73 [(0, .ref 146), (1, .ref l1), (2, .ref l2), (3, .int l3), (4, .int l4), (5, .int l5), (6, .int l6), (7, .int l7), (8, .int l8)] [] V P := by
  unfold B_X12_followAll_73 at h
  refine sx_iload (pc := 73) dX12_followAll_73 sx_m8 ?_
  refine sx_iload (pc := 75) dX12_followAll_75 sx_m6 ?_
  refine sx_icmp_gt (pc := 77) (tgt := 200) dX12_followAll_77 (by decide) (fun c14 => ?_) (fun c14 => ?_)
  · have h := sx_pos c14 h
    refine sx_wk (sx_s1 sx_m0 (sx_s1 sx_m1 (sx_s1 sx_m2 (sx_s1 sx_m3 (sx_s1 sx_m5 (sx_s1 sx_m6 sx_s0)))))) ?_
    exact tB_X12_followAll_200 hG hP hk6 h
  · have h := sx_neg c14 h
    refine sx_iload (pc := 80) dX12_followAll_80 sx_m7 ?_
    refine sx_if_le (pc := 82) (tgt := 200) dX12_followAll_82 (by decide) (fun c15 => ?_) (fun c15 => ?_)
    · have h := sx_pos c15 h
      refine sx_wk (sx_s1 sx_m0 (sx_s1 sx_m1 (sx_s1 sx_m2 (sx_s1 sx_m3 (sx_s1 sx_m5 (sx_s1 sx_m6 sx_s0)))))) ?_
      exact tB_X12_followAll_200 hG hP hk6 h
    · have h := sx_neg c15 h
      refine sx_aload_n (pc := 85) dX12_followAll_85 sx_m0 ?_
      refine sv_getA (pc := 86) hG dX12_followAll_86 f_12_82 lay_146 rfl cr_146_50 ?_
      refine sx_bipush (pc := 89) (v := 102) dX12_followAll_89 (by decide) ?_
      refine sx_iload (pc := 91) dX12_followAll_91 sx_m8 ?_
      refine sx_iadd (pc := 93) dX12_followAll_93 ?_
      obtain ⟨g16, h⟩ := sx_grd h
      refine sv_iald (pc := 94) hG dX12_followAll_94 lay_170 g16 ?_
      refine sx_iload_n (pc := 95) dX12_followAll_95 sx_m3 ?_
      refine sx_iand (pc := 96) dX12_followAll_96 ?_
      refine sx_if_ne (pc := 97) (tgt := 194) dX12_followAll_97 (by decide) (fun c17 => ?_) (fun c17 => ?_)
      · have h := sx_neg c17 h
        refine sx_wk (sx_s1 sx_m0 (sx_s1 sx_m1 (sx_s1 sx_m2 (sx_s1 sx_m3 (sx_s1 sx_m4 (sx_s1 sx_m5 (sx_s1 sx_m6 (sx_s1 sx_m7 (sx_s1 sx_m8 sx_s0))))))))) ?_
        exact tB_X12_followAll_194 hG hP hk6 hk73 h
      · have h := sx_pos c17 h
        refine sx_iload (pc := 100) dX12_followAll_100 sx_m8 ?_
        refine sx_istore (pc := 102) (lo' := [(9, .int l8), (0, .ref 146), (1, .ref l1), (2, .ref l2), (3, .int l3), (4, .int l4), (5, .int l5), (6, .int l6), (7, .int l7), (8, .int l8)]) dX12_followAll_102 (by decide) rfl ?_
        refine sx_iload (pc := 104) dX12_followAll_104 sx_m9 ?_
        refine sx_istore (pc := 106) (lo' := [(10, .int l8), (9, .int l8), (0, .ref 146), (1, .ref l1), (2, .ref l2), (3, .int l3), (4, .int l4), (5, .int l5), (6, .int l6), (7, .int l7), (8, .int l8)]) dX12_followAll_106 (by decide) rfl ?_
        refine sx_wk (sx_s1 sx_m2 (sx_s1 sx_m3 (sx_s1 sx_m4 (sx_s1 sx_m5 (sx_s1 sx_m6 (sx_s1 sx_m7 (sx_s1 sx_m8 (sx_s1 sx_m9 (sx_s1 sx_m10 (sx_s1 sx_m1 (sx_s1 sx_m0 sx_s0))))))))))) ?_
        exact tL_X12_followAll_108 hG hP hk6 hk73 N _ _ _ _ _ _ _ _ _ _ _ h
theorem tL_X12_followAll_73 {g : sx_G} (hG : sx_Go g) {P : Option Value → sv_V → Prop} {Vr : sv_V} (hP : P none Vr) {N : Nat} {k6 : Nat → Nat → Int32 → Int32 → Int32 → sv_V → Option sv_V} (hk6 : ∀ (l1 : Nat) (l2 : Nat) (l3 : Int32) (l4 : Int32) (l5 : Int32) (V : sv_V), k6 l1 l2 l3 l4 l5 V = some Vr → sv_N g qX12_followAll 3 6 [(0, .ref 146), (1, .ref l1), (2, .ref l2), (3, .int l3), (4, .int l4), (5, .int l5)] [] V P) : ∀ (n : Nat) (l1 : Nat) (l2 : Nat) (l3 : Int32) (l4 : Int32) (l5 : Int32) (l6 : Int32) (l7 : Int32) (l8 : Int32) (V : sv_V), sx_lp9 (B_X12_followAll_73 N k6) n l1 l2 l3 l4 l5 l6 l7 l8 V = some Vr → sv_N g qX12_followAll 3 73 [(0, .ref 146), (1, .ref l1), (2, .ref l2), (3, .int l3), (4, .int l4), (5, .int l5), (6, .int l6), (7, .int l7), (8, .int l8)] [] V P :=
  sx_lp9_ind (fun k0 ih _ _ _ _ _ _ _ _ V h => tB_X12_followAll_73 hG hP hk6 ih h)
def B_X12_followAll_31 (N : Nat) (k6 : Nat → Nat → Int32 → Int32 → Int32 → sv_V → Option sv_V) (k31 : Nat → Nat → Int32 → Int32 → Int32 → Int32 → Int32 → Int32 → sv_V → Option sv_V) (l1 : Nat) (l2 : Nat) (l3 : Int32) (l4 : Int32) (l5 : Int32) (l6 : Int32) (l7 : Int32) (l8 : Int32) (V : sv_V) : Option sv_V := if l6 < l8 then (sx_lp9 (B_X12_followAll_73 N k6) N l1 l2 l3 l4 l5 l6 l7 l4 V) else (if sx_in ((102 : Int32) + l8) 204 = true then if ((V.1 170 ((102 : Int32) + l8).toNatClampNeg) &&& l3) = 0 then (B_X12_followAll_60 N k6 k31 l1 l2 l3 l4 l5 l6 l8 l7 (0 : Int32) V) else (B_X12_followAll_60 N k6 k31 l1 l2 l3 l4 l5 l6 l8 l7 (1 : Int32) V) else none)
set_option maxRecDepth 20000 in
theorem tB_X12_followAll_31 {g : sx_G} (hG : sx_Go g) {P : Option Value → sv_V → Prop} {Vr : sv_V} (hP : P none Vr) {N : Nat} {k6 : Nat → Nat → Int32 → Int32 → Int32 → sv_V → Option sv_V} {k31 : Nat → Nat → Int32 → Int32 → Int32 → Int32 → Int32 → Int32 → sv_V → Option sv_V} (hk6 : ∀ (l1 : Nat) (l2 : Nat) (l3 : Int32) (l4 : Int32) (l5 : Int32) (V : sv_V), k6 l1 l2 l3 l4 l5 V = some Vr → sv_N g qX12_followAll 3 6 [(0, .ref 146), (1, .ref l1), (2, .ref l2), (3, .int l3), (4, .int l4), (5, .int l5)] [] V P) (hk31 : ∀ (l1 : Nat) (l2 : Nat) (l3 : Int32) (l4 : Int32) (l5 : Int32) (l6 : Int32) (l7 : Int32) (l8 : Int32) (V : sv_V), k31 l1 l2 l3 l4 l5 l6 l7 l8 V = some Vr → sv_N g qX12_followAll 3 31 [(0, .ref 146), (1, .ref l1), (2, .ref l2), (3, .int l3), (4, .int l4), (5, .int l5), (6, .int l6), (7, .int l7), (8, .int l8)] [] V P) {l1 : Nat} {l2 : Nat} {l3 : Int32} {l4 : Int32} {l5 : Int32} {l6 : Int32} {l7 : Int32} {l8 : Int32} {V : sv_V} (h : B_X12_followAll_31 N k6 k31 l1 l2 l3 l4 l5 l6 l7 l8 V = some Vr) : sv_N g qX12_followAll 3 31 [(0, .ref 146), (1, .ref l1), (2, .ref l2), (3, .int l3), (4, .int l4), (5, .int l5), (6, .int l6), (7, .int l7), (8, .int l8)] [] V P := by
  unfold B_X12_followAll_31 at h
  refine sx_iload (pc := 31) dX12_followAll_31 sx_m8 ?_
  refine sx_iload (pc := 33) dX12_followAll_33 sx_m6 ?_
  refine sx_icmp_gt (pc := 35) (tgt := 69) dX12_followAll_35 (by decide) (fun c18 => ?_) (fun c18 => ?_)
  · have h := sx_pos c18 h
    refine sx_iload (pc := 69) dX12_followAll_69 sx_m4 ?_
    refine sx_istore (pc := 71) (lo' := [(8, .int l4), (0, .ref 146), (1, .ref l1), (2, .ref l2), (3, .int l3), (4, .int l4), (5, .int l5), (6, .int l6), (7, .int l7)]) dX12_followAll_71 (by decide) rfl ?_
    refine sx_wk (sx_s1 sx_m1 (sx_s1 sx_m2 (sx_s1 sx_m3 (sx_s1 sx_m4 (sx_s1 sx_m5 (sx_s1 sx_m6 (sx_s1 sx_m7 (sx_s1 sx_m8 (sx_s1 sx_m0 sx_s0))))))))) ?_
    exact tL_X12_followAll_73 hG hP hk6 N _ _ _ _ _ _ _ _ _ h
  · have h := sx_neg c18 h
    refine sx_iload (pc := 38) dX12_followAll_38 sx_m7 ?_
    refine sx_aload_n (pc := 40) dX12_followAll_40 sx_m0 ?_
    refine sv_getA (pc := 41) hG dX12_followAll_41 f_12_82 lay_146 rfl cr_146_50 ?_
    refine sx_bipush (pc := 44) (v := 102) dX12_followAll_44 (by decide) ?_
    refine sx_iload (pc := 46) dX12_followAll_46 sx_m8 ?_
    refine sx_iadd (pc := 48) dX12_followAll_48 ?_
    obtain ⟨g19, h⟩ := sx_grd h
    refine sv_iald (pc := 49) hG dX12_followAll_49 lay_170 g19 ?_
    refine sx_iload_n (pc := 50) dX12_followAll_50 sx_m3 ?_
    refine sx_iand (pc := 51) dX12_followAll_51 ?_
    refine sx_if_eq (pc := 52) (tgt := 59) dX12_followAll_52 (by decide) (fun c20 => ?_) (fun c20 => ?_)
    · have h := sx_pos c20 h
      refine sx_iconst (pc := 59) (v := 0) dX12_followAll_59 (by decide) ?_
      refine sx_wk (sx_s1 sx_m0 (sx_s1 sx_m1 (sx_s1 sx_m2 (sx_s1 sx_m3 (sx_s1 sx_m4 (sx_s1 sx_m5 (sx_s1 sx_m6 (sx_s1 sx_m8 sx_s0)))))))) ?_
      exact tB_X12_followAll_60 hG hP hk6 hk31 h
    · have h := sx_neg c20 h
      refine sx_iconst (pc := 55) (v := 1) dX12_followAll_55 (by decide) ?_
      refine sx_goto (pc := 56) (tgt := 60) dX12_followAll_56 (by decide) ?_
      refine sx_wk (sx_s1 sx_m0 (sx_s1 sx_m1 (sx_s1 sx_m2 (sx_s1 sx_m3 (sx_s1 sx_m4 (sx_s1 sx_m5 (sx_s1 sx_m6 (sx_s1 sx_m8 sx_s0)))))))) ?_
      exact tB_X12_followAll_60 hG hP hk6 hk31 h
theorem tL_X12_followAll_31 {g : sx_G} (hG : sx_Go g) {P : Option Value → sv_V → Prop} {Vr : sv_V} (hP : P none Vr) {N : Nat} {k6 : Nat → Nat → Int32 → Int32 → Int32 → sv_V → Option sv_V} (hk6 : ∀ (l1 : Nat) (l2 : Nat) (l3 : Int32) (l4 : Int32) (l5 : Int32) (V : sv_V), k6 l1 l2 l3 l4 l5 V = some Vr → sv_N g qX12_followAll 3 6 [(0, .ref 146), (1, .ref l1), (2, .ref l2), (3, .int l3), (4, .int l4), (5, .int l5)] [] V P) : ∀ (n : Nat) (l1 : Nat) (l2 : Nat) (l3 : Int32) (l4 : Int32) (l5 : Int32) (l6 : Int32) (l7 : Int32) (l8 : Int32) (V : sv_V), sx_lp9 (B_X12_followAll_31 N k6) n l1 l2 l3 l4 l5 l6 l7 l8 V = some Vr → sv_N g qX12_followAll 3 31 [(0, .ref 146), (1, .ref l1), (2, .ref l2), (3, .int l3), (4, .int l4), (5, .int l5), (6, .int l6), (7, .int l7), (8, .int l8)] [] V P :=
  sx_lp9_ind (fun k0 ih _ _ _ _ _ _ _ _ V h => tB_X12_followAll_31 hG hP hk6 ih h)
def B_X12_followAll_6 (N : Nat) (k6 : Nat → Nat → Int32 → Int32 → Int32 → sv_V → Option sv_V) (l1 : Nat) (l2 : Nat) (l3 : Int32) (l4 : Int32) (l5 : Int32) (V : sv_V) : Option sv_V := if (V.1 146 53) ≤ l5 then (some V) else (if sx_in l5 20 = true then sx_let (V.1 172 l5.toNatClampNeg) (fun x23 => sx_lp9 (B_X12_followAll_31 N k6) N l1 l2 l3 l4 l5 x23 (0 : Int32) l4 V) else none)
set_option maxRecDepth 20000 in
theorem tB_X12_followAll_6 {g : sx_G} (hG : sx_Go g) {P : Option Value → sv_V → Prop} {Vr : sv_V} (hP : P none Vr) {N : Nat} {k6 : Nat → Nat → Int32 → Int32 → Int32 → sv_V → Option sv_V} (hk6 : ∀ (l1 : Nat) (l2 : Nat) (l3 : Int32) (l4 : Int32) (l5 : Int32) (V : sv_V), k6 l1 l2 l3 l4 l5 V = some Vr → sv_N g qX12_followAll 3 6 [(0, .ref 146), (1, .ref l1), (2, .ref l2), (3, .int l3), (4, .int l4), (5, .int l5)] [] V P) {l1 : Nat} {l2 : Nat} {l3 : Int32} {l4 : Int32} {l5 : Int32} {V : sv_V} (h : B_X12_followAll_6 N k6 l1 l2 l3 l4 l5 V = some Vr) : sv_N g qX12_followAll 3 6 [(0, .ref 146), (1, .ref l1), (2, .ref l2), (3, .int l3), (4, .int l4), (5, .int l5)] [] V P := by
  unfold B_X12_followAll_6 at h
  refine sx_iload (pc := 6) dX12_followAll_6 sx_m5 ?_
  refine sx_aload_n (pc := 8) dX12_followAll_8 sx_m0 ?_
  refine sv_getI (pc := 9) hG dX12_followAll_9 f_12_706 lay_146 rfl ?_
  refine sx_icmp_ge (pc := 12) (tgt := 212) dX12_followAll_12 (by decide) (fun c21 => ?_) (fun c21 => ?_)
  · have h := sx_pos c21 h
    exact sv_vret (pc := 212) dX12_followAll_212 rfl h hP
  · have h := sx_neg c21 h
    refine sx_aload_n (pc := 15) dX12_followAll_15 sx_m0 ?_
    refine sv_getA (pc := 16) hG dX12_followAll_16 f_12_88 lay_146 rfl cr_146_54 ?_
    refine sx_iload (pc := 19) dX12_followAll_19 sx_m5 ?_
    obtain ⟨g22, h⟩ := sx_grd h
    refine sv_iald (pc := 21) hG dX12_followAll_21 lay_172 g22 ?_
    refine sv_tI (fun x23 hx23 => ?_)
    have h := sx_letE hx23 h
    refine sx_istore (pc := 22) (lo' := [(6, .int x23), (0, .ref 146), (1, .ref l1), (2, .ref l2), (3, .int l3), (4, .int l4), (5, .int l5)]) dX12_followAll_22 (by decide) rfl ?_
    refine sx_iconst (pc := 24) (v := 0) dX12_followAll_24 (by decide) ?_
    refine sx_istore (pc := 25) (lo' := [(7, .int (0 : Int32)), (6, .int x23), (0, .ref 146), (1, .ref l1), (2, .ref l2), (3, .int l3), (4, .int l4), (5, .int l5)]) dX12_followAll_25 (by decide) rfl ?_
    refine sx_iload (pc := 27) dX12_followAll_27 sx_m6 ?_
    refine sx_istore (pc := 29) (lo' := [(8, .int l4), (7, .int (0 : Int32)), (6, .int x23), (0, .ref 146), (1, .ref l1), (2, .ref l2), (3, .int l3), (4, .int l4), (5, .int l5)]) dX12_followAll_29 (by decide) rfl ?_
    refine sx_wk (sx_s1 sx_m3 (sx_s1 sx_m4 (sx_s1 sx_m5 (sx_s1 sx_m6 (sx_s1 sx_m7 (sx_s1 sx_m8 (sx_s1 sx_m2 (sx_s1 sx_m1 (sx_s1 sx_m0 sx_s0))))))))) ?_
    exact tL_X12_followAll_31 hG hP hk6 N _ _ _ _ _ _ _ _ _ h
theorem tL_X12_followAll_6 {g : sx_G} (hG : sx_Go g) {P : Option Value → sv_V → Prop} {Vr : sv_V} (hP : P none Vr) {N : Nat}   : ∀ (n : Nat) (l1 : Nat) (l2 : Nat) (l3 : Int32) (l4 : Int32) (l5 : Int32) (V : sv_V), sx_lp6 (B_X12_followAll_6 N ) n l1 l2 l3 l4 l5 V = some Vr → sv_N g qX12_followAll 3 6 [(0, .ref 146), (1, .ref l1), (2, .ref l2), (3, .int l3), (4, .int l4), (5, .int l5)] [] V P :=
  sx_lp6_ind (fun k0 ih _ _ _ _ _ V h => tB_X12_followAll_6 hG hP ih h)
def F_X12_followAll (N : Nat) (l1 : Nat) (l2 : Nat) (l3 : Int32) (V : sv_V) : Option sv_V := sx_lp6 (B_X12_followAll_6 N ) N l1 l2 l3 (0 : Int32) (0 : Int32) V
set_option maxRecDepth 20000 in
theorem t_X12_followAll {g : sx_G} (hG : sx_Go g) {P : Option Value → sv_V → Prop} {Vr : sv_V} (hP : P none Vr) {N : Nat} {l1 : Nat} {l2 : Nat} {l3 : Int32} {V : sv_V} (h : F_X12_followAll N l1 l2 l3 V = some Vr) : sv_N g qX12_followAll 3 0 [(0, .ref 146), (1, .ref l1), (2, .ref l2), (3, .int l3)] [] V P := by
  unfold F_X12_followAll at h
  refine sx_iconst (pc := 0) (v := 0) dX12_followAll_0 (by decide) ?_
  refine sx_istore (pc := 1) (lo' := [(4, .int (0 : Int32)), (0, .ref 146), (1, .ref l1), (2, .ref l2), (3, .int l3)]) dX12_followAll_1 (by decide) rfl ?_
  refine sx_iconst (pc := 3) (v := 0) dX12_followAll_3 (by decide) ?_
  refine sx_istore (pc := 4) (lo' := [(5, .int (0 : Int32)), (4, .int (0 : Int32)), (0, .ref 146), (1, .ref l1), (2, .ref l2), (3, .int l3)]) dX12_followAll_4 (by decide) rfl ?_
  refine sx_wk (sx_s1 sx_m2 (sx_s1 sx_m3 (sx_s1 sx_m4 (sx_s1 sx_m5 (sx_s1 sx_m1 (sx_s1 sx_m0 sx_s0)))))) ?_
  exact tL_X12_followAll_6 hG hP  N _ _ _ _ _ _ h
def ncX12_likeReference : Nat := 74463138500148388439590964550089570755222399865842052992018512409276103491714384263413201695345597711086861681148897929391882030422484606775451490964569399544811925998122069199869639057494164045291140575531253466433897800806569018910606696292523541736482837199081922680446149904035934630274334788375024588764114551242014624493096353093282815021063482094614682581365572802751316026241342548158048591095119329252930520081593250264209785087225494252860224974556377429767134004817677073810134302787363028005268283007686588587573732949598562349997373608671736040097602872016944647972165296696739555477488223437513360900356089752840881860064024333242162405808163243177657055881235481614673767590098040539580328527640174450798388142598665341513870119702363241054440864287360438110297557748055227645896957734956506657606628577281130478968932781931979872384859135999893603618186526534926625063627723263532212295781107724144606489349666340560038356324379
theorem kcX12_likeReference : CK cX12_likeReference ncX12_likeReference 392 := ⟨by decide +kernel, by decide +kernel⟩
theorem dX12_likeReference_0 : decode cX12_likeReference 0 = .ok (.iload_n 1, 1) := dl_o27 kcX12_likeReference (by decide +kernel)
theorem dX12_likeReference_1 : decode cX12_likeReference 1 = .ok (.bipush 52, 2) := dl_o16 kcX12_likeReference 52 (by decide +kernel) (by decide +kernel)
theorem dX12_likeReference_3 : decode cX12_likeReference 3 = .ok (.if_icmp .ge 10, 3) := dl_o162 kcX12_likeReference 10 (by decide +kernel) (by decide +kernel)
theorem dX12_likeReference_6 : decode cX12_likeReference 6 = .ok (.aload_n 0, 1) := dl_o42 kcX12_likeReference (by decide +kernel)
theorem dX12_likeReference_7 : decode cX12_likeReference 7 = .ok (.getfield 469, 3) := dl_o180 kcX12_likeReference (by decide +kernel)
theorem dX12_likeReference_10 : decode cX12_likeReference 10 = .ok (.goto 4, 3) := dl_o167 kcX12_likeReference 4 (by decide +kernel) (by decide +kernel)
theorem dX12_likeReference_13 : decode cX12_likeReference 13 = .ok (.iconst 1, 1) := dl_o4 kcX12_likeReference (by decide +kernel)
theorem dX12_likeReference_14 : decode cX12_likeReference 14 = .ok (.istore_n 2, 1) := dl_o61 kcX12_likeReference (by decide +kernel)
theorem dX12_likeReference_15 : decode cX12_likeReference 15 = .ok (.aload_n 0, 1) := dl_o42 kcX12_likeReference (by decide +kernel)
theorem dX12_likeReference_16 : decode cX12_likeReference 16 = .ok (.iload_n 2, 1) := dl_o28 kcX12_likeReference (by decide +kernel)
theorem dX12_likeReference_17 : decode cX12_likeReference 17 = .ok (.invokevirtual 576, 3) := dl_o182 kcX12_likeReference (by decide +kernel)
theorem dX12_likeReference_20 : decode cX12_likeReference 20 = .ok (.ifCond .ne 4, 3) := dl_o154 kcX12_likeReference 4 (by decide +kernel) (by decide +kernel)
theorem dX12_likeReference_23 : decode cX12_likeReference 23 = .ok (.return_, 1) := dl_o177 kcX12_likeReference (by decide +kernel)
theorem dX12_likeReference_24 : decode cX12_likeReference 24 = .ok (.iload_n 1, 1) := dl_o27 kcX12_likeReference (by decide +kernel)
theorem dX12_likeReference_25 : decode cX12_likeReference 25 = .ok (.iconst 2, 1) := dl_o5 kcX12_likeReference (by decide +kernel)
theorem dX12_likeReference_26 : decode cX12_likeReference 26 = .ok (.irem, 1) := dl_o112 kcX12_likeReference (by decide +kernel)
theorem dX12_likeReference_27 : decode cX12_likeReference 27 = .ok (.iconst 1, 1) := dl_o4 kcX12_likeReference (by decide +kernel)
theorem dX12_likeReference_28 : decode cX12_likeReference 28 = .ok (.if_icmp .ne 7, 3) := dl_o160 kcX12_likeReference 7 (by decide +kernel) (by decide +kernel)
theorem dX12_likeReference_31 : decode cX12_likeReference 31 = .ok (.iconst 1, 1) := dl_o4 kcX12_likeReference (by decide +kernel)
theorem dX12_likeReference_32 : decode cX12_likeReference 32 = .ok (.goto 4, 3) := dl_o167 kcX12_likeReference 4 (by decide +kernel) (by decide +kernel)
theorem dX12_likeReference_35 : decode cX12_likeReference 35 = .ok (.iconst 0, 1) := dl_o3 kcX12_likeReference (by decide +kernel)
theorem dX12_likeReference_36 : decode cX12_likeReference 36 = .ok (.istore_n 3, 1) := dl_o62 kcX12_likeReference (by decide +kernel)
theorem dX12_likeReference_37 : decode cX12_likeReference 37 = .ok (.iload_n 3, 1) := dl_o29 kcX12_likeReference (by decide +kernel)
theorem dX12_likeReference_38 : decode cX12_likeReference 38 = .ok (.ifCond .eq 10, 3) := dl_o153 kcX12_likeReference 10 (by decide +kernel) (by decide +kernel)
theorem dX12_likeReference_41 : decode cX12_likeReference 41 = .ok (.aload_n 0, 1) := dl_o42 kcX12_likeReference (by decide +kernel)
theorem dX12_likeReference_42 : decode cX12_likeReference 42 = .ok (.getfield 460, 3) := dl_o180 kcX12_likeReference (by decide +kernel)
theorem dX12_likeReference_45 : decode cX12_likeReference 45 = .ok (.goto 7, 3) := dl_o167 kcX12_likeReference 7 (by decide +kernel) (by decide +kernel)
theorem dX12_likeReference_48 : decode cX12_likeReference 48 = .ok (.aload_n 0, 1) := dl_o42 kcX12_likeReference (by decide +kernel)
theorem dX12_likeReference_49 : decode cX12_likeReference 49 = .ok (.getfield 463, 3) := dl_o180 kcX12_likeReference (by decide +kernel)
theorem dX12_likeReference_52 : decode cX12_likeReference 52 = .ok (.istore 4, 2) := dl_o54 kcX12_likeReference (by decide +kernel)
theorem dX12_likeReference_54 : decode cX12_likeReference 54 = .ok (.aload_n 0, 1) := dl_o42 kcX12_likeReference (by decide +kernel)
theorem dX12_likeReference_55 : decode cX12_likeReference 55 = .ok (.iload 4, 2) := dl_o21 kcX12_likeReference (by decide +kernel)
theorem dX12_likeReference_57 : decode cX12_likeReference 57 = .ok (.iload_n 3, 1) := dl_o29 kcX12_likeReference (by decide +kernel)
theorem dX12_likeReference_58 : decode cX12_likeReference 58 = .ok (.ifCond .eq 10, 3) := dl_o153 kcX12_likeReference 10 (by decide +kernel) (by decide +kernel)
theorem dX12_likeReference_61 : decode cX12_likeReference 61 = .ok (.aload_n 0, 1) := dl_o42 kcX12_likeReference (by decide +kernel)
theorem dX12_likeReference_62 : decode cX12_likeReference 62 = .ok (.getfield 454, 3) := dl_o180 kcX12_likeReference (by decide +kernel)
theorem dX12_likeReference_65 : decode cX12_likeReference 65 = .ok (.goto 7, 3) := dl_o167 kcX12_likeReference 7 (by decide +kernel) (by decide +kernel)
theorem dX12_likeReference_68 : decode cX12_likeReference 68 = .ok (.aload_n 0, 1) := dl_o42 kcX12_likeReference (by decide +kernel)
theorem dX12_likeReference_69 : decode cX12_likeReference 69 = .ok (.getfield 457, 3) := dl_o180 kcX12_likeReference (by decide +kernel)
theorem dX12_likeReference_72 : decode cX12_likeReference 72 = .ok (.invokevirtual 582, 3) := dl_o182 kcX12_likeReference (by decide +kernel)
theorem dX12_likeReference_75 : decode cX12_likeReference 75 = .ok (.istore 5, 2) := dl_o54 kcX12_likeReference (by decide +kernel)
theorem dX12_likeReference_77 : decode cX12_likeReference 77 = .ok (.aload_n 0, 1) := dl_o42 kcX12_likeReference (by decide +kernel)
theorem dX12_likeReference_78 : decode cX12_likeReference 78 = .ok (.getfield 409, 3) := dl_o180 kcX12_likeReference (by decide +kernel)
theorem dX12_likeReference_81 : decode cX12_likeReference 81 = .ok (.ifCond .le 4, 3) := dl_o158 kcX12_likeReference 4 (by decide +kernel) (by decide +kernel)
theorem dX12_likeReference_84 : decode cX12_likeReference 84 = .ok (.return_, 1) := dl_o177 kcX12_likeReference (by decide +kernel)
theorem dX12_likeReference_85 : decode cX12_likeReference 85 = .ok (.aload_n 0, 1) := dl_o42 kcX12_likeReference (by decide +kernel)
theorem dX12_likeReference_86 : decode cX12_likeReference 86 = .ok (.getfield 76, 3) := dl_o180 kcX12_likeReference (by decide +kernel)
theorem dX12_likeReference_89 : decode cX12_likeReference 89 = .ok (.iload 5, 2) := dl_o21 kcX12_likeReference (by decide +kernel)
theorem dX12_likeReference_91 : decode cX12_likeReference 91 = .ok (.iaload, 1) := dl_o46 kcX12_likeReference (by decide +kernel)
theorem dX12_likeReference_92 : decode cX12_likeReference 92 = .ok (.aload_n 0, 1) := dl_o42 kcX12_likeReference (by decide +kernel)
theorem dX12_likeReference_93 : decode cX12_likeReference 93 = .ok (.getfield 70, 3) := dl_o180 kcX12_likeReference (by decide +kernel)
theorem dX12_likeReference_96 : decode cX12_likeReference 96 = .ok (.iload 5, 2) := dl_o21 kcX12_likeReference (by decide +kernel)
theorem dX12_likeReference_98 : decode cX12_likeReference 98 = .ok (.iaload, 1) := dl_o46 kcX12_likeReference (by decide +kernel)
theorem dX12_likeReference_99 : decode cX12_likeReference 99 = .ok (.isub, 1) := dl_o100 kcX12_likeReference (by decide +kernel)
theorem dX12_likeReference_100 : decode cX12_likeReference 100 = .ok (.aload_n 0, 1) := dl_o42 kcX12_likeReference (by decide +kernel)
theorem dX12_likeReference_101 : decode cX12_likeReference 101 = .ok (.getfield 79, 3) := dl_o180 kcX12_likeReference (by decide +kernel)
theorem dX12_likeReference_104 : decode cX12_likeReference 104 = .ok (.iload 5, 2) := dl_o21 kcX12_likeReference (by decide +kernel)
theorem dX12_likeReference_106 : decode cX12_likeReference 106 = .ok (.iaload, 1) := dl_o46 kcX12_likeReference (by decide +kernel)
theorem dX12_likeReference_107 : decode cX12_likeReference 107 = .ok (.aload_n 0, 1) := dl_o42 kcX12_likeReference (by decide +kernel)
theorem dX12_likeReference_108 : decode cX12_likeReference 108 = .ok (.getfield 73, 3) := dl_o180 kcX12_likeReference (by decide +kernel)
theorem dX12_likeReference_111 : decode cX12_likeReference 111 = .ok (.iload 5, 2) := dl_o21 kcX12_likeReference (by decide +kernel)
theorem dX12_likeReference_113 : decode cX12_likeReference 113 = .ok (.iaload, 1) := dl_o46 kcX12_likeReference (by decide +kernel)
theorem dX12_likeReference_114 : decode cX12_likeReference 114 = .ok (.isub, 1) := dl_o100 kcX12_likeReference (by decide +kernel)
theorem dX12_likeReference_115 : decode cX12_likeReference 115 = .ok (.aload_n 0, 1) := dl_o42 kcX12_likeReference (by decide +kernel)
theorem dX12_likeReference_116 : decode cX12_likeReference 116 = .ok (.getfield 439, 3) := dl_o180 kcX12_likeReference (by decide +kernel)
theorem dX12_likeReference_119 : decode cX12_likeReference 119 = .ok (.aload_n 0, 1) := dl_o42 kcX12_likeReference (by decide +kernel)
theorem dX12_likeReference_120 : decode cX12_likeReference 120 = .ok (.getfield 442, 3) := dl_o180 kcX12_likeReference (by decide +kernel)
theorem dX12_likeReference_123 : decode cX12_likeReference 123 = .ok (.invokestatic 520, 3) := dl_o184 kcX12_likeReference (by decide +kernel)
theorem dX12_likeReference_126 : decode cX12_likeReference 126 = .ok (.istore 6, 2) := dl_o54 kcX12_likeReference (by decide +kernel)
theorem dX12_likeReference_128 : decode cX12_likeReference 128 = .ok (.iload_n 1, 1) := dl_o27 kcX12_likeReference (by decide +kernel)
theorem dX12_likeReference_129 : decode cX12_likeReference 129 = .ok (.bipush 52, 2) := dl_o16 kcX12_likeReference 52 (by decide +kernel) (by decide +kernel)
theorem dX12_likeReference_131 : decode cX12_likeReference 131 = .ok (.if_icmp .ge 61, 3) := dl_o162 kcX12_likeReference 61 (by decide +kernel) (by decide +kernel)
theorem dX12_likeReference_134 : decode cX12_likeReference 134 = .ok (.iconst 0, 1) := dl_o3 kcX12_likeReference (by decide +kernel)
theorem dX12_likeReference_135 : decode cX12_likeReference 135 = .ok (.istore 7, 2) := dl_o54 kcX12_likeReference (by decide +kernel)
theorem dX12_likeReference_137 : decode cX12_likeReference 137 = .ok (.iload 7, 2) := dl_o21 kcX12_likeReference (by decide +kernel)
theorem dX12_likeReference_139 : decode cX12_likeReference 139 = .ok (.iload_n 2, 1) := dl_o28 kcX12_likeReference (by decide +kernel)
theorem dX12_likeReference_140 : decode cX12_likeReference 140 = .ok (.if_icmp .ge 46, 3) := dl_o162 kcX12_likeReference 46 (by decide +kernel) (by decide +kernel)
theorem dX12_likeReference_143 : decode cX12_likeReference 143 = .ok (.aload_n 0, 1) := dl_o42 kcX12_likeReference (by decide +kernel)
theorem dX12_likeReference_144 : decode cX12_likeReference 144 = .ok (.getfield 409, 3) := dl_o180 kcX12_likeReference (by decide +kernel)
theorem dX12_likeReference_147 : decode cX12_likeReference 147 = .ok (.ifCond .ne 39, 3) := dl_o154 kcX12_likeReference 39 (by decide +kernel) (by decide +kernel)
theorem dX12_likeReference_150 : decode cX12_likeReference 150 = .ok (.aload_n 0, 1) := dl_o42 kcX12_likeReference (by decide +kernel)
theorem dX12_likeReference_151 : decode cX12_likeReference 151 = .ok (.aload_n 0, 1) := dl_o42 kcX12_likeReference (by decide +kernel)
theorem dX12_likeReference_152 : decode cX12_likeReference 152 = .ok (.getfield 466, 3) := dl_o180 kcX12_likeReference (by decide +kernel)
theorem dX12_likeReference_155 : decode cX12_likeReference 155 = .ok (.aload_n 0, 1) := dl_o42 kcX12_likeReference (by decide +kernel)
theorem dX12_likeReference_156 : decode cX12_likeReference 156 = .ok (.invokevirtual 579, 3) := dl_o182 kcX12_likeReference (by decide +kernel)
theorem dX12_likeReference_159 : decode cX12_likeReference 159 = .ok (.invokevirtual 582, 3) := dl_o182 kcX12_likeReference (by decide +kernel)
theorem dX12_likeReference_162 : decode cX12_likeReference 162 = .ok (.istore 8, 2) := dl_o54 kcX12_likeReference (by decide +kernel)
theorem dX12_likeReference_164 : decode cX12_likeReference 164 = .ok (.aload_n 0, 1) := dl_o42 kcX12_likeReference (by decide +kernel)
theorem dX12_likeReference_165 : decode cX12_likeReference 165 = .ok (.getfield 409, 3) := dl_o180 kcX12_likeReference (by decide +kernel)
theorem dX12_likeReference_168 : decode cX12_likeReference 168 = .ok (.ifCond .ne 12, 3) := dl_o154 kcX12_likeReference 12 (by decide +kernel) (by decide +kernel)
theorem dX12_likeReference_171 : decode cX12_likeReference 171 = .ok (.aload_n 0, 1) := dl_o42 kcX12_likeReference (by decide +kernel)
theorem dX12_likeReference_172 : decode cX12_likeReference 172 = .ok (.iload 8, 2) := dl_o21 kcX12_likeReference (by decide +kernel)
theorem dX12_likeReference_174 : decode cX12_likeReference 174 = .ok (.iload 6, 2) := dl_o21 kcX12_likeReference (by decide +kernel)
theorem dX12_likeReference_176 : decode cX12_likeReference 176 = .ok (.i2l, 1) := dl_o133 kcX12_likeReference (by decide +kernel)
theorem dX12_likeReference_177 : decode cX12_likeReference 177 = .ok (.invokevirtual 630, 3) := dl_o182 kcX12_likeReference (by decide +kernel)
theorem dX12_likeReference_180 : decode cX12_likeReference 180 = .ok (.iinc 7 1, 3) := by decide +kernel
theorem dX12_likeReference_183 : decode cX12_likeReference 183 = .ok (.goto (-46), 3) := dl_o167 kcX12_likeReference 65490 (by decide +kernel) (by decide +kernel)
theorem dX12_likeReference_186 : decode cX12_likeReference 186 = .ok (.aload_n 0, 1) := dl_o42 kcX12_likeReference (by decide +kernel)
theorem dX12_likeReference_187 : decode cX12_likeReference 187 = .ok (.iconst 1, 1) := dl_o4 kcX12_likeReference (by decide +kernel)
theorem dX12_likeReference_188 : decode cX12_likeReference 188 = .ok (.putfield 469, 3) := dl_o181 kcX12_likeReference (by decide +kernel)
theorem dX12_likeReference_191 : decode cX12_likeReference 191 = .ok (.return_, 1) := dl_o177 kcX12_likeReference (by decide +kernel)
theorem dX12_likeReference_192 : decode cX12_likeReference 192 = .ok (.aload_n 0, 1) := dl_o42 kcX12_likeReference (by decide +kernel)
theorem dX12_likeReference_193 : decode cX12_likeReference 193 = .ok (.invokevirtual 579, 3) := dl_o182 kcX12_likeReference (by decide +kernel)
theorem dX12_likeReference_196 : decode cX12_likeReference 196 = .ok (.istore 7, 2) := dl_o54 kcX12_likeReference (by decide +kernel)
theorem dX12_likeReference_198 : decode cX12_likeReference 198 = .ok (.iload_n 1, 1) := dl_o27 kcX12_likeReference (by decide +kernel)
theorem dX12_likeReference_199 : decode cX12_likeReference 199 = .ok (.bipush 54, 2) := dl_o16 kcX12_likeReference 54 (by decide +kernel) (by decide +kernel)
theorem dX12_likeReference_201 : decode cX12_likeReference 201 = .ok (.if_icmp .ge 94, 3) := dl_o162 kcX12_likeReference 94 (by decide +kernel) (by decide +kernel)
theorem dX12_likeReference_204 : decode cX12_likeReference 204 = .ok (.aload_n 0, 1) := dl_o42 kcX12_likeReference (by decide +kernel)
theorem dX12_likeReference_205 : decode cX12_likeReference 205 = .ok (.getfield 466, 3) := dl_o180 kcX12_likeReference (by decide +kernel)
theorem dX12_likeReference_208 : decode cX12_likeReference 208 = .ok (.iconst 1, 1) := dl_o4 kcX12_likeReference (by decide +kernel)
theorem dX12_likeReference_209 : decode cX12_likeReference 209 = .ok (.if_icmp .ne 17, 3) := dl_o160 kcX12_likeReference 17 (by decide +kernel) (by decide +kernel)
theorem dX12_likeReference_212 : decode cX12_likeReference 212 = .ok (.iload 7, 2) := dl_o21 kcX12_likeReference (by decide +kernel)
theorem dX12_likeReference_214 : decode cX12_likeReference 214 = .ok (.ifCond .lt 12, 3) := dl_o155 kcX12_likeReference 12 (by decide +kernel) (by decide +kernel)
theorem dX12_likeReference_217 : decode cX12_likeReference 217 = .ok (.iload 7, 2) := dl_o21 kcX12_likeReference (by decide +kernel)
theorem dX12_likeReference_219 : decode cX12_likeReference 219 = .ok (.aload_n 0, 1) := dl_o42 kcX12_likeReference (by decide +kernel)
theorem dX12_likeReference_220 : decode cX12_likeReference 220 = .ok (.getfield 706, 3) := dl_o180 kcX12_likeReference (by decide +kernel)
theorem dX12_likeReference_223 : decode cX12_likeReference 223 = .ok (.if_icmp .lt 9, 3) := dl_o161 kcX12_likeReference 9 (by decide +kernel) (by decide +kernel)
theorem dX12_likeReference_226 : decode cX12_likeReference 226 = .ok (.aload_n 0, 1) := dl_o42 kcX12_likeReference (by decide +kernel)
theorem dX12_likeReference_227 : decode cX12_likeReference 227 = .ok (.iconst 5, 1) := dl_o8 kcX12_likeReference (by decide +kernel)
theorem dX12_likeReference_228 : decode cX12_likeReference 228 = .ok (.invokevirtual 421, 3) := dl_o182 kcX12_likeReference (by decide +kernel)
theorem dX12_likeReference_231 : decode cX12_likeReference 231 = .ok (.return_, 1) := dl_o177 kcX12_likeReference (by decide +kernel)
theorem dX12_likeReference_232 : decode cX12_likeReference 232 = .ok (.iload 7, 2) := dl_o21 kcX12_likeReference (by decide +kernel)
theorem dX12_likeReference_234 : decode cX12_likeReference 234 = .ok (.ifCond .ne 7, 3) := dl_o154 kcX12_likeReference 7 (by decide +kernel) (by decide +kernel)
theorem dX12_likeReference_237 : decode cX12_likeReference 237 = .ok (.iconst 0, 1) := dl_o3 kcX12_likeReference (by decide +kernel)
theorem dX12_likeReference_238 : decode cX12_likeReference 238 = .ok (.goto 14, 3) := dl_o167 kcX12_likeReference 14 (by decide +kernel) (by decide +kernel)
theorem dX12_likeReference_241 : decode cX12_likeReference 241 = .ok (.aload_n 0, 1) := dl_o42 kcX12_likeReference (by decide +kernel)
theorem dX12_likeReference_242 : decode cX12_likeReference 242 = .ok (.getfield 88, 3) := dl_o180 kcX12_likeReference (by decide +kernel)
theorem dX12_likeReference_245 : decode cX12_likeReference 245 = .ok (.iload 7, 2) := dl_o21 kcX12_likeReference (by decide +kernel)
theorem dX12_likeReference_247 : decode cX12_likeReference 247 = .ok (.iconst 1, 1) := dl_o4 kcX12_likeReference (by decide +kernel)
theorem dX12_likeReference_248 : decode cX12_likeReference 248 = .ok (.isub, 1) := dl_o100 kcX12_likeReference (by decide +kernel)
theorem dX12_likeReference_249 : decode cX12_likeReference 249 = .ok (.iaload, 1) := dl_o46 kcX12_likeReference (by decide +kernel)
theorem dX12_likeReference_250 : decode cX12_likeReference 250 = .ok (.iconst 1, 1) := dl_o4 kcX12_likeReference (by decide +kernel)
theorem dX12_likeReference_251 : decode cX12_likeReference 251 = .ok (.iadd, 1) := dl_o96 kcX12_likeReference (by decide +kernel)
theorem dX12_likeReference_252 : decode cX12_likeReference 252 = .ok (.istore 8, 2) := dl_o54 kcX12_likeReference (by decide +kernel)
theorem dX12_likeReference_254 : decode cX12_likeReference 254 = .ok (.iload 8, 2) := dl_o21 kcX12_likeReference (by decide +kernel)
theorem dX12_likeReference_256 : decode cX12_likeReference 256 = .ok (.aload_n 0, 1) := dl_o42 kcX12_likeReference (by decide +kernel)
theorem dX12_likeReference_257 : decode cX12_likeReference 257 = .ok (.getfield 88, 3) := dl_o180 kcX12_likeReference (by decide +kernel)
theorem dX12_likeReference_260 : decode cX12_likeReference 260 = .ok (.iload 7, 2) := dl_o21 kcX12_likeReference (by decide +kernel)
theorem dX12_likeReference_262 : decode cX12_likeReference 262 = .ok (.iaload, 1) := dl_o46 kcX12_likeReference (by decide +kernel)
theorem dX12_likeReference_263 : decode cX12_likeReference 263 = .ok (.if_icmp .gt 31, 3) := dl_o163 kcX12_likeReference 31 (by decide +kernel) (by decide +kernel)
theorem dX12_likeReference_266 : decode cX12_likeReference 266 = .ok (.bipush 102, 2) := dl_o16 kcX12_likeReference 102 (by decide +kernel) (by decide +kernel)
theorem dX12_likeReference_268 : decode cX12_likeReference 268 = .ok (.iload 8, 2) := dl_o21 kcX12_likeReference (by decide +kernel)
theorem dX12_likeReference_270 : decode cX12_likeReference 270 = .ok (.iadd, 1) := dl_o96 kcX12_likeReference (by decide +kernel)
theorem dX12_likeReference_271 : decode cX12_likeReference 271 = .ok (.iload 5, 2) := dl_o21 kcX12_likeReference (by decide +kernel)
theorem dX12_likeReference_273 : decode cX12_likeReference 273 = .ok (.if_icmp .eq 15, 3) := dl_o159 kcX12_likeReference 15 (by decide +kernel) (by decide +kernel)
theorem dX12_likeReference_276 : decode cX12_likeReference 276 = .ok (.aload_n 0, 1) := dl_o42 kcX12_likeReference (by decide +kernel)
theorem dX12_likeReference_277 : decode cX12_likeReference 277 = .ok (.bipush 102, 2) := dl_o16 kcX12_likeReference 102 (by decide +kernel) (by decide +kernel)
theorem dX12_likeReference_279 : decode cX12_likeReference 279 = .ok (.iload 8, 2) := dl_o21 kcX12_likeReference (by decide +kernel)
theorem dX12_likeReference_281 : decode cX12_likeReference 281 = .ok (.iadd, 1) := dl_o96 kcX12_likeReference (by decide +kernel)
theorem dX12_likeReference_282 : decode cX12_likeReference 282 = .ok (.iload 6, 2) := dl_o21 kcX12_likeReference (by decide +kernel)
theorem dX12_likeReference_284 : decode cX12_likeReference 284 = .ok (.i2l, 1) := dl_o133 kcX12_likeReference (by decide +kernel)
theorem dX12_likeReference_285 : decode cX12_likeReference 285 = .ok (.invokevirtual 630, 3) := dl_o182 kcX12_likeReference (by decide +kernel)
theorem dX12_likeReference_288 : decode cX12_likeReference 288 = .ok (.iinc 8 1, 3) := by decide +kernel
theorem dX12_likeReference_291 : decode cX12_likeReference 291 = .ok (.goto (-37), 3) := dl_o167 kcX12_likeReference 65499 (by decide +kernel) (by decide +kernel)
theorem dX12_likeReference_294 : decode cX12_likeReference 294 = .ok (.return_, 1) := dl_o177 kcX12_likeReference (by decide +kernel)
theorem dX12_likeReference_295 : decode cX12_likeReference 295 = .ok (.aload_n 0, 1) := dl_o42 kcX12_likeReference (by decide +kernel)
theorem dX12_likeReference_296 : decode cX12_likeReference 296 = .ok (.iload 7, 2) := dl_o21 kcX12_likeReference (by decide +kernel)
theorem dX12_likeReference_298 : decode cX12_likeReference 298 = .ok (.invokevirtual 624, 3) := dl_o182 kcX12_likeReference (by decide +kernel)
theorem dX12_likeReference_301 : decode cX12_likeReference 301 = .ok (.ifCond .ne 9, 3) := dl_o154 kcX12_likeReference 9 (by decide +kernel) (by decide +kernel)
theorem dX12_likeReference_304 : decode cX12_likeReference 304 = .ok (.aload_n 0, 1) := dl_o42 kcX12_likeReference (by decide +kernel)
theorem dX12_likeReference_305 : decode cX12_likeReference 305 = .ok (.iconst 5, 1) := dl_o8 kcX12_likeReference (by decide +kernel)
theorem dX12_likeReference_306 : decode cX12_likeReference 306 = .ok (.invokevirtual 421, 3) := dl_o182 kcX12_likeReference (by decide +kernel)
theorem dX12_likeReference_309 : decode cX12_likeReference 309 = .ok (.return_, 1) := dl_o177 kcX12_likeReference (by decide +kernel)
theorem dX12_likeReference_310 : decode cX12_likeReference 310 = .ok (.iload 7, 2) := dl_o21 kcX12_likeReference (by decide +kernel)
theorem dX12_likeReference_312 : decode cX12_likeReference 312 = .ok (.ifCond .ne 10, 3) := dl_o154 kcX12_likeReference 10 (by decide +kernel) (by decide +kernel)
theorem dX12_likeReference_315 : decode cX12_likeReference 315 = .ok (.aload_n 0, 1) := dl_o42 kcX12_likeReference (by decide +kernel)
theorem dX12_likeReference_316 : decode cX12_likeReference 316 = .ok (.getfield 316, 3) := dl_o180 kcX12_likeReference (by decide +kernel)
theorem dX12_likeReference_319 : decode cX12_likeReference 319 = .ok (.goto 27, 3) := dl_o167 kcX12_likeReference 27 (by decide +kernel) (by decide +kernel)
theorem dX12_likeReference_322 : decode cX12_likeReference 322 = .ok (.aload_n 0, 1) := dl_o42 kcX12_likeReference (by decide +kernel)
theorem dX12_likeReference_323 : decode cX12_likeReference 323 = .ok (.getfield 706, 3) := dl_o180 kcX12_likeReference (by decide +kernel)
theorem dX12_likeReference_326 : decode cX12_likeReference 326 = .ok (.ifCond .ne 7, 3) := dl_o154 kcX12_likeReference 7 (by decide +kernel) (by decide +kernel)
theorem dX12_likeReference_329 : decode cX12_likeReference 329 = .ok (.iconst 0, 1) := dl_o3 kcX12_likeReference (by decide +kernel)
theorem dX12_likeReference_330 : decode cX12_likeReference 330 = .ok (.goto 16, 3) := dl_o167 kcX12_likeReference 16 (by decide +kernel) (by decide +kernel)
theorem dX12_likeReference_333 : decode cX12_likeReference 333 = .ok (.aload_n 0, 1) := dl_o42 kcX12_likeReference (by decide +kernel)
theorem dX12_likeReference_334 : decode cX12_likeReference 334 = .ok (.getfield 88, 3) := dl_o180 kcX12_likeReference (by decide +kernel)
theorem dX12_likeReference_337 : decode cX12_likeReference 337 = .ok (.aload_n 0, 1) := dl_o42 kcX12_likeReference (by decide +kernel)
theorem dX12_likeReference_338 : decode cX12_likeReference 338 = .ok (.getfield 706, 3) := dl_o180 kcX12_likeReference (by decide +kernel)
theorem dX12_likeReference_341 : decode cX12_likeReference 341 = .ok (.iconst 1, 1) := dl_o4 kcX12_likeReference (by decide +kernel)
theorem dX12_likeReference_342 : decode cX12_likeReference 342 = .ok (.isub, 1) := dl_o100 kcX12_likeReference (by decide +kernel)
theorem dX12_likeReference_343 : decode cX12_likeReference 343 = .ok (.iaload, 1) := dl_o46 kcX12_likeReference (by decide +kernel)
theorem dX12_likeReference_344 : decode cX12_likeReference 344 = .ok (.iconst 1, 1) := dl_o4 kcX12_likeReference (by decide +kernel)
theorem dX12_likeReference_345 : decode cX12_likeReference 345 = .ok (.iadd, 1) := dl_o96 kcX12_likeReference (by decide +kernel)
theorem dX12_likeReference_346 : decode cX12_likeReference 346 = .ok (.istore 8, 2) := dl_o54 kcX12_likeReference (by decide +kernel)
theorem dX12_likeReference_348 : decode cX12_likeReference 348 = .ok (.bipush 102, 2) := dl_o16 kcX12_likeReference 102 (by decide +kernel) (by decide +kernel)
theorem dX12_likeReference_350 : decode cX12_likeReference 350 = .ok (.iload 7, 2) := dl_o21 kcX12_likeReference (by decide +kernel)
theorem dX12_likeReference_352 : decode cX12_likeReference 352 = .ok (.imul, 1) := dl_o104 kcX12_likeReference (by decide +kernel)
theorem dX12_likeReference_353 : decode cX12_likeReference 353 = .ok (.istore 9, 2) := dl_o54 kcX12_likeReference (by decide +kernel)
theorem dX12_likeReference_355 : decode cX12_likeReference 355 = .ok (.iload 9, 2) := dl_o21 kcX12_likeReference (by decide +kernel)
theorem dX12_likeReference_357 : decode cX12_likeReference 357 = .ok (.bipush 102, 2) := dl_o16 kcX12_likeReference 102 (by decide +kernel) (by decide +kernel)
theorem dX12_likeReference_359 : decode cX12_likeReference 359 = .ok (.iload 7, 2) := dl_o21 kcX12_likeReference (by decide +kernel)
theorem dX12_likeReference_361 : decode cX12_likeReference 361 = .ok (.imul, 1) := dl_o104 kcX12_likeReference (by decide +kernel)
theorem dX12_likeReference_362 : decode cX12_likeReference 362 = .ok (.iload 8, 2) := dl_o21 kcX12_likeReference (by decide +kernel)
theorem dX12_likeReference_364 : decode cX12_likeReference 364 = .ok (.iadd, 1) := dl_o96 kcX12_likeReference (by decide +kernel)
theorem dX12_likeReference_365 : decode cX12_likeReference 365 = .ok (.if_icmp .ge 26, 3) := dl_o162 kcX12_likeReference 26 (by decide +kernel) (by decide +kernel)
theorem dX12_likeReference_368 : decode cX12_likeReference 368 = .ok (.iload 9, 2) := dl_o21 kcX12_likeReference (by decide +kernel)
theorem dX12_likeReference_370 : decode cX12_likeReference 370 = .ok (.iload 5, 2) := dl_o21 kcX12_likeReference (by decide +kernel)
theorem dX12_likeReference_372 : decode cX12_likeReference 372 = .ok (.if_icmp .eq 13, 3) := dl_o159 kcX12_likeReference 13 (by decide +kernel) (by decide +kernel)
theorem dX12_likeReference_375 : decode cX12_likeReference 375 = .ok (.aload_n 0, 1) := dl_o42 kcX12_likeReference (by decide +kernel)
theorem dX12_likeReference_376 : decode cX12_likeReference 376 = .ok (.iload 9, 2) := dl_o21 kcX12_likeReference (by decide +kernel)
theorem dX12_likeReference_378 : decode cX12_likeReference 378 = .ok (.iload 6, 2) := dl_o21 kcX12_likeReference (by decide +kernel)
theorem dX12_likeReference_380 : decode cX12_likeReference 380 = .ok (.i2l, 1) := dl_o133 kcX12_likeReference (by decide +kernel)
theorem dX12_likeReference_381 : decode cX12_likeReference 381 = .ok (.iconst 0, 1) := dl_o3 kcX12_likeReference (by decide +kernel)
theorem dX12_likeReference_382 : decode cX12_likeReference 382 = .ok (.invokevirtual 529, 3) := dl_o182 kcX12_likeReference (by decide +kernel)
theorem dX12_likeReference_385 : decode cX12_likeReference 385 = .ok (.iinc 9 1, 3) := by decide +kernel
theorem dX12_likeReference_388 : decode cX12_likeReference 388 = .ok (.goto (-33), 3) := dl_o167 kcX12_likeReference 65503 (by decide +kernel) (by decide +kernel)
theorem dX12_likeReference_391 : decode cX12_likeReference 391 = .ok (.return_, 1) := dl_o177 kcX12_likeReference (by decide +kernel)
def B_X12_likeReference_180 (N : Nat) (k137 : Int32 → Int32 → Int32 → sv_V → Option sv_V) (l2 : Int32) (l6 : Int32) (l7 : Int32) (V : sv_V) : Option sv_V := sx_let (l7 + 1) (fun x1 => k137 l2 l6 x1 V)
set_option maxRecDepth 20000 in
theorem tB_X12_likeReference_180 {g : sx_G} (hG : sx_Go g) {P : Option Value → sv_V → Prop} {Vr : sv_V} (hP : P none Vr) {N : Nat} {k137 : Int32 → Int32 → Int32 → sv_V → Option sv_V} (hk137 : ∀ (l2 : Int32) (l6 : Int32) (l7 : Int32) (V : sv_V), k137 l2 l6 l7 V = some Vr → sv_N g qX12_likeReference 5 137 [(0, .ref 146), (2, .int l2), (6, .int l6), (7, .int l7)] [] V P) {l2 : Int32} {l6 : Int32} {l7 : Int32} {V : sv_V} (h : B_X12_likeReference_180 N k137 l2 l6 l7 V = some Vr) : sv_N g qX12_likeReference 5 180 [(0, .ref 146), (2, .int l2), (6, .int l6), (7, .int l7)] [] V P := by
  unfold B_X12_likeReference_180 at h
  obtain ⟨x1, hx1⟩ : ∃ z : Int32, z = l7 + 1 := ⟨_, rfl⟩
  have h := sx_letE hx1 h
  refine sx_iinc (pc := 180) (v := x1) (lo' := [(7, .int x1), (0, .ref 146), (2, .int l2), (6, .int l6)]) dX12_likeReference_180 sx_m3 (by rw [hx1]; rfl) (by decide) rfl ?_
  refine sx_goto (pc := 183) (tgt := 137) dX12_likeReference_183 (by decide) ?_
  refine sx_wk (sx_s1 sx_m1 (sx_s1 sx_m2 (sx_s1 sx_m3 (sx_s1 sx_m0 sx_s0)))) ?_
  exact hk137 _ _ _ _ h
def B_X12_likeReference_137 (N : Nat) (k137 : Int32 → Int32 → Int32 → sv_V → Option sv_V) (l2 : Int32) (l6 : Int32) (l7 : Int32) (V : sv_V) : Option sv_V := if l2 ≤ l7 then (sx_let (sv_I V 146 75 (1 : Int32)) (fun V3 => some V3)) else (if (V.1 146 59) = 0 then ((F_X12_pop  V).bind (fun (x8, V6) => (F_X12_pointOf (V.1 146 74) x8 V6).bind (fun (x11, V9) => if (V9.1 146 59) = 0 then ((F_X12_move x11 l6.toInt64 V9).bind (fun V13 => B_X12_likeReference_180 N k137 l2 l6 l7 V13)) else (B_X12_likeReference_180 N k137 l2 l6 l7 V9)))) else (sx_let (sv_I V 146 75 (1 : Int32)) (fun V5 => some V5)))
set_option maxRecDepth 20000 in
theorem tB_X12_likeReference_137 {g : sx_G} (hG : sx_Go g) {P : Option Value → sv_V → Prop} {Vr : sv_V} (hP : P none Vr) {N : Nat} {k137 : Int32 → Int32 → Int32 → sv_V → Option sv_V} (hk137 : ∀ (l2 : Int32) (l6 : Int32) (l7 : Int32) (V : sv_V), k137 l2 l6 l7 V = some Vr → sv_N g qX12_likeReference 5 137 [(0, .ref 146), (2, .int l2), (6, .int l6), (7, .int l7)] [] V P) {l2 : Int32} {l6 : Int32} {l7 : Int32} {V : sv_V} (h : B_X12_likeReference_137 N k137 l2 l6 l7 V = some Vr) : sv_N g qX12_likeReference 5 137 [(0, .ref 146), (2, .int l2), (6, .int l6), (7, .int l7)] [] V P := by
  unfold B_X12_likeReference_137 at h
  refine sx_iload (pc := 137) dX12_likeReference_137 sx_m3 ?_
  refine sx_iload_n (pc := 139) dX12_likeReference_139 sx_m1 ?_
  refine sx_icmp_ge (pc := 140) (tgt := 186) dX12_likeReference_140 (by decide) (fun c2 => ?_) (fun c2 => ?_)
  · have h := sx_pos c2 h
    refine sx_aload_n (pc := 186) dX12_likeReference_186 sx_m0 ?_
    refine sx_iconst (pc := 187) (v := 1) dX12_likeReference_187 (by decide) ?_
    obtain ⟨V3, hV3⟩ : ∃ z : sv_V, z = sv_I V 146 75 (1 : Int32) := ⟨_, rfl⟩
    have h := sx_letE hV3 h
    refine sv_putI (pc := 188) hG dX12_likeReference_188 f_12_469 lay_146 rfl hV3 ?_
    exact sv_vret (pc := 191) dX12_likeReference_191 rfl h hP
  · have h := sx_neg c2 h
    refine sx_aload_n (pc := 143) dX12_likeReference_143 sx_m0 ?_
    refine sv_getI (pc := 144) hG dX12_likeReference_144 f_12_409 lay_146 rfl ?_
    refine sx_if_ne (pc := 147) (tgt := 186) dX12_likeReference_147 (by decide) (fun c4 => ?_) (fun c4 => ?_)
    · have h := sx_neg c4 h
      refine sx_aload_n (pc := 186) dX12_likeReference_186 sx_m0 ?_
      refine sx_iconst (pc := 187) (v := 1) dX12_likeReference_187 (by decide) ?_
      obtain ⟨V5, hV5⟩ : ∃ z : sv_V, z = sv_I V 146 75 (1 : Int32) := ⟨_, rfl⟩
      have h := sx_letE hV5 h
      refine sv_putI (pc := 188) hG dX12_likeReference_188 f_12_469 lay_146 rfl hV5 ?_
      exact sv_vret (pc := 191) dX12_likeReference_191 rfl h hP
    · have h := sx_pos c4 h
      refine sx_aload_n (pc := 150) dX12_likeReference_150 sx_m0 ?_
      refine sx_aload_n (pc := 151) dX12_likeReference_151 sx_m0 ?_
      refine sv_getI (pc := 152) hG dX12_likeReference_152 f_12_466 lay_146 rfl ?_
      refine sx_aload_n (pc := 155) dX12_likeReference_155 sx_m0 ?_
      obtain ⟨⟨x8, V6⟩, g7, h⟩ := sx_bnd h
      refine sv_cV (pc := 156) (y := qX12_pop) (o := (some (.int x8))) (as := []) (V1 := V6) hG dX12_likeReference_156 l_X12_579 y0X12_pop yvX12_pop rfl (Nat.le_of_ble_eq_true rfl) lay_146 kr_12 (by decide) (Nat.le_of_ble_eq_true rfl) rfl rfl rfl (t_X12_pop hG ⟨rfl, rfl⟩ g7) ?_
      obtain ⟨⟨x11, V9⟩, g10, h⟩ := sx_bnd h
      refine sv_cV (pc := 159) (y := qX12_pointOf) (o := (some (.int x11))) (as := [.int (V.1 146 74), .int x8]) (V1 := V9) hG dX12_likeReference_159 l_X12_582 y0X12_pointOf yvX12_pointOf rfl (Nat.le_of_ble_eq_true rfl) lay_146 kr_12 (by decide) (Nat.le_of_ble_eq_true rfl) rfl rfl rfl (t_X12_pointOf hG ⟨rfl, rfl⟩ g10) ?_
      refine sx_istore (pc := 162) (lo' := [(8, .int x11), (0, .ref 146), (2, .int l2), (6, .int l6), (7, .int l7)]) dX12_likeReference_162 (by decide) rfl ?_
      refine sx_aload_n (pc := 164) dX12_likeReference_164 sx_m1 ?_
      refine sv_getI (pc := 165) hG dX12_likeReference_165 f_12_409 lay_146 rfl ?_
      refine sx_if_ne (pc := 168) (tgt := 180) dX12_likeReference_168 (by decide) (fun c12 => ?_) (fun c12 => ?_)
      · have h := sx_neg c12 h
        refine sx_wk (sx_s1 sx_m1 (sx_s1 sx_m2 (sx_s1 sx_m3 (sx_s1 sx_m4 sx_s0)))) ?_
        exact tB_X12_likeReference_180 hG hP hk137 h
      · have h := sx_pos c12 h
        refine sx_aload_n (pc := 171) dX12_likeReference_171 sx_m1 ?_
        refine sx_iload (pc := 172) dX12_likeReference_172 sx_m0 ?_
        refine sx_iload (pc := 174) dX12_likeReference_174 sx_m3 ?_
        refine sx_i2l (pc := 176) dX12_likeReference_176 ?_
        obtain ⟨V13, g14, h⟩ := sx_bnd h
        refine sv_cV (pc := 177) (y := qX12_move) (o := none) (as := [.int x11, .long l6.toInt64]) (V1 := V13) hG dX12_likeReference_177 l_X12_630 y0X12_move yvX12_move rfl (Nat.le_of_ble_eq_true rfl) lay_146 kr_12 (by decide) (Nat.le_of_ble_eq_true rfl) rfl rfl rfl (t_X12_move hG ⟨rfl, rfl⟩ g14) ?_
        refine sx_wk (sx_s1 sx_m1 (sx_s1 sx_m2 (sx_s1 sx_m3 (sx_s1 sx_m4 sx_s0)))) ?_
        exact tB_X12_likeReference_180 hG hP hk137 h
theorem tL_X12_likeReference_137 {g : sx_G} (hG : sx_Go g) {P : Option Value → sv_V → Prop} {Vr : sv_V} (hP : P none Vr) {N : Nat}   : ∀ (n : Nat) (l2 : Int32) (l6 : Int32) (l7 : Int32) (V : sv_V), sx_lp4 (B_X12_likeReference_137 N ) n l2 l6 l7 V = some Vr → sv_N g qX12_likeReference 5 137 [(0, .ref 146), (2, .int l2), (6, .int l6), (7, .int l7)] [] V P :=
  sx_lp4_ind (fun k0 ih _ _ _ V h => tB_X12_likeReference_137 hG hP ih h)
def B_X12_likeReference_226 (N : Nat)   (V : sv_V) : Option sv_V := (F_X12_fail (5 : Int32) V).bind (fun V15 => some V15)
set_option maxRecDepth 20000 in
theorem tB_X12_likeReference_226 {g : sx_G} (hG : sx_Go g) {P : Option Value → sv_V → Prop} {Vr : sv_V} (hP : P none Vr) {N : Nat}    {V : sv_V} (h : B_X12_likeReference_226 N   V = some Vr) : sv_N g qX12_likeReference 5 226 [(0, .ref 146)] [] V P := by
  unfold B_X12_likeReference_226 at h
  refine sx_aload_n (pc := 226) dX12_likeReference_226 sx_m0 ?_
  refine sx_iconst (pc := 227) (v := 5) dX12_likeReference_227 (by decide) ?_
  obtain ⟨V15, g16, h⟩ := sx_bnd h
  refine sv_cV (pc := 228) (y := qX12_fail) (o := none) (as := [.int (5 : Int32)]) (V1 := V15) hG dX12_likeReference_228 l_X12_421 y0X12_fail yvX12_fail rfl (Nat.le_of_ble_eq_true rfl) lay_146 kr_12 (by decide) (Nat.le_of_ble_eq_true rfl) rfl rfl rfl (t_X12_fail hG ⟨rfl, rfl⟩ g16) ?_
  exact sv_vret (pc := 231) dX12_likeReference_231 rfl h hP
def B_X12_likeReference_288 (N : Nat) (k254 : Int32 → Int32 → Int32 → Int32 → sv_V → Option sv_V) (l5 : Int32) (l6 : Int32) (l7 : Int32) (l8 : Int32) (V : sv_V) : Option sv_V := sx_let (l8 + 1) (fun x17 => k254 l5 l6 l7 x17 V)
set_option maxRecDepth 20000 in
theorem tB_X12_likeReference_288 {g : sx_G} (hG : sx_Go g) {P : Option Value → sv_V → Prop} {Vr : sv_V} (hP : P none Vr) {N : Nat} {k254 : Int32 → Int32 → Int32 → Int32 → sv_V → Option sv_V} (hk254 : ∀ (l5 : Int32) (l6 : Int32) (l7 : Int32) (l8 : Int32) (V : sv_V), k254 l5 l6 l7 l8 V = some Vr → sv_N g qX12_likeReference 5 254 [(0, .ref 146), (5, .int l5), (6, .int l6), (7, .int l7), (8, .int l8)] [] V P) {l5 : Int32} {l6 : Int32} {l7 : Int32} {l8 : Int32} {V : sv_V} (h : B_X12_likeReference_288 N k254 l5 l6 l7 l8 V = some Vr) : sv_N g qX12_likeReference 5 288 [(0, .ref 146), (5, .int l5), (6, .int l6), (7, .int l7), (8, .int l8)] [] V P := by
  unfold B_X12_likeReference_288 at h
  obtain ⟨x17, hx17⟩ : ∃ z : Int32, z = l8 + 1 := ⟨_, rfl⟩
  have h := sx_letE hx17 h
  refine sx_iinc (pc := 288) (v := x17) (lo' := [(8, .int x17), (0, .ref 146), (5, .int l5), (6, .int l6), (7, .int l7)]) dX12_likeReference_288 sx_m4 (by rw [hx17]; rfl) (by decide) rfl ?_
  refine sx_goto (pc := 291) (tgt := 254) dX12_likeReference_291 (by decide) ?_
  refine sx_wk (sx_s1 sx_m1 (sx_s1 sx_m2 (sx_s1 sx_m3 (sx_s1 sx_m4 (sx_s1 sx_m0 sx_s0))))) ?_
  exact hk254 _ _ _ _ _ h
def B_X12_likeReference_254 (N : Nat) (k254 : Int32 → Int32 → Int32 → Int32 → sv_V → Option sv_V) (l5 : Int32) (l6 : Int32) (l7 : Int32) (l8 : Int32) (V : sv_V) : Option sv_V := if sx_in l7 20 = true then if (V.1 172 l7.toNatClampNeg) < l8 then (some V) else (if ((102 : Int32) + l8) = l5 then (B_X12_likeReference_288 N k254 l5 l6 l7 l8 V) else ((F_X12_move ((102 : Int32) + l8) l6.toInt64 V).bind (fun V21 => B_X12_likeReference_288 N k254 l5 l6 l7 l8 V21))) else none
set_option maxRecDepth 20000 in
theorem tB_X12_likeReference_254 {g : sx_G} (hG : sx_Go g) {P : Option Value → sv_V → Prop} {Vr : sv_V} (hP : P none Vr) {N : Nat} {k254 : Int32 → Int32 → Int32 → Int32 → sv_V → Option sv_V} (hk254 : ∀ (l5 : Int32) (l6 : Int32) (l7 : Int32) (l8 : Int32) (V : sv_V), k254 l5 l6 l7 l8 V = some Vr → sv_N g qX12_likeReference 5 254 [(0, .ref 146), (5, .int l5), (6, .int l6), (7, .int l7), (8, .int l8)] [] V P) {l5 : Int32} {l6 : Int32} {l7 : Int32} {l8 : Int32} {V : sv_V} (h : B_X12_likeReference_254 N k254 l5 l6 l7 l8 V = some Vr) : sv_N g qX12_likeReference 5 254 [(0, .ref 146), (5, .int l5), (6, .int l6), (7, .int l7), (8, .int l8)] [] V P := by
  unfold B_X12_likeReference_254 at h
  refine sx_iload (pc := 254) dX12_likeReference_254 sx_m4 ?_
  refine sx_aload_n (pc := 256) dX12_likeReference_256 sx_m0 ?_
  refine sv_getA (pc := 257) hG dX12_likeReference_257 f_12_88 lay_146 rfl cr_146_54 ?_
  refine sx_iload (pc := 260) dX12_likeReference_260 sx_m3 ?_
  obtain ⟨g18, h⟩ := sx_grd h
  refine sv_iald (pc := 262) hG dX12_likeReference_262 lay_172 g18 ?_
  refine sx_icmp_gt (pc := 263) (tgt := 294) dX12_likeReference_263 (by decide) (fun c19 => ?_) (fun c19 => ?_)
  · have h := sx_pos c19 h
    exact sv_vret (pc := 294) dX12_likeReference_294 rfl h hP
  · have h := sx_neg c19 h
    refine sx_bipush (pc := 266) (v := 102) dX12_likeReference_266 (by decide) ?_
    refine sx_iload (pc := 268) dX12_likeReference_268 sx_m4 ?_
    refine sx_iadd (pc := 270) dX12_likeReference_270 ?_
    refine sx_iload (pc := 271) dX12_likeReference_271 sx_m1 ?_
    refine sx_icmp_eq (pc := 273) (tgt := 288) dX12_likeReference_273 (by decide) (fun c20 => ?_) (fun c20 => ?_)
    · have h := sx_pos c20 h
      refine sx_wk (sx_s1 sx_m0 (sx_s1 sx_m1 (sx_s1 sx_m2 (sx_s1 sx_m3 (sx_s1 sx_m4 sx_s0))))) ?_
      exact tB_X12_likeReference_288 hG hP hk254 h
    · have h := sx_neg c20 h
      refine sx_aload_n (pc := 276) dX12_likeReference_276 sx_m0 ?_
      refine sx_bipush (pc := 277) (v := 102) dX12_likeReference_277 (by decide) ?_
      refine sx_iload (pc := 279) dX12_likeReference_279 sx_m4 ?_
      refine sx_iadd (pc := 281) dX12_likeReference_281 ?_
      refine sx_iload (pc := 282) dX12_likeReference_282 sx_m2 ?_
      refine sx_i2l (pc := 284) dX12_likeReference_284 ?_
      obtain ⟨V21, g22, h⟩ := sx_bnd h
      refine sv_cV (pc := 285) (y := qX12_move) (o := none) (as := [.int ((102 : Int32) + l8), .long l6.toInt64]) (V1 := V21) hG dX12_likeReference_285 l_X12_630 y0X12_move yvX12_move rfl (Nat.le_of_ble_eq_true rfl) lay_146 kr_12 (by decide) (Nat.le_of_ble_eq_true rfl) rfl rfl rfl (t_X12_move hG ⟨rfl, rfl⟩ g22) ?_
      refine sx_wk (sx_s1 sx_m0 (sx_s1 sx_m1 (sx_s1 sx_m2 (sx_s1 sx_m3 (sx_s1 sx_m4 sx_s0))))) ?_
      exact tB_X12_likeReference_288 hG hP hk254 h
theorem tL_X12_likeReference_254 {g : sx_G} (hG : sx_Go g) {P : Option Value → sv_V → Prop} {Vr : sv_V} (hP : P none Vr) {N : Nat}   : ∀ (n : Nat) (l5 : Int32) (l6 : Int32) (l7 : Int32) (l8 : Int32) (V : sv_V), sx_lp5 (B_X12_likeReference_254 N ) n l5 l6 l7 l8 V = some Vr → sv_N g qX12_likeReference 5 254 [(0, .ref 146), (5, .int l5), (6, .int l6), (7, .int l7), (8, .int l8)] [] V P :=
  sx_lp5_ind (fun k0 ih _ _ _ _ V h => tB_X12_likeReference_254 hG hP ih h)
def B_X12_likeReference_252 (N : Nat)  (l5 : Int32) (l6 : Int32) (l7 : Int32) (s0 : Int32) (V : sv_V) : Option sv_V := sx_lp5 (B_X12_likeReference_254 N ) N l5 l6 l7 s0 V
set_option maxRecDepth 20000 in
theorem tB_X12_likeReference_252 {g : sx_G} (hG : sx_Go g) {P : Option Value → sv_V → Prop} {Vr : sv_V} (hP : P none Vr) {N : Nat}   {l5 : Int32} {l6 : Int32} {l7 : Int32} {s0 : Int32} {V : sv_V} (h : B_X12_likeReference_252 N  l5 l6 l7 s0 V = some Vr) : sv_N g qX12_likeReference 5 252 [(0, .ref 146), (5, .int l5), (6, .int l6), (7, .int l7)] [.int s0] V P := by
  unfold B_X12_likeReference_252 at h
  refine sx_istore (pc := 252) (lo' := [(8, .int s0), (0, .ref 146), (5, .int l5), (6, .int l6), (7, .int l7)]) dX12_likeReference_252 (by decide) rfl ?_
  refine sx_wk (sx_s1 sx_m1 (sx_s1 sx_m2 (sx_s1 sx_m3 (sx_s1 sx_m4 (sx_s1 sx_m0 sx_s0))))) ?_
  exact tL_X12_likeReference_254 hG hP  N _ _ _ _ _ h
def B_X12_likeReference_385 (N : Nat) (k355 : Int32 → Int32 → Int32 → Int32 → Int32 → sv_V → Option sv_V) (l5 : Int32) (l6 : Int32) (l7 : Int32) (l8 : Int32) (l9 : Int32) (V : sv_V) : Option sv_V := sx_let (l9 + 1) (fun x23 => k355 l5 l6 l7 l8 x23 V)
set_option maxRecDepth 20000 in
theorem tB_X12_likeReference_385 {g : sx_G} (hG : sx_Go g) {P : Option Value → sv_V → Prop} {Vr : sv_V} (hP : P none Vr) {N : Nat} {k355 : Int32 → Int32 → Int32 → Int32 → Int32 → sv_V → Option sv_V} (hk355 : ∀ (l5 : Int32) (l6 : Int32) (l7 : Int32) (l8 : Int32) (l9 : Int32) (V : sv_V), k355 l5 l6 l7 l8 l9 V = some Vr → sv_N g qX12_likeReference 5 355 [(0, .ref 146), (5, .int l5), (6, .int l6), (7, .int l7), (8, .int l8), (9, .int l9)] [] V P) {l5 : Int32} {l6 : Int32} {l7 : Int32} {l8 : Int32} {l9 : Int32} {V : sv_V} (h : B_X12_likeReference_385 N k355 l5 l6 l7 l8 l9 V = some Vr) : sv_N g qX12_likeReference 5 385 [(0, .ref 146), (5, .int l5), (6, .int l6), (7, .int l7), (8, .int l8), (9, .int l9)] [] V P := by
  unfold B_X12_likeReference_385 at h
  obtain ⟨x23, hx23⟩ : ∃ z : Int32, z = l9 + 1 := ⟨_, rfl⟩
  have h := sx_letE hx23 h
  refine sx_iinc (pc := 385) (v := x23) (lo' := [(9, .int x23), (0, .ref 146), (5, .int l5), (6, .int l6), (7, .int l7), (8, .int l8)]) dX12_likeReference_385 sx_m5 (by rw [hx23]; rfl) (by decide) rfl ?_
  refine sx_goto (pc := 388) (tgt := 355) dX12_likeReference_388 (by decide) ?_
  refine sx_wk (sx_s1 sx_m1 (sx_s1 sx_m2 (sx_s1 sx_m3 (sx_s1 sx_m4 (sx_s1 sx_m5 (sx_s1 sx_m0 sx_s0)))))) ?_
  exact hk355 _ _ _ _ _ _ h
def B_X12_likeReference_355 (N : Nat) (k355 : Int32 → Int32 → Int32 → Int32 → Int32 → sv_V → Option sv_V) (l5 : Int32) (l6 : Int32) (l7 : Int32) (l8 : Int32) (l9 : Int32) (V : sv_V) : Option sv_V := if (((102 : Int32) * l7) + l8) ≤ l9 then (some V) else (if l9 = l5 then (B_X12_likeReference_385 N k355 l5 l6 l7 l8 l9 V) else ((F_X12_shiftBy l9 l6.toInt64 (0 : Int32) V).bind (fun V26 => B_X12_likeReference_385 N k355 l5 l6 l7 l8 l9 V26)))
set_option maxRecDepth 20000 in
theorem tB_X12_likeReference_355 {g : sx_G} (hG : sx_Go g) {P : Option Value → sv_V → Prop} {Vr : sv_V} (hP : P none Vr) {N : Nat} {k355 : Int32 → Int32 → Int32 → Int32 → Int32 → sv_V → Option sv_V} (hk355 : ∀ (l5 : Int32) (l6 : Int32) (l7 : Int32) (l8 : Int32) (l9 : Int32) (V : sv_V), k355 l5 l6 l7 l8 l9 V = some Vr → sv_N g qX12_likeReference 5 355 [(0, .ref 146), (5, .int l5), (6, .int l6), (7, .int l7), (8, .int l8), (9, .int l9)] [] V P) {l5 : Int32} {l6 : Int32} {l7 : Int32} {l8 : Int32} {l9 : Int32} {V : sv_V} (h : B_X12_likeReference_355 N k355 l5 l6 l7 l8 l9 V = some Vr) : sv_N g qX12_likeReference 5 355 [(0, .ref 146), (5, .int l5), (6, .int l6), (7, .int l7), (8, .int l8), (9, .int l9)] [] V P := by
  unfold B_X12_likeReference_355 at h
  refine sx_iload (pc := 355) dX12_likeReference_355 sx_m5 ?_
  refine sx_bipush (pc := 357) (v := 102) dX12_likeReference_357 (by decide) ?_
  refine sx_iload (pc := 359) dX12_likeReference_359 sx_m3 ?_
  refine sx_imul (pc := 361) dX12_likeReference_361 ?_
  refine sx_iload (pc := 362) dX12_likeReference_362 sx_m4 ?_
  refine sx_iadd (pc := 364) dX12_likeReference_364 ?_
  refine sx_icmp_ge (pc := 365) (tgt := 391) dX12_likeReference_365 (by decide) (fun c24 => ?_) (fun c24 => ?_)
  · have h := sx_pos c24 h
    exact sv_vret (pc := 391) dX12_likeReference_391 rfl h hP
  · have h := sx_neg c24 h
    refine sx_iload (pc := 368) dX12_likeReference_368 sx_m5 ?_
    refine sx_iload (pc := 370) dX12_likeReference_370 sx_m1 ?_
    refine sx_icmp_eq (pc := 372) (tgt := 385) dX12_likeReference_372 (by decide) (fun c25 => ?_) (fun c25 => ?_)
    · have h := sx_pos c25 h
      refine sx_wk (sx_s1 sx_m0 (sx_s1 sx_m1 (sx_s1 sx_m2 (sx_s1 sx_m3 (sx_s1 sx_m4 (sx_s1 sx_m5 sx_s0)))))) ?_
      exact tB_X12_likeReference_385 hG hP hk355 h
    · have h := sx_neg c25 h
      refine sx_aload_n (pc := 375) dX12_likeReference_375 sx_m0 ?_
      refine sx_iload (pc := 376) dX12_likeReference_376 sx_m5 ?_
      refine sx_iload (pc := 378) dX12_likeReference_378 sx_m2 ?_
      refine sx_i2l (pc := 380) dX12_likeReference_380 ?_
      refine sx_iconst (pc := 381) (v := 0) dX12_likeReference_381 (by decide) ?_
      obtain ⟨V26, g27, h⟩ := sx_bnd h
      refine sv_cV (pc := 382) (y := qX12_shiftBy) (o := none) (as := [.int l9, .long l6.toInt64, .int (0 : Int32)]) (V1 := V26) hG dX12_likeReference_382 l_X12_529 y0X12_shiftBy yvX12_shiftBy rfl (Nat.le_of_ble_eq_true rfl) lay_146 kr_12 (by decide) (Nat.le_of_ble_eq_true rfl) rfl rfl rfl (t_X12_shiftBy hG ⟨rfl, rfl⟩ g27) ?_
      refine sx_wk (sx_s1 sx_m0 (sx_s1 sx_m1 (sx_s1 sx_m2 (sx_s1 sx_m3 (sx_s1 sx_m4 (sx_s1 sx_m5 sx_s0)))))) ?_
      exact tB_X12_likeReference_385 hG hP hk355 h
theorem tL_X12_likeReference_355 {g : sx_G} (hG : sx_Go g) {P : Option Value → sv_V → Prop} {Vr : sv_V} (hP : P none Vr) {N : Nat}   : ∀ (n : Nat) (l5 : Int32) (l6 : Int32) (l7 : Int32) (l8 : Int32) (l9 : Int32) (V : sv_V), sx_lp6 (B_X12_likeReference_355 N ) n l5 l6 l7 l8 l9 V = some Vr → sv_N g qX12_likeReference 5 355 [(0, .ref 146), (5, .int l5), (6, .int l6), (7, .int l7), (8, .int l8), (9, .int l9)] [] V P :=
  sx_lp6_ind (fun k0 ih _ _ _ _ _ V h => tB_X12_likeReference_355 hG hP ih h)
def B_X12_likeReference_346 (N : Nat)  (l5 : Int32) (l6 : Int32) (l7 : Int32) (s0 : Int32) (V : sv_V) : Option sv_V := sx_let ((102 : Int32) * l7) (fun x28 => sx_lp6 (B_X12_likeReference_355 N ) N l5 l6 l7 s0 x28 V)
set_option maxRecDepth 20000 in
theorem tB_X12_likeReference_346 {g : sx_G} (hG : sx_Go g) {P : Option Value → sv_V → Prop} {Vr : sv_V} (hP : P none Vr) {N : Nat}   {l5 : Int32} {l6 : Int32} {l7 : Int32} {s0 : Int32} {V : sv_V} (h : B_X12_likeReference_346 N  l5 l6 l7 s0 V = some Vr) : sv_N g qX12_likeReference 5 346 [(0, .ref 146), (5, .int l5), (6, .int l6), (7, .int l7)] [.int s0] V P := by
  unfold B_X12_likeReference_346 at h
  refine sx_istore (pc := 346) (lo' := [(8, .int s0), (0, .ref 146), (5, .int l5), (6, .int l6), (7, .int l7)]) dX12_likeReference_346 (by decide) rfl ?_
  refine sx_bipush (pc := 348) (v := 102) dX12_likeReference_348 (by decide) ?_
  refine sx_iload (pc := 350) dX12_likeReference_350 sx_m4 ?_
  refine sx_imul (pc := 352) dX12_likeReference_352 ?_
  refine sv_tI (fun x28 hx28 => ?_)
  have h := sx_letE hx28 h
  refine sx_istore (pc := 353) (lo' := [(9, .int x28), (8, .int s0), (0, .ref 146), (5, .int l5), (6, .int l6), (7, .int l7)]) dX12_likeReference_353 (by decide) rfl ?_
  refine sx_wk (sx_s1 sx_m2 (sx_s1 sx_m3 (sx_s1 sx_m4 (sx_s1 sx_m5 (sx_s1 sx_m1 (sx_s1 sx_m0 sx_s0)))))) ?_
  exact tL_X12_likeReference_355 hG hP  N _ _ _ _ _ _ h
def B_X12_likeReference_72 (N : Nat)  (l1 : Int32) (l2 : Int32) (s1 : Int32) (s2 : Int32) (V : sv_V) : Option sv_V := (F_X12_pointOf s1 s2 V).bind (fun (x31, V29) => if (V29.1 146 59) ≤ 0 then (if sx_in x31 204 = true then if sx_in x31 204 = true then if sx_in x31 204 = true then if sx_in x31 204 = true then (F_X12_by ((V29.1 168 x31.toNatClampNeg) - (V29.1 166 x31.toNatClampNeg)) ((V29.1 169 x31.toNatClampNeg) - (V29.1 167 x31.toNatClampNeg)) (V29.1 146 65) (V29.1 146 66) V29).bind (fun (x39, V37) => if (52 : Int32) ≤ l1 then ((F_X12_pop  V37).bind (fun (x43, V41) => if (54 : Int32) ≤ l1 then ((F_X12_isZone x43 V41).bind (fun (x47, V45) => if x47 = 0 then ((F_X12_fail (5 : Int32) V45).bind (fun V52 => some V52)) else (if x43 = 0 then (B_X12_likeReference_346 N  x31 x39 x43 (V45.1 146 14) V45) else (if (V45.1 146 53) = 0 then (B_X12_likeReference_346 N  x31 x39 x43 (0 : Int32) V45) else (if sx_in ((V45.1 146 53) - (1 : Int32)) 20 = true then B_X12_likeReference_346 N  x31 x39 x43 ((V45.1 172 ((V45.1 146 53) - (1 : Int32)).toNatClampNeg) + (1 : Int32)) V45 else none))))) else (if (V41.1 146 74) = (1 : Int32) then (if x43 < 0 then (B_X12_likeReference_226 N   V41) else (if x43 < (V41.1 146 53) then (if x43 = 0 then (B_X12_likeReference_252 N  x31 x39 x43 (0 : Int32) V41) else (if sx_in (x43 - (1 : Int32)) 20 = true then B_X12_likeReference_252 N  x31 x39 x43 ((V41.1 172 (x43 - (1 : Int32)).toNatClampNeg) + (1 : Int32)) V41 else none)) else (B_X12_likeReference_226 N   V41))) else (B_X12_likeReference_226 N   V41)))) else (sx_lp4 (B_X12_likeReference_137 N ) N l2 x39 (0 : Int32) V37)) else none else none else none else none) else (some V29))
set_option maxRecDepth 20000 in
theorem tB_X12_likeReference_72 {g : sx_G} (hG : sx_Go g) {P : Option Value → sv_V → Prop} {Vr : sv_V} (hP : P none Vr) {N : Nat}   {l1 : Int32} {l2 : Int32} {s1 : Int32} {s2 : Int32} {V : sv_V} (h : B_X12_likeReference_72 N  l1 l2 s1 s2 V = some Vr) : sv_N g qX12_likeReference 5 72 [(0, .ref 146), (1, .int l1), (2, .int l2)] [.int s2, .int s1, .ref 146] V P := by
  unfold B_X12_likeReference_72 at h
  obtain ⟨⟨x31, V29⟩, g30, h⟩ := sx_bnd h
  refine sv_cV (pc := 72) (y := qX12_pointOf) (o := (some (.int x31))) (as := [.int s1, .int s2]) (V1 := V29) hG dX12_likeReference_72 l_X12_582 y0X12_pointOf yvX12_pointOf rfl (Nat.le_of_ble_eq_true rfl) lay_146 kr_12 (by decide) (Nat.le_of_ble_eq_true rfl) rfl rfl rfl (t_X12_pointOf hG ⟨rfl, rfl⟩ g30) ?_
  refine sx_istore (pc := 75) (lo' := [(5, .int x31), (0, .ref 146), (1, .int l1), (2, .int l2)]) dX12_likeReference_75 (by decide) rfl ?_
  refine sx_aload_n (pc := 77) dX12_likeReference_77 sx_m1 ?_
  refine sv_getI (pc := 78) hG dX12_likeReference_78 f_12_409 lay_146 rfl ?_
  refine sx_if_le (pc := 81) (tgt := 85) dX12_likeReference_81 (by decide) (fun c32 => ?_) (fun c32 => ?_)
  · have h := sx_pos c32 h
    refine sx_aload_n (pc := 85) dX12_likeReference_85 sx_m1 ?_
    refine sv_getA (pc := 86) hG dX12_likeReference_86 f_12_76 lay_146 rfl cr_146_48 ?_
    refine sx_iload (pc := 89) dX12_likeReference_89 sx_m0 ?_
    obtain ⟨g33, h⟩ := sx_grd h
    refine sv_iald (pc := 91) hG dX12_likeReference_91 lay_168 g33 ?_
    refine sx_aload_n (pc := 92) dX12_likeReference_92 sx_m1 ?_
    refine sv_getA (pc := 93) hG dX12_likeReference_93 f_12_70 lay_146 rfl cr_146_46 ?_
    refine sx_iload (pc := 96) dX12_likeReference_96 sx_m0 ?_
    obtain ⟨g34, h⟩ := sx_grd h
    refine sv_iald (pc := 98) hG dX12_likeReference_98 lay_166 g34 ?_
    refine sx_isub (pc := 99) dX12_likeReference_99 ?_
    refine sx_aload_n (pc := 100) dX12_likeReference_100 sx_m1 ?_
    refine sv_getA (pc := 101) hG dX12_likeReference_101 f_12_79 lay_146 rfl cr_146_49 ?_
    refine sx_iload (pc := 104) dX12_likeReference_104 sx_m0 ?_
    obtain ⟨g35, h⟩ := sx_grd h
    refine sv_iald (pc := 106) hG dX12_likeReference_106 lay_169 g35 ?_
    refine sx_aload_n (pc := 107) dX12_likeReference_107 sx_m1 ?_
    refine sv_getA (pc := 108) hG dX12_likeReference_108 f_12_73 lay_146 rfl cr_146_47 ?_
    refine sx_iload (pc := 111) dX12_likeReference_111 sx_m0 ?_
    obtain ⟨g36, h⟩ := sx_grd h
    refine sv_iald (pc := 113) hG dX12_likeReference_113 lay_167 g36 ?_
    refine sx_isub (pc := 114) dX12_likeReference_114 ?_
    refine sx_aload_n (pc := 115) dX12_likeReference_115 sx_m1 ?_
    refine sv_getI (pc := 116) hG dX12_likeReference_116 f_12_439 lay_146 rfl ?_
    refine sx_aload_n (pc := 119) dX12_likeReference_119 sx_m1 ?_
    refine sv_getI (pc := 120) hG dX12_likeReference_120 f_12_442 lay_146 rfl ?_
    obtain ⟨⟨x39, V37⟩, g38, h⟩ := sx_bnd h
    refine sv_cS (pc := 123) (y := qX12_by) (o := (some (.int x39))) (as := [.int ((V29.1 168 x31.toNatClampNeg) - (V29.1 166 x31.toNatClampNeg)), .int ((V29.1 169 x31.toNatClampNeg) - (V29.1 167 x31.toNatClampNeg)), .int (V29.1 146 65), .int (V29.1 146 66)]) (V1 := V37) dX12_likeReference_123 l_X12_520 y0X12_by ysX12_by rfl (Nat.le_of_ble_eq_true rfl) (by decide) (Nat.le_of_ble_eq_true rfl) rfl rfl rfl (t_X12_by hG ⟨rfl, rfl⟩ g38) ?_
    refine sx_istore (pc := 126) (lo' := [(6, .int x39), (5, .int x31), (0, .ref 146), (1, .int l1), (2, .int l2)]) dX12_likeReference_126 (by decide) rfl ?_
    refine sx_iload_n (pc := 128) dX12_likeReference_128 sx_m3 ?_
    refine sx_bipush (pc := 129) (v := 52) dX12_likeReference_129 (by decide) ?_
    refine sx_icmp_ge (pc := 131) (tgt := 192) dX12_likeReference_131 (by decide) (fun c40 => ?_) (fun c40 => ?_)
    · have h := sx_pos c40 h
      refine sx_aload_n (pc := 192) dX12_likeReference_192 sx_m2 ?_
      obtain ⟨⟨x43, V41⟩, g42, h⟩ := sx_bnd h
      refine sv_cV (pc := 193) (y := qX12_pop) (o := (some (.int x43))) (as := []) (V1 := V41) hG dX12_likeReference_193 l_X12_579 y0X12_pop yvX12_pop rfl (Nat.le_of_ble_eq_true rfl) lay_146 kr_12 (by decide) (Nat.le_of_ble_eq_true rfl) rfl rfl rfl (t_X12_pop hG ⟨rfl, rfl⟩ g42) ?_
      refine sx_istore (pc := 196) (lo' := [(7, .int x43), (6, .int x39), (5, .int x31), (0, .ref 146), (1, .int l1), (2, .int l2)]) dX12_likeReference_196 (by decide) rfl ?_
      refine sx_iload_n (pc := 198) dX12_likeReference_198 sx_m4 ?_
      refine sx_bipush (pc := 199) (v := 54) dX12_likeReference_199 (by decide) ?_
      refine sx_icmp_ge (pc := 201) (tgt := 295) dX12_likeReference_201 (by decide) (fun c44 => ?_) (fun c44 => ?_)
      · have h := sx_pos c44 h
        refine sx_aload_n (pc := 295) dX12_likeReference_295 sx_m3 ?_
        refine sx_iload (pc := 296) dX12_likeReference_296 sx_m0 ?_
        obtain ⟨⟨x47, V45⟩, g46, h⟩ := sx_bnd h
        refine sv_cV (pc := 298) (y := qX12_isZone) (o := (some (.int x47))) (as := [.int x43]) (V1 := V45) hG dX12_likeReference_298 l_X12_624 y0X12_isZone yvX12_isZone rfl (Nat.le_of_ble_eq_true rfl) lay_146 kr_12 (by decide) (Nat.le_of_ble_eq_true rfl) rfl rfl rfl (t_X12_isZone hG ⟨rfl, rfl⟩ g46) ?_
        refine sx_if_ne (pc := 301) (tgt := 310) dX12_likeReference_301 (by decide) (fun c48 => ?_) (fun c48 => ?_)
        · have h := sx_neg c48 h
          refine sx_iload (pc := 310) dX12_likeReference_310 sx_m0 ?_
          refine sx_if_ne (pc := 312) (tgt := 322) dX12_likeReference_312 (by decide) (fun c49 => ?_) (fun c49 => ?_)
          · have h := sx_neg c49 h
            refine sx_aload_n (pc := 322) dX12_likeReference_322 sx_m3 ?_
            refine sv_getI (pc := 323) hG dX12_likeReference_323 f_12_706 lay_146 rfl ?_
            refine sx_if_ne (pc := 326) (tgt := 333) dX12_likeReference_326 (by decide) (fun c50 => ?_) (fun c50 => ?_)
            · have h := sx_neg c50 h
              refine sx_aload_n (pc := 333) dX12_likeReference_333 sx_m3 ?_
              refine sv_getA (pc := 334) hG dX12_likeReference_334 f_12_88 lay_146 rfl cr_146_54 ?_
              refine sx_aload_n (pc := 337) dX12_likeReference_337 sx_m3 ?_
              refine sv_getI (pc := 338) hG dX12_likeReference_338 f_12_706 lay_146 rfl ?_
              refine sx_iconst (pc := 341) (v := 1) dX12_likeReference_341 (by decide) ?_
              refine sx_isub (pc := 342) dX12_likeReference_342 ?_
              obtain ⟨g51, h⟩ := sx_grd h
              refine sv_iald (pc := 343) hG dX12_likeReference_343 lay_172 g51 ?_
              refine sx_iconst (pc := 344) (v := 1) dX12_likeReference_344 (by decide) ?_
              refine sx_iadd (pc := 345) dX12_likeReference_345 ?_
              refine sx_wk (sx_s1 sx_m3 (sx_s1 sx_m2 (sx_s1 sx_m1 (sx_s1 sx_m0 sx_s0)))) ?_
              exact tB_X12_likeReference_346 hG hP  h
            · have h := sx_pos c50 h
              refine sx_iconst (pc := 329) (v := 0) dX12_likeReference_329 (by decide) ?_
              refine sx_goto (pc := 330) (tgt := 346) dX12_likeReference_330 (by decide) ?_
              refine sx_wk (sx_s1 sx_m3 (sx_s1 sx_m2 (sx_s1 sx_m1 (sx_s1 sx_m0 sx_s0)))) ?_
              exact tB_X12_likeReference_346 hG hP  h
          · have h := sx_pos c49 h
            refine sx_aload_n (pc := 315) dX12_likeReference_315 sx_m3 ?_
            refine sv_getI (pc := 316) hG dX12_likeReference_316 f_12_316 lay_146 rfl ?_
            refine sx_goto (pc := 319) (tgt := 346) dX12_likeReference_319 (by decide) ?_
            refine sx_wk (sx_s1 sx_m3 (sx_s1 sx_m2 (sx_s1 sx_m1 (sx_s1 sx_m0 sx_s0)))) ?_
            exact tB_X12_likeReference_346 hG hP  h
        · have h := sx_pos c48 h
          refine sx_aload_n (pc := 304) dX12_likeReference_304 sx_m3 ?_
          refine sx_iconst (pc := 305) (v := 5) dX12_likeReference_305 (by decide) ?_
          obtain ⟨V52, g53, h⟩ := sx_bnd h
          refine sv_cV (pc := 306) (y := qX12_fail) (o := none) (as := [.int (5 : Int32)]) (V1 := V52) hG dX12_likeReference_306 l_X12_421 y0X12_fail yvX12_fail rfl (Nat.le_of_ble_eq_true rfl) lay_146 kr_12 (by decide) (Nat.le_of_ble_eq_true rfl) rfl rfl rfl (t_X12_fail hG ⟨rfl, rfl⟩ g53) ?_
          exact sv_vret (pc := 309) dX12_likeReference_309 rfl h hP
      · have h := sx_neg c44 h
        refine sx_aload_n (pc := 204) dX12_likeReference_204 sx_m3 ?_
        refine sv_getI (pc := 205) hG dX12_likeReference_205 f_12_466 lay_146 rfl ?_
        refine sx_iconst (pc := 208) (v := 1) dX12_likeReference_208 (by decide) ?_
        refine sx_icmp_ne (pc := 209) (tgt := 226) dX12_likeReference_209 (by decide) (fun c54 => ?_) (fun c54 => ?_)
        · have h := sx_neg c54 h
          refine sx_wk (sx_s1 sx_m3 sx_s0) ?_
          exact tB_X12_likeReference_226 hG hP  h
        · have h := sx_pos c54 h
          refine sx_iload (pc := 212) dX12_likeReference_212 sx_m0 ?_
          refine sx_if_lt (pc := 214) (tgt := 226) dX12_likeReference_214 (by decide) (fun c55 => ?_) (fun c55 => ?_)
          · have h := sx_pos c55 h
            refine sx_wk (sx_s1 sx_m3 sx_s0) ?_
            exact tB_X12_likeReference_226 hG hP  h
          · have h := sx_neg c55 h
            refine sx_iload (pc := 217) dX12_likeReference_217 sx_m0 ?_
            refine sx_aload_n (pc := 219) dX12_likeReference_219 sx_m3 ?_
            refine sv_getI (pc := 220) hG dX12_likeReference_220 f_12_706 lay_146 rfl ?_
            refine sx_icmp_lt (pc := 223) (tgt := 232) dX12_likeReference_223 (by decide) (fun c56 => ?_) (fun c56 => ?_)
            · have h := sx_pos c56 h
              refine sx_iload (pc := 232) dX12_likeReference_232 sx_m0 ?_
              refine sx_if_ne (pc := 234) (tgt := 241) dX12_likeReference_234 (by decide) (fun c57 => ?_) (fun c57 => ?_)
              · have h := sx_neg c57 h
                refine sx_aload_n (pc := 241) dX12_likeReference_241 sx_m3 ?_
                refine sv_getA (pc := 242) hG dX12_likeReference_242 f_12_88 lay_146 rfl cr_146_54 ?_
                refine sx_iload (pc := 245) dX12_likeReference_245 sx_m0 ?_
                refine sx_iconst (pc := 247) (v := 1) dX12_likeReference_247 (by decide) ?_
                refine sx_isub (pc := 248) dX12_likeReference_248 ?_
                obtain ⟨g58, h⟩ := sx_grd h
                refine sv_iald (pc := 249) hG dX12_likeReference_249 lay_172 g58 ?_
                refine sx_iconst (pc := 250) (v := 1) dX12_likeReference_250 (by decide) ?_
                refine sx_iadd (pc := 251) dX12_likeReference_251 ?_
                refine sx_wk (sx_s1 sx_m3 (sx_s1 sx_m2 (sx_s1 sx_m1 (sx_s1 sx_m0 sx_s0)))) ?_
                exact tB_X12_likeReference_252 hG hP  h
              · have h := sx_pos c57 h
                refine sx_iconst (pc := 237) (v := 0) dX12_likeReference_237 (by decide) ?_
                refine sx_goto (pc := 238) (tgt := 252) dX12_likeReference_238 (by decide) ?_
                refine sx_wk (sx_s1 sx_m3 (sx_s1 sx_m2 (sx_s1 sx_m1 (sx_s1 sx_m0 sx_s0)))) ?_
                exact tB_X12_likeReference_252 hG hP  h
            · have h := sx_neg c56 h
              refine sx_wk (sx_s1 sx_m3 sx_s0) ?_
              exact tB_X12_likeReference_226 hG hP  h
    · have h := sx_neg c40 h
      refine sx_iconst (pc := 134) (v := 0) dX12_likeReference_134 (by decide) ?_
      refine sx_istore (pc := 135) (lo' := [(7, .int (0 : Int32)), (6, .int x39), (5, .int x31), (0, .ref 146), (1, .int l1), (2, .int l2)]) dX12_likeReference_135 (by decide) rfl ?_
      refine sx_wk (sx_s1 sx_m3 (sx_s1 sx_m5 (sx_s1 sx_m1 (sx_s1 sx_m0 sx_s0)))) ?_
      exact tL_X12_likeReference_137 hG hP  N _ _ _ _ h
  · have h := sx_neg c32 h
    exact sv_vret (pc := 84) dX12_likeReference_84 rfl h hP
def B_X12_likeReference_52 (N : Nat)  (l1 : Int32) (l2 : Int32) (l3 : Int32) (s0 : Int32) (V : sv_V) : Option sv_V := if l3 = 0 then (B_X12_likeReference_72 N  l1 l2 s0 (V.1 146 71) V) else (B_X12_likeReference_72 N  l1 l2 s0 (V.1 146 70) V)
set_option maxRecDepth 20000 in
theorem tB_X12_likeReference_52 {g : sx_G} (hG : sx_Go g) {P : Option Value → sv_V → Prop} {Vr : sv_V} (hP : P none Vr) {N : Nat}   {l1 : Int32} {l2 : Int32} {l3 : Int32} {s0 : Int32} {V : sv_V} (h : B_X12_likeReference_52 N  l1 l2 l3 s0 V = some Vr) : sv_N g qX12_likeReference 5 52 [(0, .ref 146), (1, .int l1), (2, .int l2), (3, .int l3)] [.int s0] V P := by
  unfold B_X12_likeReference_52 at h
  refine sx_istore (pc := 52) (lo' := [(4, .int s0), (0, .ref 146), (1, .int l1), (2, .int l2), (3, .int l3)]) dX12_likeReference_52 (by decide) rfl ?_
  refine sx_aload_n (pc := 54) dX12_likeReference_54 sx_m1 ?_
  refine sx_iload (pc := 55) dX12_likeReference_55 sx_m0 ?_
  refine sx_iload_n (pc := 57) dX12_likeReference_57 sx_m4 ?_
  refine sx_if_eq (pc := 58) (tgt := 68) dX12_likeReference_58 (by decide) (fun c59 => ?_) (fun c59 => ?_)
  · have h := sx_pos c59 h
    refine sx_aload_n (pc := 68) dX12_likeReference_68 sx_m1 ?_
    refine sv_getI (pc := 69) hG dX12_likeReference_69 f_12_457 lay_146 rfl ?_
    refine sx_wk (sx_s1 sx_m1 (sx_s1 sx_m2 (sx_s1 sx_m3 sx_s0))) ?_
    exact tB_X12_likeReference_72 hG hP  h
  · have h := sx_neg c59 h
    refine sx_aload_n (pc := 61) dX12_likeReference_61 sx_m1 ?_
    refine sv_getI (pc := 62) hG dX12_likeReference_62 f_12_454 lay_146 rfl ?_
    refine sx_goto (pc := 65) (tgt := 72) dX12_likeReference_65 (by decide) ?_
    refine sx_wk (sx_s1 sx_m1 (sx_s1 sx_m2 (sx_s1 sx_m3 sx_s0))) ?_
    exact tB_X12_likeReference_72 hG hP  h
def B_X12_likeReference_36 (N : Nat)  (l1 : Int32) (l2 : Int32) (s0 : Int32) (V : sv_V) : Option sv_V := if s0 = 0 then (B_X12_likeReference_52 N  l1 l2 s0 (V.1 146 73) V) else (B_X12_likeReference_52 N  l1 l2 s0 (V.1 146 72) V)
set_option maxRecDepth 20000 in
theorem tB_X12_likeReference_36 {g : sx_G} (hG : sx_Go g) {P : Option Value → sv_V → Prop} {Vr : sv_V} (hP : P none Vr) {N : Nat}   {l1 : Int32} {l2 : Int32} {s0 : Int32} {V : sv_V} (h : B_X12_likeReference_36 N  l1 l2 s0 V = some Vr) : sv_N g qX12_likeReference 5 36 [(0, .ref 146), (1, .int l1), (2, .int l2)] [.int s0] V P := by
  unfold B_X12_likeReference_36 at h
  refine sx_istore_n (pc := 36) (lo' := [(3, .int s0), (0, .ref 146), (1, .int l1), (2, .int l2)]) dX12_likeReference_36 (by decide) rfl ?_
  refine sx_iload_n (pc := 37) dX12_likeReference_37 sx_m0 ?_
  refine sx_if_eq (pc := 38) (tgt := 48) dX12_likeReference_38 (by decide) (fun c60 => ?_) (fun c60 => ?_)
  · have h := sx_pos c60 h
    refine sx_aload_n (pc := 48) dX12_likeReference_48 sx_m1 ?_
    refine sv_getI (pc := 49) hG dX12_likeReference_49 f_12_463 lay_146 rfl ?_
    refine sx_wk (sx_s1 sx_m1 (sx_s1 sx_m2 (sx_s1 sx_m3 (sx_s1 sx_m0 sx_s0)))) ?_
    exact tB_X12_likeReference_52 hG hP  h
  · have h := sx_neg c60 h
    refine sx_aload_n (pc := 41) dX12_likeReference_41 sx_m1 ?_
    refine sv_getI (pc := 42) hG dX12_likeReference_42 f_12_460 lay_146 rfl ?_
    refine sx_goto (pc := 45) (tgt := 52) dX12_likeReference_45 (by decide) ?_
    refine sx_wk (sx_s1 sx_m1 (sx_s1 sx_m2 (sx_s1 sx_m3 (sx_s1 sx_m0 sx_s0)))) ?_
    exact tB_X12_likeReference_52 hG hP  h
def B_X12_likeReference_14 (N : Nat)  (l1 : Int32) (s0 : Int32) (V : sv_V) : Option sv_V := (F_X12_has s0 V).bind (fun (x63, V61) => if x63 = 0 then (some V61) else (if (l1 - l1 / (2 : Int32) * (2 : Int32)) = (1 : Int32) then (B_X12_likeReference_36 N  l1 s0 (1 : Int32) V61) else (B_X12_likeReference_36 N  l1 s0 (0 : Int32) V61)))
set_option maxRecDepth 20000 in
theorem tB_X12_likeReference_14 {g : sx_G} (hG : sx_Go g) {P : Option Value → sv_V → Prop} {Vr : sv_V} (hP : P none Vr) {N : Nat}   {l1 : Int32} {s0 : Int32} {V : sv_V} (h : B_X12_likeReference_14 N  l1 s0 V = some Vr) : sv_N g qX12_likeReference 5 14 [(0, .ref 146), (1, .int l1)] [.int s0] V P := by
  unfold B_X12_likeReference_14 at h
  refine sx_istore_n (pc := 14) (lo' := [(2, .int s0), (0, .ref 146), (1, .int l1)]) dX12_likeReference_14 (by decide) rfl ?_
  refine sx_aload_n (pc := 15) dX12_likeReference_15 sx_m1 ?_
  refine sx_iload_n (pc := 16) dX12_likeReference_16 sx_m0 ?_
  obtain ⟨⟨x63, V61⟩, g62, h⟩ := sx_bnd h
  refine sv_cV (pc := 17) (y := qX12_has) (o := (some (.int x63))) (as := [.int s0]) (V1 := V61) hG dX12_likeReference_17 l_X12_576 y0X12_has yvX12_has rfl (Nat.le_of_ble_eq_true rfl) lay_146 kr_12 (by decide) (Nat.le_of_ble_eq_true rfl) rfl rfl rfl (t_X12_has hG ⟨rfl, rfl⟩ g62) ?_
  refine sx_if_ne (pc := 20) (tgt := 24) dX12_likeReference_20 (by decide) (fun c64 => ?_) (fun c64 => ?_)
  · have h := sx_neg c64 h
    refine sx_iload_n (pc := 24) dX12_likeReference_24 sx_m2 ?_
    refine sx_iconst (pc := 25) (v := 2) dX12_likeReference_25 (by decide) ?_
    refine sx_irem (pc := 26) dX12_likeReference_26 (by decide) ?_
    refine sx_iconst (pc := 27) (v := 1) dX12_likeReference_27 (by decide) ?_
    refine sx_icmp_ne (pc := 28) (tgt := 35) dX12_likeReference_28 (by decide) (fun c65 => ?_) (fun c65 => ?_)
    · have h := sx_neg c65 h
      refine sx_iconst (pc := 35) (v := 0) dX12_likeReference_35 (by decide) ?_
      refine sx_wk (sx_s1 sx_m1 (sx_s1 sx_m2 (sx_s1 sx_m0 sx_s0))) ?_
      exact tB_X12_likeReference_36 hG hP  h
    · have h := sx_pos c65 h
      refine sx_iconst (pc := 31) (v := 1) dX12_likeReference_31 (by decide) ?_
      refine sx_goto (pc := 32) (tgt := 36) dX12_likeReference_32 (by decide) ?_
      refine sx_wk (sx_s1 sx_m1 (sx_s1 sx_m2 (sx_s1 sx_m0 sx_s0))) ?_
      exact tB_X12_likeReference_36 hG hP  h
  · have h := sx_pos c64 h
    exact sv_vret (pc := 23) dX12_likeReference_23 rfl h hP
def F_X12_likeReference (N : Nat) (l1 : Int32) (V : sv_V) : Option sv_V := if (52 : Int32) ≤ l1 then (B_X12_likeReference_14 N  l1 (1 : Int32) V) else (B_X12_likeReference_14 N  l1 (V.1 146 75) V)
set_option maxRecDepth 20000 in
theorem t_X12_likeReference {g : sx_G} (hG : sx_Go g) {P : Option Value → sv_V → Prop} {Vr : sv_V} (hP : P none Vr) {N : Nat} {l1 : Int32} {V : sv_V} (h : F_X12_likeReference N l1 V = some Vr) : sv_N g qX12_likeReference 5 0 [(0, .ref 146), (1, .int l1)] [] V P := by
  unfold F_X12_likeReference at h
  refine sx_iload_n (pc := 0) dX12_likeReference_0 sx_m1 ?_
  refine sx_bipush (pc := 1) (v := 52) dX12_likeReference_1 (by decide) ?_
  refine sx_icmp_ge (pc := 3) (tgt := 13) dX12_likeReference_3 (by decide) (fun c66 => ?_) (fun c66 => ?_)
  · have h := sx_pos c66 h
    refine sx_iconst (pc := 13) (v := 1) dX12_likeReference_13 (by decide) ?_
    refine sx_wk (sx_s1 sx_m0 (sx_s1 sx_m1 sx_s0)) ?_
    exact tB_X12_likeReference_14 hG hP  h
  · have h := sx_neg c66 h
    refine sx_aload_n (pc := 6) dX12_likeReference_6 sx_m0 ?_
    refine sv_getI (pc := 7) hG dX12_likeReference_7 f_12_469 lay_146 rfl ?_
    refine sx_goto (pc := 10) (tgt := 14) dX12_likeReference_10 (by decide) ?_
    refine sx_wk (sx_s1 sx_m0 (sx_s1 sx_m1 sx_s0)) ?_
    exact tB_X12_likeReference_14 hG hP  h
def ncX12_inBetween : Nat := 4622313939478819329652184793776957292102984955055616748601296503118900422013535083133248275223603004735277765864972090338362113301618435594189990597367468184625190834014142881156214022763276473293723797762371959763024717234275578786184702506
theorem kcX12_inBetween : CK cX12_inBetween ncX12_inBetween 100 := ⟨by decide +kernel, by decide +kernel⟩
theorem dX12_inBetween_0 : decode cX12_inBetween 0 = .ok (.aload_n 0, 1) := dl_o42 kcX12_inBetween (by decide +kernel)
theorem dX12_inBetween_1 : decode cX12_inBetween 1 = .ok (.aload_n 0, 1) := dl_o42 kcX12_inBetween (by decide +kernel)
theorem dX12_inBetween_2 : decode cX12_inBetween 2 = .ok (.getfield 460, 3) := dl_o180 kcX12_inBetween (by decide +kernel)
theorem dX12_inBetween_5 : decode cX12_inBetween 5 = .ok (.aload_n 0, 1) := dl_o42 kcX12_inBetween (by decide +kernel)
theorem dX12_inBetween_6 : decode cX12_inBetween 6 = .ok (.getfield 454, 3) := dl_o180 kcX12_inBetween (by decide +kernel)
theorem dX12_inBetween_9 : decode cX12_inBetween 9 = .ok (.invokevirtual 582, 3) := dl_o182 kcX12_inBetween (by decide +kernel)
theorem dX12_inBetween_12 : decode cX12_inBetween 12 = .ok (.istore_n 2, 1) := dl_o61 kcX12_inBetween (by decide +kernel)
theorem dX12_inBetween_13 : decode cX12_inBetween 13 = .ok (.aload_n 0, 1) := dl_o42 kcX12_inBetween (by decide +kernel)
theorem dX12_inBetween_14 : decode cX12_inBetween 14 = .ok (.aload_n 0, 1) := dl_o42 kcX12_inBetween (by decide +kernel)
theorem dX12_inBetween_15 : decode cX12_inBetween 15 = .ok (.getfield 463, 3) := dl_o180 kcX12_inBetween (by decide +kernel)
theorem dX12_inBetween_18 : decode cX12_inBetween 18 = .ok (.aload_n 0, 1) := dl_o42 kcX12_inBetween (by decide +kernel)
theorem dX12_inBetween_19 : decode cX12_inBetween 19 = .ok (.getfield 457, 3) := dl_o180 kcX12_inBetween (by decide +kernel)
theorem dX12_inBetween_22 : decode cX12_inBetween 22 = .ok (.invokevirtual 582, 3) := dl_o182 kcX12_inBetween (by decide +kernel)
theorem dX12_inBetween_25 : decode cX12_inBetween 25 = .ok (.istore_n 3, 1) := dl_o62 kcX12_inBetween (by decide +kernel)
theorem dX12_inBetween_26 : decode cX12_inBetween 26 = .ok (.aload_n 0, 1) := dl_o42 kcX12_inBetween (by decide +kernel)
theorem dX12_inBetween_27 : decode cX12_inBetween 27 = .ok (.getfield 409, 3) := dl_o180 kcX12_inBetween (by decide +kernel)
theorem dX12_inBetween_30 : decode cX12_inBetween 30 = .ok (.ifCond .le 4, 3) := dl_o158 kcX12_inBetween 4 (by decide +kernel) (by decide +kernel)
theorem dX12_inBetween_33 : decode cX12_inBetween 33 = .ok (.return_, 1) := dl_o177 kcX12_inBetween (by decide +kernel)
theorem dX12_inBetween_34 : decode cX12_inBetween 34 = .ok (.aload_n 0, 1) := dl_o42 kcX12_inBetween (by decide +kernel)
theorem dX12_inBetween_35 : decode cX12_inBetween 35 = .ok (.iload_n 1, 1) := dl_o27 kcX12_inBetween (by decide +kernel)
theorem dX12_inBetween_36 : decode cX12_inBetween 36 = .ok (.iload_n 2, 1) := dl_o28 kcX12_inBetween (by decide +kernel)
theorem dX12_inBetween_37 : decode cX12_inBetween 37 = .ok (.invokevirtual 680, 3) := dl_o182 kcX12_inBetween (by decide +kernel)
theorem dX12_inBetween_40 : decode cX12_inBetween 40 = .ok (.istore 4, 2) := dl_o54 kcX12_inBetween (by decide +kernel)
theorem dX12_inBetween_42 : decode cX12_inBetween 42 = .ok (.aload_n 0, 1) := dl_o42 kcX12_inBetween (by decide +kernel)
theorem dX12_inBetween_43 : decode cX12_inBetween 43 = .ok (.iload_n 3, 1) := dl_o29 kcX12_inBetween (by decide +kernel)
theorem dX12_inBetween_44 : decode cX12_inBetween 44 = .ok (.iload_n 2, 1) := dl_o28 kcX12_inBetween (by decide +kernel)
theorem dX12_inBetween_45 : decode cX12_inBetween 45 = .ok (.invokevirtual 680, 3) := dl_o182 kcX12_inBetween (by decide +kernel)
theorem dX12_inBetween_48 : decode cX12_inBetween 48 = .ok (.istore 5, 2) := dl_o54 kcX12_inBetween (by decide +kernel)
theorem dX12_inBetween_50 : decode cX12_inBetween 50 = .ok (.aload_n 0, 1) := dl_o42 kcX12_inBetween (by decide +kernel)
theorem dX12_inBetween_51 : decode cX12_inBetween 51 = .ok (.iload_n 3, 1) := dl_o29 kcX12_inBetween (by decide +kernel)
theorem dX12_inBetween_52 : decode cX12_inBetween 52 = .ok (.iload_n 2, 1) := dl_o28 kcX12_inBetween (by decide +kernel)
theorem dX12_inBetween_53 : decode cX12_inBetween 53 = .ok (.invokevirtual 627, 3) := dl_o182 kcX12_inBetween (by decide +kernel)
theorem dX12_inBetween_56 : decode cX12_inBetween 56 = .ok (.istore 6, 2) := dl_o54 kcX12_inBetween (by decide +kernel)
theorem dX12_inBetween_58 : decode cX12_inBetween 58 = .ok (.iload 5, 2) := dl_o21 kcX12_inBetween (by decide +kernel)
theorem dX12_inBetween_60 : decode cX12_inBetween 60 = .ok (.ifCond .ne 9, 3) := dl_o154 kcX12_inBetween 9 (by decide +kernel) (by decide +kernel)
theorem dX12_inBetween_63 : decode cX12_inBetween 63 = .ok (.iload 4, 2) := dl_o21 kcX12_inBetween (by decide +kernel)
theorem dX12_inBetween_65 : decode cX12_inBetween 65 = .ok (.i2l, 1) := dl_o133 kcX12_inBetween (by decide +kernel)
theorem dX12_inBetween_66 : decode cX12_inBetween 66 = .ok (.goto 16, 3) := dl_o167 kcX12_inBetween 16 (by decide +kernel) (by decide +kernel)
theorem dX12_inBetween_69 : decode cX12_inBetween 69 = .ok (.iload 4, 2) := dl_o21 kcX12_inBetween (by decide +kernel)
theorem dX12_inBetween_71 : decode cX12_inBetween 71 = .ok (.i2l, 1) := dl_o133 kcX12_inBetween (by decide +kernel)
theorem dX12_inBetween_72 : decode cX12_inBetween 72 = .ok (.iload 6, 2) := dl_o21 kcX12_inBetween (by decide +kernel)
theorem dX12_inBetween_74 : decode cX12_inBetween 74 = .ok (.i2l, 1) := dl_o133 kcX12_inBetween (by decide +kernel)
theorem dX12_inBetween_75 : decode cX12_inBetween 75 = .ok (.lmul, 1) := dl_o105 kcX12_inBetween (by decide +kernel)
theorem dX12_inBetween_76 : decode cX12_inBetween 76 = .ok (.iload 5, 2) := dl_o21 kcX12_inBetween (by decide +kernel)
theorem dX12_inBetween_78 : decode cX12_inBetween 78 = .ok (.i2l, 1) := dl_o133 kcX12_inBetween (by decide +kernel)
theorem dX12_inBetween_79 : decode cX12_inBetween 79 = .ok (.invokestatic 194, 3) := dl_o184 kcX12_inBetween (by decide +kernel)
theorem dX12_inBetween_82 : decode cX12_inBetween 82 = .ok (.lstore 7, 2) := dl_o55 kcX12_inBetween (by decide +kernel)
theorem dX12_inBetween_84 : decode cX12_inBetween 84 = .ok (.aload_n 0, 1) := dl_o42 kcX12_inBetween (by decide +kernel)
theorem dX12_inBetween_85 : decode cX12_inBetween 85 = .ok (.iload_n 1, 1) := dl_o27 kcX12_inBetween (by decide +kernel)
theorem dX12_inBetween_86 : decode cX12_inBetween 86 = .ok (.lload 7, 2) := dl_o22 kcX12_inBetween (by decide +kernel)
theorem dX12_inBetween_88 : decode cX12_inBetween 88 = .ok (.aload_n 0, 1) := dl_o42 kcX12_inBetween (by decide +kernel)
theorem dX12_inBetween_89 : decode cX12_inBetween 89 = .ok (.iload_n 1, 1) := dl_o27 kcX12_inBetween (by decide +kernel)
theorem dX12_inBetween_90 : decode cX12_inBetween 90 = .ok (.iload_n 2, 1) := dl_o28 kcX12_inBetween (by decide +kernel)
theorem dX12_inBetween_91 : decode cX12_inBetween 91 = .ok (.invokevirtual 627, 3) := dl_o182 kcX12_inBetween (by decide +kernel)
theorem dX12_inBetween_94 : decode cX12_inBetween 94 = .ok (.i2l, 1) := dl_o133 kcX12_inBetween (by decide +kernel)
theorem dX12_inBetween_95 : decode cX12_inBetween 95 = .ok (.lsub, 1) := dl_o101 kcX12_inBetween (by decide +kernel)
theorem dX12_inBetween_96 : decode cX12_inBetween 96 = .ok (.invokevirtual 630, 3) := dl_o182 kcX12_inBetween (by decide +kernel)
theorem dX12_inBetween_99 : decode cX12_inBetween 99 = .ok (.return_, 1) := dl_o177 kcX12_inBetween (by decide +kernel)
def B_X12_inBetween_82  (l1 : Int32) (l2 : Int32) (s0 : Int64) (V : sv_V) : Option sv_V := (F_X12_between l1 l2 V).bind (fun (x3, V1) => (F_X12_move l1 (s0 - x3.toInt64) V1).bind (fun V4 => some V4))
set_option maxRecDepth 20000 in
theorem tB_X12_inBetween_82 {g : sx_G} (hG : sx_Go g) {P : Option Value → sv_V → Prop} {Vr : sv_V} (hP : P none Vr)   {l1 : Int32} {l2 : Int32} {s0 : Int64} {V : sv_V} (h : B_X12_inBetween_82  l1 l2 s0 V = some Vr) : sv_N g qX12_inBetween 5 82 [(0, .ref 146), (1, .int l1), (2, .int l2)] [.long s0] V P := by
  unfold B_X12_inBetween_82 at h
  refine sx_lstore (pc := 82) (lo' := [(7, .long s0), (0, .ref 146), (1, .int l1), (2, .int l2)]) dX12_inBetween_82 (by decide) rfl ?_
  refine sx_aload_n (pc := 84) dX12_inBetween_84 sx_m1 ?_
  refine sx_iload_n (pc := 85) dX12_inBetween_85 sx_m2 ?_
  refine sx_lload (pc := 86) dX12_inBetween_86 sx_m0 ?_
  refine sx_aload_n (pc := 88) dX12_inBetween_88 sx_m1 ?_
  refine sx_iload_n (pc := 89) dX12_inBetween_89 sx_m2 ?_
  refine sx_iload_n (pc := 90) dX12_inBetween_90 sx_m3 ?_
  obtain ⟨⟨x3, V1⟩, g2, h⟩ := sx_bnd h
  refine sv_cV (pc := 91) (y := qX12_between) (o := (some (.int x3))) (as := [.int l1, .int l2]) (V1 := V1) hG dX12_inBetween_91 l_X12_627 y0X12_between yvX12_between rfl (Nat.le_of_ble_eq_true rfl) lay_146 kr_12 (by decide) (Nat.le_of_ble_eq_true rfl) rfl rfl rfl (t_X12_between hG ⟨rfl, rfl⟩ g2) ?_
  refine sx_i2l (pc := 94) dX12_inBetween_94 ?_
  refine sx_lsub (pc := 95) dX12_inBetween_95 ?_
  obtain ⟨V4, g5, h⟩ := sx_bnd h
  refine sv_cV (pc := 96) (y := qX12_move) (o := none) (as := [.int l1, .long (s0 - x3.toInt64)]) (V1 := V4) hG dX12_inBetween_96 l_X12_630 y0X12_move yvX12_move rfl (Nat.le_of_ble_eq_true rfl) lay_146 kr_12 (by decide) (Nat.le_of_ble_eq_true rfl) rfl rfl rfl (t_X12_move hG ⟨rfl, rfl⟩ g5) ?_
  exact sv_vret (pc := 99) dX12_inBetween_99 rfl h hP
def F_X12_inBetween (l1 : Int32) (V : sv_V) : Option sv_V := (F_X12_pointOf (V.1 146 72) (V.1 146 70) V).bind (fun (x8, V6) => (F_X12_pointOf (V6.1 146 73) (V6.1 146 71) V6).bind (fun (x11, V9) => if (V9.1 146 59) ≤ 0 then ((F_X12_originally l1 x8 V9).bind (fun (x15, V13) => (F_X12_originally x11 x8 V13).bind (fun (x18, V16) => (F_X12_between x11 x8 V16).bind (fun (x21, V19) => if x18 = 0 then (B_X12_inBetween_82  l1 x8 x15.toInt64 V19) else ((F_X12_nearest (x15.toInt64 * x21.toInt64) x18.toInt64 V19).bind (fun (x25, V23) => B_X12_inBetween_82  l1 x8 x25 V23)))))) else (some V9)))
set_option maxRecDepth 20000 in
theorem t_X12_inBetween {g : sx_G} (hG : sx_Go g) {P : Option Value → sv_V → Prop} {Vr : sv_V} (hP : P none Vr) {l1 : Int32} {V : sv_V} (h : F_X12_inBetween l1 V = some Vr) : sv_N g qX12_inBetween 5 0 [(0, .ref 146), (1, .int l1)] [] V P := by
  unfold F_X12_inBetween at h
  refine sx_aload_n (pc := 0) dX12_inBetween_0 sx_m0 ?_
  refine sx_aload_n (pc := 1) dX12_inBetween_1 sx_m0 ?_
  refine sv_getI (pc := 2) hG dX12_inBetween_2 f_12_460 lay_146 rfl ?_
  refine sx_aload_n (pc := 5) dX12_inBetween_5 sx_m0 ?_
  refine sv_getI (pc := 6) hG dX12_inBetween_6 f_12_454 lay_146 rfl ?_
  obtain ⟨⟨x8, V6⟩, g7, h⟩ := sx_bnd h
  refine sv_cV (pc := 9) (y := qX12_pointOf) (o := (some (.int x8))) (as := [.int (V.1 146 72), .int (V.1 146 70)]) (V1 := V6) hG dX12_inBetween_9 l_X12_582 y0X12_pointOf yvX12_pointOf rfl (Nat.le_of_ble_eq_true rfl) lay_146 kr_12 (by decide) (Nat.le_of_ble_eq_true rfl) rfl rfl rfl (t_X12_pointOf hG ⟨rfl, rfl⟩ g7) ?_
  refine sx_istore_n (pc := 12) (lo' := [(2, .int x8), (0, .ref 146), (1, .int l1)]) dX12_inBetween_12 (by decide) rfl ?_
  refine sx_aload_n (pc := 13) dX12_inBetween_13 sx_m1 ?_
  refine sx_aload_n (pc := 14) dX12_inBetween_14 sx_m1 ?_
  refine sv_getI (pc := 15) hG dX12_inBetween_15 f_12_463 lay_146 rfl ?_
  refine sx_aload_n (pc := 18) dX12_inBetween_18 sx_m1 ?_
  refine sv_getI (pc := 19) hG dX12_inBetween_19 f_12_457 lay_146 rfl ?_
  obtain ⟨⟨x11, V9⟩, g10, h⟩ := sx_bnd h
  refine sv_cV (pc := 22) (y := qX12_pointOf) (o := (some (.int x11))) (as := [.int (V6.1 146 73), .int (V6.1 146 71)]) (V1 := V9) hG dX12_inBetween_22 l_X12_582 y0X12_pointOf yvX12_pointOf rfl (Nat.le_of_ble_eq_true rfl) lay_146 kr_12 (by decide) (Nat.le_of_ble_eq_true rfl) rfl rfl rfl (t_X12_pointOf hG ⟨rfl, rfl⟩ g10) ?_
  refine sx_istore_n (pc := 25) (lo' := [(3, .int x11), (2, .int x8), (0, .ref 146), (1, .int l1)]) dX12_inBetween_25 (by decide) rfl ?_
  refine sx_aload_n (pc := 26) dX12_inBetween_26 sx_m2 ?_
  refine sv_getI (pc := 27) hG dX12_inBetween_27 f_12_409 lay_146 rfl ?_
  refine sx_if_le (pc := 30) (tgt := 34) dX12_inBetween_30 (by decide) (fun c12 => ?_) (fun c12 => ?_)
  · have h := sx_pos c12 h
    refine sx_aload_n (pc := 34) dX12_inBetween_34 sx_m2 ?_
    refine sx_iload_n (pc := 35) dX12_inBetween_35 sx_m3 ?_
    refine sx_iload_n (pc := 36) dX12_inBetween_36 sx_m1 ?_
    obtain ⟨⟨x15, V13⟩, g14, h⟩ := sx_bnd h
    refine sv_cV (pc := 37) (y := qX12_originally) (o := (some (.int x15))) (as := [.int l1, .int x8]) (V1 := V13) hG dX12_inBetween_37 l_X12_680 y0X12_originally yvX12_originally rfl (Nat.le_of_ble_eq_true rfl) lay_146 kr_12 (by decide) (Nat.le_of_ble_eq_true rfl) rfl rfl rfl (t_X12_originally hG ⟨rfl, rfl⟩ g14) ?_
    refine sx_istore (pc := 40) (lo' := [(4, .int x15), (3, .int x11), (2, .int x8), (0, .ref 146), (1, .int l1)]) dX12_inBetween_40 (by decide) rfl ?_
    refine sx_aload_n (pc := 42) dX12_inBetween_42 sx_m3 ?_
    refine sx_iload_n (pc := 43) dX12_inBetween_43 sx_m1 ?_
    refine sx_iload_n (pc := 44) dX12_inBetween_44 sx_m2 ?_
    obtain ⟨⟨x18, V16⟩, g17, h⟩ := sx_bnd h
    refine sv_cV (pc := 45) (y := qX12_originally) (o := (some (.int x18))) (as := [.int x11, .int x8]) (V1 := V16) hG dX12_inBetween_45 l_X12_680 y0X12_originally yvX12_originally rfl (Nat.le_of_ble_eq_true rfl) lay_146 kr_12 (by decide) (Nat.le_of_ble_eq_true rfl) rfl rfl rfl (t_X12_originally hG ⟨rfl, rfl⟩ g17) ?_
    refine sx_istore (pc := 48) (lo' := [(5, .int x18), (4, .int x15), (3, .int x11), (2, .int x8), (0, .ref 146), (1, .int l1)]) dX12_inBetween_48 (by decide) rfl ?_
    refine sx_aload_n (pc := 50) dX12_inBetween_50 sx_m4 ?_
    refine sx_iload_n (pc := 51) dX12_inBetween_51 sx_m2 ?_
    refine sx_iload_n (pc := 52) dX12_inBetween_52 sx_m3 ?_
    obtain ⟨⟨x21, V19⟩, g20, h⟩ := sx_bnd h
    refine sv_cV (pc := 53) (y := qX12_between) (o := (some (.int x21))) (as := [.int x11, .int x8]) (V1 := V19) hG dX12_inBetween_53 l_X12_627 y0X12_between yvX12_between rfl (Nat.le_of_ble_eq_true rfl) lay_146 kr_12 (by decide) (Nat.le_of_ble_eq_true rfl) rfl rfl rfl (t_X12_between hG ⟨rfl, rfl⟩ g20) ?_
    refine sx_istore (pc := 56) (lo' := [(6, .int x21), (5, .int x18), (4, .int x15), (3, .int x11), (2, .int x8), (0, .ref 146), (1, .int l1)]) dX12_inBetween_56 (by decide) rfl ?_
    refine sx_iload (pc := 58) dX12_inBetween_58 sx_m1 ?_
    refine sx_if_ne (pc := 60) (tgt := 69) dX12_inBetween_60 (by decide) (fun c22 => ?_) (fun c22 => ?_)
    · have h := sx_neg c22 h
      refine sx_iload (pc := 69) dX12_inBetween_69 sx_m2 ?_
      refine sx_i2l (pc := 71) dX12_inBetween_71 ?_
      refine sx_iload (pc := 72) dX12_inBetween_72 sx_m0 ?_
      refine sx_i2l (pc := 74) dX12_inBetween_74 ?_
      refine sx_lmul (pc := 75) dX12_inBetween_75 ?_
      refine sx_iload (pc := 76) dX12_inBetween_76 sx_m1 ?_
      refine sx_i2l (pc := 78) dX12_inBetween_78 ?_
      obtain ⟨⟨x25, V23⟩, g24, h⟩ := sx_bnd h
      refine sv_cS (pc := 79) (y := qX12_nearest) (o := (some (.long x25))) (as := [.long (x15.toInt64 * x21.toInt64), .long x18.toInt64]) (V1 := V23) dX12_inBetween_79 l_X12_194 y0X12_nearest ysX12_nearest rfl (Nat.le_of_ble_eq_true rfl) (by decide) (Nat.le_of_ble_eq_true rfl) rfl rfl rfl (t_X12_nearest hG ⟨rfl, rfl⟩ g24) ?_
      refine sx_wk (sx_s1 sx_m5 (sx_s1 sx_m6 (sx_s1 sx_m4 sx_s0))) ?_
      exact tB_X12_inBetween_82 hG hP  h
    · have h := sx_pos c22 h
      refine sx_iload (pc := 63) dX12_inBetween_63 sx_m2 ?_
      refine sx_i2l (pc := 65) dX12_inBetween_65 ?_
      refine sx_goto (pc := 66) (tgt := 82) dX12_inBetween_66 (by decide) ?_
      refine sx_wk (sx_s1 sx_m5 (sx_s1 sx_m6 (sx_s1 sx_m4 sx_s0))) ?_
      exact tB_X12_inBetween_82 hG hP  h
  · have h := sx_neg c12 h
    exact sv_vret (pc := 33) dX12_inBetween_33 rfl h hP
def ncX12_toDistance : Nat := 3700264374254722485666619996686555365092012535062995802622775072044614209623321727405111191824859626173028031536957859725281392230675934497845391379907112717160269058034712410716729338901983037799748124798240178228174660257728058556626067861009381748528658802761414830258798729503717760037749011405477225586249091503272835270402897213404437883835228880099540082423716439793243338030056746
theorem kcX12_toDistance : CK cX12_toDistance ncX12_toDistance 161 := ⟨by decide +kernel, by decide +kernel⟩
theorem dX12_toDistance_0 : decode cX12_toDistance 0 = .ok (.aload_n 0, 1) := dl_o42 kcX12_toDistance (by decide +kernel)
theorem dX12_toDistance_1 : decode cX12_toDistance 1 = .ok (.iconst 2, 1) := dl_o5 kcX12_toDistance (by decide +kernel)
theorem dX12_toDistance_2 : decode cX12_toDistance 2 = .ok (.invokevirtual 576, 3) := dl_o182 kcX12_toDistance (by decide +kernel)
theorem dX12_toDistance_5 : decode cX12_toDistance 5 = .ok (.ifCond .ne 4, 3) := dl_o154 kcX12_toDistance 4 (by decide +kernel) (by decide +kernel)
theorem dX12_toDistance_8 : decode cX12_toDistance 8 = .ok (.return_, 1) := dl_o177 kcX12_toDistance (by decide +kernel)
theorem dX12_toDistance_9 : decode cX12_toDistance 9 = .ok (.aload_n 0, 1) := dl_o42 kcX12_toDistance (by decide +kernel)
theorem dX12_toDistance_10 : decode cX12_toDistance 10 = .ok (.invokevirtual 579, 3) := dl_o182 kcX12_toDistance (by decide +kernel)
theorem dX12_toDistance_13 : decode cX12_toDistance 13 = .ok (.istore_n 2, 1) := dl_o61 kcX12_toDistance (by decide +kernel)
theorem dX12_toDistance_14 : decode cX12_toDistance 14 = .ok (.aload_n 0, 1) := dl_o42 kcX12_toDistance (by decide +kernel)
theorem dX12_toDistance_15 : decode cX12_toDistance 15 = .ok (.invokevirtual 579, 3) := dl_o182 kcX12_toDistance (by decide +kernel)
theorem dX12_toDistance_18 : decode cX12_toDistance 18 = .ok (.istore_n 3, 1) := dl_o62 kcX12_toDistance (by decide +kernel)
theorem dX12_toDistance_19 : decode cX12_toDistance 19 = .ok (.aload_n 0, 1) := dl_o42 kcX12_toDistance (by decide +kernel)
theorem dX12_toDistance_20 : decode cX12_toDistance 20 = .ok (.aload_n 0, 1) := dl_o42 kcX12_toDistance (by decide +kernel)
theorem dX12_toDistance_21 : decode cX12_toDistance 21 = .ok (.getfield 463, 3) := dl_o180 kcX12_toDistance (by decide +kernel)
theorem dX12_toDistance_24 : decode cX12_toDistance 24 = .ok (.iload_n 3, 1) := dl_o29 kcX12_toDistance (by decide +kernel)
theorem dX12_toDistance_25 : decode cX12_toDistance 25 = .ok (.invokevirtual 582, 3) := dl_o182 kcX12_toDistance (by decide +kernel)
theorem dX12_toDistance_28 : decode cX12_toDistance 28 = .ok (.istore 4, 2) := dl_o54 kcX12_toDistance (by decide +kernel)
theorem dX12_toDistance_30 : decode cX12_toDistance 30 = .ok (.aload_n 0, 1) := dl_o42 kcX12_toDistance (by decide +kernel)
theorem dX12_toDistance_31 : decode cX12_toDistance 31 = .ok (.aload_n 0, 1) := dl_o42 kcX12_toDistance (by decide +kernel)
theorem dX12_toDistance_32 : decode cX12_toDistance 32 = .ok (.getfield 460, 3) := dl_o180 kcX12_toDistance (by decide +kernel)
theorem dX12_toDistance_35 : decode cX12_toDistance 35 = .ok (.aload_n 0, 1) := dl_o42 kcX12_toDistance (by decide +kernel)
theorem dX12_toDistance_36 : decode cX12_toDistance 36 = .ok (.getfield 451, 3) := dl_o180 kcX12_toDistance (by decide +kernel)
theorem dX12_toDistance_39 : decode cX12_toDistance 39 = .ok (.invokevirtual 582, 3) := dl_o182 kcX12_toDistance (by decide +kernel)
theorem dX12_toDistance_42 : decode cX12_toDistance 42 = .ok (.istore 5, 2) := dl_o54 kcX12_toDistance (by decide +kernel)
theorem dX12_toDistance_44 : decode cX12_toDistance 44 = .ok (.aload_n 0, 1) := dl_o42 kcX12_toDistance (by decide +kernel)
theorem dX12_toDistance_45 : decode cX12_toDistance 45 = .ok (.getfield 409, 3) := dl_o180 kcX12_toDistance (by decide +kernel)
theorem dX12_toDistance_48 : decode cX12_toDistance 48 = .ok (.ifCond .le 4, 3) := dl_o158 kcX12_toDistance 4 (by decide +kernel) (by decide +kernel)
theorem dX12_toDistance_51 : decode cX12_toDistance 51 = .ok (.return_, 1) := dl_o177 kcX12_toDistance (by decide +kernel)
theorem dX12_toDistance_52 : decode cX12_toDistance 52 = .ok (.aload_n 0, 1) := dl_o42 kcX12_toDistance (by decide +kernel)
theorem dX12_toDistance_53 : decode cX12_toDistance 53 = .ok (.getfield 463, 3) := dl_o180 kcX12_toDistance (by decide +kernel)
theorem dX12_toDistance_56 : decode cX12_toDistance 56 = .ok (.ifCond .ne 55, 3) := dl_o154 kcX12_toDistance 55 (by decide +kernel) (by decide +kernel)
theorem dX12_toDistance_59 : decode cX12_toDistance 59 = .ok (.aload_n 0, 1) := dl_o42 kcX12_toDistance (by decide +kernel)
theorem dX12_toDistance_60 : decode cX12_toDistance 60 = .ok (.iload 4, 2) := dl_o21 kcX12_toDistance (by decide +kernel)
theorem dX12_toDistance_62 : decode cX12_toDistance 62 = .ok (.aload_n 0, 1) := dl_o42 kcX12_toDistance (by decide +kernel)
theorem dX12_toDistance_63 : decode cX12_toDistance 63 = .ok (.getfield 70, 3) := dl_o180 kcX12_toDistance (by decide +kernel)
theorem dX12_toDistance_66 : decode cX12_toDistance 66 = .ok (.iload 5, 2) := dl_o21 kcX12_toDistance (by decide +kernel)
theorem dX12_toDistance_68 : decode cX12_toDistance 68 = .ok (.iaload, 1) := dl_o46 kcX12_toDistance (by decide +kernel)
theorem dX12_toDistance_69 : decode cX12_toDistance 69 = .ok (.i2l, 1) := dl_o133 kcX12_toDistance (by decide +kernel)
theorem dX12_toDistance_70 : decode cX12_toDistance 70 = .ok (.iload_n 2, 1) := dl_o28 kcX12_toDistance (by decide +kernel)
theorem dX12_toDistance_71 : decode cX12_toDistance 71 = .ok (.i2l, 1) := dl_o133 kcX12_toDistance (by decide +kernel)
theorem dX12_toDistance_72 : decode cX12_toDistance 72 = .ok (.aload_n 0, 1) := dl_o42 kcX12_toDistance (by decide +kernel)
theorem dX12_toDistance_73 : decode cX12_toDistance 73 = .ok (.getfield 433, 3) := dl_o180 kcX12_toDistance (by decide +kernel)
theorem dX12_toDistance_76 : decode cX12_toDistance 76 = .ok (.i2l, 1) := dl_o133 kcX12_toDistance (by decide +kernel)
theorem dX12_toDistance_77 : decode cX12_toDistance 77 = .ok (.lmul, 1) := dl_o105 kcX12_toDistance (by decide +kernel)
theorem dX12_toDistance_78 : decode cX12_toDistance 78 = .ok (.ldc2_w 310, 3) := dl_o20 kcX12_toDistance (by decide +kernel)
theorem dX12_toDistance_81 : decode cX12_toDistance 81 = .ok (.invokestatic 517, 3) := dl_o184 kcX12_toDistance (by decide +kernel)
theorem dX12_toDistance_84 : decode cX12_toDistance 84 = .ok (.ladd, 1) := dl_o97 kcX12_toDistance (by decide +kernel)
theorem dX12_toDistance_85 : decode cX12_toDistance 85 = .ok (.aload_n 0, 1) := dl_o42 kcX12_toDistance (by decide +kernel)
theorem dX12_toDistance_86 : decode cX12_toDistance 86 = .ok (.getfield 73, 3) := dl_o180 kcX12_toDistance (by decide +kernel)
theorem dX12_toDistance_89 : decode cX12_toDistance 89 = .ok (.iload 5, 2) := dl_o21 kcX12_toDistance (by decide +kernel)
theorem dX12_toDistance_91 : decode cX12_toDistance 91 = .ok (.iaload, 1) := dl_o46 kcX12_toDistance (by decide +kernel)
theorem dX12_toDistance_92 : decode cX12_toDistance 92 = .ok (.i2l, 1) := dl_o133 kcX12_toDistance (by decide +kernel)
theorem dX12_toDistance_93 : decode cX12_toDistance 93 = .ok (.iload_n 2, 1) := dl_o28 kcX12_toDistance (by decide +kernel)
theorem dX12_toDistance_94 : decode cX12_toDistance 94 = .ok (.i2l, 1) := dl_o133 kcX12_toDistance (by decide +kernel)
theorem dX12_toDistance_95 : decode cX12_toDistance 95 = .ok (.aload_n 0, 1) := dl_o42 kcX12_toDistance (by decide +kernel)
theorem dX12_toDistance_96 : decode cX12_toDistance 96 = .ok (.getfield 436, 3) := dl_o180 kcX12_toDistance (by decide +kernel)
theorem dX12_toDistance_99 : decode cX12_toDistance 99 = .ok (.i2l, 1) := dl_o133 kcX12_toDistance (by decide +kernel)
theorem dX12_toDistance_100 : decode cX12_toDistance 100 = .ok (.lmul, 1) := dl_o105 kcX12_toDistance (by decide +kernel)
theorem dX12_toDistance_101 : decode cX12_toDistance 101 = .ok (.ldc2_w 310, 3) := dl_o20 kcX12_toDistance (by decide +kernel)
theorem dX12_toDistance_104 : decode cX12_toDistance 104 = .ok (.invokestatic 517, 3) := dl_o184 kcX12_toDistance (by decide +kernel)
theorem dX12_toDistance_107 : decode cX12_toDistance 107 = .ok (.ladd, 1) := dl_o97 kcX12_toDistance (by decide +kernel)
theorem dX12_toDistance_108 : decode cX12_toDistance 108 = .ok (.invokevirtual 716, 3) := dl_o182 kcX12_toDistance (by decide +kernel)
theorem dX12_toDistance_111 : decode cX12_toDistance 111 = .ok (.aload_n 0, 1) := dl_o42 kcX12_toDistance (by decide +kernel)
theorem dX12_toDistance_112 : decode cX12_toDistance 112 = .ok (.iload 4, 2) := dl_o21 kcX12_toDistance (by decide +kernel)
theorem dX12_toDistance_114 : decode cX12_toDistance 114 = .ok (.iload_n 2, 1) := dl_o28 kcX12_toDistance (by decide +kernel)
theorem dX12_toDistance_115 : decode cX12_toDistance 115 = .ok (.i2l, 1) := dl_o133 kcX12_toDistance (by decide +kernel)
theorem dX12_toDistance_116 : decode cX12_toDistance 116 = .ok (.aload_n 0, 1) := dl_o42 kcX12_toDistance (by decide +kernel)
theorem dX12_toDistance_117 : decode cX12_toDistance 117 = .ok (.iload 4, 2) := dl_o21 kcX12_toDistance (by decide +kernel)
theorem dX12_toDistance_119 : decode cX12_toDistance 119 = .ok (.iload 5, 2) := dl_o21 kcX12_toDistance (by decide +kernel)
theorem dX12_toDistance_121 : decode cX12_toDistance 121 = .ok (.invokevirtual 627, 3) := dl_o182 kcX12_toDistance (by decide +kernel)
theorem dX12_toDistance_124 : decode cX12_toDistance 124 = .ok (.i2l, 1) := dl_o133 kcX12_toDistance (by decide +kernel)
theorem dX12_toDistance_125 : decode cX12_toDistance 125 = .ok (.lsub, 1) := dl_o101 kcX12_toDistance (by decide +kernel)
theorem dX12_toDistance_126 : decode cX12_toDistance 126 = .ok (.invokevirtual 630, 3) := dl_o182 kcX12_toDistance (by decide +kernel)
theorem dX12_toDistance_129 : decode cX12_toDistance 129 = .ok (.aload_n 0, 1) := dl_o42 kcX12_toDistance (by decide +kernel)
theorem dX12_toDistance_130 : decode cX12_toDistance 130 = .ok (.aload_n 0, 1) := dl_o42 kcX12_toDistance (by decide +kernel)
theorem dX12_toDistance_131 : decode cX12_toDistance 131 = .ok (.getfield 451, 3) := dl_o180 kcX12_toDistance (by decide +kernel)
theorem dX12_toDistance_134 : decode cX12_toDistance 134 = .ok (.putfield 454, 3) := dl_o181 kcX12_toDistance (by decide +kernel)
theorem dX12_toDistance_137 : decode cX12_toDistance 137 = .ok (.aload_n 0, 1) := dl_o42 kcX12_toDistance (by decide +kernel)
theorem dX12_toDistance_138 : decode cX12_toDistance 138 = .ok (.iload_n 3, 1) := dl_o29 kcX12_toDistance (by decide +kernel)
theorem dX12_toDistance_139 : decode cX12_toDistance 139 = .ok (.putfield 457, 3) := dl_o181 kcX12_toDistance (by decide +kernel)
theorem dX12_toDistance_142 : decode cX12_toDistance 142 = .ok (.aload_n 0, 1) := dl_o42 kcX12_toDistance (by decide +kernel)
theorem dX12_toDistance_143 : decode cX12_toDistance 143 = .ok (.iload_n 1, 1) := dl_o27 kcX12_toDistance (by decide +kernel)
theorem dX12_toDistance_144 : decode cX12_toDistance 144 = .ok (.bipush 59, 2) := dl_o16 kcX12_toDistance 59 (by decide +kernel) (by decide +kernel)
theorem dX12_toDistance_146 : decode cX12_toDistance 146 = .ok (.if_icmp .ne 7, 3) := dl_o160 kcX12_toDistance 7 (by decide +kernel) (by decide +kernel)
theorem dX12_toDistance_149 : decode cX12_toDistance 149 = .ok (.iload_n 3, 1) := dl_o29 kcX12_toDistance (by decide +kernel)
theorem dX12_toDistance_150 : decode cX12_toDistance 150 = .ok (.goto 7, 3) := dl_o167 kcX12_toDistance 7 (by decide +kernel) (by decide +kernel)
theorem dX12_toDistance_153 : decode cX12_toDistance 153 = .ok (.aload_n 0, 1) := dl_o42 kcX12_toDistance (by decide +kernel)
theorem dX12_toDistance_154 : decode cX12_toDistance 154 = .ok (.getfield 451, 3) := dl_o180 kcX12_toDistance (by decide +kernel)
theorem dX12_toDistance_157 : decode cX12_toDistance 157 = .ok (.putfield 451, 3) := dl_o181 kcX12_toDistance (by decide +kernel)
theorem dX12_toDistance_160 : decode cX12_toDistance 160 = .ok (.return_, 1) := dl_o177 kcX12_toDistance (by decide +kernel)
def B_X12_toDistance_111  (l1 : Int32) (l2 : Int32) (l3 : Int32) (l4 : Int32) (l5 : Int32) (V : sv_V) : Option sv_V := (F_X12_between l4 l5 V).bind (fun (x3, V1) => (F_X12_move l4 (l2.toInt64 - x3.toInt64) V1).bind (fun V4 => sx_let (sv_I V4 146 70 (V4.1 146 69)) (fun V6 => sx_let (sv_I V6 146 71 l3) (fun V7 => if l1 = (59 : Int32) then (sx_let (sv_I V7 146 69 l3) (fun V10 => some V10)) else (sx_let (sv_I V7 146 69 (V7.1 146 69)) (fun V9 => some V9))))))
set_option maxRecDepth 20000 in
theorem tB_X12_toDistance_111 {g : sx_G} (hG : sx_Go g) {P : Option Value → sv_V → Prop} {Vr : sv_V} (hP : P none Vr)   {l1 : Int32} {l2 : Int32} {l3 : Int32} {l4 : Int32} {l5 : Int32} {V : sv_V} (h : B_X12_toDistance_111  l1 l2 l3 l4 l5 V = some Vr) : sv_N g qX12_toDistance 5 111 [(0, .ref 146), (1, .int l1), (2, .int l2), (3, .int l3), (4, .int l4), (5, .int l5)] [] V P := by
  unfold B_X12_toDistance_111 at h
  refine sx_aload_n (pc := 111) dX12_toDistance_111 sx_m0 ?_
  refine sx_iload (pc := 112) dX12_toDistance_112 sx_m4 ?_
  refine sx_iload_n (pc := 114) dX12_toDistance_114 sx_m2 ?_
  refine sx_i2l (pc := 115) dX12_toDistance_115 ?_
  refine sx_aload_n (pc := 116) dX12_toDistance_116 sx_m0 ?_
  refine sx_iload (pc := 117) dX12_toDistance_117 sx_m4 ?_
  refine sx_iload (pc := 119) dX12_toDistance_119 sx_m5 ?_
  obtain ⟨⟨x3, V1⟩, g2, h⟩ := sx_bnd h
  refine sv_cV (pc := 121) (y := qX12_between) (o := (some (.int x3))) (as := [.int l4, .int l5]) (V1 := V1) hG dX12_toDistance_121 l_X12_627 y0X12_between yvX12_between rfl (Nat.le_of_ble_eq_true rfl) lay_146 kr_12 (by decide) (Nat.le_of_ble_eq_true rfl) rfl rfl rfl (t_X12_between hG ⟨rfl, rfl⟩ g2) ?_
  refine sx_i2l (pc := 124) dX12_toDistance_124 ?_
  refine sx_lsub (pc := 125) dX12_toDistance_125 ?_
  obtain ⟨V4, g5, h⟩ := sx_bnd h
  refine sv_cV (pc := 126) (y := qX12_move) (o := none) (as := [.int l4, .long (l2.toInt64 - x3.toInt64)]) (V1 := V4) hG dX12_toDistance_126 l_X12_630 y0X12_move yvX12_move rfl (Nat.le_of_ble_eq_true rfl) lay_146 kr_12 (by decide) (Nat.le_of_ble_eq_true rfl) rfl rfl rfl (t_X12_move hG ⟨rfl, rfl⟩ g5) ?_
  refine sx_aload_n (pc := 129) dX12_toDistance_129 sx_m0 ?_
  refine sx_aload_n (pc := 130) dX12_toDistance_130 sx_m0 ?_
  refine sv_getI (pc := 131) hG dX12_toDistance_131 f_12_451 lay_146 rfl ?_
  obtain ⟨V6, hV6⟩ : ∃ z : sv_V, z = sv_I V4 146 70 (V4.1 146 69) := ⟨_, rfl⟩
  have h := sx_letE hV6 h
  refine sv_putI (pc := 134) hG dX12_toDistance_134 f_12_454 lay_146 rfl hV6 ?_
  refine sx_aload_n (pc := 137) dX12_toDistance_137 sx_m0 ?_
  refine sx_iload_n (pc := 138) dX12_toDistance_138 sx_m3 ?_
  obtain ⟨V7, hV7⟩ : ∃ z : sv_V, z = sv_I V6 146 71 l3 := ⟨_, rfl⟩
  have h := sx_letE hV7 h
  refine sv_putI (pc := 139) hG dX12_toDistance_139 f_12_457 lay_146 rfl hV7 ?_
  refine sx_aload_n (pc := 142) dX12_toDistance_142 sx_m0 ?_
  refine sx_iload_n (pc := 143) dX12_toDistance_143 sx_m1 ?_
  refine sx_bipush (pc := 144) (v := 59) dX12_toDistance_144 (by decide) ?_
  refine sx_icmp_ne (pc := 146) (tgt := 153) dX12_toDistance_146 (by decide) (fun c8 => ?_) (fun c8 => ?_)
  · have h := sx_neg c8 h
    refine sx_aload_n (pc := 153) dX12_toDistance_153 sx_m0 ?_
    refine sv_getI (pc := 154) hG dX12_toDistance_154 f_12_451 lay_146 rfl ?_
    obtain ⟨V9, hV9⟩ : ∃ z : sv_V, z = sv_I V7 146 69 (V7.1 146 69) := ⟨_, rfl⟩
    have h := sx_letE hV9 h
    refine sv_putI (pc := 157) hG dX12_toDistance_157 f_12_451 lay_146 rfl hV9 ?_
    exact sv_vret (pc := 160) dX12_toDistance_160 rfl h hP
  · have h := sx_pos c8 h
    refine sx_iload_n (pc := 149) dX12_toDistance_149 sx_m3 ?_
    refine sx_goto (pc := 150) (tgt := 157) dX12_toDistance_150 (by decide) ?_
    obtain ⟨V10, hV10⟩ : ∃ z : sv_V, z = sv_I V7 146 69 l3 := ⟨_, rfl⟩
    have h := sx_letE hV10 h
    refine sv_putI (pc := 157) hG dX12_toDistance_157 f_12_451 lay_146 rfl hV10 ?_
    exact sv_vret (pc := 160) dX12_toDistance_160 rfl h hP
def F_X12_toDistance (l1 : Int32) (V : sv_V) : Option sv_V := (F_X12_has (2 : Int32) V).bind (fun (x13, V11) => if x13 = 0 then (some V11) else ((F_X12_pop  V11).bind (fun (x17, V15) => (F_X12_pop  V15).bind (fun (x20, V18) => (F_X12_pointOf (V18.1 146 73) x20 V18).bind (fun (x23, V21) => (F_X12_pointOf (V21.1 146 72) (V21.1 146 69) V21).bind (fun (x26, V24) => if (V24.1 146 59) ≤ 0 then (if (V24.1 146 73) = 0 then (if sx_in x26 204 = true then (F_X12_over (x17.toInt64 * ((V24.1 146 63).toInt64)) (16384 : Int64) V24).bind (fun (x32, V30) => if sx_in x26 204 = true then (F_X12_over (x17.toInt64 * ((V30.1 146 64).toInt64)) (16384 : Int64) V30).bind (fun (x36, V34) => (F_X12_put x23 (((V24.1 166 x26.toNatClampNeg).toInt64) + x32) (((V30.1 167 x26.toNatClampNeg).toInt64) + x36) V34).bind (fun V37 => B_X12_toDistance_111  l1 x17 x20 x23 x26 V37)) else none) else none) else (B_X12_toDistance_111  l1 x17 x20 x23 x26 V24)) else (some V24)))))))
set_option maxRecDepth 20000 in
theorem t_X12_toDistance {g : sx_G} (hG : sx_Go g) {P : Option Value → sv_V → Prop} {Vr : sv_V} (hP : P none Vr) {l1 : Int32} {V : sv_V} (h : F_X12_toDistance l1 V = some Vr) : sv_N g qX12_toDistance 5 0 [(0, .ref 146), (1, .int l1)] [] V P := by
  unfold F_X12_toDistance at h
  refine sx_aload_n (pc := 0) dX12_toDistance_0 sx_m0 ?_
  refine sx_iconst (pc := 1) (v := 2) dX12_toDistance_1 (by decide) ?_
  obtain ⟨⟨x13, V11⟩, g12, h⟩ := sx_bnd h
  refine sv_cV (pc := 2) (y := qX12_has) (o := (some (.int x13))) (as := [.int (2 : Int32)]) (V1 := V11) hG dX12_toDistance_2 l_X12_576 y0X12_has yvX12_has rfl (Nat.le_of_ble_eq_true rfl) lay_146 kr_12 (by decide) (Nat.le_of_ble_eq_true rfl) rfl rfl rfl (t_X12_has hG ⟨rfl, rfl⟩ g12) ?_
  refine sx_if_ne (pc := 5) (tgt := 9) dX12_toDistance_5 (by decide) (fun c14 => ?_) (fun c14 => ?_)
  · have h := sx_neg c14 h
    refine sx_aload_n (pc := 9) dX12_toDistance_9 sx_m0 ?_
    obtain ⟨⟨x17, V15⟩, g16, h⟩ := sx_bnd h
    refine sv_cV (pc := 10) (y := qX12_pop) (o := (some (.int x17))) (as := []) (V1 := V15) hG dX12_toDistance_10 l_X12_579 y0X12_pop yvX12_pop rfl (Nat.le_of_ble_eq_true rfl) lay_146 kr_12 (by decide) (Nat.le_of_ble_eq_true rfl) rfl rfl rfl (t_X12_pop hG ⟨rfl, rfl⟩ g16) ?_
    refine sx_istore_n (pc := 13) (lo' := [(2, .int x17), (0, .ref 146), (1, .int l1)]) dX12_toDistance_13 (by decide) rfl ?_
    refine sx_aload_n (pc := 14) dX12_toDistance_14 sx_m1 ?_
    obtain ⟨⟨x20, V18⟩, g19, h⟩ := sx_bnd h
    refine sv_cV (pc := 15) (y := qX12_pop) (o := (some (.int x20))) (as := []) (V1 := V18) hG dX12_toDistance_15 l_X12_579 y0X12_pop yvX12_pop rfl (Nat.le_of_ble_eq_true rfl) lay_146 kr_12 (by decide) (Nat.le_of_ble_eq_true rfl) rfl rfl rfl (t_X12_pop hG ⟨rfl, rfl⟩ g19) ?_
    refine sx_istore_n (pc := 18) (lo' := [(3, .int x20), (2, .int x17), (0, .ref 146), (1, .int l1)]) dX12_toDistance_18 (by decide) rfl ?_
    refine sx_aload_n (pc := 19) dX12_toDistance_19 sx_m2 ?_
    refine sx_aload_n (pc := 20) dX12_toDistance_20 sx_m2 ?_
    refine sv_getI (pc := 21) hG dX12_toDistance_21 f_12_463 lay_146 rfl ?_
    refine sx_iload_n (pc := 24) dX12_toDistance_24 sx_m0 ?_
    obtain ⟨⟨x23, V21⟩, g22, h⟩ := sx_bnd h
    refine sv_cV (pc := 25) (y := qX12_pointOf) (o := (some (.int x23))) (as := [.int (V18.1 146 73), .int x20]) (V1 := V21) hG dX12_toDistance_25 l_X12_582 y0X12_pointOf yvX12_pointOf rfl (Nat.le_of_ble_eq_true rfl) lay_146 kr_12 (by decide) (Nat.le_of_ble_eq_true rfl) rfl rfl rfl (t_X12_pointOf hG ⟨rfl, rfl⟩ g22) ?_
    refine sx_istore (pc := 28) (lo' := [(4, .int x23), (3, .int x20), (2, .int x17), (0, .ref 146), (1, .int l1)]) dX12_toDistance_28 (by decide) rfl ?_
    refine sx_aload_n (pc := 30) dX12_toDistance_30 sx_m3 ?_
    refine sx_aload_n (pc := 31) dX12_toDistance_31 sx_m3 ?_
    refine sv_getI (pc := 32) hG dX12_toDistance_32 f_12_460 lay_146 rfl ?_
    refine sx_aload_n (pc := 35) dX12_toDistance_35 sx_m3 ?_
    refine sv_getI (pc := 36) hG dX12_toDistance_36 f_12_451 lay_146 rfl ?_
    obtain ⟨⟨x26, V24⟩, g25, h⟩ := sx_bnd h
    refine sv_cV (pc := 39) (y := qX12_pointOf) (o := (some (.int x26))) (as := [.int (V21.1 146 72), .int (V21.1 146 69)]) (V1 := V24) hG dX12_toDistance_39 l_X12_582 y0X12_pointOf yvX12_pointOf rfl (Nat.le_of_ble_eq_true rfl) lay_146 kr_12 (by decide) (Nat.le_of_ble_eq_true rfl) rfl rfl rfl (t_X12_pointOf hG ⟨rfl, rfl⟩ g25) ?_
    refine sx_istore (pc := 42) (lo' := [(5, .int x26), (4, .int x23), (3, .int x20), (2, .int x17), (0, .ref 146), (1, .int l1)]) dX12_toDistance_42 (by decide) rfl ?_
    refine sx_aload_n (pc := 44) dX12_toDistance_44 sx_m4 ?_
    refine sv_getI (pc := 45) hG dX12_toDistance_45 f_12_409 lay_146 rfl ?_
    refine sx_if_le (pc := 48) (tgt := 52) dX12_toDistance_48 (by decide) (fun c27 => ?_) (fun c27 => ?_)
    · have h := sx_pos c27 h
      refine sx_aload_n (pc := 52) dX12_toDistance_52 sx_m4 ?_
      refine sv_getI (pc := 53) hG dX12_toDistance_53 f_12_463 lay_146 rfl ?_
      refine sx_if_ne (pc := 56) (tgt := 111) dX12_toDistance_56 (by decide) (fun c28 => ?_) (fun c28 => ?_)
      · have h := sx_neg c28 h
        refine sx_wk (sx_s1 sx_m4 (sx_s1 sx_m5 (sx_s1 sx_m3 (sx_s1 sx_m2 (sx_s1 sx_m1 (sx_s1 sx_m0 sx_s0)))))) ?_
        exact tB_X12_toDistance_111 hG hP  h
      · have h := sx_pos c28 h
        refine sx_aload_n (pc := 59) dX12_toDistance_59 sx_m4 ?_
        refine sx_iload (pc := 60) dX12_toDistance_60 sx_m1 ?_
        refine sx_aload_n (pc := 62) dX12_toDistance_62 sx_m4 ?_
        refine sv_getA (pc := 63) hG dX12_toDistance_63 f_12_70 lay_146 rfl cr_146_46 ?_
        refine sx_iload (pc := 66) dX12_toDistance_66 sx_m0 ?_
        obtain ⟨g29, h⟩ := sx_grd h
        refine sv_iald (pc := 68) hG dX12_toDistance_68 lay_166 g29 ?_
        refine sx_i2l (pc := 69) dX12_toDistance_69 ?_
        refine sx_iload_n (pc := 70) dX12_toDistance_70 sx_m3 ?_
        refine sx_i2l (pc := 71) dX12_toDistance_71 ?_
        refine sx_aload_n (pc := 72) dX12_toDistance_72 sx_m4 ?_
        refine sv_getI (pc := 73) hG dX12_toDistance_73 f_12_433 lay_146 rfl ?_
        refine sx_i2l (pc := 76) dX12_toDistance_76 ?_
        refine sx_lmul (pc := 77) dX12_toDistance_77 ?_
        refine sx_ldc2 (pc := 78) dX12_toDistance_78 k_X12_310 ?_
        obtain ⟨⟨x32, V30⟩, g31, h⟩ := sx_bnd h
        refine sv_cS (pc := 81) (y := qX12_over) (o := (some (.long x32))) (as := [.long (x17.toInt64 * ((V24.1 146 63).toInt64)), .long (16384 : Int64)]) (V1 := V30) dX12_toDistance_81 l_X12_517 y0X12_over ysX12_over rfl (Nat.le_of_ble_eq_true rfl) (by decide) (Nat.le_of_ble_eq_true rfl) rfl rfl rfl (t_X12_over hG ⟨rfl, rfl⟩ g31) ?_
        refine sx_ladd (pc := 84) dX12_toDistance_84 ?_
        refine sx_aload_n (pc := 85) dX12_toDistance_85 sx_m4 ?_
        refine sv_getA (pc := 86) hG dX12_toDistance_86 f_12_73 lay_146 rfl cr_146_47 ?_
        refine sx_iload (pc := 89) dX12_toDistance_89 sx_m0 ?_
        obtain ⟨g33, h⟩ := sx_grd h
        refine sv_iald (pc := 91) hG dX12_toDistance_91 lay_167 g33 ?_
        refine sx_i2l (pc := 92) dX12_toDistance_92 ?_
        refine sx_iload_n (pc := 93) dX12_toDistance_93 sx_m3 ?_
        refine sx_i2l (pc := 94) dX12_toDistance_94 ?_
        refine sx_aload_n (pc := 95) dX12_toDistance_95 sx_m4 ?_
        refine sv_getI (pc := 96) hG dX12_toDistance_96 f_12_436 lay_146 rfl ?_
        refine sx_i2l (pc := 99) dX12_toDistance_99 ?_
        refine sx_lmul (pc := 100) dX12_toDistance_100 ?_
        refine sx_ldc2 (pc := 101) dX12_toDistance_101 k_X12_310 ?_
        obtain ⟨⟨x36, V34⟩, g35, h⟩ := sx_bnd h
        refine sv_cS (pc := 104) (y := qX12_over) (o := (some (.long x36))) (as := [.long (x17.toInt64 * ((V30.1 146 64).toInt64)), .long (16384 : Int64)]) (V1 := V34) dX12_toDistance_104 l_X12_517 y0X12_over ysX12_over rfl (Nat.le_of_ble_eq_true rfl) (by decide) (Nat.le_of_ble_eq_true rfl) rfl rfl rfl (t_X12_over hG ⟨rfl, rfl⟩ g35) ?_
        refine sx_ladd (pc := 107) dX12_toDistance_107 ?_
        obtain ⟨V37, g38, h⟩ := sx_bnd h
        refine sv_cV (pc := 108) (y := qX12_put) (o := none) (as := [.int x23, .long (((V24.1 166 x26.toNatClampNeg).toInt64) + x32), .long (((V30.1 167 x26.toNatClampNeg).toInt64) + x36)]) (V1 := V37) hG dX12_toDistance_108 l_X12_716 y0X12_put yvX12_put rfl (Nat.le_of_ble_eq_true rfl) lay_146 kr_12 (by decide) (Nat.le_of_ble_eq_true rfl) rfl rfl rfl (t_X12_put hG ⟨rfl, rfl⟩ g38) ?_
        refine sx_wk (sx_s1 sx_m4 (sx_s1 sx_m5 (sx_s1 sx_m3 (sx_s1 sx_m2 (sx_s1 sx_m1 (sx_s1 sx_m0 sx_s0)))))) ?_
        exact tB_X12_toDistance_111 hG hP  h
    · have h := sx_neg c27 h
      exact sv_vret (pc := 51) dX12_toDistance_51 rfl h hP
  · have h := sx_pos c14 h
    exact sv_vret (pc := 8) dX12_toDistance_8 rfl h hP
def ncX12_toCvt : Nat := 14455110583444458732646509348382966879974944269780813333683366255548860514900503328184557720500996014386498570980091197089464449388959965555028043063738309824748389548429804262637847110064249271624141025381926891542950043308024334674281611623456611468362259748400855009708636059926580727370092132524355439409488318244967459361376472919897834819170255161126673954473685435708709990171946
theorem kcX12_toCvt : CK cX12_toCvt ncX12_toCvt 160 := ⟨by decide +kernel, by decide +kernel⟩
theorem dX12_toCvt_0 : decode cX12_toCvt 0 = .ok (.aload_n 0, 1) := dl_o42 kcX12_toCvt (by decide +kernel)
theorem dX12_toCvt_1 : decode cX12_toCvt 1 = .ok (.iconst 2, 1) := dl_o5 kcX12_toCvt (by decide +kernel)
theorem dX12_toCvt_2 : decode cX12_toCvt 2 = .ok (.invokevirtual 576, 3) := dl_o182 kcX12_toCvt (by decide +kernel)
theorem dX12_toCvt_5 : decode cX12_toCvt 5 = .ok (.ifCond .ne 4, 3) := dl_o154 kcX12_toCvt 4 (by decide +kernel) (by decide +kernel)
theorem dX12_toCvt_8 : decode cX12_toCvt 8 = .ok (.return_, 1) := dl_o177 kcX12_toCvt (by decide +kernel)
theorem dX12_toCvt_9 : decode cX12_toCvt 9 = .ok (.aload_n 0, 1) := dl_o42 kcX12_toCvt (by decide +kernel)
theorem dX12_toCvt_10 : decode cX12_toCvt 10 = .ok (.invokevirtual 579, 3) := dl_o182 kcX12_toCvt (by decide +kernel)
theorem dX12_toCvt_13 : decode cX12_toCvt 13 = .ok (.istore_n 2, 1) := dl_o61 kcX12_toCvt (by decide +kernel)
theorem dX12_toCvt_14 : decode cX12_toCvt 14 = .ok (.aload_n 0, 1) := dl_o42 kcX12_toCvt (by decide +kernel)
theorem dX12_toCvt_15 : decode cX12_toCvt 15 = .ok (.invokevirtual 579, 3) := dl_o182 kcX12_toCvt (by decide +kernel)
theorem dX12_toCvt_18 : decode cX12_toCvt 18 = .ok (.istore_n 3, 1) := dl_o62 kcX12_toCvt (by decide +kernel)
theorem dX12_toCvt_19 : decode cX12_toCvt 19 = .ok (.aload_n 0, 1) := dl_o42 kcX12_toCvt (by decide +kernel)
theorem dX12_toCvt_20 : decode cX12_toCvt 20 = .ok (.aload_n 0, 1) := dl_o42 kcX12_toCvt (by decide +kernel)
theorem dX12_toCvt_21 : decode cX12_toCvt 21 = .ok (.getfield 460, 3) := dl_o180 kcX12_toCvt (by decide +kernel)
theorem dX12_toCvt_24 : decode cX12_toCvt 24 = .ok (.iload_n 3, 1) := dl_o29 kcX12_toCvt (by decide +kernel)
theorem dX12_toCvt_25 : decode cX12_toCvt 25 = .ok (.invokevirtual 582, 3) := dl_o182 kcX12_toCvt (by decide +kernel)
theorem dX12_toCvt_28 : decode cX12_toCvt 28 = .ok (.istore 4, 2) := dl_o54 kcX12_toCvt (by decide +kernel)
theorem dX12_toCvt_30 : decode cX12_toCvt 30 = .ok (.aload_n 0, 1) := dl_o42 kcX12_toCvt (by decide +kernel)
theorem dX12_toCvt_31 : decode cX12_toCvt 31 = .ok (.iload_n 2, 1) := dl_o28 kcX12_toCvt (by decide +kernel)
theorem dX12_toCvt_32 : decode cX12_toCvt 32 = .ok (.invokevirtual 677, 3) := dl_o182 kcX12_toCvt (by decide +kernel)
theorem dX12_toCvt_35 : decode cX12_toCvt 35 = .ok (.i2l, 1) := dl_o133 kcX12_toCvt (by decide +kernel)
theorem dX12_toCvt_36 : decode cX12_toCvt 36 = .ok (.lstore 5, 2) := dl_o55 kcX12_toCvt (by decide +kernel)
theorem dX12_toCvt_38 : decode cX12_toCvt 38 = .ok (.aload_n 0, 1) := dl_o42 kcX12_toCvt (by decide +kernel)
theorem dX12_toCvt_39 : decode cX12_toCvt 39 = .ok (.getfield 409, 3) := dl_o180 kcX12_toCvt (by decide +kernel)
theorem dX12_toCvt_42 : decode cX12_toCvt 42 = .ok (.ifCond .le 4, 3) := dl_o158 kcX12_toCvt 4 (by decide +kernel) (by decide +kernel)
theorem dX12_toCvt_45 : decode cX12_toCvt 45 = .ok (.return_, 1) := dl_o177 kcX12_toCvt (by decide +kernel)
theorem dX12_toCvt_46 : decode cX12_toCvt 46 = .ok (.aload_n 0, 1) := dl_o42 kcX12_toCvt (by decide +kernel)
theorem dX12_toCvt_47 : decode cX12_toCvt 47 = .ok (.getfield 460, 3) := dl_o180 kcX12_toCvt (by decide +kernel)
theorem dX12_toCvt_50 : decode cX12_toCvt 50 = .ok (.ifCond .ne 37, 3) := dl_o154 kcX12_toCvt 37 (by decide +kernel) (by decide +kernel)
theorem dX12_toCvt_53 : decode cX12_toCvt 53 = .ok (.aload_n 0, 1) := dl_o42 kcX12_toCvt (by decide +kernel)
theorem dX12_toCvt_54 : decode cX12_toCvt 54 = .ok (.iload 4, 2) := dl_o21 kcX12_toCvt (by decide +kernel)
theorem dX12_toCvt_56 : decode cX12_toCvt 56 = .ok (.lload 5, 2) := dl_o22 kcX12_toCvt (by decide +kernel)
theorem dX12_toCvt_58 : decode cX12_toCvt 58 = .ok (.aload_n 0, 1) := dl_o42 kcX12_toCvt (by decide +kernel)
theorem dX12_toCvt_59 : decode cX12_toCvt 59 = .ok (.getfield 433, 3) := dl_o180 kcX12_toCvt (by decide +kernel)
theorem dX12_toCvt_62 : decode cX12_toCvt 62 = .ok (.i2l, 1) := dl_o133 kcX12_toCvt (by decide +kernel)
theorem dX12_toCvt_63 : decode cX12_toCvt 63 = .ok (.lmul, 1) := dl_o105 kcX12_toCvt (by decide +kernel)
theorem dX12_toCvt_64 : decode cX12_toCvt 64 = .ok (.ldc2_w 310, 3) := dl_o20 kcX12_toCvt (by decide +kernel)
theorem dX12_toCvt_67 : decode cX12_toCvt 67 = .ok (.invokestatic 517, 3) := dl_o184 kcX12_toCvt (by decide +kernel)
theorem dX12_toCvt_70 : decode cX12_toCvt 70 = .ok (.lload 5, 2) := dl_o22 kcX12_toCvt (by decide +kernel)
theorem dX12_toCvt_72 : decode cX12_toCvt 72 = .ok (.aload_n 0, 1) := dl_o42 kcX12_toCvt (by decide +kernel)
theorem dX12_toCvt_73 : decode cX12_toCvt 73 = .ok (.getfield 436, 3) := dl_o180 kcX12_toCvt (by decide +kernel)
theorem dX12_toCvt_76 : decode cX12_toCvt 76 = .ok (.i2l, 1) := dl_o133 kcX12_toCvt (by decide +kernel)
theorem dX12_toCvt_77 : decode cX12_toCvt 77 = .ok (.lmul, 1) := dl_o105 kcX12_toCvt (by decide +kernel)
theorem dX12_toCvt_78 : decode cX12_toCvt 78 = .ok (.ldc2_w 310, 3) := dl_o20 kcX12_toCvt (by decide +kernel)
theorem dX12_toCvt_81 : decode cX12_toCvt 81 = .ok (.invokestatic 517, 3) := dl_o184 kcX12_toCvt (by decide +kernel)
theorem dX12_toCvt_84 : decode cX12_toCvt 84 = .ok (.invokevirtual 716, 3) := dl_o182 kcX12_toCvt (by decide +kernel)
theorem dX12_toCvt_87 : decode cX12_toCvt 87 = .ok (.aload_n 0, 1) := dl_o42 kcX12_toCvt (by decide +kernel)
theorem dX12_toCvt_88 : decode cX12_toCvt 88 = .ok (.iload 4, 2) := dl_o21 kcX12_toCvt (by decide +kernel)
theorem dX12_toCvt_90 : decode cX12_toCvt 90 = .ok (.invokevirtual 644, 3) := dl_o182 kcX12_toCvt (by decide +kernel)
theorem dX12_toCvt_93 : decode cX12_toCvt 93 = .ok (.istore 7, 2) := dl_o54 kcX12_toCvt (by decide +kernel)
theorem dX12_toCvt_95 : decode cX12_toCvt 95 = .ok (.iload_n 1, 1) := dl_o27 kcX12_toCvt (by decide +kernel)
theorem dX12_toCvt_96 : decode cX12_toCvt 96 = .ok (.bipush 63, 2) := dl_o16 kcX12_toCvt 63 (by decide +kernel) (by decide +kernel)
theorem dX12_toCvt_98 : decode cX12_toCvt 98 = .ok (.if_icmp .ne 39, 3) := dl_o160 kcX12_toCvt 39 (by decide +kernel) (by decide +kernel)
theorem dX12_toCvt_101 : decode cX12_toCvt 101 = .ok (.lload 5, 2) := dl_o22 kcX12_toCvt (by decide +kernel)
theorem dX12_toCvt_103 : decode cX12_toCvt 103 = .ok (.iload 7, 2) := dl_o21 kcX12_toCvt (by decide +kernel)
theorem dX12_toCvt_105 : decode cX12_toCvt 105 = .ok (.i2l, 1) := dl_o133 kcX12_toCvt (by decide +kernel)
theorem dX12_toCvt_106 : decode cX12_toCvt 106 = .ok (.lsub, 1) := dl_o101 kcX12_toCvt (by decide +kernel)
theorem dX12_toCvt_107 : decode cX12_toCvt 107 = .ok (.invokestatic 198, 3) := dl_o184 kcX12_toCvt (by decide +kernel)
theorem dX12_toCvt_110 : decode cX12_toCvt 110 = .ok (.aload_n 0, 1) := dl_o42 kcX12_toCvt (by decide +kernel)
theorem dX12_toCvt_111 : decode cX12_toCvt 111 = .ok (.getfield 605, 3) := dl_o180 kcX12_toCvt (by decide +kernel)
theorem dX12_toCvt_114 : decode cX12_toCvt 114 = .ok (.i2l, 1) := dl_o133 kcX12_toCvt (by decide +kernel)
theorem dX12_toCvt_115 : decode cX12_toCvt 115 = .ok (.lcmp, 1) := dl_o148 kcX12_toCvt (by decide +kernel)
theorem dX12_toCvt_116 : decode cX12_toCvt 116 = .ok (.ifCond .le 9, 3) := dl_o158 kcX12_toCvt 9 (by decide +kernel) (by decide +kernel)
theorem dX12_toCvt_119 : decode cX12_toCvt 119 = .ok (.iload 7, 2) := dl_o21 kcX12_toCvt (by decide +kernel)
theorem dX12_toCvt_121 : decode cX12_toCvt 121 = .ok (.i2l, 1) := dl_o133 kcX12_toCvt (by decide +kernel)
theorem dX12_toCvt_122 : decode cX12_toCvt 122 = .ok (.goto 5, 3) := dl_o167 kcX12_toCvt 5 (by decide +kernel) (by decide +kernel)
theorem dX12_toCvt_125 : decode cX12_toCvt 125 = .ok (.lload 5, 2) := dl_o22 kcX12_toCvt (by decide +kernel)
theorem dX12_toCvt_127 : decode cX12_toCvt 127 = .ok (.lstore 5, 2) := dl_o55 kcX12_toCvt (by decide +kernel)
theorem dX12_toCvt_129 : decode cX12_toCvt 129 = .ok (.aload_n 0, 1) := dl_o42 kcX12_toCvt (by decide +kernel)
theorem dX12_toCvt_130 : decode cX12_toCvt 130 = .ok (.lload 5, 2) := dl_o22 kcX12_toCvt (by decide +kernel)
theorem dX12_toCvt_132 : decode cX12_toCvt 132 = .ok (.invokevirtual 647, 3) := dl_o182 kcX12_toCvt (by decide +kernel)
theorem dX12_toCvt_135 : decode cX12_toCvt 135 = .ok (.lstore 5, 2) := dl_o55 kcX12_toCvt (by decide +kernel)
theorem dX12_toCvt_137 : decode cX12_toCvt 137 = .ok (.aload_n 0, 1) := dl_o42 kcX12_toCvt (by decide +kernel)
theorem dX12_toCvt_138 : decode cX12_toCvt 138 = .ok (.iload 4, 2) := dl_o21 kcX12_toCvt (by decide +kernel)
theorem dX12_toCvt_140 : decode cX12_toCvt 140 = .ok (.lload 5, 2) := dl_o22 kcX12_toCvt (by decide +kernel)
theorem dX12_toCvt_142 : decode cX12_toCvt 142 = .ok (.iload 7, 2) := dl_o21 kcX12_toCvt (by decide +kernel)
theorem dX12_toCvt_144 : decode cX12_toCvt 144 = .ok (.i2l, 1) := dl_o133 kcX12_toCvt (by decide +kernel)
theorem dX12_toCvt_145 : decode cX12_toCvt 145 = .ok (.lsub, 1) := dl_o101 kcX12_toCvt (by decide +kernel)
theorem dX12_toCvt_146 : decode cX12_toCvt 146 = .ok (.invokevirtual 630, 3) := dl_o182 kcX12_toCvt (by decide +kernel)
theorem dX12_toCvt_149 : decode cX12_toCvt 149 = .ok (.aload_n 0, 1) := dl_o42 kcX12_toCvt (by decide +kernel)
theorem dX12_toCvt_150 : decode cX12_toCvt 150 = .ok (.iload_n 3, 1) := dl_o29 kcX12_toCvt (by decide +kernel)
theorem dX12_toCvt_151 : decode cX12_toCvt 151 = .ok (.putfield 451, 3) := dl_o181 kcX12_toCvt (by decide +kernel)
theorem dX12_toCvt_154 : decode cX12_toCvt 154 = .ok (.aload_n 0, 1) := dl_o42 kcX12_toCvt (by decide +kernel)
theorem dX12_toCvt_155 : decode cX12_toCvt 155 = .ok (.iload_n 3, 1) := dl_o29 kcX12_toCvt (by decide +kernel)
theorem dX12_toCvt_156 : decode cX12_toCvt 156 = .ok (.putfield 454, 3) := dl_o181 kcX12_toCvt (by decide +kernel)
theorem dX12_toCvt_159 : decode cX12_toCvt 159 = .ok (.return_, 1) := dl_o177 kcX12_toCvt (by decide +kernel)
def B_X12_toCvt_137  (l3 : Int32) (l4 : Int32) (l5 : Int64) (l7 : Int32) (V : sv_V) : Option sv_V := (F_X12_move l4 (l5 - l7.toInt64) V).bind (fun V1 => sx_let (sv_I V1 146 69 l3) (fun V3 => sx_let (sv_I V3 146 70 l3) (fun V4 => some V4)))
set_option maxRecDepth 20000 in
theorem tB_X12_toCvt_137 {g : sx_G} (hG : sx_Go g) {P : Option Value → sv_V → Prop} {Vr : sv_V} (hP : P none Vr)   {l3 : Int32} {l4 : Int32} {l5 : Int64} {l7 : Int32} {V : sv_V} (h : B_X12_toCvt_137  l3 l4 l5 l7 V = some Vr) : sv_N g qX12_toCvt 5 137 [(0, .ref 146), (3, .int l3), (4, .int l4), (5, .long l5), (7, .int l7)] [] V P := by
  unfold B_X12_toCvt_137 at h
  refine sx_aload_n (pc := 137) dX12_toCvt_137 sx_m0 ?_
  refine sx_iload (pc := 138) dX12_toCvt_138 sx_m2 ?_
  refine sx_lload (pc := 140) dX12_toCvt_140 sx_m3 ?_
  refine sx_iload (pc := 142) dX12_toCvt_142 sx_m4 ?_
  refine sx_i2l (pc := 144) dX12_toCvt_144 ?_
  refine sx_lsub (pc := 145) dX12_toCvt_145 ?_
  obtain ⟨V1, g2, h⟩ := sx_bnd h
  refine sv_cV (pc := 146) (y := qX12_move) (o := none) (as := [.int l4, .long (l5 - l7.toInt64)]) (V1 := V1) hG dX12_toCvt_146 l_X12_630 y0X12_move yvX12_move rfl (Nat.le_of_ble_eq_true rfl) lay_146 kr_12 (by decide) (Nat.le_of_ble_eq_true rfl) rfl rfl rfl (t_X12_move hG ⟨rfl, rfl⟩ g2) ?_
  refine sx_aload_n (pc := 149) dX12_toCvt_149 sx_m0 ?_
  refine sx_iload_n (pc := 150) dX12_toCvt_150 sx_m1 ?_
  obtain ⟨V3, hV3⟩ : ∃ z : sv_V, z = sv_I V1 146 69 l3 := ⟨_, rfl⟩
  have h := sx_letE hV3 h
  refine sv_putI (pc := 151) hG dX12_toCvt_151 f_12_451 lay_146 rfl hV3 ?_
  refine sx_aload_n (pc := 154) dX12_toCvt_154 sx_m0 ?_
  refine sx_iload_n (pc := 155) dX12_toCvt_155 sx_m1 ?_
  obtain ⟨V4, hV4⟩ : ∃ z : sv_V, z = sv_I V3 146 70 l3 := ⟨_, rfl⟩
  have h := sx_letE hV4 h
  refine sv_putI (pc := 156) hG dX12_toCvt_156 f_12_454 lay_146 rfl hV4 ?_
  exact sv_vret (pc := 159) dX12_toCvt_159 rfl h hP
def B_X12_toCvt_127  (l3 : Int32) (l4 : Int32) (l7 : Int32) (s0 : Int64) (V : sv_V) : Option sv_V := (F_X12_rounded s0 V).bind (fun (x7, V5) => B_X12_toCvt_137  l3 l4 x7 l7 V5)
set_option maxRecDepth 20000 in
theorem tB_X12_toCvt_127 {g : sx_G} (hG : sx_Go g) {P : Option Value → sv_V → Prop} {Vr : sv_V} (hP : P none Vr)   {l3 : Int32} {l4 : Int32} {l7 : Int32} {s0 : Int64} {V : sv_V} (h : B_X12_toCvt_127  l3 l4 l7 s0 V = some Vr) : sv_N g qX12_toCvt 5 127 [(0, .ref 146), (3, .int l3), (4, .int l4), (7, .int l7)] [.long s0] V P := by
  unfold B_X12_toCvt_127 at h
  refine sx_lstore (pc := 127) (lo' := [(5, .long s0), (0, .ref 146), (3, .int l3), (4, .int l4), (7, .int l7)]) dX12_toCvt_127 (by decide) rfl ?_
  refine sx_aload_n (pc := 129) dX12_toCvt_129 sx_m1 ?_
  refine sx_lload (pc := 130) dX12_toCvt_130 sx_m0 ?_
  obtain ⟨⟨x7, V5⟩, g6, h⟩ := sx_bnd h
  refine sv_cV (pc := 132) (y := qX12_rounded) (o := (some (.long x7))) (as := [.long s0]) (V1 := V5) hG dX12_toCvt_132 l_X12_647 y0X12_rounded yvX12_rounded rfl (Nat.le_of_ble_eq_true rfl) lay_146 kr_12 (by decide) (Nat.le_of_ble_eq_true rfl) rfl rfl rfl (t_X12_rounded hG ⟨rfl, rfl⟩ g6) ?_
  refine sx_lstore (pc := 135) (lo' := [(5, .long x7), (0, .ref 146), (3, .int l3), (4, .int l4), (7, .int l7)]) dX12_toCvt_135 (by decide) rfl ?_
  refine sx_wk (sx_s1 sx_m1 (sx_s1 sx_m2 (sx_s1 sx_m3 (sx_s1 sx_m0 (sx_s1 sx_m4 sx_s0))))) ?_
  exact tB_X12_toCvt_137 hG hP  h
def B_X12_toCvt_87  (l1 : Int32) (l3 : Int32) (l4 : Int32) (l5 : Int64) (V : sv_V) : Option sv_V := (F_X12_longOf l4 V).bind (fun (x10, V8) => if l1 = (63 : Int32) then ((F_X12_sizeOf (l5 - x10.toInt64) V8).bind (fun (x14, V12) => if (lg_cmp x14 ((V12.1 146 80).toInt64)) ≤ 0 then (B_X12_toCvt_127  l3 l4 x10 l5 V12) else (B_X12_toCvt_127  l3 l4 x10 x10.toInt64 V12))) else (B_X12_toCvt_137  l3 l4 l5 x10 V8))
set_option maxRecDepth 20000 in
theorem tB_X12_toCvt_87 {g : sx_G} (hG : sx_Go g) {P : Option Value → sv_V → Prop} {Vr : sv_V} (hP : P none Vr)   {l1 : Int32} {l3 : Int32} {l4 : Int32} {l5 : Int64} {V : sv_V} (h : B_X12_toCvt_87  l1 l3 l4 l5 V = some Vr) : sv_N g qX12_toCvt 5 87 [(0, .ref 146), (1, .int l1), (3, .int l3), (4, .int l4), (5, .long l5)] [] V P := by
  unfold B_X12_toCvt_87 at h
  refine sx_aload_n (pc := 87) dX12_toCvt_87 sx_m0 ?_
  refine sx_iload (pc := 88) dX12_toCvt_88 sx_m3 ?_
  obtain ⟨⟨x10, V8⟩, g9, h⟩ := sx_bnd h
  refine sv_cV (pc := 90) (y := qX12_longOf) (o := (some (.int x10))) (as := [.int l4]) (V1 := V8) hG dX12_toCvt_90 l_X12_644 y0X12_longOf yvX12_longOf rfl (Nat.le_of_ble_eq_true rfl) lay_146 kr_12 (by decide) (Nat.le_of_ble_eq_true rfl) rfl rfl rfl (t_X12_longOf hG ⟨rfl, rfl⟩ g9) ?_
  refine sx_istore (pc := 93) (lo' := [(7, .int x10), (0, .ref 146), (1, .int l1), (3, .int l3), (4, .int l4), (5, .long l5)]) dX12_toCvt_93 (by decide) rfl ?_
  refine sx_iload_n (pc := 95) dX12_toCvt_95 sx_m2 ?_
  refine sx_bipush (pc := 96) (v := 63) dX12_toCvt_96 (by decide) ?_
  refine sx_icmp_ne (pc := 98) (tgt := 137) dX12_toCvt_98 (by decide) (fun c11 => ?_) (fun c11 => ?_)
  · have h := sx_neg c11 h
    refine sx_wk (sx_s1 sx_m1 (sx_s1 sx_m3 (sx_s1 sx_m4 (sx_s1 sx_m5 (sx_s1 sx_m0 sx_s0))))) ?_
    exact tB_X12_toCvt_137 hG hP  h
  · have h := sx_pos c11 h
    refine sx_lload (pc := 101) dX12_toCvt_101 sx_m5 ?_
    refine sx_iload (pc := 103) dX12_toCvt_103 sx_m0 ?_
    refine sx_i2l (pc := 105) dX12_toCvt_105 ?_
    refine sx_lsub (pc := 106) dX12_toCvt_106 ?_
    obtain ⟨⟨x14, V12⟩, g13, h⟩ := sx_bnd h
    refine sv_cS (pc := 107) (y := qX12_sizeOf) (o := (some (.long x14))) (as := [.long (l5 - x10.toInt64)]) (V1 := V12) dX12_toCvt_107 l_X12_198 y0X12_sizeOf ysX12_sizeOf rfl (Nat.le_of_ble_eq_true rfl) (by decide) (Nat.le_of_ble_eq_true rfl) rfl rfl rfl (t_X12_sizeOf hG ⟨rfl, rfl⟩ g13) ?_
    refine sx_aload_n (pc := 110) dX12_toCvt_110 sx_m1 ?_
    refine sv_getI (pc := 111) hG dX12_toCvt_111 f_12_605 lay_146 rfl ?_
    refine sx_i2l (pc := 114) dX12_toCvt_114 ?_
    refine sx_lcmp (pc := 115) dX12_toCvt_115 ?_
    refine sx_if_le (pc := 116) (tgt := 125) dX12_toCvt_116 (by decide) (fun c15 => ?_) (fun c15 => ?_)
    · have h := sx_pos c15 h
      refine sx_lload (pc := 125) dX12_toCvt_125 sx_m5 ?_
      refine sx_wk (sx_s1 sx_m1 (sx_s1 sx_m3 (sx_s1 sx_m4 (sx_s1 sx_m0 sx_s0)))) ?_
      exact tB_X12_toCvt_127 hG hP  h
    · have h := sx_neg c15 h
      refine sx_iload (pc := 119) dX12_toCvt_119 sx_m0 ?_
      refine sx_i2l (pc := 121) dX12_toCvt_121 ?_
      refine sx_goto (pc := 122) (tgt := 127) dX12_toCvt_122 (by decide) ?_
      refine sx_wk (sx_s1 sx_m1 (sx_s1 sx_m3 (sx_s1 sx_m4 (sx_s1 sx_m0 sx_s0)))) ?_
      exact tB_X12_toCvt_127 hG hP  h
def F_X12_toCvt (l1 : Int32) (V : sv_V) : Option sv_V := (F_X12_has (2 : Int32) V).bind (fun (x18, V16) => if x18 = 0 then (some V16) else ((F_X12_pop  V16).bind (fun (x22, V20) => (F_X12_pop  V20).bind (fun (x25, V23) => (F_X12_pointOf (V23.1 146 72) x25 V23).bind (fun (x28, V26) => (F_X12_cvtOf x22 V26).bind (fun (x31, V29) => sx_let (x31.toInt64) (fun x32 => if (V29.1 146 59) ≤ 0 then (if (V29.1 146 72) = 0 then ((F_X12_over (x32 * ((V29.1 146 63).toInt64)) (16384 : Int64) V29).bind (fun (x37, V35) => (F_X12_over (x32 * ((V35.1 146 64).toInt64)) (16384 : Int64) V35).bind (fun (x40, V38) => (F_X12_put x28 x37 x40 V38).bind (fun V41 => B_X12_toCvt_87  l1 x25 x28 x32 V41)))) else (B_X12_toCvt_87  l1 x25 x28 x32 V29)) else (some V29))))))))
set_option maxRecDepth 20000 in
theorem t_X12_toCvt {g : sx_G} (hG : sx_Go g) {P : Option Value → sv_V → Prop} {Vr : sv_V} (hP : P none Vr) {l1 : Int32} {V : sv_V} (h : F_X12_toCvt l1 V = some Vr) : sv_N g qX12_toCvt 5 0 [(0, .ref 146), (1, .int l1)] [] V P := by
  unfold F_X12_toCvt at h
  refine sx_aload_n (pc := 0) dX12_toCvt_0 sx_m0 ?_
  refine sx_iconst (pc := 1) (v := 2) dX12_toCvt_1 (by decide) ?_
  obtain ⟨⟨x18, V16⟩, g17, h⟩ := sx_bnd h
  refine sv_cV (pc := 2) (y := qX12_has) (o := (some (.int x18))) (as := [.int (2 : Int32)]) (V1 := V16) hG dX12_toCvt_2 l_X12_576 y0X12_has yvX12_has rfl (Nat.le_of_ble_eq_true rfl) lay_146 kr_12 (by decide) (Nat.le_of_ble_eq_true rfl) rfl rfl rfl (t_X12_has hG ⟨rfl, rfl⟩ g17) ?_
  refine sx_if_ne (pc := 5) (tgt := 9) dX12_toCvt_5 (by decide) (fun c19 => ?_) (fun c19 => ?_)
  · have h := sx_neg c19 h
    refine sx_aload_n (pc := 9) dX12_toCvt_9 sx_m0 ?_
    obtain ⟨⟨x22, V20⟩, g21, h⟩ := sx_bnd h
    refine sv_cV (pc := 10) (y := qX12_pop) (o := (some (.int x22))) (as := []) (V1 := V20) hG dX12_toCvt_10 l_X12_579 y0X12_pop yvX12_pop rfl (Nat.le_of_ble_eq_true rfl) lay_146 kr_12 (by decide) (Nat.le_of_ble_eq_true rfl) rfl rfl rfl (t_X12_pop hG ⟨rfl, rfl⟩ g21) ?_
    refine sx_istore_n (pc := 13) (lo' := [(2, .int x22), (0, .ref 146), (1, .int l1)]) dX12_toCvt_13 (by decide) rfl ?_
    refine sx_aload_n (pc := 14) dX12_toCvt_14 sx_m1 ?_
    obtain ⟨⟨x25, V23⟩, g24, h⟩ := sx_bnd h
    refine sv_cV (pc := 15) (y := qX12_pop) (o := (some (.int x25))) (as := []) (V1 := V23) hG dX12_toCvt_15 l_X12_579 y0X12_pop yvX12_pop rfl (Nat.le_of_ble_eq_true rfl) lay_146 kr_12 (by decide) (Nat.le_of_ble_eq_true rfl) rfl rfl rfl (t_X12_pop hG ⟨rfl, rfl⟩ g24) ?_
    refine sx_istore_n (pc := 18) (lo' := [(3, .int x25), (2, .int x22), (0, .ref 146), (1, .int l1)]) dX12_toCvt_18 (by decide) rfl ?_
    refine sx_aload_n (pc := 19) dX12_toCvt_19 sx_m2 ?_
    refine sx_aload_n (pc := 20) dX12_toCvt_20 sx_m2 ?_
    refine sv_getI (pc := 21) hG dX12_toCvt_21 f_12_460 lay_146 rfl ?_
    refine sx_iload_n (pc := 24) dX12_toCvt_24 sx_m0 ?_
    obtain ⟨⟨x28, V26⟩, g27, h⟩ := sx_bnd h
    refine sv_cV (pc := 25) (y := qX12_pointOf) (o := (some (.int x28))) (as := [.int (V23.1 146 72), .int x25]) (V1 := V26) hG dX12_toCvt_25 l_X12_582 y0X12_pointOf yvX12_pointOf rfl (Nat.le_of_ble_eq_true rfl) lay_146 kr_12 (by decide) (Nat.le_of_ble_eq_true rfl) rfl rfl rfl (t_X12_pointOf hG ⟨rfl, rfl⟩ g27) ?_
    refine sx_istore (pc := 28) (lo' := [(4, .int x28), (3, .int x25), (2, .int x22), (0, .ref 146), (1, .int l1)]) dX12_toCvt_28 (by decide) rfl ?_
    refine sx_aload_n (pc := 30) dX12_toCvt_30 sx_m3 ?_
    refine sx_iload_n (pc := 31) dX12_toCvt_31 sx_m2 ?_
    obtain ⟨⟨x31, V29⟩, g30, h⟩ := sx_bnd h
    refine sv_cV (pc := 32) (y := qX12_cvtOf) (o := (some (.int x31))) (as := [.int x22]) (V1 := V29) hG dX12_toCvt_32 l_X12_677 y0X12_cvtOf yvX12_cvtOf rfl (Nat.le_of_ble_eq_true rfl) lay_146 kr_12 (by decide) (Nat.le_of_ble_eq_true rfl) rfl rfl rfl (t_X12_cvtOf hG ⟨rfl, rfl⟩ g30) ?_
    refine sx_i2l (pc := 35) dX12_toCvt_35 ?_
    refine sv_tJ (fun x32 hx32 => ?_)
    have h := sx_letE hx32 h
    refine sx_lstore (pc := 36) (lo' := [(5, .long x32), (4, .int x28), (3, .int x25), (2, .int x22), (0, .ref 146), (1, .int l1)]) dX12_toCvt_36 (by decide) rfl ?_
    refine sx_aload_n (pc := 38) dX12_toCvt_38 sx_m4 ?_
    refine sv_getI (pc := 39) hG dX12_toCvt_39 f_12_409 lay_146 rfl ?_
    refine sx_if_le (pc := 42) (tgt := 46) dX12_toCvt_42 (by decide) (fun c33 => ?_) (fun c33 => ?_)
    · have h := sx_pos c33 h
      refine sx_aload_n (pc := 46) dX12_toCvt_46 sx_m4 ?_
      refine sv_getI (pc := 47) hG dX12_toCvt_47 f_12_460 lay_146 rfl ?_
      refine sx_if_ne (pc := 50) (tgt := 87) dX12_toCvt_50 (by decide) (fun c34 => ?_) (fun c34 => ?_)
      · have h := sx_neg c34 h
        refine sx_wk (sx_s1 sx_m4 (sx_s1 sx_m5 (sx_s1 sx_m2 (sx_s1 sx_m1 (sx_s1 sx_m0 sx_s0))))) ?_
        exact tB_X12_toCvt_87 hG hP  h
      · have h := sx_pos c34 h
        refine sx_aload_n (pc := 53) dX12_toCvt_53 sx_m4 ?_
        refine sx_iload (pc := 54) dX12_toCvt_54 sx_m1 ?_
        refine sx_lload (pc := 56) dX12_toCvt_56 sx_m0 ?_
        refine sx_aload_n (pc := 58) dX12_toCvt_58 sx_m4 ?_
        refine sv_getI (pc := 59) hG dX12_toCvt_59 f_12_433 lay_146 rfl ?_
        refine sx_i2l (pc := 62) dX12_toCvt_62 ?_
        refine sx_lmul (pc := 63) dX12_toCvt_63 ?_
        refine sx_ldc2 (pc := 64) dX12_toCvt_64 k_X12_310 ?_
        obtain ⟨⟨x37, V35⟩, g36, h⟩ := sx_bnd h
        refine sv_cS (pc := 67) (y := qX12_over) (o := (some (.long x37))) (as := [.long (x32 * ((V29.1 146 63).toInt64)), .long (16384 : Int64)]) (V1 := V35) dX12_toCvt_67 l_X12_517 y0X12_over ysX12_over rfl (Nat.le_of_ble_eq_true rfl) (by decide) (Nat.le_of_ble_eq_true rfl) rfl rfl rfl (t_X12_over hG ⟨rfl, rfl⟩ g36) ?_
        refine sx_lload (pc := 70) dX12_toCvt_70 sx_m0 ?_
        refine sx_aload_n (pc := 72) dX12_toCvt_72 sx_m4 ?_
        refine sv_getI (pc := 73) hG dX12_toCvt_73 f_12_436 lay_146 rfl ?_
        refine sx_i2l (pc := 76) dX12_toCvt_76 ?_
        refine sx_lmul (pc := 77) dX12_toCvt_77 ?_
        refine sx_ldc2 (pc := 78) dX12_toCvt_78 k_X12_310 ?_
        obtain ⟨⟨x40, V38⟩, g39, h⟩ := sx_bnd h
        refine sv_cS (pc := 81) (y := qX12_over) (o := (some (.long x40))) (as := [.long (x32 * ((V35.1 146 64).toInt64)), .long (16384 : Int64)]) (V1 := V38) dX12_toCvt_81 l_X12_517 y0X12_over ysX12_over rfl (Nat.le_of_ble_eq_true rfl) (by decide) (Nat.le_of_ble_eq_true rfl) rfl rfl rfl (t_X12_over hG ⟨rfl, rfl⟩ g39) ?_
        obtain ⟨V41, g42, h⟩ := sx_bnd h
        refine sv_cV (pc := 84) (y := qX12_put) (o := none) (as := [.int x28, .long x37, .long x40]) (V1 := V41) hG dX12_toCvt_84 l_X12_716 y0X12_put yvX12_put rfl (Nat.le_of_ble_eq_true rfl) lay_146 kr_12 (by decide) (Nat.le_of_ble_eq_true rfl) rfl rfl rfl (t_X12_put hG ⟨rfl, rfl⟩ g42) ?_
        refine sx_wk (sx_s1 sx_m4 (sx_s1 sx_m5 (sx_s1 sx_m2 (sx_s1 sx_m1 (sx_s1 sx_m0 sx_s0))))) ?_
        exact tB_X12_toCvt_87 hG hP  h
    · have h := sx_neg c33 h
      exact sv_vret (pc := 45) dX12_toCvt_45 rfl h hP
  · have h := sx_pos c19 h
    exact sv_vret (pc := 8) dX12_toCvt_8 rfl h hP
def ncX12_settle : Nat := 7004169371771331326448558950854710174186296492598517265717034031623070342662260212465843254669242847145481331558194218
theorem kcX12_settle : CK cX12_settle ncX12_settle 49 := ⟨by decide +kernel, by decide +kernel⟩
theorem dX12_settle_0 : decode cX12_settle 0 = .ok (.aload_n 0, 1) := dl_o42 kcX12_settle (by decide +kernel)
theorem dX12_settle_1 : decode cX12_settle 1 = .ok (.iload_n 2, 1) := dl_o28 kcX12_settle (by decide +kernel)
theorem dX12_settle_2 : decode cX12_settle 2 = .ok (.lload 5, 2) := dl_o22 kcX12_settle (by decide +kernel)
theorem dX12_settle_4 : decode cX12_settle 4 = .ok (.aload_n 0, 1) := dl_o42 kcX12_settle (by decide +kernel)
theorem dX12_settle_5 : decode cX12_settle 5 = .ok (.iload_n 2, 1) := dl_o28 kcX12_settle (by decide +kernel)
theorem dX12_settle_6 : decode cX12_settle 6 = .ok (.iload 4, 2) := dl_o21 kcX12_settle (by decide +kernel)
theorem dX12_settle_8 : decode cX12_settle 8 = .ok (.invokevirtual 627, 3) := dl_o182 kcX12_settle (by decide +kernel)
theorem dX12_settle_11 : decode cX12_settle 11 = .ok (.i2l, 1) := dl_o133 kcX12_settle (by decide +kernel)
theorem dX12_settle_12 : decode cX12_settle 12 = .ok (.lsub, 1) := dl_o101 kcX12_settle (by decide +kernel)
theorem dX12_settle_13 : decode cX12_settle 13 = .ok (.invokevirtual 630, 3) := dl_o182 kcX12_settle (by decide +kernel)
theorem dX12_settle_16 : decode cX12_settle 16 = .ok (.aload_n 0, 1) := dl_o42 kcX12_settle (by decide +kernel)
theorem dX12_settle_17 : decode cX12_settle 17 = .ok (.aload_n 0, 1) := dl_o42 kcX12_settle (by decide +kernel)
theorem dX12_settle_18 : decode cX12_settle 18 = .ok (.getfield 451, 3) := dl_o180 kcX12_settle (by decide +kernel)
theorem dX12_settle_21 : decode cX12_settle 21 = .ok (.putfield 454, 3) := dl_o181 kcX12_settle (by decide +kernel)
theorem dX12_settle_24 : decode cX12_settle 24 = .ok (.aload_n 0, 1) := dl_o42 kcX12_settle (by decide +kernel)
theorem dX12_settle_25 : decode cX12_settle 25 = .ok (.iload_n 3, 1) := dl_o29 kcX12_settle (by decide +kernel)
theorem dX12_settle_26 : decode cX12_settle 26 = .ok (.putfield 457, 3) := dl_o181 kcX12_settle (by decide +kernel)
theorem dX12_settle_29 : decode cX12_settle 29 = .ok (.aload_n 0, 1) := dl_o42 kcX12_settle (by decide +kernel)
theorem dX12_settle_30 : decode cX12_settle 30 = .ok (.iload_n 1, 1) := dl_o27 kcX12_settle (by decide +kernel)
theorem dX12_settle_31 : decode cX12_settle 31 = .ok (.bipush 16, 2) := dl_o16 kcX12_settle 16 (by decide +kernel) (by decide +kernel)
theorem dX12_settle_33 : decode cX12_settle 33 = .ok (.iand, 1) := dl_o126 kcX12_settle (by decide +kernel)
theorem dX12_settle_34 : decode cX12_settle 34 = .ok (.ifCond .eq 7, 3) := dl_o153 kcX12_settle 7 (by decide +kernel) (by decide +kernel)
theorem dX12_settle_37 : decode cX12_settle 37 = .ok (.iload_n 3, 1) := dl_o29 kcX12_settle (by decide +kernel)
theorem dX12_settle_38 : decode cX12_settle 38 = .ok (.goto 7, 3) := dl_o167 kcX12_settle 7 (by decide +kernel) (by decide +kernel)
theorem dX12_settle_41 : decode cX12_settle 41 = .ok (.aload_n 0, 1) := dl_o42 kcX12_settle (by decide +kernel)
theorem dX12_settle_42 : decode cX12_settle 42 = .ok (.getfield 451, 3) := dl_o180 kcX12_settle (by decide +kernel)
theorem dX12_settle_45 : decode cX12_settle 45 = .ok (.putfield 451, 3) := dl_o181 kcX12_settle (by decide +kernel)
theorem dX12_settle_48 : decode cX12_settle 48 = .ok (.return_, 1) := dl_o177 kcX12_settle (by decide +kernel)
def F_X12_settle (l1 : Int32) (l2 : Int32) (l3 : Int32) (l4 : Int32) (l5 : Int64) (V : sv_V) : Option sv_V := (F_X12_between l2 l4 V).bind (fun (x3, V1) => (F_X12_move l2 (l5 - x3.toInt64) V1).bind (fun V4 => sx_let (sv_I V4 146 70 (V4.1 146 69)) (fun V6 => sx_let (sv_I V6 146 71 l3) (fun V7 => if (l1 &&& (16 : Int32)) = 0 then (sx_let (sv_I V7 146 69 (V7.1 146 69)) (fun V9 => some V9)) else (sx_let (sv_I V7 146 69 l3) (fun V10 => some V10))))))
set_option maxRecDepth 20000 in
theorem t_X12_settle {g : sx_G} (hG : sx_Go g) {P : Option Value → sv_V → Prop} {Vr : sv_V} (hP : P none Vr) {l1 : Int32} {l2 : Int32} {l3 : Int32} {l4 : Int32} {l5 : Int64} {V : sv_V} (h : F_X12_settle l1 l2 l3 l4 l5 V = some Vr) : sv_N g qX12_settle 5 0 [(0, .ref 146), (1, .int l1), (2, .int l2), (3, .int l3), (4, .int l4), (5, .long l5)] [] V P := by
  unfold F_X12_settle at h
  refine sx_aload_n (pc := 0) dX12_settle_0 sx_m0 ?_
  refine sx_iload_n (pc := 1) dX12_settle_1 sx_m2 ?_
  refine sx_lload (pc := 2) dX12_settle_2 sx_m5 ?_
  refine sx_aload_n (pc := 4) dX12_settle_4 sx_m0 ?_
  refine sx_iload_n (pc := 5) dX12_settle_5 sx_m2 ?_
  refine sx_iload (pc := 6) dX12_settle_6 sx_m4 ?_
  obtain ⟨⟨x3, V1⟩, g2, h⟩ := sx_bnd h
  refine sv_cV (pc := 8) (y := qX12_between) (o := (some (.int x3))) (as := [.int l2, .int l4]) (V1 := V1) hG dX12_settle_8 l_X12_627 y0X12_between yvX12_between rfl (Nat.le_of_ble_eq_true rfl) lay_146 kr_12 (by decide) (Nat.le_of_ble_eq_true rfl) rfl rfl rfl (t_X12_between hG ⟨rfl, rfl⟩ g2) ?_
  refine sx_i2l (pc := 11) dX12_settle_11 ?_
  refine sx_lsub (pc := 12) dX12_settle_12 ?_
  obtain ⟨V4, g5, h⟩ := sx_bnd h
  refine sv_cV (pc := 13) (y := qX12_move) (o := none) (as := [.int l2, .long (l5 - x3.toInt64)]) (V1 := V4) hG dX12_settle_13 l_X12_630 y0X12_move yvX12_move rfl (Nat.le_of_ble_eq_true rfl) lay_146 kr_12 (by decide) (Nat.le_of_ble_eq_true rfl) rfl rfl rfl (t_X12_move hG ⟨rfl, rfl⟩ g5) ?_
  refine sx_aload_n (pc := 16) dX12_settle_16 sx_m0 ?_
  refine sx_aload_n (pc := 17) dX12_settle_17 sx_m0 ?_
  refine sv_getI (pc := 18) hG dX12_settle_18 f_12_451 lay_146 rfl ?_
  obtain ⟨V6, hV6⟩ : ∃ z : sv_V, z = sv_I V4 146 70 (V4.1 146 69) := ⟨_, rfl⟩
  have h := sx_letE hV6 h
  refine sv_putI (pc := 21) hG dX12_settle_21 f_12_454 lay_146 rfl hV6 ?_
  refine sx_aload_n (pc := 24) dX12_settle_24 sx_m0 ?_
  refine sx_iload_n (pc := 25) dX12_settle_25 sx_m3 ?_
  obtain ⟨V7, hV7⟩ : ∃ z : sv_V, z = sv_I V6 146 71 l3 := ⟨_, rfl⟩
  have h := sx_letE hV7 h
  refine sv_putI (pc := 26) hG dX12_settle_26 f_12_457 lay_146 rfl hV7 ?_
  refine sx_aload_n (pc := 29) dX12_settle_29 sx_m0 ?_
  refine sx_iload_n (pc := 30) dX12_settle_30 sx_m1 ?_
  refine sx_bipush (pc := 31) (v := 16) dX12_settle_31 (by decide) ?_
  refine sx_iand (pc := 33) dX12_settle_33 ?_
  refine sx_if_eq (pc := 34) (tgt := 41) dX12_settle_34 (by decide) (fun c8 => ?_) (fun c8 => ?_)
  · have h := sx_pos c8 h
    refine sx_aload_n (pc := 41) dX12_settle_41 sx_m0 ?_
    refine sv_getI (pc := 42) hG dX12_settle_42 f_12_451 lay_146 rfl ?_
    obtain ⟨V9, hV9⟩ : ∃ z : sv_V, z = sv_I V7 146 69 (V7.1 146 69) := ⟨_, rfl⟩
    have h := sx_letE hV9 h
    refine sv_putI (pc := 45) hG dX12_settle_45 f_12_451 lay_146 rfl hV9 ?_
    exact sv_vret (pc := 48) dX12_settle_48 rfl h hP
  · have h := sx_neg c8 h
    refine sx_iload_n (pc := 37) dX12_settle_37 sx_m3 ?_
    refine sx_goto (pc := 38) (tgt := 45) dX12_settle_38 (by decide) ?_
    obtain ⟨V10, hV10⟩ : ∃ z : sv_V, z = sv_I V7 146 69 l3 := ⟨_, rfl⟩
    have h := sx_letE hV10 h
    refine sv_putI (pc := 45) hG dX12_settle_45 f_12_451 lay_146 rfl hV10 ?_
    exact sv_vret (pc := 48) dX12_settle_48 rfl h hP
def ncX12_relative : Nat := 70681507648245707500841424666772930911371639811385808990204026043749219068038050381030249587688935244208338251502791995711156827422188433507719891029353059731838916907996059871076473280751323423860853856978394705692960339600523927094314
theorem kcX12_relative : CK cX12_relative ncX12_relative 98 := ⟨by decide +kernel, by decide +kernel⟩
theorem dX12_relative_0 : decode cX12_relative 0 = .ok (.aload_n 0, 1) := dl_o42 kcX12_relative (by decide +kernel)
theorem dX12_relative_1 : decode cX12_relative 1 = .ok (.iconst 1, 1) := dl_o4 kcX12_relative (by decide +kernel)
theorem dX12_relative_2 : decode cX12_relative 2 = .ok (.invokevirtual 576, 3) := dl_o182 kcX12_relative (by decide +kernel)
theorem dX12_relative_5 : decode cX12_relative 5 = .ok (.ifCond .ne 4, 3) := dl_o154 kcX12_relative 4 (by decide +kernel) (by decide +kernel)
theorem dX12_relative_8 : decode cX12_relative 8 = .ok (.return_, 1) := dl_o177 kcX12_relative (by decide +kernel)
theorem dX12_relative_9 : decode cX12_relative 9 = .ok (.aload_n 0, 1) := dl_o42 kcX12_relative (by decide +kernel)
theorem dX12_relative_10 : decode cX12_relative 10 = .ok (.invokevirtual 579, 3) := dl_o182 kcX12_relative (by decide +kernel)
theorem dX12_relative_13 : decode cX12_relative 13 = .ok (.istore_n 2, 1) := dl_o61 kcX12_relative (by decide +kernel)
theorem dX12_relative_14 : decode cX12_relative 14 = .ok (.aload_n 0, 1) := dl_o42 kcX12_relative (by decide +kernel)
theorem dX12_relative_15 : decode cX12_relative 15 = .ok (.aload_n 0, 1) := dl_o42 kcX12_relative (by decide +kernel)
theorem dX12_relative_16 : decode cX12_relative 16 = .ok (.getfield 463, 3) := dl_o180 kcX12_relative (by decide +kernel)
theorem dX12_relative_19 : decode cX12_relative 19 = .ok (.iload_n 2, 1) := dl_o28 kcX12_relative (by decide +kernel)
theorem dX12_relative_20 : decode cX12_relative 20 = .ok (.invokevirtual 582, 3) := dl_o182 kcX12_relative (by decide +kernel)
theorem dX12_relative_23 : decode cX12_relative 23 = .ok (.istore_n 3, 1) := dl_o62 kcX12_relative (by decide +kernel)
theorem dX12_relative_24 : decode cX12_relative 24 = .ok (.aload_n 0, 1) := dl_o42 kcX12_relative (by decide +kernel)
theorem dX12_relative_25 : decode cX12_relative 25 = .ok (.aload_n 0, 1) := dl_o42 kcX12_relative (by decide +kernel)
theorem dX12_relative_26 : decode cX12_relative 26 = .ok (.getfield 460, 3) := dl_o180 kcX12_relative (by decide +kernel)
theorem dX12_relative_29 : decode cX12_relative 29 = .ok (.aload_n 0, 1) := dl_o42 kcX12_relative (by decide +kernel)
theorem dX12_relative_30 : decode cX12_relative 30 = .ok (.getfield 451, 3) := dl_o180 kcX12_relative (by decide +kernel)
theorem dX12_relative_33 : decode cX12_relative 33 = .ok (.invokevirtual 582, 3) := dl_o182 kcX12_relative (by decide +kernel)
theorem dX12_relative_36 : decode cX12_relative 36 = .ok (.istore 4, 2) := dl_o54 kcX12_relative (by decide +kernel)
theorem dX12_relative_38 : decode cX12_relative 38 = .ok (.aload_n 0, 1) := dl_o42 kcX12_relative (by decide +kernel)
theorem dX12_relative_39 : decode cX12_relative 39 = .ok (.getfield 409, 3) := dl_o180 kcX12_relative (by decide +kernel)
theorem dX12_relative_42 : decode cX12_relative 42 = .ok (.ifCond .le 4, 3) := dl_o158 kcX12_relative 4 (by decide +kernel) (by decide +kernel)
theorem dX12_relative_45 : decode cX12_relative 45 = .ok (.return_, 1) := dl_o177 kcX12_relative (by decide +kernel)
theorem dX12_relative_46 : decode cX12_relative 46 = .ok (.aload_n 0, 1) := dl_o42 kcX12_relative (by decide +kernel)
theorem dX12_relative_47 : decode cX12_relative 47 = .ok (.aload_n 0, 1) := dl_o42 kcX12_relative (by decide +kernel)
theorem dX12_relative_48 : decode cX12_relative 48 = .ok (.iload_n 3, 1) := dl_o29 kcX12_relative (by decide +kernel)
theorem dX12_relative_49 : decode cX12_relative 49 = .ok (.iload 4, 2) := dl_o21 kcX12_relative (by decide +kernel)
theorem dX12_relative_51 : decode cX12_relative 51 = .ok (.invokevirtual 680, 3) := dl_o182 kcX12_relative (by decide +kernel)
theorem dX12_relative_54 : decode cX12_relative 54 = .ok (.i2l, 1) := dl_o133 kcX12_relative (by decide +kernel)
theorem dX12_relative_55 : decode cX12_relative 55 = .ok (.invokevirtual 720, 3) := dl_o182 kcX12_relative (by decide +kernel)
theorem dX12_relative_58 : decode cX12_relative 58 = .ok (.lstore 5, 2) := dl_o55 kcX12_relative (by decide +kernel)
theorem dX12_relative_60 : decode cX12_relative 60 = .ok (.iload_n 1, 1) := dl_o27 kcX12_relative (by decide +kernel)
theorem dX12_relative_61 : decode cX12_relative 61 = .ok (.iconst 4, 1) := dl_o7 kcX12_relative (by decide +kernel)
theorem dX12_relative_62 : decode cX12_relative 62 = .ok (.iand, 1) := dl_o126 kcX12_relative (by decide +kernel)
theorem dX12_relative_63 : decode cX12_relative 63 = .ok (.ifCond .eq 12, 3) := dl_o153 kcX12_relative 12 (by decide +kernel) (by decide +kernel)
theorem dX12_relative_66 : decode cX12_relative 66 = .ok (.aload_n 0, 1) := dl_o42 kcX12_relative (by decide +kernel)
theorem dX12_relative_67 : decode cX12_relative 67 = .ok (.lload 5, 2) := dl_o22 kcX12_relative (by decide +kernel)
theorem dX12_relative_69 : decode cX12_relative 69 = .ok (.invokevirtual 647, 3) := dl_o182 kcX12_relative (by decide +kernel)
theorem dX12_relative_72 : decode cX12_relative 72 = .ok (.goto 5, 3) := dl_o167 kcX12_relative 5 (by decide +kernel) (by decide +kernel)
theorem dX12_relative_75 : decode cX12_relative 75 = .ok (.lload 5, 2) := dl_o22 kcX12_relative (by decide +kernel)
theorem dX12_relative_77 : decode cX12_relative 77 = .ok (.lstore 7, 2) := dl_o55 kcX12_relative (by decide +kernel)
theorem dX12_relative_79 : decode cX12_relative 79 = .ok (.aload_n 0, 1) := dl_o42 kcX12_relative (by decide +kernel)
theorem dX12_relative_80 : decode cX12_relative 80 = .ok (.iload_n 1, 1) := dl_o27 kcX12_relative (by decide +kernel)
theorem dX12_relative_81 : decode cX12_relative 81 = .ok (.iload_n 3, 1) := dl_o29 kcX12_relative (by decide +kernel)
theorem dX12_relative_82 : decode cX12_relative 82 = .ok (.iload_n 2, 1) := dl_o28 kcX12_relative (by decide +kernel)
theorem dX12_relative_83 : decode cX12_relative 83 = .ok (.iload 4, 2) := dl_o21 kcX12_relative (by decide +kernel)
theorem dX12_relative_85 : decode cX12_relative 85 = .ok (.aload_n 0, 1) := dl_o42 kcX12_relative (by decide +kernel)
theorem dX12_relative_86 : decode cX12_relative 86 = .ok (.iload_n 1, 1) := dl_o27 kcX12_relative (by decide +kernel)
theorem dX12_relative_87 : decode cX12_relative 87 = .ok (.lload 5, 2) := dl_o22 kcX12_relative (by decide +kernel)
theorem dX12_relative_89 : decode cX12_relative 89 = .ok (.lload 7, 2) := dl_o22 kcX12_relative (by decide +kernel)
theorem dX12_relative_91 : decode cX12_relative 91 = .ok (.invokevirtual 723, 3) := dl_o182 kcX12_relative (by decide +kernel)
theorem dX12_relative_94 : decode cX12_relative 94 = .ok (.invokevirtual 727, 3) := dl_o182 kcX12_relative (by decide +kernel)
theorem dX12_relative_97 : decode cX12_relative 97 = .ok (.return_, 1) := dl_o177 kcX12_relative (by decide +kernel)
def B_X12_relative_77  (l1 : Int32) (l2 : Int32) (l3 : Int32) (l4 : Int32) (l5 : Int64) (s0 : Int64) (V : sv_V) : Option sv_V := (F_X12_atLeast l1 l5 s0 V).bind (fun (x3, V1) => (F_X12_settle l1 l3 l2 l4 x3 V1).bind (fun V4 => some V4))
set_option maxRecDepth 20000 in
theorem tB_X12_relative_77 {g : sx_G} (hG : sx_Go g) {P : Option Value → sv_V → Prop} {Vr : sv_V} (hP : P none Vr)   {l1 : Int32} {l2 : Int32} {l3 : Int32} {l4 : Int32} {l5 : Int64} {s0 : Int64} {V : sv_V} (h : B_X12_relative_77  l1 l2 l3 l4 l5 s0 V = some Vr) : sv_N g qX12_relative 6 77 [(0, .ref 146), (1, .int l1), (2, .int l2), (3, .int l3), (4, .int l4), (5, .long l5)] [.long s0] V P := by
  unfold B_X12_relative_77 at h
  refine sx_lstore (pc := 77) (lo' := [(7, .long s0), (0, .ref 146), (1, .int l1), (2, .int l2), (3, .int l3), (4, .int l4), (5, .long l5)]) dX12_relative_77 (by decide) rfl ?_
  refine sx_aload_n (pc := 79) dX12_relative_79 sx_m1 ?_
  refine sx_iload_n (pc := 80) dX12_relative_80 sx_m2 ?_
  refine sx_iload_n (pc := 81) dX12_relative_81 sx_m4 ?_
  refine sx_iload_n (pc := 82) dX12_relative_82 sx_m3 ?_
  refine sx_iload (pc := 83) dX12_relative_83 sx_m5 ?_
  refine sx_aload_n (pc := 85) dX12_relative_85 sx_m1 ?_
  refine sx_iload_n (pc := 86) dX12_relative_86 sx_m2 ?_
  refine sx_lload (pc := 87) dX12_relative_87 sx_m6 ?_
  refine sx_lload (pc := 89) dX12_relative_89 sx_m0 ?_
  obtain ⟨⟨x3, V1⟩, g2, h⟩ := sx_bnd h
  refine sv_cV (pc := 91) (y := qX12_atLeast) (o := (some (.long x3))) (as := [.int l1, .long l5, .long s0]) (V1 := V1) hG dX12_relative_91 l_X12_723 y0X12_atLeast yvX12_atLeast rfl (Nat.le_of_ble_eq_true rfl) lay_146 kr_12 (by decide) (Nat.le_of_ble_eq_true rfl) rfl rfl rfl (t_X12_atLeast hG ⟨rfl, rfl⟩ g2) ?_
  obtain ⟨V4, g5, h⟩ := sx_bnd h
  refine sv_cV (pc := 94) (y := qX12_settle) (o := none) (as := [.int l1, .int l3, .int l2, .int l4, .long x3]) (V1 := V4) hG dX12_relative_94 l_X12_727 y0X12_settle yvX12_settle rfl (Nat.le_of_ble_eq_true rfl) lay_146 kr_12 (by decide) (Nat.le_of_ble_eq_true rfl) rfl rfl rfl (t_X12_settle hG ⟨rfl, rfl⟩ g5) ?_
  exact sv_vret (pc := 97) dX12_relative_97 rfl h hP
def F_X12_relative (l1 : Int32) (V : sv_V) : Option sv_V := (F_X12_has (1 : Int32) V).bind (fun (x8, V6) => if x8 = 0 then (some V6) else ((F_X12_pop  V6).bind (fun (x12, V10) => (F_X12_pointOf (V10.1 146 73) x12 V10).bind (fun (x15, V13) => (F_X12_pointOf (V13.1 146 72) (V13.1 146 69) V13).bind (fun (x18, V16) => if (V16.1 146 59) ≤ 0 then ((F_X12_originally x15 x18 V16).bind (fun (x22, V20) => (F_X12_singled x22.toInt64 V20).bind (fun (x25, V23) => if (l1 &&& (4 : Int32)) = 0 then (B_X12_relative_77  l1 x12 x15 x18 x25 x25 V23) else ((F_X12_rounded x25 V23).bind (fun (x29, V27) => B_X12_relative_77  l1 x12 x15 x18 x25 x29 V27))))) else (some V16))))))
set_option maxRecDepth 20000 in
theorem t_X12_relative {g : sx_G} (hG : sx_Go g) {P : Option Value → sv_V → Prop} {Vr : sv_V} (hP : P none Vr) {l1 : Int32} {V : sv_V} (h : F_X12_relative l1 V = some Vr) : sv_N g qX12_relative 6 0 [(0, .ref 146), (1, .int l1)] [] V P := by
  unfold F_X12_relative at h
  refine sx_aload_n (pc := 0) dX12_relative_0 sx_m0 ?_
  refine sx_iconst (pc := 1) (v := 1) dX12_relative_1 (by decide) ?_
  obtain ⟨⟨x8, V6⟩, g7, h⟩ := sx_bnd h
  refine sv_cV (pc := 2) (y := qX12_has) (o := (some (.int x8))) (as := [.int (1 : Int32)]) (V1 := V6) hG dX12_relative_2 l_X12_576 y0X12_has yvX12_has rfl (Nat.le_of_ble_eq_true rfl) lay_146 kr_12 (by decide) (Nat.le_of_ble_eq_true rfl) rfl rfl rfl (t_X12_has hG ⟨rfl, rfl⟩ g7) ?_
  refine sx_if_ne (pc := 5) (tgt := 9) dX12_relative_5 (by decide) (fun c9 => ?_) (fun c9 => ?_)
  · have h := sx_neg c9 h
    refine sx_aload_n (pc := 9) dX12_relative_9 sx_m0 ?_
    obtain ⟨⟨x12, V10⟩, g11, h⟩ := sx_bnd h
    refine sv_cV (pc := 10) (y := qX12_pop) (o := (some (.int x12))) (as := []) (V1 := V10) hG dX12_relative_10 l_X12_579 y0X12_pop yvX12_pop rfl (Nat.le_of_ble_eq_true rfl) lay_146 kr_12 (by decide) (Nat.le_of_ble_eq_true rfl) rfl rfl rfl (t_X12_pop hG ⟨rfl, rfl⟩ g11) ?_
    refine sx_istore_n (pc := 13) (lo' := [(2, .int x12), (0, .ref 146), (1, .int l1)]) dX12_relative_13 (by decide) rfl ?_
    refine sx_aload_n (pc := 14) dX12_relative_14 sx_m1 ?_
    refine sx_aload_n (pc := 15) dX12_relative_15 sx_m1 ?_
    refine sv_getI (pc := 16) hG dX12_relative_16 f_12_463 lay_146 rfl ?_
    refine sx_iload_n (pc := 19) dX12_relative_19 sx_m0 ?_
    obtain ⟨⟨x15, V13⟩, g14, h⟩ := sx_bnd h
    refine sv_cV (pc := 20) (y := qX12_pointOf) (o := (some (.int x15))) (as := [.int (V10.1 146 73), .int x12]) (V1 := V13) hG dX12_relative_20 l_X12_582 y0X12_pointOf yvX12_pointOf rfl (Nat.le_of_ble_eq_true rfl) lay_146 kr_12 (by decide) (Nat.le_of_ble_eq_true rfl) rfl rfl rfl (t_X12_pointOf hG ⟨rfl, rfl⟩ g14) ?_
    refine sx_istore_n (pc := 23) (lo' := [(3, .int x15), (2, .int x12), (0, .ref 146), (1, .int l1)]) dX12_relative_23 (by decide) rfl ?_
    refine sx_aload_n (pc := 24) dX12_relative_24 sx_m2 ?_
    refine sx_aload_n (pc := 25) dX12_relative_25 sx_m2 ?_
    refine sv_getI (pc := 26) hG dX12_relative_26 f_12_460 lay_146 rfl ?_
    refine sx_aload_n (pc := 29) dX12_relative_29 sx_m2 ?_
    refine sv_getI (pc := 30) hG dX12_relative_30 f_12_451 lay_146 rfl ?_
    obtain ⟨⟨x18, V16⟩, g17, h⟩ := sx_bnd h
    refine sv_cV (pc := 33) (y := qX12_pointOf) (o := (some (.int x18))) (as := [.int (V13.1 146 72), .int (V13.1 146 69)]) (V1 := V16) hG dX12_relative_33 l_X12_582 y0X12_pointOf yvX12_pointOf rfl (Nat.le_of_ble_eq_true rfl) lay_146 kr_12 (by decide) (Nat.le_of_ble_eq_true rfl) rfl rfl rfl (t_X12_pointOf hG ⟨rfl, rfl⟩ g17) ?_
    refine sx_istore (pc := 36) (lo' := [(4, .int x18), (3, .int x15), (2, .int x12), (0, .ref 146), (1, .int l1)]) dX12_relative_36 (by decide) rfl ?_
    refine sx_aload_n (pc := 38) dX12_relative_38 sx_m3 ?_
    refine sv_getI (pc := 39) hG dX12_relative_39 f_12_409 lay_146 rfl ?_
    refine sx_if_le (pc := 42) (tgt := 46) dX12_relative_42 (by decide) (fun c19 => ?_) (fun c19 => ?_)
    · have h := sx_pos c19 h
      refine sx_aload_n (pc := 46) dX12_relative_46 sx_m3 ?_
      refine sx_aload_n (pc := 47) dX12_relative_47 sx_m3 ?_
      refine sx_iload_n (pc := 48) dX12_relative_48 sx_m1 ?_
      refine sx_iload (pc := 49) dX12_relative_49 sx_m0 ?_
      obtain ⟨⟨x22, V20⟩, g21, h⟩ := sx_bnd h
      refine sv_cV (pc := 51) (y := qX12_originally) (o := (some (.int x22))) (as := [.int x15, .int x18]) (V1 := V20) hG dX12_relative_51 l_X12_680 y0X12_originally yvX12_originally rfl (Nat.le_of_ble_eq_true rfl) lay_146 kr_12 (by decide) (Nat.le_of_ble_eq_true rfl) rfl rfl rfl (t_X12_originally hG ⟨rfl, rfl⟩ g21) ?_
      refine sx_i2l (pc := 54) dX12_relative_54 ?_
      obtain ⟨⟨x25, V23⟩, g24, h⟩ := sx_bnd h
      refine sv_cV (pc := 55) (y := qX12_singled) (o := (some (.long x25))) (as := [.long x22.toInt64]) (V1 := V23) hG dX12_relative_55 l_X12_720 y0X12_singled yvX12_singled rfl (Nat.le_of_ble_eq_true rfl) lay_146 kr_12 (by decide) (Nat.le_of_ble_eq_true rfl) rfl rfl rfl (t_X12_singled hG ⟨rfl, rfl⟩ g24) ?_
      refine sx_lstore (pc := 58) (lo' := [(5, .long x25), (4, .int x18), (3, .int x15), (2, .int x12), (0, .ref 146), (1, .int l1)]) dX12_relative_58 (by decide) rfl ?_
      refine sx_iload_n (pc := 60) dX12_relative_60 sx_m5 ?_
      refine sx_iconst (pc := 61) (v := 4) dX12_relative_61 (by decide) ?_
      refine sx_iand (pc := 62) dX12_relative_62 ?_
      refine sx_if_eq (pc := 63) (tgt := 75) dX12_relative_63 (by decide) (fun c26 => ?_) (fun c26 => ?_)
      · have h := sx_pos c26 h
        refine sx_lload (pc := 75) dX12_relative_75 sx_m0 ?_
        refine sx_wk (sx_s1 sx_m4 (sx_s1 sx_m5 (sx_s1 sx_m3 (sx_s1 sx_m2 (sx_s1 sx_m1 (sx_s1 sx_m0 sx_s0)))))) ?_
        exact tB_X12_relative_77 hG hP  h
      · have h := sx_neg c26 h
        refine sx_aload_n (pc := 66) dX12_relative_66 sx_m4 ?_
        refine sx_lload (pc := 67) dX12_relative_67 sx_m0 ?_
        obtain ⟨⟨x29, V27⟩, g28, h⟩ := sx_bnd h
        refine sv_cV (pc := 69) (y := qX12_rounded) (o := (some (.long x29))) (as := [.long x25]) (V1 := V27) hG dX12_relative_69 l_X12_647 y0X12_rounded yvX12_rounded rfl (Nat.le_of_ble_eq_true rfl) lay_146 kr_12 (by decide) (Nat.le_of_ble_eq_true rfl) rfl rfl rfl (t_X12_rounded hG ⟨rfl, rfl⟩ g28) ?_
        refine sx_goto (pc := 72) (tgt := 77) dX12_relative_72 (by decide) ?_
        refine sx_wk (sx_s1 sx_m4 (sx_s1 sx_m5 (sx_s1 sx_m3 (sx_s1 sx_m2 (sx_s1 sx_m1 (sx_s1 sx_m0 sx_s0)))))) ?_
        exact tB_X12_relative_77 hG hP  h
    · have h := sx_neg c19 h
      exact sv_vret (pc := 45) dX12_relative_45 rfl h hP
  · have h := sx_pos c9 h
    exact sv_vret (pc := 8) dX12_relative_8 rfl h hP
end
section
/-! methods: X12_indirect, X12_deltas, X12_high -/
def ncX12_indirect : Nat := 1217028087387691024209701241014988910527358062760702162163473428532676408052386688706554359661984940903690250972280716330861539539239096532764253104543738660781597983147800029020128068821843511506819554112370713130440898646844074531295397001573457316791120620579246068281338615924012958604209879224235298708383415233222663362173159872424182803102379780584803936152657286470400402861843081384809359393556749103631034785379851339094919544314965150256485791808019332210797652777033398053960540815326719300769954887320824132615805540468282570444192255910437099353795084194102854846761318855441540056362
theorem kcX12_indirect : CK cX12_indirect ncX12_indirect 248 := ⟨by decide +kernel, by decide +kernel⟩
theorem dX12_indirect_0 : decode cX12_indirect 0 = .ok (.aload_n 0, 1) := dl_o42 kcX12_indirect (by decide +kernel)
theorem dX12_indirect_1 : decode cX12_indirect 1 = .ok (.iconst 2, 1) := dl_o5 kcX12_indirect (by decide +kernel)
theorem dX12_indirect_2 : decode cX12_indirect 2 = .ok (.invokevirtual 576, 3) := dl_o182 kcX12_indirect (by decide +kernel)
theorem dX12_indirect_5 : decode cX12_indirect 5 = .ok (.ifCond .ne 4, 3) := dl_o154 kcX12_indirect 4 (by decide +kernel) (by decide +kernel)
theorem dX12_indirect_8 : decode cX12_indirect 8 = .ok (.return_, 1) := dl_o177 kcX12_indirect (by decide +kernel)
theorem dX12_indirect_9 : decode cX12_indirect 9 = .ok (.aload_n 0, 1) := dl_o42 kcX12_indirect (by decide +kernel)
theorem dX12_indirect_10 : decode cX12_indirect 10 = .ok (.invokevirtual 579, 3) := dl_o182 kcX12_indirect (by decide +kernel)
theorem dX12_indirect_13 : decode cX12_indirect 13 = .ok (.istore_n 2, 1) := dl_o61 kcX12_indirect (by decide +kernel)
theorem dX12_indirect_14 : decode cX12_indirect 14 = .ok (.aload_n 0, 1) := dl_o42 kcX12_indirect (by decide +kernel)
theorem dX12_indirect_15 : decode cX12_indirect 15 = .ok (.invokevirtual 579, 3) := dl_o182 kcX12_indirect (by decide +kernel)
theorem dX12_indirect_18 : decode cX12_indirect 18 = .ok (.istore_n 3, 1) := dl_o62 kcX12_indirect (by decide +kernel)
theorem dX12_indirect_19 : decode cX12_indirect 19 = .ok (.aload_n 0, 1) := dl_o42 kcX12_indirect (by decide +kernel)
theorem dX12_indirect_20 : decode cX12_indirect 20 = .ok (.aload_n 0, 1) := dl_o42 kcX12_indirect (by decide +kernel)
theorem dX12_indirect_21 : decode cX12_indirect 21 = .ok (.getfield 463, 3) := dl_o180 kcX12_indirect (by decide +kernel)
theorem dX12_indirect_24 : decode cX12_indirect 24 = .ok (.iload_n 3, 1) := dl_o29 kcX12_indirect (by decide +kernel)
theorem dX12_indirect_25 : decode cX12_indirect 25 = .ok (.invokevirtual 582, 3) := dl_o182 kcX12_indirect (by decide +kernel)
theorem dX12_indirect_28 : decode cX12_indirect 28 = .ok (.istore 4, 2) := dl_o54 kcX12_indirect (by decide +kernel)
theorem dX12_indirect_30 : decode cX12_indirect 30 = .ok (.aload_n 0, 1) := dl_o42 kcX12_indirect (by decide +kernel)
theorem dX12_indirect_31 : decode cX12_indirect 31 = .ok (.aload_n 0, 1) := dl_o42 kcX12_indirect (by decide +kernel)
theorem dX12_indirect_32 : decode cX12_indirect 32 = .ok (.getfield 460, 3) := dl_o180 kcX12_indirect (by decide +kernel)
theorem dX12_indirect_35 : decode cX12_indirect 35 = .ok (.aload_n 0, 1) := dl_o42 kcX12_indirect (by decide +kernel)
theorem dX12_indirect_36 : decode cX12_indirect 36 = .ok (.getfield 451, 3) := dl_o180 kcX12_indirect (by decide +kernel)
theorem dX12_indirect_39 : decode cX12_indirect 39 = .ok (.invokevirtual 582, 3) := dl_o182 kcX12_indirect (by decide +kernel)
theorem dX12_indirect_42 : decode cX12_indirect 42 = .ok (.istore 5, 2) := dl_o54 kcX12_indirect (by decide +kernel)
theorem dX12_indirect_44 : decode cX12_indirect 44 = .ok (.aload_n 0, 1) := dl_o42 kcX12_indirect (by decide +kernel)
theorem dX12_indirect_45 : decode cX12_indirect 45 = .ok (.iload_n 2, 1) := dl_o28 kcX12_indirect (by decide +kernel)
theorem dX12_indirect_46 : decode cX12_indirect 46 = .ok (.invokevirtual 677, 3) := dl_o182 kcX12_indirect (by decide +kernel)
theorem dX12_indirect_49 : decode cX12_indirect 49 = .ok (.i2l, 1) := dl_o133 kcX12_indirect (by decide +kernel)
theorem dX12_indirect_50 : decode cX12_indirect 50 = .ok (.lstore 6, 2) := dl_o55 kcX12_indirect (by decide +kernel)
theorem dX12_indirect_52 : decode cX12_indirect 52 = .ok (.aload_n 0, 1) := dl_o42 kcX12_indirect (by decide +kernel)
theorem dX12_indirect_53 : decode cX12_indirect 53 = .ok (.getfield 409, 3) := dl_o180 kcX12_indirect (by decide +kernel)
theorem dX12_indirect_56 : decode cX12_indirect 56 = .ok (.ifCond .le 4, 3) := dl_o158 kcX12_indirect 4 (by decide +kernel) (by decide +kernel)
theorem dX12_indirect_59 : decode cX12_indirect 59 = .ok (.return_, 1) := dl_o177 kcX12_indirect (by decide +kernel)
theorem dX12_indirect_60 : decode cX12_indirect 60 = .ok (.aload_n 0, 1) := dl_o42 kcX12_indirect (by decide +kernel)
theorem dX12_indirect_61 : decode cX12_indirect 61 = .ok (.lload 6, 2) := dl_o22 kcX12_indirect (by decide +kernel)
theorem dX12_indirect_63 : decode cX12_indirect 63 = .ok (.invokevirtual 720, 3) := dl_o182 kcX12_indirect (by decide +kernel)
theorem dX12_indirect_66 : decode cX12_indirect 66 = .ok (.lstore 6, 2) := dl_o55 kcX12_indirect (by decide +kernel)
theorem dX12_indirect_68 : decode cX12_indirect 68 = .ok (.aload_n 0, 1) := dl_o42 kcX12_indirect (by decide +kernel)
theorem dX12_indirect_69 : decode cX12_indirect 69 = .ok (.getfield 463, 3) := dl_o180 kcX12_indirect (by decide +kernel)
theorem dX12_indirect_72 : decode cX12_indirect 72 = .ok (.ifCond .ne 55, 3) := dl_o154 kcX12_indirect 55 (by decide +kernel) (by decide +kernel)
theorem dX12_indirect_75 : decode cX12_indirect 75 = .ok (.aload_n 0, 1) := dl_o42 kcX12_indirect (by decide +kernel)
theorem dX12_indirect_76 : decode cX12_indirect 76 = .ok (.iload 4, 2) := dl_o21 kcX12_indirect (by decide +kernel)
theorem dX12_indirect_78 : decode cX12_indirect 78 = .ok (.aload_n 0, 1) := dl_o42 kcX12_indirect (by decide +kernel)
theorem dX12_indirect_79 : decode cX12_indirect 79 = .ok (.getfield 70, 3) := dl_o180 kcX12_indirect (by decide +kernel)
theorem dX12_indirect_82 : decode cX12_indirect 82 = .ok (.iload 5, 2) := dl_o21 kcX12_indirect (by decide +kernel)
theorem dX12_indirect_84 : decode cX12_indirect 84 = .ok (.iaload, 1) := dl_o46 kcX12_indirect (by decide +kernel)
theorem dX12_indirect_85 : decode cX12_indirect 85 = .ok (.i2l, 1) := dl_o133 kcX12_indirect (by decide +kernel)
theorem dX12_indirect_86 : decode cX12_indirect 86 = .ok (.lload 6, 2) := dl_o22 kcX12_indirect (by decide +kernel)
theorem dX12_indirect_88 : decode cX12_indirect 88 = .ok (.aload_n 0, 1) := dl_o42 kcX12_indirect (by decide +kernel)
theorem dX12_indirect_89 : decode cX12_indirect 89 = .ok (.getfield 433, 3) := dl_o180 kcX12_indirect (by decide +kernel)
theorem dX12_indirect_92 : decode cX12_indirect 92 = .ok (.i2l, 1) := dl_o133 kcX12_indirect (by decide +kernel)
theorem dX12_indirect_93 : decode cX12_indirect 93 = .ok (.lmul, 1) := dl_o105 kcX12_indirect (by decide +kernel)
theorem dX12_indirect_94 : decode cX12_indirect 94 = .ok (.ldc2_w 310, 3) := dl_o20 kcX12_indirect (by decide +kernel)
theorem dX12_indirect_97 : decode cX12_indirect 97 = .ok (.invokestatic 517, 3) := dl_o184 kcX12_indirect (by decide +kernel)
theorem dX12_indirect_100 : decode cX12_indirect 100 = .ok (.ladd, 1) := dl_o97 kcX12_indirect (by decide +kernel)
theorem dX12_indirect_101 : decode cX12_indirect 101 = .ok (.aload_n 0, 1) := dl_o42 kcX12_indirect (by decide +kernel)
theorem dX12_indirect_102 : decode cX12_indirect 102 = .ok (.getfield 73, 3) := dl_o180 kcX12_indirect (by decide +kernel)
theorem dX12_indirect_105 : decode cX12_indirect 105 = .ok (.iload 5, 2) := dl_o21 kcX12_indirect (by decide +kernel)
theorem dX12_indirect_107 : decode cX12_indirect 107 = .ok (.iaload, 1) := dl_o46 kcX12_indirect (by decide +kernel)
theorem dX12_indirect_108 : decode cX12_indirect 108 = .ok (.i2l, 1) := dl_o133 kcX12_indirect (by decide +kernel)
theorem dX12_indirect_109 : decode cX12_indirect 109 = .ok (.lload 6, 2) := dl_o22 kcX12_indirect (by decide +kernel)
theorem dX12_indirect_111 : decode cX12_indirect 111 = .ok (.aload_n 0, 1) := dl_o42 kcX12_indirect (by decide +kernel)
theorem dX12_indirect_112 : decode cX12_indirect 112 = .ok (.getfield 436, 3) := dl_o180 kcX12_indirect (by decide +kernel)
theorem dX12_indirect_115 : decode cX12_indirect 115 = .ok (.i2l, 1) := dl_o133 kcX12_indirect (by decide +kernel)
theorem dX12_indirect_116 : decode cX12_indirect 116 = .ok (.lmul, 1) := dl_o105 kcX12_indirect (by decide +kernel)
theorem dX12_indirect_117 : decode cX12_indirect 117 = .ok (.ldc2_w 310, 3) := dl_o20 kcX12_indirect (by decide +kernel)
theorem dX12_indirect_120 : decode cX12_indirect 120 = .ok (.invokestatic 517, 3) := dl_o184 kcX12_indirect (by decide +kernel)
theorem dX12_indirect_123 : decode cX12_indirect 123 = .ok (.ladd, 1) := dl_o97 kcX12_indirect (by decide +kernel)
theorem dX12_indirect_124 : decode cX12_indirect 124 = .ok (.invokevirtual 716, 3) := dl_o182 kcX12_indirect (by decide +kernel)
theorem dX12_indirect_127 : decode cX12_indirect 127 = .ok (.aload_n 0, 1) := dl_o42 kcX12_indirect (by decide +kernel)
theorem dX12_indirect_128 : decode cX12_indirect 128 = .ok (.iload 4, 2) := dl_o21 kcX12_indirect (by decide +kernel)
theorem dX12_indirect_130 : decode cX12_indirect 130 = .ok (.iload 5, 2) := dl_o21 kcX12_indirect (by decide +kernel)
theorem dX12_indirect_132 : decode cX12_indirect 132 = .ok (.invokevirtual 680, 3) := dl_o182 kcX12_indirect (by decide +kernel)
theorem dX12_indirect_135 : decode cX12_indirect 135 = .ok (.i2l, 1) := dl_o133 kcX12_indirect (by decide +kernel)
theorem dX12_indirect_136 : decode cX12_indirect 136 = .ok (.lstore 8, 2) := dl_o55 kcX12_indirect (by decide +kernel)
theorem dX12_indirect_138 : decode cX12_indirect 138 = .ok (.aload_n 0, 1) := dl_o42 kcX12_indirect (by decide +kernel)
theorem dX12_indirect_139 : decode cX12_indirect 139 = .ok (.getfield 683, 3) := dl_o180 kcX12_indirect (by decide +kernel)
theorem dX12_indirect_142 : decode cX12_indirect 142 = .ok (.ifCond .eq 35, 3) := dl_o153 kcX12_indirect 35 (by decide +kernel) (by decide +kernel)
theorem dX12_indirect_145 : decode cX12_indirect 145 = .ok (.lload 8, 2) := dl_o22 kcX12_indirect (by decide +kernel)
theorem dX12_indirect_147 : decode cX12_indirect 147 = .ok (.lconst 0, 1) := dl_o9 kcX12_indirect (by decide +kernel)
theorem dX12_indirect_148 : decode cX12_indirect 148 = .ok (.lcmp, 1) := dl_o148 kcX12_indirect (by decide +kernel)
theorem dX12_indirect_149 : decode cX12_indirect 149 = .ok (.ifCond .ge 7, 3) := dl_o156 kcX12_indirect 7 (by decide +kernel) (by decide +kernel)
theorem dX12_indirect_152 : decode cX12_indirect 152 = .ok (.iconst 1, 1) := dl_o4 kcX12_indirect (by decide +kernel)
theorem dX12_indirect_153 : decode cX12_indirect 153 = .ok (.goto 4, 3) := dl_o167 kcX12_indirect 4 (by decide +kernel) (by decide +kernel)
theorem dX12_indirect_156 : decode cX12_indirect 156 = .ok (.iconst 0, 1) := dl_o3 kcX12_indirect (by decide +kernel)
theorem dX12_indirect_157 : decode cX12_indirect 157 = .ok (.lload 6, 2) := dl_o22 kcX12_indirect (by decide +kernel)
theorem dX12_indirect_159 : decode cX12_indirect 159 = .ok (.lconst 0, 1) := dl_o9 kcX12_indirect (by decide +kernel)
theorem dX12_indirect_160 : decode cX12_indirect 160 = .ok (.lcmp, 1) := dl_o148 kcX12_indirect (by decide +kernel)
theorem dX12_indirect_161 : decode cX12_indirect 161 = .ok (.ifCond .ge 7, 3) := dl_o156 kcX12_indirect 7 (by decide +kernel) (by decide +kernel)
theorem dX12_indirect_164 : decode cX12_indirect 164 = .ok (.iconst 1, 1) := dl_o4 kcX12_indirect (by decide +kernel)
theorem dX12_indirect_165 : decode cX12_indirect 165 = .ok (.goto 4, 3) := dl_o167 kcX12_indirect 4 (by decide +kernel) (by decide +kernel)
theorem dX12_indirect_168 : decode cX12_indirect 168 = .ok (.iconst 0, 1) := dl_o3 kcX12_indirect (by decide +kernel)
theorem dX12_indirect_169 : decode cX12_indirect 169 = .ok (.if_icmp .eq 8, 3) := dl_o159 kcX12_indirect 8 (by decide +kernel) (by decide +kernel)
theorem dX12_indirect_172 : decode cX12_indirect 172 = .ok (.lload 6, 2) := dl_o22 kcX12_indirect (by decide +kernel)
theorem dX12_indirect_174 : decode cX12_indirect 174 = .ok (.lneg, 1) := dl_o117 kcX12_indirect (by decide +kernel)
theorem dX12_indirect_175 : decode cX12_indirect 175 = .ok (.lstore 6, 2) := dl_o55 kcX12_indirect (by decide +kernel)
theorem dX12_indirect_177 : decode cX12_indirect 177 = .ok (.iload_n 1, 1) := dl_o27 kcX12_indirect (by decide +kernel)
theorem dX12_indirect_178 : decode cX12_indirect 178 = .ok (.iconst 4, 1) := dl_o7 kcX12_indirect (by decide +kernel)
theorem dX12_indirect_179 : decode cX12_indirect 179 = .ok (.iand, 1) := dl_o126 kcX12_indirect (by decide +kernel)
theorem dX12_indirect_180 : decode cX12_indirect 180 = .ok (.ifCond .eq 48, 3) := dl_o153 kcX12_indirect 48 (by decide +kernel) (by decide +kernel)
theorem dX12_indirect_183 : decode cX12_indirect 183 = .ok (.aload_n 0, 1) := dl_o42 kcX12_indirect (by decide +kernel)
theorem dX12_indirect_184 : decode cX12_indirect 184 = .ok (.getfield 460, 3) := dl_o180 kcX12_indirect (by decide +kernel)
theorem dX12_indirect_187 : decode cX12_indirect 187 = .ok (.aload_n 0, 1) := dl_o42 kcX12_indirect (by decide +kernel)
theorem dX12_indirect_188 : decode cX12_indirect 188 = .ok (.getfield 463, 3) := dl_o180 kcX12_indirect (by decide +kernel)
theorem dX12_indirect_191 : decode cX12_indirect 191 = .ok (.if_icmp .ne 25, 3) := dl_o160 kcX12_indirect 25 (by decide +kernel) (by decide +kernel)
theorem dX12_indirect_194 : decode cX12_indirect 194 = .ok (.lload 6, 2) := dl_o22 kcX12_indirect (by decide +kernel)
theorem dX12_indirect_196 : decode cX12_indirect 196 = .ok (.lload 8, 2) := dl_o22 kcX12_indirect (by decide +kernel)
theorem dX12_indirect_198 : decode cX12_indirect 198 = .ok (.lsub, 1) := dl_o101 kcX12_indirect (by decide +kernel)
theorem dX12_indirect_199 : decode cX12_indirect 199 = .ok (.invokestatic 198, 3) := dl_o184 kcX12_indirect (by decide +kernel)
theorem dX12_indirect_202 : decode cX12_indirect 202 = .ok (.aload_n 0, 1) := dl_o42 kcX12_indirect (by decide +kernel)
theorem dX12_indirect_203 : decode cX12_indirect 203 = .ok (.getfield 605, 3) := dl_o180 kcX12_indirect (by decide +kernel)
theorem dX12_indirect_206 : decode cX12_indirect 206 = .ok (.i2l, 1) := dl_o133 kcX12_indirect (by decide +kernel)
theorem dX12_indirect_207 : decode cX12_indirect 207 = .ok (.lcmp, 1) := dl_o148 kcX12_indirect (by decide +kernel)
theorem dX12_indirect_208 : decode cX12_indirect 208 = .ok (.ifCond .le 8, 3) := dl_o158 kcX12_indirect 8 (by decide +kernel) (by decide +kernel)
theorem dX12_indirect_211 : decode cX12_indirect 211 = .ok (.lload 8, 2) := dl_o22 kcX12_indirect (by decide +kernel)
theorem dX12_indirect_213 : decode cX12_indirect 213 = .ok (.goto 5, 3) := dl_o167 kcX12_indirect 5 (by decide +kernel) (by decide +kernel)
theorem dX12_indirect_216 : decode cX12_indirect 216 = .ok (.lload 6, 2) := dl_o22 kcX12_indirect (by decide +kernel)
theorem dX12_indirect_218 : decode cX12_indirect 218 = .ok (.lstore 6, 2) := dl_o55 kcX12_indirect (by decide +kernel)
theorem dX12_indirect_220 : decode cX12_indirect 220 = .ok (.aload_n 0, 1) := dl_o42 kcX12_indirect (by decide +kernel)
theorem dX12_indirect_221 : decode cX12_indirect 221 = .ok (.lload 6, 2) := dl_o22 kcX12_indirect (by decide +kernel)
theorem dX12_indirect_223 : decode cX12_indirect 223 = .ok (.invokevirtual 647, 3) := dl_o182 kcX12_indirect (by decide +kernel)
theorem dX12_indirect_226 : decode cX12_indirect 226 = .ok (.lstore 6, 2) := dl_o55 kcX12_indirect (by decide +kernel)
theorem dX12_indirect_228 : decode cX12_indirect 228 = .ok (.aload_n 0, 1) := dl_o42 kcX12_indirect (by decide +kernel)
theorem dX12_indirect_229 : decode cX12_indirect 229 = .ok (.iload_n 1, 1) := dl_o27 kcX12_indirect (by decide +kernel)
theorem dX12_indirect_230 : decode cX12_indirect 230 = .ok (.iload 4, 2) := dl_o21 kcX12_indirect (by decide +kernel)
theorem dX12_indirect_232 : decode cX12_indirect 232 = .ok (.iload_n 3, 1) := dl_o29 kcX12_indirect (by decide +kernel)
theorem dX12_indirect_233 : decode cX12_indirect 233 = .ok (.iload 5, 2) := dl_o21 kcX12_indirect (by decide +kernel)
theorem dX12_indirect_235 : decode cX12_indirect 235 = .ok (.aload_n 0, 1) := dl_o42 kcX12_indirect (by decide +kernel)
theorem dX12_indirect_236 : decode cX12_indirect 236 = .ok (.iload_n 1, 1) := dl_o27 kcX12_indirect (by decide +kernel)
theorem dX12_indirect_237 : decode cX12_indirect 237 = .ok (.lload 8, 2) := dl_o22 kcX12_indirect (by decide +kernel)
theorem dX12_indirect_239 : decode cX12_indirect 239 = .ok (.lload 6, 2) := dl_o22 kcX12_indirect (by decide +kernel)
theorem dX12_indirect_241 : decode cX12_indirect 241 = .ok (.invokevirtual 723, 3) := dl_o182 kcX12_indirect (by decide +kernel)
theorem dX12_indirect_244 : decode cX12_indirect 244 = .ok (.invokevirtual 727, 3) := dl_o182 kcX12_indirect (by decide +kernel)
theorem dX12_indirect_247 : decode cX12_indirect 247 = .ok (.return_, 1) := dl_o177 kcX12_indirect (by decide +kernel)
def B_X12_indirect_228  (l1 : Int32) (l3 : Int32) (l4 : Int32) (l5 : Int32) (l6 : Int64) (l8 : Int64) (V : sv_V) : Option sv_V := (F_X12_atLeast l1 l8 l6 V).bind (fun (x3, V1) => (F_X12_settle l1 l4 l3 l5 x3 V1).bind (fun V4 => some V4))
set_option maxRecDepth 20000 in
theorem tB_X12_indirect_228 {g : sx_G} (hG : sx_Go g) {P : Option Value → sv_V → Prop} {Vr : sv_V} (hP : P none Vr)   {l1 : Int32} {l3 : Int32} {l4 : Int32} {l5 : Int32} {l6 : Int64} {l8 : Int64} {V : sv_V} (h : B_X12_indirect_228  l1 l3 l4 l5 l6 l8 V = some Vr) : sv_N g qX12_indirect 6 228 [(0, .ref 146), (1, .int l1), (3, .int l3), (4, .int l4), (5, .int l5), (6, .long l6), (8, .long l8)] [] V P := by
  unfold B_X12_indirect_228 at h
  refine sx_aload_n (pc := 228) dX12_indirect_228 sx_m0 ?_
  refine sx_iload_n (pc := 229) dX12_indirect_229 sx_m1 ?_
  refine sx_iload (pc := 230) dX12_indirect_230 sx_m3 ?_
  refine sx_iload_n (pc := 232) dX12_indirect_232 sx_m2 ?_
  refine sx_iload (pc := 233) dX12_indirect_233 sx_m4 ?_
  refine sx_aload_n (pc := 235) dX12_indirect_235 sx_m0 ?_
  refine sx_iload_n (pc := 236) dX12_indirect_236 sx_m1 ?_
  refine sx_lload (pc := 237) dX12_indirect_237 sx_m6 ?_
  refine sx_lload (pc := 239) dX12_indirect_239 sx_m5 ?_
  obtain ⟨⟨x3, V1⟩, g2, h⟩ := sx_bnd h
  refine sv_cV (pc := 241) (y := qX12_atLeast) (o := (some (.long x3))) (as := [.int l1, .long l8, .long l6]) (V1 := V1) hG dX12_indirect_241 l_X12_723 y0X12_atLeast yvX12_atLeast rfl (Nat.le_of_ble_eq_true rfl) lay_146 kr_12 (by decide) (Nat.le_of_ble_eq_true rfl) rfl rfl rfl (t_X12_atLeast hG ⟨rfl, rfl⟩ g2) ?_
  obtain ⟨V4, g5, h⟩ := sx_bnd h
  refine sv_cV (pc := 244) (y := qX12_settle) (o := none) (as := [.int l1, .int l4, .int l3, .int l5, .long x3]) (V1 := V4) hG dX12_indirect_244 l_X12_727 y0X12_settle yvX12_settle rfl (Nat.le_of_ble_eq_true rfl) lay_146 kr_12 (by decide) (Nat.le_of_ble_eq_true rfl) rfl rfl rfl (t_X12_settle hG ⟨rfl, rfl⟩ g5) ?_
  exact sv_vret (pc := 247) dX12_indirect_247 rfl h hP
def B_X12_indirect_218  (l1 : Int32) (l3 : Int32) (l4 : Int32) (l5 : Int32) (l8 : Int64) (s0 : Int64) (V : sv_V) : Option sv_V := (F_X12_rounded s0 V).bind (fun (x8, V6) => B_X12_indirect_228  l1 l3 l4 l5 x8 l8 V6)
set_option maxRecDepth 20000 in
theorem tB_X12_indirect_218 {g : sx_G} (hG : sx_Go g) {P : Option Value → sv_V → Prop} {Vr : sv_V} (hP : P none Vr)   {l1 : Int32} {l3 : Int32} {l4 : Int32} {l5 : Int32} {l8 : Int64} {s0 : Int64} {V : sv_V} (h : B_X12_indirect_218  l1 l3 l4 l5 l8 s0 V = some Vr) : sv_N g qX12_indirect 6 218 [(0, .ref 146), (1, .int l1), (3, .int l3), (4, .int l4), (5, .int l5), (8, .long l8)] [.long s0] V P := by
  unfold B_X12_indirect_218 at h
  refine sx_lstore (pc := 218) (lo' := [(6, .long s0), (0, .ref 146), (1, .int l1), (3, .int l3), (4, .int l4), (5, .int l5), (8, .long l8)]) dX12_indirect_218 (by decide) rfl ?_
  refine sx_aload_n (pc := 220) dX12_indirect_220 sx_m1 ?_
  refine sx_lload (pc := 221) dX12_indirect_221 sx_m0 ?_
  obtain ⟨⟨x8, V6⟩, g7, h⟩ := sx_bnd h
  refine sv_cV (pc := 223) (y := qX12_rounded) (o := (some (.long x8))) (as := [.long s0]) (V1 := V6) hG dX12_indirect_223 l_X12_647 y0X12_rounded yvX12_rounded rfl (Nat.le_of_ble_eq_true rfl) lay_146 kr_12 (by decide) (Nat.le_of_ble_eq_true rfl) rfl rfl rfl (t_X12_rounded hG ⟨rfl, rfl⟩ g7) ?_
  refine sx_lstore (pc := 226) (lo' := [(6, .long x8), (0, .ref 146), (1, .int l1), (3, .int l3), (4, .int l4), (5, .int l5), (8, .long l8)]) dX12_indirect_226 (by decide) rfl ?_
  refine sx_wk (sx_s1 sx_m1 (sx_s1 sx_m2 (sx_s1 sx_m3 (sx_s1 sx_m4 (sx_s1 sx_m5 (sx_s1 sx_m0 (sx_s1 sx_m6 sx_s0))))))) ?_
  exact tB_X12_indirect_228 hG hP  h
def B_X12_indirect_216  (l1 : Int32) (l3 : Int32) (l4 : Int32) (l5 : Int32) (l6 : Int64) (l8 : Int64) (V : sv_V) : Option sv_V := B_X12_indirect_218  l1 l3 l4 l5 l8 l6 V
set_option maxRecDepth 20000 in
theorem tB_X12_indirect_216 {g : sx_G} (hG : sx_Go g) {P : Option Value → sv_V → Prop} {Vr : sv_V} (hP : P none Vr)   {l1 : Int32} {l3 : Int32} {l4 : Int32} {l5 : Int32} {l6 : Int64} {l8 : Int64} {V : sv_V} (h : B_X12_indirect_216  l1 l3 l4 l5 l6 l8 V = some Vr) : sv_N g qX12_indirect 6 216 [(0, .ref 146), (1, .int l1), (3, .int l3), (4, .int l4), (5, .int l5), (6, .long l6), (8, .long l8)] [] V P := by
  unfold B_X12_indirect_216 at h
  refine sx_lload (pc := 216) dX12_indirect_216 sx_m5 ?_
  refine sx_wk (sx_s1 sx_m0 (sx_s1 sx_m1 (sx_s1 sx_m2 (sx_s1 sx_m3 (sx_s1 sx_m4 (sx_s1 sx_m6 sx_s0)))))) ?_
  exact tB_X12_indirect_218 hG hP  h
def B_X12_indirect_177  (l1 : Int32) (l3 : Int32) (l4 : Int32) (l5 : Int32) (l6 : Int64) (l8 : Int64) (V : sv_V) : Option sv_V := if (l1 &&& (4 : Int32)) = 0 then (B_X12_indirect_228  l1 l3 l4 l5 l6 l8 V) else (if (V.1 146 72) = (V.1 146 73) then ((F_X12_sizeOf (l6 - l8) V).bind (fun (x13, V11) => if (lg_cmp x13 ((V11.1 146 80).toInt64)) ≤ 0 then (B_X12_indirect_216  l1 l3 l4 l5 l6 l8 V11) else (B_X12_indirect_218  l1 l3 l4 l5 l8 l8 V11))) else (B_X12_indirect_216  l1 l3 l4 l5 l6 l8 V))
set_option maxRecDepth 20000 in
theorem tB_X12_indirect_177 {g : sx_G} (hG : sx_Go g) {P : Option Value → sv_V → Prop} {Vr : sv_V} (hP : P none Vr)   {l1 : Int32} {l3 : Int32} {l4 : Int32} {l5 : Int32} {l6 : Int64} {l8 : Int64} {V : sv_V} (h : B_X12_indirect_177  l1 l3 l4 l5 l6 l8 V = some Vr) : sv_N g qX12_indirect 6 177 [(0, .ref 146), (1, .int l1), (3, .int l3), (4, .int l4), (5, .int l5), (6, .long l6), (8, .long l8)] [] V P := by
  unfold B_X12_indirect_177 at h
  refine sx_iload_n (pc := 177) dX12_indirect_177 sx_m1 ?_
  refine sx_iconst (pc := 178) (v := 4) dX12_indirect_178 (by decide) ?_
  refine sx_iand (pc := 179) dX12_indirect_179 ?_
  refine sx_if_eq (pc := 180) (tgt := 228) dX12_indirect_180 (by decide) (fun c9 => ?_) (fun c9 => ?_)
  · have h := sx_pos c9 h
    refine sx_wk (sx_s1 sx_m0 (sx_s1 sx_m1 (sx_s1 sx_m2 (sx_s1 sx_m3 (sx_s1 sx_m4 (sx_s1 sx_m5 (sx_s1 sx_m6 sx_s0))))))) ?_
    exact tB_X12_indirect_228 hG hP  h
  · have h := sx_neg c9 h
    refine sx_aload_n (pc := 183) dX12_indirect_183 sx_m0 ?_
    refine sv_getI (pc := 184) hG dX12_indirect_184 f_12_460 lay_146 rfl ?_
    refine sx_aload_n (pc := 187) dX12_indirect_187 sx_m0 ?_
    refine sv_getI (pc := 188) hG dX12_indirect_188 f_12_463 lay_146 rfl ?_
    refine sx_icmp_ne (pc := 191) (tgt := 216) dX12_indirect_191 (by decide) (fun c10 => ?_) (fun c10 => ?_)
    · have h := sx_neg c10 h
      refine sx_wk (sx_s1 sx_m0 (sx_s1 sx_m1 (sx_s1 sx_m2 (sx_s1 sx_m3 (sx_s1 sx_m4 (sx_s1 sx_m5 (sx_s1 sx_m6 sx_s0))))))) ?_
      exact tB_X12_indirect_216 hG hP  h
    · have h := sx_pos c10 h
      refine sx_lload (pc := 194) dX12_indirect_194 sx_m5 ?_
      refine sx_lload (pc := 196) dX12_indirect_196 sx_m6 ?_
      refine sx_lsub (pc := 198) dX12_indirect_198 ?_
      obtain ⟨⟨x13, V11⟩, g12, h⟩ := sx_bnd h
      refine sv_cS (pc := 199) (y := qX12_sizeOf) (o := (some (.long x13))) (as := [.long (l6 - l8)]) (V1 := V11) dX12_indirect_199 l_X12_198 y0X12_sizeOf ysX12_sizeOf rfl (Nat.le_of_ble_eq_true rfl) (by decide) (Nat.le_of_ble_eq_true rfl) rfl rfl rfl (t_X12_sizeOf hG ⟨rfl, rfl⟩ g12) ?_
      refine sx_aload_n (pc := 202) dX12_indirect_202 sx_m0 ?_
      refine sv_getI (pc := 203) hG dX12_indirect_203 f_12_605 lay_146 rfl ?_
      refine sx_i2l (pc := 206) dX12_indirect_206 ?_
      refine sx_lcmp (pc := 207) dX12_indirect_207 ?_
      refine sx_if_le (pc := 208) (tgt := 216) dX12_indirect_208 (by decide) (fun c14 => ?_) (fun c14 => ?_)
      · have h := sx_pos c14 h
        refine sx_wk (sx_s1 sx_m0 (sx_s1 sx_m1 (sx_s1 sx_m2 (sx_s1 sx_m3 (sx_s1 sx_m4 (sx_s1 sx_m5 (sx_s1 sx_m6 sx_s0))))))) ?_
        exact tB_X12_indirect_216 hG hP  h
      · have h := sx_neg c14 h
        refine sx_lload (pc := 211) dX12_indirect_211 sx_m6 ?_
        refine sx_goto (pc := 213) (tgt := 218) dX12_indirect_213 (by decide) ?_
        refine sx_wk (sx_s1 sx_m0 (sx_s1 sx_m1 (sx_s1 sx_m2 (sx_s1 sx_m3 (sx_s1 sx_m4 (sx_s1 sx_m6 sx_s0)))))) ?_
        exact tB_X12_indirect_218 hG hP  h
def B_X12_indirect_169  (l1 : Int32) (l3 : Int32) (l4 : Int32) (l5 : Int32) (l6 : Int64) (l8 : Int64) (s0 : Int32) (s1 : Int32) (V : sv_V) : Option sv_V := if s0 = s1 then (B_X12_indirect_177  l1 l3 l4 l5 l6 l8 V) else (sx_let (-l6) (fun x16 => B_X12_indirect_177  l1 l3 l4 l5 x16 l8 V))
set_option maxRecDepth 20000 in
theorem tB_X12_indirect_169 {g : sx_G} (hG : sx_Go g) {P : Option Value → sv_V → Prop} {Vr : sv_V} (hP : P none Vr)   {l1 : Int32} {l3 : Int32} {l4 : Int32} {l5 : Int32} {l6 : Int64} {l8 : Int64} {s0 : Int32} {s1 : Int32} {V : sv_V} (h : B_X12_indirect_169  l1 l3 l4 l5 l6 l8 s0 s1 V = some Vr) : sv_N g qX12_indirect 6 169 [(0, .ref 146), (1, .int l1), (3, .int l3), (4, .int l4), (5, .int l5), (6, .long l6), (8, .long l8)] [.int s1, .int s0] V P := by
  unfold B_X12_indirect_169 at h
  refine sx_icmp_eq (pc := 169) (tgt := 177) dX12_indirect_169 (by decide) (fun c15 => ?_) (fun c15 => ?_)
  · have h := sx_pos c15 h
    refine sx_wk (sx_s1 sx_m0 (sx_s1 sx_m1 (sx_s1 sx_m2 (sx_s1 sx_m3 (sx_s1 sx_m4 (sx_s1 sx_m5 (sx_s1 sx_m6 sx_s0))))))) ?_
    exact tB_X12_indirect_177 hG hP  h
  · have h := sx_neg c15 h
    refine sx_lload (pc := 172) dX12_indirect_172 sx_m5 ?_
    refine sx_lneg (pc := 174) dX12_indirect_174 ?_
    refine sv_tJ (fun x16 hx16 => ?_)
    have h := sx_letE hx16 h
    refine sx_lstore (pc := 175) (lo' := [(6, .long x16), (0, .ref 146), (1, .int l1), (3, .int l3), (4, .int l4), (5, .int l5), (8, .long l8)]) dX12_indirect_175 (by decide) rfl ?_
    refine sx_wk (sx_s1 sx_m1 (sx_s1 sx_m2 (sx_s1 sx_m3 (sx_s1 sx_m4 (sx_s1 sx_m5 (sx_s1 sx_m0 (sx_s1 sx_m6 sx_s0))))))) ?_
    exact tB_X12_indirect_177 hG hP  h
def B_X12_indirect_157  (l1 : Int32) (l3 : Int32) (l4 : Int32) (l5 : Int32) (l6 : Int64) (l8 : Int64) (s0 : Int32) (V : sv_V) : Option sv_V := if 0 ≤ (lg_cmp l6 (0 : Int64)) then (B_X12_indirect_169  l1 l3 l4 l5 l6 l8 s0 (0 : Int32) V) else (B_X12_indirect_169  l1 l3 l4 l5 l6 l8 s0 (1 : Int32) V)
set_option maxRecDepth 20000 in
theorem tB_X12_indirect_157 {g : sx_G} (hG : sx_Go g) {P : Option Value → sv_V → Prop} {Vr : sv_V} (hP : P none Vr)   {l1 : Int32} {l3 : Int32} {l4 : Int32} {l5 : Int32} {l6 : Int64} {l8 : Int64} {s0 : Int32} {V : sv_V} (h : B_X12_indirect_157  l1 l3 l4 l5 l6 l8 s0 V = some Vr) : sv_N g qX12_indirect 6 157 [(0, .ref 146), (1, .int l1), (3, .int l3), (4, .int l4), (5, .int l5), (6, .long l6), (8, .long l8)] [.int s0] V P := by
  unfold B_X12_indirect_157 at h
  refine sx_lload (pc := 157) dX12_indirect_157 sx_m5 ?_
  refine sx_lconst (pc := 159) (v := 0) dX12_indirect_159 rfl ?_
  refine sx_lcmp (pc := 160) dX12_indirect_160 ?_
  refine sx_if_ge (pc := 161) (tgt := 168) dX12_indirect_161 (by decide) (fun c17 => ?_) (fun c17 => ?_)
  · have h := sx_pos c17 h
    refine sx_iconst (pc := 168) (v := 0) dX12_indirect_168 (by decide) ?_
    refine sx_wk (sx_s1 sx_m0 (sx_s1 sx_m1 (sx_s1 sx_m2 (sx_s1 sx_m3 (sx_s1 sx_m4 (sx_s1 sx_m5 (sx_s1 sx_m6 sx_s0))))))) ?_
    exact tB_X12_indirect_169 hG hP  h
  · have h := sx_neg c17 h
    refine sx_iconst (pc := 164) (v := 1) dX12_indirect_164 (by decide) ?_
    refine sx_goto (pc := 165) (tgt := 169) dX12_indirect_165 (by decide) ?_
    refine sx_wk (sx_s1 sx_m0 (sx_s1 sx_m1 (sx_s1 sx_m2 (sx_s1 sx_m3 (sx_s1 sx_m4 (sx_s1 sx_m5 (sx_s1 sx_m6 sx_s0))))))) ?_
    exact tB_X12_indirect_169 hG hP  h
def B_X12_indirect_127  (l1 : Int32) (l3 : Int32) (l4 : Int32) (l5 : Int32) (l6 : Int64) (V : sv_V) : Option sv_V := (F_X12_originally l4 l5 V).bind (fun (x20, V18) => sx_let (x20.toInt64) (fun x21 => if (V18.1 146 84) = 0 then (B_X12_indirect_177  l1 l3 l4 l5 l6 x21 V18) else (if 0 ≤ (lg_cmp x21 (0 : Int64)) then (B_X12_indirect_157  l1 l3 l4 l5 l6 x21 (0 : Int32) V18) else (B_X12_indirect_157  l1 l3 l4 l5 l6 x21 (1 : Int32) V18))))
set_option maxRecDepth 20000 in
theorem tB_X12_indirect_127 {g : sx_G} (hG : sx_Go g) {P : Option Value → sv_V → Prop} {Vr : sv_V} (hP : P none Vr)   {l1 : Int32} {l3 : Int32} {l4 : Int32} {l5 : Int32} {l6 : Int64} {V : sv_V} (h : B_X12_indirect_127  l1 l3 l4 l5 l6 V = some Vr) : sv_N g qX12_indirect 6 127 [(0, .ref 146), (1, .int l1), (3, .int l3), (4, .int l4), (5, .int l5), (6, .long l6)] [] V P := by
  unfold B_X12_indirect_127 at h
  refine sx_aload_n (pc := 127) dX12_indirect_127 sx_m0 ?_
  refine sx_iload (pc := 128) dX12_indirect_128 sx_m3 ?_
  refine sx_iload (pc := 130) dX12_indirect_130 sx_m4 ?_
  obtain ⟨⟨x20, V18⟩, g19, h⟩ := sx_bnd h
  refine sv_cV (pc := 132) (y := qX12_originally) (o := (some (.int x20))) (as := [.int l4, .int l5]) (V1 := V18) hG dX12_indirect_132 l_X12_680 y0X12_originally yvX12_originally rfl (Nat.le_of_ble_eq_true rfl) lay_146 kr_12 (by decide) (Nat.le_of_ble_eq_true rfl) rfl rfl rfl (t_X12_originally hG ⟨rfl, rfl⟩ g19) ?_
  refine sx_i2l (pc := 135) dX12_indirect_135 ?_
  refine sv_tJ (fun x21 hx21 => ?_)
  have h := sx_letE hx21 h
  refine sx_lstore (pc := 136) (lo' := [(8, .long x21), (0, .ref 146), (1, .int l1), (3, .int l3), (4, .int l4), (5, .int l5), (6, .long l6)]) dX12_indirect_136 (by decide) rfl ?_
  refine sx_aload_n (pc := 138) dX12_indirect_138 sx_m1 ?_
  refine sv_getZ (pc := 139) hG dX12_indirect_139 f_12_683 lay_146 rfl ?_
  refine sx_if_eq (pc := 142) (tgt := 177) dX12_indirect_142 (by decide) (fun c22 => ?_) (fun c22 => ?_)
  · have h := sx_pos c22 h
    refine sx_wk (sx_s1 sx_m1 (sx_s1 sx_m2 (sx_s1 sx_m3 (sx_s1 sx_m4 (sx_s1 sx_m5 (sx_s1 sx_m6 (sx_s1 sx_m0 sx_s0))))))) ?_
    exact tB_X12_indirect_177 hG hP  h
  · have h := sx_neg c22 h
    refine sx_lload (pc := 145) dX12_indirect_145 sx_m0 ?_
    refine sx_lconst (pc := 147) (v := 0) dX12_indirect_147 rfl ?_
    refine sx_lcmp (pc := 148) dX12_indirect_148 ?_
    refine sx_if_ge (pc := 149) (tgt := 156) dX12_indirect_149 (by decide) (fun c23 => ?_) (fun c23 => ?_)
    · have h := sx_pos c23 h
      refine sx_iconst (pc := 156) (v := 0) dX12_indirect_156 (by decide) ?_
      refine sx_wk (sx_s1 sx_m1 (sx_s1 sx_m2 (sx_s1 sx_m3 (sx_s1 sx_m4 (sx_s1 sx_m5 (sx_s1 sx_m6 (sx_s1 sx_m0 sx_s0))))))) ?_
      exact tB_X12_indirect_157 hG hP  h
    · have h := sx_neg c23 h
      refine sx_iconst (pc := 152) (v := 1) dX12_indirect_152 (by decide) ?_
      refine sx_goto (pc := 153) (tgt := 157) dX12_indirect_153 (by decide) ?_
      refine sx_wk (sx_s1 sx_m1 (sx_s1 sx_m2 (sx_s1 sx_m3 (sx_s1 sx_m4 (sx_s1 sx_m5 (sx_s1 sx_m6 (sx_s1 sx_m0 sx_s0))))))) ?_
      exact tB_X12_indirect_157 hG hP  h
def F_X12_indirect (l1 : Int32) (V : sv_V) : Option sv_V := (F_X12_has (2 : Int32) V).bind (fun (x26, V24) => if x26 = 0 then (some V24) else ((F_X12_pop  V24).bind (fun (x30, V28) => (F_X12_pop  V28).bind (fun (x33, V31) => (F_X12_pointOf (V31.1 146 73) x33 V31).bind (fun (x36, V34) => (F_X12_pointOf (V34.1 146 72) (V34.1 146 69) V34).bind (fun (x39, V37) => (F_X12_cvtOf x30 V37).bind (fun (x42, V40) => sx_let (x42.toInt64) (fun x43 => if (V40.1 146 59) ≤ 0 then ((F_X12_singled x43 V40).bind (fun (x47, V45) => if (V45.1 146 73) = 0 then (if sx_in x39 204 = true then (F_X12_over (x47 * ((V45.1 146 63).toInt64)) (16384 : Int64) V45).bind (fun (x52, V50) => if sx_in x39 204 = true then (F_X12_over (x47 * ((V50.1 146 64).toInt64)) (16384 : Int64) V50).bind (fun (x56, V54) => (F_X12_put x36 (((V45.1 166 x39.toNatClampNeg).toInt64) + x52) (((V50.1 167 x39.toNatClampNeg).toInt64) + x56) V54).bind (fun V57 => B_X12_indirect_127  l1 x33 x36 x39 x47 V57)) else none) else none) else (B_X12_indirect_127  l1 x33 x36 x39 x47 V45))) else (some V40)))))))))
set_option maxRecDepth 20000 in
theorem t_X12_indirect {g : sx_G} (hG : sx_Go g) {P : Option Value → sv_V → Prop} {Vr : sv_V} (hP : P none Vr) {l1 : Int32} {V : sv_V} (h : F_X12_indirect l1 V = some Vr) : sv_N g qX12_indirect 6 0 [(0, .ref 146), (1, .int l1)] [] V P := by
  unfold F_X12_indirect at h
  refine sx_aload_n (pc := 0) dX12_indirect_0 sx_m0 ?_
  refine sx_iconst (pc := 1) (v := 2) dX12_indirect_1 (by decide) ?_
  obtain ⟨⟨x26, V24⟩, g25, h⟩ := sx_bnd h
  refine sv_cV (pc := 2) (y := qX12_has) (o := (some (.int x26))) (as := [.int (2 : Int32)]) (V1 := V24) hG dX12_indirect_2 l_X12_576 y0X12_has yvX12_has rfl (Nat.le_of_ble_eq_true rfl) lay_146 kr_12 (by decide) (Nat.le_of_ble_eq_true rfl) rfl rfl rfl (t_X12_has hG ⟨rfl, rfl⟩ g25) ?_
  refine sx_if_ne (pc := 5) (tgt := 9) dX12_indirect_5 (by decide) (fun c27 => ?_) (fun c27 => ?_)
  · have h := sx_neg c27 h
    refine sx_aload_n (pc := 9) dX12_indirect_9 sx_m0 ?_
    obtain ⟨⟨x30, V28⟩, g29, h⟩ := sx_bnd h
    refine sv_cV (pc := 10) (y := qX12_pop) (o := (some (.int x30))) (as := []) (V1 := V28) hG dX12_indirect_10 l_X12_579 y0X12_pop yvX12_pop rfl (Nat.le_of_ble_eq_true rfl) lay_146 kr_12 (by decide) (Nat.le_of_ble_eq_true rfl) rfl rfl rfl (t_X12_pop hG ⟨rfl, rfl⟩ g29) ?_
    refine sx_istore_n (pc := 13) (lo' := [(2, .int x30), (0, .ref 146), (1, .int l1)]) dX12_indirect_13 (by decide) rfl ?_
    refine sx_aload_n (pc := 14) dX12_indirect_14 sx_m1 ?_
    obtain ⟨⟨x33, V31⟩, g32, h⟩ := sx_bnd h
    refine sv_cV (pc := 15) (y := qX12_pop) (o := (some (.int x33))) (as := []) (V1 := V31) hG dX12_indirect_15 l_X12_579 y0X12_pop yvX12_pop rfl (Nat.le_of_ble_eq_true rfl) lay_146 kr_12 (by decide) (Nat.le_of_ble_eq_true rfl) rfl rfl rfl (t_X12_pop hG ⟨rfl, rfl⟩ g32) ?_
    refine sx_istore_n (pc := 18) (lo' := [(3, .int x33), (2, .int x30), (0, .ref 146), (1, .int l1)]) dX12_indirect_18 (by decide) rfl ?_
    refine sx_aload_n (pc := 19) dX12_indirect_19 sx_m2 ?_
    refine sx_aload_n (pc := 20) dX12_indirect_20 sx_m2 ?_
    refine sv_getI (pc := 21) hG dX12_indirect_21 f_12_463 lay_146 rfl ?_
    refine sx_iload_n (pc := 24) dX12_indirect_24 sx_m0 ?_
    obtain ⟨⟨x36, V34⟩, g35, h⟩ := sx_bnd h
    refine sv_cV (pc := 25) (y := qX12_pointOf) (o := (some (.int x36))) (as := [.int (V31.1 146 73), .int x33]) (V1 := V34) hG dX12_indirect_25 l_X12_582 y0X12_pointOf yvX12_pointOf rfl (Nat.le_of_ble_eq_true rfl) lay_146 kr_12 (by decide) (Nat.le_of_ble_eq_true rfl) rfl rfl rfl (t_X12_pointOf hG ⟨rfl, rfl⟩ g35) ?_
    refine sx_istore (pc := 28) (lo' := [(4, .int x36), (3, .int x33), (2, .int x30), (0, .ref 146), (1, .int l1)]) dX12_indirect_28 (by decide) rfl ?_
    refine sx_aload_n (pc := 30) dX12_indirect_30 sx_m3 ?_
    refine sx_aload_n (pc := 31) dX12_indirect_31 sx_m3 ?_
    refine sv_getI (pc := 32) hG dX12_indirect_32 f_12_460 lay_146 rfl ?_
    refine sx_aload_n (pc := 35) dX12_indirect_35 sx_m3 ?_
    refine sv_getI (pc := 36) hG dX12_indirect_36 f_12_451 lay_146 rfl ?_
    obtain ⟨⟨x39, V37⟩, g38, h⟩ := sx_bnd h
    refine sv_cV (pc := 39) (y := qX12_pointOf) (o := (some (.int x39))) (as := [.int (V34.1 146 72), .int (V34.1 146 69)]) (V1 := V37) hG dX12_indirect_39 l_X12_582 y0X12_pointOf yvX12_pointOf rfl (Nat.le_of_ble_eq_true rfl) lay_146 kr_12 (by decide) (Nat.le_of_ble_eq_true rfl) rfl rfl rfl (t_X12_pointOf hG ⟨rfl, rfl⟩ g38) ?_
    refine sx_istore (pc := 42) (lo' := [(5, .int x39), (4, .int x36), (3, .int x33), (2, .int x30), (0, .ref 146), (1, .int l1)]) dX12_indirect_42 (by decide) rfl ?_
    refine sx_aload_n (pc := 44) dX12_indirect_44 sx_m4 ?_
    refine sx_iload_n (pc := 45) dX12_indirect_45 sx_m3 ?_
    obtain ⟨⟨x42, V40⟩, g41, h⟩ := sx_bnd h
    refine sv_cV (pc := 46) (y := qX12_cvtOf) (o := (some (.int x42))) (as := [.int x30]) (V1 := V40) hG dX12_indirect_46 l_X12_677 y0X12_cvtOf yvX12_cvtOf rfl (Nat.le_of_ble_eq_true rfl) lay_146 kr_12 (by decide) (Nat.le_of_ble_eq_true rfl) rfl rfl rfl (t_X12_cvtOf hG ⟨rfl, rfl⟩ g41) ?_
    refine sx_i2l (pc := 49) dX12_indirect_49 ?_
    refine sv_tJ (fun x43 hx43 => ?_)
    have h := sx_letE hx43 h
    refine sx_lstore (pc := 50) (lo' := [(6, .long x43), (5, .int x39), (4, .int x36), (3, .int x33), (2, .int x30), (0, .ref 146), (1, .int l1)]) dX12_indirect_50 (by decide) rfl ?_
    refine sx_aload_n (pc := 52) dX12_indirect_52 sx_m5 ?_
    refine sv_getI (pc := 53) hG dX12_indirect_53 f_12_409 lay_146 rfl ?_
    refine sx_if_le (pc := 56) (tgt := 60) dX12_indirect_56 (by decide) (fun c44 => ?_) (fun c44 => ?_)
    · have h := sx_pos c44 h
      refine sx_aload_n (pc := 60) dX12_indirect_60 sx_m5 ?_
      refine sx_lload (pc := 61) dX12_indirect_61 sx_m0 ?_
      obtain ⟨⟨x47, V45⟩, g46, h⟩ := sx_bnd h
      refine sv_cV (pc := 63) (y := qX12_singled) (o := (some (.long x47))) (as := [.long x43]) (V1 := V45) hG dX12_indirect_63 l_X12_720 y0X12_singled yvX12_singled rfl (Nat.le_of_ble_eq_true rfl) lay_146 kr_12 (by decide) (Nat.le_of_ble_eq_true rfl) rfl rfl rfl (t_X12_singled hG ⟨rfl, rfl⟩ g46) ?_
      refine sx_lstore (pc := 66) (lo' := [(6, .long x47), (5, .int x39), (4, .int x36), (3, .int x33), (2, .int x30), (0, .ref 146), (1, .int l1)]) dX12_indirect_66 (by decide) rfl ?_
      refine sx_aload_n (pc := 68) dX12_indirect_68 sx_m5 ?_
      refine sv_getI (pc := 69) hG dX12_indirect_69 f_12_463 lay_146 rfl ?_
      refine sx_if_ne (pc := 72) (tgt := 127) dX12_indirect_72 (by decide) (fun c48 => ?_) (fun c48 => ?_)
      · have h := sx_neg c48 h
        refine sx_wk (sx_s1 sx_m5 (sx_s1 sx_m6 (sx_s1 sx_m3 (sx_s1 sx_m2 (sx_s1 sx_m1 (sx_s1 sx_m0 sx_s0)))))) ?_
        exact tB_X12_indirect_127 hG hP  h
      · have h := sx_pos c48 h
        refine sx_aload_n (pc := 75) dX12_indirect_75 sx_m5 ?_
        refine sx_iload (pc := 76) dX12_indirect_76 sx_m2 ?_
        refine sx_aload_n (pc := 78) dX12_indirect_78 sx_m5 ?_
        refine sv_getA (pc := 79) hG dX12_indirect_79 f_12_70 lay_146 rfl cr_146_46 ?_
        refine sx_iload (pc := 82) dX12_indirect_82 sx_m1 ?_
        obtain ⟨g49, h⟩ := sx_grd h
        refine sv_iald (pc := 84) hG dX12_indirect_84 lay_166 g49 ?_
        refine sx_i2l (pc := 85) dX12_indirect_85 ?_
        refine sx_lload (pc := 86) dX12_indirect_86 sx_m0 ?_
        refine sx_aload_n (pc := 88) dX12_indirect_88 sx_m5 ?_
        refine sv_getI (pc := 89) hG dX12_indirect_89 f_12_433 lay_146 rfl ?_
        refine sx_i2l (pc := 92) dX12_indirect_92 ?_
        refine sx_lmul (pc := 93) dX12_indirect_93 ?_
        refine sx_ldc2 (pc := 94) dX12_indirect_94 k_X12_310 ?_
        obtain ⟨⟨x52, V50⟩, g51, h⟩ := sx_bnd h
        refine sv_cS (pc := 97) (y := qX12_over) (o := (some (.long x52))) (as := [.long (x47 * ((V45.1 146 63).toInt64)), .long (16384 : Int64)]) (V1 := V50) dX12_indirect_97 l_X12_517 y0X12_over ysX12_over rfl (Nat.le_of_ble_eq_true rfl) (by decide) (Nat.le_of_ble_eq_true rfl) rfl rfl rfl (t_X12_over hG ⟨rfl, rfl⟩ g51) ?_
        refine sx_ladd (pc := 100) dX12_indirect_100 ?_
        refine sx_aload_n (pc := 101) dX12_indirect_101 sx_m5 ?_
        refine sv_getA (pc := 102) hG dX12_indirect_102 f_12_73 lay_146 rfl cr_146_47 ?_
        refine sx_iload (pc := 105) dX12_indirect_105 sx_m1 ?_
        obtain ⟨g53, h⟩ := sx_grd h
        refine sv_iald (pc := 107) hG dX12_indirect_107 lay_167 g53 ?_
        refine sx_i2l (pc := 108) dX12_indirect_108 ?_
        refine sx_lload (pc := 109) dX12_indirect_109 sx_m0 ?_
        refine sx_aload_n (pc := 111) dX12_indirect_111 sx_m5 ?_
        refine sv_getI (pc := 112) hG dX12_indirect_112 f_12_436 lay_146 rfl ?_
        refine sx_i2l (pc := 115) dX12_indirect_115 ?_
        refine sx_lmul (pc := 116) dX12_indirect_116 ?_
        refine sx_ldc2 (pc := 117) dX12_indirect_117 k_X12_310 ?_
        obtain ⟨⟨x56, V54⟩, g55, h⟩ := sx_bnd h
        refine sv_cS (pc := 120) (y := qX12_over) (o := (some (.long x56))) (as := [.long (x47 * ((V50.1 146 64).toInt64)), .long (16384 : Int64)]) (V1 := V54) dX12_indirect_120 l_X12_517 y0X12_over ysX12_over rfl (Nat.le_of_ble_eq_true rfl) (by decide) (Nat.le_of_ble_eq_true rfl) rfl rfl rfl (t_X12_over hG ⟨rfl, rfl⟩ g55) ?_
        refine sx_ladd (pc := 123) dX12_indirect_123 ?_
        obtain ⟨V57, g58, h⟩ := sx_bnd h
        refine sv_cV (pc := 124) (y := qX12_put) (o := none) (as := [.int x36, .long (((V45.1 166 x39.toNatClampNeg).toInt64) + x52), .long (((V50.1 167 x39.toNatClampNeg).toInt64) + x56)]) (V1 := V57) hG dX12_indirect_124 l_X12_716 y0X12_put yvX12_put rfl (Nat.le_of_ble_eq_true rfl) lay_146 kr_12 (by decide) (Nat.le_of_ble_eq_true rfl) rfl rfl rfl (t_X12_put hG ⟨rfl, rfl⟩ g58) ?_
        refine sx_wk (sx_s1 sx_m5 (sx_s1 sx_m6 (sx_s1 sx_m3 (sx_s1 sx_m2 (sx_s1 sx_m1 (sx_s1 sx_m0 sx_s0)))))) ?_
        exact tB_X12_indirect_127 hG hP  h
    · have h := sx_neg c44 h
      exact sv_vret (pc := 59) dX12_indirect_59 rfl h hP
  · have h := sx_pos c27 h
    exact sv_vret (pc := 8) dX12_indirect_8 rfl h hP
def ncX12_deltas : Nat := 37247963023041220418802165007423909875801660513626035003418416637173027691755232165666334766558730436543256635319329669026211161731919852146351611780026693479435345983543298841840769971703549537295089918889884822929715397392623211720186672314795394294721087734719919627683722505256713057799627142796299001560306326507600906341675505125628065004706319728332040577551444526138025031463511241077889853350068335381749364833099150013728989727813213498181810180624894786657299589034455097341763281308545512244266
theorem kcX12_deltas : CK cX12_deltas ncX12_deltas 210 := ⟨by decide +kernel, by decide +kernel⟩
theorem dX12_deltas_0 : decode cX12_deltas 0 = .ok (.aload_n 0, 1) := dl_o42 kcX12_deltas (by decide +kernel)
theorem dX12_deltas_1 : decode cX12_deltas 1 = .ok (.iconst 1, 1) := dl_o4 kcX12_deltas (by decide +kernel)
theorem dX12_deltas_2 : decode cX12_deltas 2 = .ok (.invokevirtual 576, 3) := dl_o182 kcX12_deltas (by decide +kernel)
theorem dX12_deltas_5 : decode cX12_deltas 5 = .ok (.ifCond .ne 4, 3) := dl_o154 kcX12_deltas 4 (by decide +kernel) (by decide +kernel)
theorem dX12_deltas_8 : decode cX12_deltas 8 = .ok (.return_, 1) := dl_o177 kcX12_deltas (by decide +kernel)
theorem dX12_deltas_9 : decode cX12_deltas 9 = .ok (.aload_n 0, 1) := dl_o42 kcX12_deltas (by decide +kernel)
theorem dX12_deltas_10 : decode cX12_deltas 10 = .ok (.invokevirtual 579, 3) := dl_o182 kcX12_deltas (by decide +kernel)
theorem dX12_deltas_13 : decode cX12_deltas 13 = .ok (.istore_n 3, 1) := dl_o62 kcX12_deltas (by decide +kernel)
theorem dX12_deltas_14 : decode cX12_deltas 14 = .ok (.iload_n 3, 1) := dl_o29 kcX12_deltas (by decide +kernel)
theorem dX12_deltas_15 : decode cX12_deltas 15 = .ok (.ifCond .ge 10, 3) := dl_o156 kcX12_deltas 10 (by decide +kernel) (by decide +kernel)
theorem dX12_deltas_18 : decode cX12_deltas 18 = .ok (.aload_n 0, 1) := dl_o42 kcX12_deltas (by decide +kernel)
theorem dX12_deltas_19 : decode cX12_deltas 19 = .ok (.bipush 11, 2) := dl_o16 kcX12_deltas 11 (by decide +kernel) (by decide +kernel)
theorem dX12_deltas_21 : decode cX12_deltas 21 = .ok (.invokevirtual 421, 3) := dl_o182 kcX12_deltas (by decide +kernel)
theorem dX12_deltas_24 : decode cX12_deltas 24 = .ok (.return_, 1) := dl_o177 kcX12_deltas (by decide +kernel)
theorem dX12_deltas_25 : decode cX12_deltas 25 = .ok (.iload_n 3, 1) := dl_o29 kcX12_deltas (by decide +kernel)
theorem dX12_deltas_26 : decode cX12_deltas 26 = .ok (.sipush 128, 3) := dl_o17 kcX12_deltas 128 (by decide +kernel) (by decide +kernel)
theorem dX12_deltas_29 : decode cX12_deltas 29 = .ok (.if_icmp .gt 13, 3) := dl_o163 kcX12_deltas 13 (by decide +kernel) (by decide +kernel)
theorem dX12_deltas_32 : decode cX12_deltas 32 = .ok (.aload_n 0, 1) := dl_o42 kcX12_deltas (by decide +kernel)
theorem dX12_deltas_33 : decode cX12_deltas 33 = .ok (.getfield 418, 3) := dl_o180 kcX12_deltas (by decide +kernel)
theorem dX12_deltas_36 : decode cX12_deltas 36 = .ok (.iconst 2, 1) := dl_o5 kcX12_deltas (by decide +kernel)
theorem dX12_deltas_37 : decode cX12_deltas 37 = .ok (.iload_n 3, 1) := dl_o29 kcX12_deltas (by decide +kernel)
theorem dX12_deltas_38 : decode cX12_deltas 38 = .ok (.imul, 1) := dl_o104 kcX12_deltas (by decide +kernel)
theorem dX12_deltas_39 : decode cX12_deltas 39 = .ok (.if_icmp .ge 9, 3) := dl_o162 kcX12_deltas 9 (by decide +kernel) (by decide +kernel)
theorem dX12_deltas_42 : decode cX12_deltas 42 = .ok (.aload_n 0, 1) := dl_o42 kcX12_deltas (by decide +kernel)
theorem dX12_deltas_43 : decode cX12_deltas 43 = .ok (.iconst 1, 1) := dl_o4 kcX12_deltas (by decide +kernel)
theorem dX12_deltas_44 : decode cX12_deltas 44 = .ok (.invokevirtual 421, 3) := dl_o182 kcX12_deltas (by decide +kernel)
theorem dX12_deltas_47 : decode cX12_deltas 47 = .ok (.return_, 1) := dl_o177 kcX12_deltas (by decide +kernel)
theorem dX12_deltas_48 : decode cX12_deltas 48 = .ok (.iconst 0, 1) := dl_o3 kcX12_deltas (by decide +kernel)
theorem dX12_deltas_49 : decode cX12_deltas 49 = .ok (.istore 4, 2) := dl_o54 kcX12_deltas (by decide +kernel)
theorem dX12_deltas_51 : decode cX12_deltas 51 = .ok (.iload 4, 2) := dl_o21 kcX12_deltas (by decide +kernel)
theorem dX12_deltas_53 : decode cX12_deltas 53 = .ok (.iload_n 3, 1) := dl_o29 kcX12_deltas (by decide +kernel)
theorem dX12_deltas_54 : decode cX12_deltas 54 = .ok (.if_icmp .ge 155, 3) := dl_o162 kcX12_deltas 155 (by decide +kernel) (by decide +kernel)
theorem dX12_deltas_57 : decode cX12_deltas 57 = .ok (.aload_n 0, 1) := dl_o42 kcX12_deltas (by decide +kernel)
theorem dX12_deltas_58 : decode cX12_deltas 58 = .ok (.getfield 409, 3) := dl_o180 kcX12_deltas (by decide +kernel)
theorem dX12_deltas_61 : decode cX12_deltas 61 = .ok (.ifCond .ne 148, 3) := dl_o154 kcX12_deltas 148 (by decide +kernel) (by decide +kernel)
theorem dX12_deltas_64 : decode cX12_deltas 64 = .ok (.aload_n 0, 1) := dl_o42 kcX12_deltas (by decide +kernel)
theorem dX12_deltas_65 : decode cX12_deltas 65 = .ok (.invokevirtual 579, 3) := dl_o182 kcX12_deltas (by decide +kernel)
theorem dX12_deltas_68 : decode cX12_deltas 68 = .ok (.istore 5, 2) := dl_o54 kcX12_deltas (by decide +kernel)
theorem dX12_deltas_70 : decode cX12_deltas 70 = .ok (.aload_n 0, 1) := dl_o42 kcX12_deltas (by decide +kernel)
theorem dX12_deltas_71 : decode cX12_deltas 71 = .ok (.invokevirtual 579, 3) := dl_o182 kcX12_deltas (by decide +kernel)
theorem dX12_deltas_74 : decode cX12_deltas 74 = .ok (.istore 6, 2) := dl_o54 kcX12_deltas (by decide +kernel)
theorem dX12_deltas_76 : decode cX12_deltas 76 = .ok (.aload_n 0, 1) := dl_o42 kcX12_deltas (by decide +kernel)
theorem dX12_deltas_77 : decode cX12_deltas 77 = .ok (.getfield 621, 3) := dl_o180 kcX12_deltas (by decide +kernel)
theorem dX12_deltas_80 : decode cX12_deltas 80 = .ok (.aload_n 0, 1) := dl_o42 kcX12_deltas (by decide +kernel)
theorem dX12_deltas_81 : decode cX12_deltas 81 = .ok (.getfield 700, 3) := dl_o180 kcX12_deltas (by decide +kernel)
theorem dX12_deltas_84 : decode cX12_deltas 84 = .ok (.iload 6, 2) := dl_o21 kcX12_deltas (by decide +kernel)
theorem dX12_deltas_86 : decode cX12_deltas 86 = .ok (.iconst 4, 1) := dl_o7 kcX12_deltas (by decide +kernel)
theorem dX12_deltas_87 : decode cX12_deltas 87 = .ok (.ishr, 1) := dl_o122 kcX12_deltas (by decide +kernel)
theorem dX12_deltas_88 : decode cX12_deltas 88 = .ok (.bipush 15, 2) := dl_o16 kcX12_deltas 15 (by decide +kernel) (by decide +kernel)
theorem dX12_deltas_90 : decode cX12_deltas 90 = .ok (.iand, 1) := dl_o126 kcX12_deltas (by decide +kernel)
theorem dX12_deltas_91 : decode cX12_deltas 91 = .ok (.iadd, 1) := dl_o96 kcX12_deltas (by decide +kernel)
theorem dX12_deltas_92 : decode cX12_deltas 92 = .ok (.iload_n 1, 1) := dl_o27 kcX12_deltas (by decide +kernel)
theorem dX12_deltas_93 : decode cX12_deltas 93 = .ok (.iadd, 1) := dl_o96 kcX12_deltas (by decide +kernel)
theorem dX12_deltas_94 : decode cX12_deltas 94 = .ok (.if_icmp .eq 6, 3) := dl_o159 kcX12_deltas 6 (by decide +kernel) (by decide +kernel)
theorem dX12_deltas_97 : decode cX12_deltas 97 = .ok (.goto 106, 3) := dl_o167 kcX12_deltas 106 (by decide +kernel) (by decide +kernel)
theorem dX12_deltas_100 : decode cX12_deltas 100 = .ok (.iload 6, 2) := dl_o21 kcX12_deltas (by decide +kernel)
theorem dX12_deltas_102 : decode cX12_deltas 102 = .ok (.bipush 15, 2) := dl_o16 kcX12_deltas 15 (by decide +kernel) (by decide +kernel)
theorem dX12_deltas_104 : decode cX12_deltas 104 = .ok (.iand, 1) := dl_o126 kcX12_deltas (by decide +kernel)
theorem dX12_deltas_105 : decode cX12_deltas 105 = .ok (.iload 6, 2) := dl_o21 kcX12_deltas (by decide +kernel)
theorem dX12_deltas_107 : decode cX12_deltas 107 = .ok (.bipush 15, 2) := dl_o16 kcX12_deltas 15 (by decide +kernel) (by decide +kernel)
theorem dX12_deltas_109 : decode cX12_deltas 109 = .ok (.iand, 1) := dl_o126 kcX12_deltas (by decide +kernel)
theorem dX12_deltas_110 : decode cX12_deltas 110 = .ok (.bipush 8, 2) := dl_o16 kcX12_deltas 8 (by decide +kernel) (by decide +kernel)
theorem dX12_deltas_112 : decode cX12_deltas 112 = .ok (.if_icmp .lt 8, 3) := dl_o161 kcX12_deltas 8 (by decide +kernel) (by decide +kernel)
theorem dX12_deltas_115 : decode cX12_deltas 115 = .ok (.bipush 7, 2) := dl_o16 kcX12_deltas 7 (by decide +kernel) (by decide +kernel)
theorem dX12_deltas_117 : decode cX12_deltas 117 = .ok (.goto 5, 3) := dl_o167 kcX12_deltas 5 (by decide +kernel) (by decide +kernel)
theorem dX12_deltas_120 : decode cX12_deltas 120 = .ok (.bipush 8, 2) := dl_o16 kcX12_deltas 8 (by decide +kernel) (by decide +kernel)
theorem dX12_deltas_122 : decode cX12_deltas 122 = .ok (.isub, 1) := dl_o100 kcX12_deltas (by decide +kernel)
theorem dX12_deltas_123 : decode cX12_deltas 123 = .ok (.i2l, 1) := dl_o133 kcX12_deltas (by decide +kernel)
theorem dX12_deltas_124 : decode cX12_deltas 124 = .ok (.lstore 7, 2) := dl_o55 kcX12_deltas (by decide +kernel)
theorem dX12_deltas_126 : decode cX12_deltas 126 = .ok (.lload 7, 2) := dl_o22 kcX12_deltas (by decide +kernel)
theorem dX12_deltas_128 : decode cX12_deltas 128 = .ok (.lconst 1, 1) := dl_o10 kcX12_deltas (by decide +kernel)
theorem dX12_deltas_129 : decode cX12_deltas 129 = .ok (.bipush 6, 2) := dl_o16 kcX12_deltas 6 (by decide +kernel) (by decide +kernel)
theorem dX12_deltas_131 : decode cX12_deltas 131 = .ok (.aload_n 0, 1) := dl_o42 kcX12_deltas (by decide +kernel)
theorem dX12_deltas_132 : decode cX12_deltas 132 = .ok (.getfield 703, 3) := dl_o180 kcX12_deltas (by decide +kernel)
theorem dX12_deltas_135 : decode cX12_deltas 135 = .ok (.isub, 1) := dl_o100 kcX12_deltas (by decide +kernel)
theorem dX12_deltas_136 : decode cX12_deltas 136 = .ok (.lshl, 1) := dl_o121 kcX12_deltas (by decide +kernel)
theorem dX12_deltas_137 : decode cX12_deltas 137 = .ok (.lmul, 1) := dl_o105 kcX12_deltas (by decide +kernel)
theorem dX12_deltas_138 : decode cX12_deltas 138 = .ok (.lstore 7, 2) := dl_o55 kcX12_deltas (by decide +kernel)
theorem dX12_deltas_140 : decode cX12_deltas 140 = .ok (.iload_n 2, 1) := dl_o28 kcX12_deltas (by decide +kernel)
theorem dX12_deltas_141 : decode cX12_deltas 141 = .ok (.ifCond .eq 33, 3) := dl_o153 kcX12_deltas 33 (by decide +kernel) (by decide +kernel)
theorem dX12_deltas_144 : decode cX12_deltas 144 = .ok (.aload_n 0, 1) := dl_o42 kcX12_deltas (by decide +kernel)
theorem dX12_deltas_145 : decode cX12_deltas 145 = .ok (.aload_n 0, 1) := dl_o42 kcX12_deltas (by decide +kernel)
theorem dX12_deltas_146 : decode cX12_deltas 146 = .ok (.getfield 460, 3) := dl_o180 kcX12_deltas (by decide +kernel)
theorem dX12_deltas_149 : decode cX12_deltas 149 = .ok (.iload 5, 2) := dl_o21 kcX12_deltas (by decide +kernel)
theorem dX12_deltas_151 : decode cX12_deltas 151 = .ok (.invokevirtual 582, 3) := dl_o182 kcX12_deltas (by decide +kernel)
theorem dX12_deltas_154 : decode cX12_deltas 154 = .ok (.istore 9, 2) := dl_o54 kcX12_deltas (by decide +kernel)
theorem dX12_deltas_156 : decode cX12_deltas 156 = .ok (.aload_n 0, 1) := dl_o42 kcX12_deltas (by decide +kernel)
theorem dX12_deltas_157 : decode cX12_deltas 157 = .ok (.getfield 409, 3) := dl_o180 kcX12_deltas (by decide +kernel)
theorem dX12_deltas_160 : decode cX12_deltas 160 = .ok (.ifCond .ne 11, 3) := dl_o154 kcX12_deltas 11 (by decide +kernel) (by decide +kernel)
theorem dX12_deltas_163 : decode cX12_deltas 163 = .ok (.aload_n 0, 1) := dl_o42 kcX12_deltas (by decide +kernel)
theorem dX12_deltas_164 : decode cX12_deltas 164 = .ok (.iload 9, 2) := dl_o21 kcX12_deltas (by decide +kernel)
theorem dX12_deltas_166 : decode cX12_deltas 166 = .ok (.lload 7, 2) := dl_o22 kcX12_deltas (by decide +kernel)
theorem dX12_deltas_168 : decode cX12_deltas 168 = .ok (.invokevirtual 630, 3) := dl_o182 kcX12_deltas (by decide +kernel)
theorem dX12_deltas_171 : decode cX12_deltas 171 = .ok (.goto 32, 3) := dl_o167 kcX12_deltas 32 (by decide +kernel) (by decide +kernel)
theorem dX12_deltas_174 : decode cX12_deltas 174 = .ok (.aload_n 0, 1) := dl_o42 kcX12_deltas (by decide +kernel)
theorem dX12_deltas_175 : decode cX12_deltas 175 = .ok (.iload 5, 2) := dl_o21 kcX12_deltas (by decide +kernel)
theorem dX12_deltas_177 : decode cX12_deltas 177 = .ok (.invokevirtual 677, 3) := dl_o182 kcX12_deltas (by decide +kernel)
theorem dX12_deltas_180 : decode cX12_deltas 180 = .ok (.istore 9, 2) := dl_o54 kcX12_deltas (by decide +kernel)
theorem dX12_deltas_182 : decode cX12_deltas 182 = .ok (.aload_n 0, 1) := dl_o42 kcX12_deltas (by decide +kernel)
theorem dX12_deltas_183 : decode cX12_deltas 183 = .ok (.getfield 409, 3) := dl_o180 kcX12_deltas (by decide +kernel)
theorem dX12_deltas_186 : decode cX12_deltas 186 = .ok (.ifCond .ne 17, 3) := dl_o154 kcX12_deltas 17 (by decide +kernel) (by decide +kernel)
theorem dX12_deltas_189 : decode cX12_deltas 189 = .ok (.aload_n 0, 1) := dl_o42 kcX12_deltas (by decide +kernel)
theorem dX12_deltas_190 : decode cX12_deltas 190 = .ok (.getfield 64, 3) := dl_o180 kcX12_deltas (by decide +kernel)
theorem dX12_deltas_193 : decode cX12_deltas 193 = .ok (.iload 5, 2) := dl_o21 kcX12_deltas (by decide +kernel)
theorem dX12_deltas_195 : decode cX12_deltas 195 = .ok (.iload 9, 2) := dl_o21 kcX12_deltas (by decide +kernel)
theorem dX12_deltas_197 : decode cX12_deltas 197 = .ok (.i2l, 1) := dl_o133 kcX12_deltas (by decide +kernel)
theorem dX12_deltas_198 : decode cX12_deltas 198 = .ok (.lload 7, 2) := dl_o22 kcX12_deltas (by decide +kernel)
theorem dX12_deltas_200 : decode cX12_deltas 200 = .ok (.ladd, 1) := dl_o97 kcX12_deltas (by decide +kernel)
theorem dX12_deltas_201 : decode cX12_deltas 201 = .ok (.l2i, 1) := dl_o136 kcX12_deltas (by decide +kernel)
theorem dX12_deltas_202 : decode cX12_deltas 202 = .ok (.iastore, 1) := dl_o79 kcX12_deltas (by decide +kernel)
theorem dX12_deltas_203 : decode cX12_deltas 203 = .ok (.iinc 4 1, 3) := by decide +kernel
theorem dX12_deltas_206 : decode cX12_deltas 206 = .ok (.goto (-155), 3) := dl_o167 kcX12_deltas 65381 (by decide +kernel) (by decide +kernel)
theorem dX12_deltas_209 : decode cX12_deltas 209 = .ok (.return_, 1) := dl_o177 kcX12_deltas (by decide +kernel)
def B_X12_deltas_42 (N : Nat)   (V : sv_V) : Option sv_V := (F_X12_fail (1 : Int32) V).bind (fun V1 => some V1)
set_option maxRecDepth 20000 in
theorem tB_X12_deltas_42 {g : sx_G} (hG : sx_Go g) {P : Option Value → sv_V → Prop} {Vr : sv_V} (hP : P none Vr) {N : Nat}    {V : sv_V} (h : B_X12_deltas_42 N   V = some Vr) : sv_N g qX12_deltas 5 42 [(0, .ref 146)] [] V P := by
  unfold B_X12_deltas_42 at h
  refine sx_aload_n (pc := 42) dX12_deltas_42 sx_m0 ?_
  refine sx_iconst (pc := 43) (v := 1) dX12_deltas_43 (by decide) ?_
  obtain ⟨V1, g2, h⟩ := sx_bnd h
  refine sv_cV (pc := 44) (y := qX12_fail) (o := none) (as := [.int (1 : Int32)]) (V1 := V1) hG dX12_deltas_44 l_X12_421 y0X12_fail yvX12_fail rfl (Nat.le_of_ble_eq_true rfl) lay_146 kr_12 (by decide) (Nat.le_of_ble_eq_true rfl) rfl rfl rfl (t_X12_fail hG ⟨rfl, rfl⟩ g2) ?_
  exact sv_vret (pc := 47) dX12_deltas_47 rfl h hP
def B_X12_deltas_203 (N : Nat) (k51 : Int32 → Int32 → Int32 → Int32 → sv_V → Option sv_V) (l1 : Int32) (l2 : Int32) (l3 : Int32) (l4 : Int32) (V : sv_V) : Option sv_V := sx_let (l4 + 1) (fun x3 => k51 l1 l2 l3 x3 V)
set_option maxRecDepth 20000 in
theorem tB_X12_deltas_203 {g : sx_G} (hG : sx_Go g) {P : Option Value → sv_V → Prop} {Vr : sv_V} (hP : P none Vr) {N : Nat} {k51 : Int32 → Int32 → Int32 → Int32 → sv_V → Option sv_V} (hk51 : ∀ (l1 : Int32) (l2 : Int32) (l3 : Int32) (l4 : Int32) (V : sv_V), k51 l1 l2 l3 l4 V = some Vr → sv_N g qX12_deltas 5 51 [(0, .ref 146), (1, .int l1), (2, .int l2), (3, .int l3), (4, .int l4)] [] V P) {l1 : Int32} {l2 : Int32} {l3 : Int32} {l4 : Int32} {V : sv_V} (h : B_X12_deltas_203 N k51 l1 l2 l3 l4 V = some Vr) : sv_N g qX12_deltas 5 203 [(0, .ref 146), (1, .int l1), (2, .int l2), (3, .int l3), (4, .int l4)] [] V P := by
  unfold B_X12_deltas_203 at h
  obtain ⟨x3, hx3⟩ : ∃ z : Int32, z = l4 + 1 := ⟨_, rfl⟩
  have h := sx_letE hx3 h
  refine sx_iinc (pc := 203) (v := x3) (lo' := [(4, .int x3), (0, .ref 146), (1, .int l1), (2, .int l2), (3, .int l3)]) dX12_deltas_203 sx_m4 (by rw [hx3]; rfl) (by decide) rfl ?_
  refine sx_goto (pc := 206) (tgt := 51) dX12_deltas_206 (by decide) ?_
  refine sx_wk (sx_s1 sx_m1 (sx_s1 sx_m2 (sx_s1 sx_m3 (sx_s1 sx_m4 (sx_s1 sx_m0 sx_s0))))) ?_
  exact hk51 _ _ _ _ _ h
def B_X12_deltas_171 (N : Nat) (k51 : Int32 → Int32 → Int32 → Int32 → sv_V → Option sv_V) (l1 : Int32) (l2 : Int32) (l3 : Int32) (l4 : Int32) (V : sv_V) : Option sv_V := B_X12_deltas_203 N k51 l1 l2 l3 l4 V
set_option maxRecDepth 20000 in
theorem tB_X12_deltas_171 {g : sx_G} (hG : sx_Go g) {P : Option Value → sv_V → Prop} {Vr : sv_V} (hP : P none Vr) {N : Nat} {k51 : Int32 → Int32 → Int32 → Int32 → sv_V → Option sv_V} (hk51 : ∀ (l1 : Int32) (l2 : Int32) (l3 : Int32) (l4 : Int32) (V : sv_V), k51 l1 l2 l3 l4 V = some Vr → sv_N g qX12_deltas 5 51 [(0, .ref 146), (1, .int l1), (2, .int l2), (3, .int l3), (4, .int l4)] [] V P) {l1 : Int32} {l2 : Int32} {l3 : Int32} {l4 : Int32} {V : sv_V} (h : B_X12_deltas_171 N k51 l1 l2 l3 l4 V = some Vr) : sv_N g qX12_deltas 5 171 [(0, .ref 146), (1, .int l1), (2, .int l2), (3, .int l3), (4, .int l4)] [] V P := by
  unfold B_X12_deltas_171 at h
  refine sx_goto (pc := 171) (tgt := 203) dX12_deltas_171 (by decide) ?_
  refine sx_wk (sx_s1 sx_m0 (sx_s1 sx_m1 (sx_s1 sx_m2 (sx_s1 sx_m3 (sx_s1 sx_m4 sx_s0))))) ?_
  exact tB_X12_deltas_203 hG hP hk51 h
def B_X12_deltas_122 (N : Nat) (k51 : Int32 → Int32 → Int32 → Int32 → sv_V → Option sv_V) (l1 : Int32) (l2 : Int32) (l3 : Int32) (l4 : Int32) (l5 : Int32) (s0 : Int32) (s1 : Int32) (V : sv_V) : Option sv_V := sx_let ((s0 - s1).toInt64) (fun x4 => sx_let (x4 * ((1 : Int64) <<< (((6 : Int32) - (V.1 146 86)).toInt64 &&& 63))) (fun x5 => if l2 = 0 then ((F_X12_cvtOf l5 V).bind (fun (x9, V7) => if (V7.1 146 59) = 0 then (if sx_in l5 256 = true then sx_let (sv_I V7 164 l5.toNatClampNeg ((x9.toInt64 + x5).toInt32)) (fun V12 => B_X12_deltas_203 N k51 l1 l2 l3 l4 V12) else none) else (B_X12_deltas_203 N k51 l1 l2 l3 l4 V7))) else ((F_X12_pointOf (V.1 146 72) l5 V).bind (fun (x15, V13) => if (V13.1 146 59) = 0 then ((F_X12_move x15 x5 V13).bind (fun V17 => B_X12_deltas_171 N k51 l1 l2 l3 l4 V17)) else (B_X12_deltas_171 N k51 l1 l2 l3 l4 V13)))))
set_option maxRecDepth 20000 in
theorem tB_X12_deltas_122 {g : sx_G} (hG : sx_Go g) {P : Option Value → sv_V → Prop} {Vr : sv_V} (hP : P none Vr) {N : Nat} {k51 : Int32 → Int32 → Int32 → Int32 → sv_V → Option sv_V} (hk51 : ∀ (l1 : Int32) (l2 : Int32) (l3 : Int32) (l4 : Int32) (V : sv_V), k51 l1 l2 l3 l4 V = some Vr → sv_N g qX12_deltas 5 51 [(0, .ref 146), (1, .int l1), (2, .int l2), (3, .int l3), (4, .int l4)] [] V P) {l1 : Int32} {l2 : Int32} {l3 : Int32} {l4 : Int32} {l5 : Int32} {s0 : Int32} {s1 : Int32} {V : sv_V} (h : B_X12_deltas_122 N k51 l1 l2 l3 l4 l5 s0 s1 V = some Vr) : sv_N g qX12_deltas 5 122 [(0, .ref 146), (1, .int l1), (2, .int l2), (3, .int l3), (4, .int l4), (5, .int l5)] [.int s1, .int s0] V P := by
  unfold B_X12_deltas_122 at h
  refine sx_isub (pc := 122) dX12_deltas_122 ?_
  refine sx_i2l (pc := 123) dX12_deltas_123 ?_
  refine sv_tJ (fun x4 hx4 => ?_)
  have h := sx_letE hx4 h
  refine sx_lstore (pc := 124) (lo' := [(7, .long x4), (0, .ref 146), (1, .int l1), (2, .int l2), (3, .int l3), (4, .int l4), (5, .int l5)]) dX12_deltas_124 (by decide) rfl ?_
  refine sx_lload (pc := 126) dX12_deltas_126 sx_m0 ?_
  refine sx_lconst (pc := 128) (v := 1) dX12_deltas_128 rfl ?_
  refine sx_bipush (pc := 129) (v := 6) dX12_deltas_129 (by decide) ?_
  refine sx_aload_n (pc := 131) dX12_deltas_131 sx_m1 ?_
  refine sv_getI (pc := 132) hG dX12_deltas_132 f_12_703 lay_146 rfl ?_
  refine sx_isub (pc := 135) dX12_deltas_135 ?_
  refine sx_lshl (pc := 136) dX12_deltas_136 ?_
  refine sx_lmul (pc := 137) dX12_deltas_137 ?_
  refine sv_tJ (fun x5 hx5 => ?_)
  have h := sx_letE hx5 h
  refine sx_lstore (pc := 138) (lo' := [(7, .long x5), (0, .ref 146), (1, .int l1), (2, .int l2), (3, .int l3), (4, .int l4), (5, .int l5)]) dX12_deltas_138 (by decide) rfl ?_
  refine sx_iload_n (pc := 140) dX12_deltas_140 sx_m3 ?_
  refine sx_if_eq (pc := 141) (tgt := 174) dX12_deltas_141 (by decide) (fun c6 => ?_) (fun c6 => ?_)
  · have h := sx_pos c6 h
    refine sx_aload_n (pc := 174) dX12_deltas_174 sx_m1 ?_
    refine sx_iload (pc := 175) dX12_deltas_175 sx_m6 ?_
    obtain ⟨⟨x9, V7⟩, g8, h⟩ := sx_bnd h
    refine sv_cV (pc := 177) (y := qX12_cvtOf) (o := (some (.int x9))) (as := [.int l5]) (V1 := V7) hG dX12_deltas_177 l_X12_677 y0X12_cvtOf yvX12_cvtOf rfl (Nat.le_of_ble_eq_true rfl) lay_146 kr_12 (by decide) (Nat.le_of_ble_eq_true rfl) rfl rfl rfl (t_X12_cvtOf hG ⟨rfl, rfl⟩ g8) ?_
    refine sx_istore (pc := 180) (lo' := [(9, .int x9), (7, .long x5), (0, .ref 146), (1, .int l1), (2, .int l2), (3, .int l3), (4, .int l4), (5, .int l5)]) dX12_deltas_180 (by decide) rfl ?_
    refine sx_aload_n (pc := 182) dX12_deltas_182 sx_m2 ?_
    refine sv_getI (pc := 183) hG dX12_deltas_183 f_12_409 lay_146 rfl ?_
    refine sx_if_ne (pc := 186) (tgt := 203) dX12_deltas_186 (by decide) (fun c10 => ?_) (fun c10 => ?_)
    · have h := sx_neg c10 h
      refine sx_wk (sx_s1 sx_m2 (sx_s1 sx_m3 (sx_s1 sx_m4 (sx_s1 sx_m5 (sx_s1 sx_m6 sx_s0))))) ?_
      exact tB_X12_deltas_203 hG hP hk51 h
    · have h := sx_pos c10 h
      refine sx_aload_n (pc := 189) dX12_deltas_189 sx_m2 ?_
      refine sv_getA (pc := 190) hG dX12_deltas_190 f_12_64 lay_146 rfl cr_146_44 ?_
      refine sx_iload (pc := 193) dX12_deltas_193 sx_m7 ?_
      refine sx_iload (pc := 195) dX12_deltas_195 sx_m0 ?_
      refine sx_i2l (pc := 197) dX12_deltas_197 ?_
      refine sx_lload (pc := 198) dX12_deltas_198 sx_m1 ?_
      refine sx_ladd (pc := 200) dX12_deltas_200 ?_
      refine sx_l2i (pc := 201) dX12_deltas_201 ?_
      obtain ⟨g11, h⟩ := sx_grd h
      obtain ⟨V12, hV12⟩ : ∃ z : sv_V, z = sv_I V7 164 l5.toNatClampNeg ((x9.toInt64 + x5).toInt32) := ⟨_, rfl⟩
      have h := sx_letE hV12 h
      refine sv_iast (pc := 202) hG dX12_deltas_202 lay_164 g11 hV12 ?_
      refine sx_wk (sx_s1 sx_m2 (sx_s1 sx_m3 (sx_s1 sx_m4 (sx_s1 sx_m5 (sx_s1 sx_m6 sx_s0))))) ?_
      exact tB_X12_deltas_203 hG hP hk51 h
  · have h := sx_neg c6 h
    refine sx_aload_n (pc := 144) dX12_deltas_144 sx_m1 ?_
    refine sx_aload_n (pc := 145) dX12_deltas_145 sx_m1 ?_
    refine sv_getI (pc := 146) hG dX12_deltas_146 f_12_460 lay_146 rfl ?_
    refine sx_iload (pc := 149) dX12_deltas_149 sx_m6 ?_
    obtain ⟨⟨x15, V13⟩, g14, h⟩ := sx_bnd h
    refine sv_cV (pc := 151) (y := qX12_pointOf) (o := (some (.int x15))) (as := [.int (V.1 146 72), .int l5]) (V1 := V13) hG dX12_deltas_151 l_X12_582 y0X12_pointOf yvX12_pointOf rfl (Nat.le_of_ble_eq_true rfl) lay_146 kr_12 (by decide) (Nat.le_of_ble_eq_true rfl) rfl rfl rfl (t_X12_pointOf hG ⟨rfl, rfl⟩ g14) ?_
    refine sx_istore (pc := 154) (lo' := [(9, .int x15), (7, .long x5), (0, .ref 146), (1, .int l1), (2, .int l2), (3, .int l3), (4, .int l4), (5, .int l5)]) dX12_deltas_154 (by decide) rfl ?_
    refine sx_aload_n (pc := 156) dX12_deltas_156 sx_m2 ?_
    refine sv_getI (pc := 157) hG dX12_deltas_157 f_12_409 lay_146 rfl ?_
    refine sx_if_ne (pc := 160) (tgt := 171) dX12_deltas_160 (by decide) (fun c16 => ?_) (fun c16 => ?_)
    · have h := sx_neg c16 h
      refine sx_wk (sx_s1 sx_m2 (sx_s1 sx_m3 (sx_s1 sx_m4 (sx_s1 sx_m5 (sx_s1 sx_m6 sx_s0))))) ?_
      exact tB_X12_deltas_171 hG hP hk51 h
    · have h := sx_pos c16 h
      refine sx_aload_n (pc := 163) dX12_deltas_163 sx_m2 ?_
      refine sx_iload (pc := 164) dX12_deltas_164 sx_m0 ?_
      refine sx_lload (pc := 166) dX12_deltas_166 sx_m1 ?_
      obtain ⟨V17, g18, h⟩ := sx_bnd h
      refine sv_cV (pc := 168) (y := qX12_move) (o := none) (as := [.int x15, .long x5]) (V1 := V17) hG dX12_deltas_168 l_X12_630 y0X12_move yvX12_move rfl (Nat.le_of_ble_eq_true rfl) lay_146 kr_12 (by decide) (Nat.le_of_ble_eq_true rfl) rfl rfl rfl (t_X12_move hG ⟨rfl, rfl⟩ g18) ?_
      refine sx_wk (sx_s1 sx_m2 (sx_s1 sx_m3 (sx_s1 sx_m4 (sx_s1 sx_m5 (sx_s1 sx_m6 sx_s0))))) ?_
      exact tB_X12_deltas_171 hG hP hk51 h
def B_X12_deltas_51 (N : Nat) (k51 : Int32 → Int32 → Int32 → Int32 → sv_V → Option sv_V) (l1 : Int32) (l2 : Int32) (l3 : Int32) (l4 : Int32) (V : sv_V) : Option sv_V := if l3 ≤ l4 then (some V) else (if (V.1 146 59) = 0 then ((F_X12_pop  V).bind (fun (x23, V21) => (F_X12_pop  V21).bind (fun (x26, V24) => if (V24.1 146 62) = (((V24.1 146 85) + ((x26 >>> ((4 : Int32) &&& 31)) &&& (15 : Int32))) + l1) then (if (x26 &&& (15 : Int32)) < (8 : Int32) then (B_X12_deltas_122 N k51 l1 l2 l3 l4 x23 (x26 &&& (15 : Int32)) (8 : Int32) V24) else (B_X12_deltas_122 N k51 l1 l2 l3 l4 x23 (x26 &&& (15 : Int32)) (7 : Int32) V24)) else (B_X12_deltas_203 N k51 l1 l2 l3 l4 V24)))) else (some V))
set_option maxRecDepth 20000 in
theorem tB_X12_deltas_51 {g : sx_G} (hG : sx_Go g) {P : Option Value → sv_V → Prop} {Vr : sv_V} (hP : P none Vr) {N : Nat} {k51 : Int32 → Int32 → Int32 → Int32 → sv_V → Option sv_V} (hk51 : ∀ (l1 : Int32) (l2 : Int32) (l3 : Int32) (l4 : Int32) (V : sv_V), k51 l1 l2 l3 l4 V = some Vr → sv_N g qX12_deltas 5 51 [(0, .ref 146), (1, .int l1), (2, .int l2), (3, .int l3), (4, .int l4)] [] V P) {l1 : Int32} {l2 : Int32} {l3 : Int32} {l4 : Int32} {V : sv_V} (h : B_X12_deltas_51 N k51 l1 l2 l3 l4 V = some Vr) : sv_N g qX12_deltas 5 51 [(0, .ref 146), (1, .int l1), (2, .int l2), (3, .int l3), (4, .int l4)] [] V P := by
  unfold B_X12_deltas_51 at h
  refine sx_iload (pc := 51) dX12_deltas_51 sx_m4 ?_
  refine sx_iload_n (pc := 53) dX12_deltas_53 sx_m3 ?_
  refine sx_icmp_ge (pc := 54) (tgt := 209) dX12_deltas_54 (by decide) (fun c19 => ?_) (fun c19 => ?_)
  · have h := sx_pos c19 h
    exact sv_vret (pc := 209) dX12_deltas_209 rfl h hP
  · have h := sx_neg c19 h
    refine sx_aload_n (pc := 57) dX12_deltas_57 sx_m0 ?_
    refine sv_getI (pc := 58) hG dX12_deltas_58 f_12_409 lay_146 rfl ?_
    refine sx_if_ne (pc := 61) (tgt := 209) dX12_deltas_61 (by decide) (fun c20 => ?_) (fun c20 => ?_)
    · have h := sx_neg c20 h
      exact sv_vret (pc := 209) dX12_deltas_209 rfl h hP
    · have h := sx_pos c20 h
      refine sx_aload_n (pc := 64) dX12_deltas_64 sx_m0 ?_
      obtain ⟨⟨x23, V21⟩, g22, h⟩ := sx_bnd h
      refine sv_cV (pc := 65) (y := qX12_pop) (o := (some (.int x23))) (as := []) (V1 := V21) hG dX12_deltas_65 l_X12_579 y0X12_pop yvX12_pop rfl (Nat.le_of_ble_eq_true rfl) lay_146 kr_12 (by decide) (Nat.le_of_ble_eq_true rfl) rfl rfl rfl (t_X12_pop hG ⟨rfl, rfl⟩ g22) ?_
      refine sx_istore (pc := 68) (lo' := [(5, .int x23), (0, .ref 146), (1, .int l1), (2, .int l2), (3, .int l3), (4, .int l4)]) dX12_deltas_68 (by decide) rfl ?_
      refine sx_aload_n (pc := 70) dX12_deltas_70 sx_m1 ?_
      obtain ⟨⟨x26, V24⟩, g25, h⟩ := sx_bnd h
      refine sv_cV (pc := 71) (y := qX12_pop) (o := (some (.int x26))) (as := []) (V1 := V24) hG dX12_deltas_71 l_X12_579 y0X12_pop yvX12_pop rfl (Nat.le_of_ble_eq_true rfl) lay_146 kr_12 (by decide) (Nat.le_of_ble_eq_true rfl) rfl rfl rfl (t_X12_pop hG ⟨rfl, rfl⟩ g25) ?_
      refine sx_istore (pc := 74) (lo' := [(6, .int x26), (5, .int x23), (0, .ref 146), (1, .int l1), (2, .int l2), (3, .int l3), (4, .int l4)]) dX12_deltas_74 (by decide) rfl ?_
      refine sx_aload_n (pc := 76) dX12_deltas_76 sx_m2 ?_
      refine sv_getI (pc := 77) hG dX12_deltas_77 f_12_621 lay_146 rfl ?_
      refine sx_aload_n (pc := 80) dX12_deltas_80 sx_m2 ?_
      refine sv_getI (pc := 81) hG dX12_deltas_81 f_12_700 lay_146 rfl ?_
      refine sx_iload (pc := 84) dX12_deltas_84 sx_m0 ?_
      refine sx_iconst (pc := 86) (v := 4) dX12_deltas_86 (by decide) ?_
      refine sx_ishr (pc := 87) dX12_deltas_87 ?_
      refine sx_bipush (pc := 88) (v := 15) dX12_deltas_88 (by decide) ?_
      refine sx_iand (pc := 90) dX12_deltas_90 ?_
      refine sx_iadd (pc := 91) dX12_deltas_91 ?_
      refine sx_iload_n (pc := 92) dX12_deltas_92 sx_m3 ?_
      refine sx_iadd (pc := 93) dX12_deltas_93 ?_
      refine sx_icmp_eq (pc := 94) (tgt := 100) dX12_deltas_94 (by decide) (fun c27 => ?_) (fun c27 => ?_)
      · have h := sx_pos c27 h
        refine sx_iload (pc := 100) dX12_deltas_100 sx_m0 ?_
        refine sx_bipush (pc := 102) (v := 15) dX12_deltas_102 (by decide) ?_
        refine sx_iand (pc := 104) dX12_deltas_104 ?_
        refine sx_iload (pc := 105) dX12_deltas_105 sx_m0 ?_
        refine sx_bipush (pc := 107) (v := 15) dX12_deltas_107 (by decide) ?_
        refine sx_iand (pc := 109) dX12_deltas_109 ?_
        refine sx_bipush (pc := 110) (v := 8) dX12_deltas_110 (by decide) ?_
        refine sx_icmp_lt (pc := 112) (tgt := 120) dX12_deltas_112 (by decide) (fun c28 => ?_) (fun c28 => ?_)
        · have h := sx_pos c28 h
          refine sx_bipush (pc := 120) (v := 8) dX12_deltas_120 (by decide) ?_
          refine sx_wk (sx_s1 sx_m2 (sx_s1 sx_m3 (sx_s1 sx_m4 (sx_s1 sx_m5 (sx_s1 sx_m6 (sx_s1 sx_m1 sx_s0)))))) ?_
          exact tB_X12_deltas_122 hG hP hk51 h
        · have h := sx_neg c28 h
          refine sx_bipush (pc := 115) (v := 7) dX12_deltas_115 (by decide) ?_
          refine sx_goto (pc := 117) (tgt := 122) dX12_deltas_117 (by decide) ?_
          refine sx_wk (sx_s1 sx_m2 (sx_s1 sx_m3 (sx_s1 sx_m4 (sx_s1 sx_m5 (sx_s1 sx_m6 (sx_s1 sx_m1 sx_s0)))))) ?_
          exact tB_X12_deltas_122 hG hP hk51 h
      · have h := sx_neg c27 h
        refine sx_goto (pc := 97) (tgt := 203) dX12_deltas_97 (by decide) ?_
        refine sx_wk (sx_s1 sx_m2 (sx_s1 sx_m3 (sx_s1 sx_m4 (sx_s1 sx_m5 (sx_s1 sx_m6 sx_s0))))) ?_
        exact tB_X12_deltas_203 hG hP hk51 h
theorem tL_X12_deltas_51 {g : sx_G} (hG : sx_Go g) {P : Option Value → sv_V → Prop} {Vr : sv_V} (hP : P none Vr) {N : Nat}   : ∀ (n : Nat) (l1 : Int32) (l2 : Int32) (l3 : Int32) (l4 : Int32) (V : sv_V), sx_lp5 (B_X12_deltas_51 N ) n l1 l2 l3 l4 V = some Vr → sv_N g qX12_deltas 5 51 [(0, .ref 146), (1, .int l1), (2, .int l2), (3, .int l3), (4, .int l4)] [] V P :=
  sx_lp5_ind (fun k0 ih _ _ _ _ V h => tB_X12_deltas_51 hG hP ih h)
def F_X12_deltas (N : Nat) (l1 : Int32) (l2 : Int32) (V : sv_V) : Option sv_V := (F_X12_has (1 : Int32) V).bind (fun (x31, V29) => if x31 = 0 then (some V29) else ((F_X12_pop  V29).bind (fun (x35, V33) => if 0 ≤ x35 then (if (128 : Int32) < x35 then (B_X12_deltas_42 N   V33) else (if ((2 : Int32) * x35) ≤ (V33.1 146 56) then (sx_lp5 (B_X12_deltas_51 N ) N l1 l2 x35 (0 : Int32) V33) else (B_X12_deltas_42 N   V33))) else ((F_X12_fail (11 : Int32) V33).bind (fun V39 => some V39)))))
set_option maxRecDepth 20000 in
theorem t_X12_deltas {g : sx_G} (hG : sx_Go g) {P : Option Value → sv_V → Prop} {Vr : sv_V} (hP : P none Vr) {N : Nat} {l1 : Int32} {l2 : Int32} {V : sv_V} (h : F_X12_deltas N l1 l2 V = some Vr) : sv_N g qX12_deltas 5 0 [(0, .ref 146), (1, .int l1), (2, .int l2)] [] V P := by
  unfold F_X12_deltas at h
  refine sx_aload_n (pc := 0) dX12_deltas_0 sx_m0 ?_
  refine sx_iconst (pc := 1) (v := 1) dX12_deltas_1 (by decide) ?_
  obtain ⟨⟨x31, V29⟩, g30, h⟩ := sx_bnd h
  refine sv_cV (pc := 2) (y := qX12_has) (o := (some (.int x31))) (as := [.int (1 : Int32)]) (V1 := V29) hG dX12_deltas_2 l_X12_576 y0X12_has yvX12_has rfl (Nat.le_of_ble_eq_true rfl) lay_146 kr_12 (by decide) (Nat.le_of_ble_eq_true rfl) rfl rfl rfl (t_X12_has hG ⟨rfl, rfl⟩ g30) ?_
  refine sx_if_ne (pc := 5) (tgt := 9) dX12_deltas_5 (by decide) (fun c32 => ?_) (fun c32 => ?_)
  · have h := sx_neg c32 h
    refine sx_aload_n (pc := 9) dX12_deltas_9 sx_m0 ?_
    obtain ⟨⟨x35, V33⟩, g34, h⟩ := sx_bnd h
    refine sv_cV (pc := 10) (y := qX12_pop) (o := (some (.int x35))) (as := []) (V1 := V33) hG dX12_deltas_10 l_X12_579 y0X12_pop yvX12_pop rfl (Nat.le_of_ble_eq_true rfl) lay_146 kr_12 (by decide) (Nat.le_of_ble_eq_true rfl) rfl rfl rfl (t_X12_pop hG ⟨rfl, rfl⟩ g34) ?_
    refine sx_istore_n (pc := 13) (lo' := [(3, .int x35), (0, .ref 146), (1, .int l1), (2, .int l2)]) dX12_deltas_13 (by decide) rfl ?_
    refine sx_iload_n (pc := 14) dX12_deltas_14 sx_m0 ?_
    refine sx_if_ge (pc := 15) (tgt := 25) dX12_deltas_15 (by decide) (fun c36 => ?_) (fun c36 => ?_)
    · have h := sx_pos c36 h
      refine sx_iload_n (pc := 25) dX12_deltas_25 sx_m0 ?_
      refine sx_sipush (pc := 26) (v := 128) dX12_deltas_26 (by decide) ?_
      refine sx_icmp_gt (pc := 29) (tgt := 42) dX12_deltas_29 (by decide) (fun c37 => ?_) (fun c37 => ?_)
      · have h := sx_pos c37 h
        refine sx_wk (sx_s1 sx_m1 sx_s0) ?_
        exact tB_X12_deltas_42 hG hP  h
      · have h := sx_neg c37 h
        refine sx_aload_n (pc := 32) dX12_deltas_32 sx_m1 ?_
        refine sv_getI (pc := 33) hG dX12_deltas_33 f_12_418 lay_146 rfl ?_
        refine sx_iconst (pc := 36) (v := 2) dX12_deltas_36 (by decide) ?_
        refine sx_iload_n (pc := 37) dX12_deltas_37 sx_m0 ?_
        refine sx_imul (pc := 38) dX12_deltas_38 ?_
        refine sx_icmp_ge (pc := 39) (tgt := 48) dX12_deltas_39 (by decide) (fun c38 => ?_) (fun c38 => ?_)
        · have h := sx_pos c38 h
          refine sx_iconst (pc := 48) (v := 0) dX12_deltas_48 (by decide) ?_
          refine sx_istore (pc := 49) (lo' := [(4, .int (0 : Int32)), (3, .int x35), (0, .ref 146), (1, .int l1), (2, .int l2)]) dX12_deltas_49 (by decide) rfl ?_
          refine sx_wk (sx_s1 sx_m2 (sx_s1 sx_m3 (sx_s1 sx_m4 (sx_s1 sx_m1 (sx_s1 sx_m0 sx_s0))))) ?_
          exact tL_X12_deltas_51 hG hP  N _ _ _ _ _ h
        · have h := sx_neg c38 h
          refine sx_wk (sx_s1 sx_m1 sx_s0) ?_
          exact tB_X12_deltas_42 hG hP  h
    · have h := sx_neg c36 h
      refine sx_aload_n (pc := 18) dX12_deltas_18 sx_m1 ?_
      refine sx_bipush (pc := 19) (v := 11) dX12_deltas_19 (by decide) ?_
      obtain ⟨V39, g40, h⟩ := sx_bnd h
      refine sv_cV (pc := 21) (y := qX12_fail) (o := none) (as := [.int (11 : Int32)]) (V1 := V39) hG dX12_deltas_21 l_X12_421 y0X12_fail yvX12_fail rfl (Nat.le_of_ble_eq_true rfl) lay_146 kr_12 (by decide) (Nat.le_of_ble_eq_true rfl) rfl rfl rfl (t_X12_fail hG ⟨rfl, rfl⟩ g40) ?_
      exact sv_vret (pc := 24) dX12_deltas_24 rfl h hP
  · have h := sx_pos c32 h
    exact sv_vret (pc := 8) dX12_deltas_8 rfl h hP
def ncX12_high : Nat := 135025349858064937538176984946341462297138459703992140700444689829829484922436365634966372468193626755976119397436783599646508450205900024997223666477634089294448420693531459405106169278585588946443947189729510706770194993290826151981347864338416733556592065896367977983977515721733145980732820257288871009530076380453198506774046987326957717233492955784384344893920248574629693275680974479217007174313240944518688820754573195253355674567271394418732112768464043333056567282751144135317595481389024802840067045551405473296791006739270510500244333149363652879145804933104596887929966776278721299991708482127457823407536981181762751598003368282850545625963473679934879371498961389378380113923630254316480344333195864657923520729499463470385370355203080768622529886945454772390640687404717119699595194328958590346278658773247334452695012332455256229312871373466087759472956779903411870000498406069173199665035986108639882997459723275702789445560601565168961107573304271180462656575207966944216512953200151204254106500189323042864238601944899080284322984086506859568614624353009769517520208820612099566383889402071919296388739568594460359962889721193799338839518943332352357494865814087800629965517164531038668943290448476226274993094487003352227973136422897557753012024967881468741106875033229353277392644942794736924734763192275339039854429331246904788939215413902324050459
theorem kcX12_high : CK cX12_high ncX12_high 569 := ⟨by decide +kernel, by decide +kernel⟩
theorem dX12_high_0 : decode cX12_high 0 = .ok (.iload_n 1, 1) := dl_o27 kcX12_high (by decide +kernel)
theorem dX12_high_1 : decode cX12_high 1 = .ok (.tableswitch 562 96 140 #[195, 195, 195, 195, 338, 338, 338, 338, 404, 404, 404, 404, 426, 426, 426, 426, 433, 439, 447, 455, 462, 470, 478, 478, 484, 484, 532, 562, 539, 551, 562, 562, 562, 562, 562, 562, 562, 562, 562, 562, 562, 562, 562, 195, 195], 195) := by decide +kernel
theorem dX12_high_196 : decode cX12_high 196 = .ok (.aload_n 0, 1) := dl_o42 kcX12_high (by decide +kernel)
theorem dX12_high_197 : decode cX12_high 197 = .ok (.iconst 2, 1) := dl_o5 kcX12_high (by decide +kernel)
theorem dX12_high_198 : decode cX12_high 198 = .ok (.invokevirtual 576, 3) := dl_o182 kcX12_high (by decide +kernel)
theorem dX12_high_201 : decode cX12_high 201 = .ok (.ifCond .eq 137, 3) := dl_o153 kcX12_high 137 (by decide +kernel) (by decide +kernel)
theorem dX12_high_204 : decode cX12_high 204 = .ok (.aload_n 0, 1) := dl_o42 kcX12_high (by decide +kernel)
theorem dX12_high_205 : decode cX12_high 205 = .ok (.invokevirtual 579, 3) := dl_o182 kcX12_high (by decide +kernel)
theorem dX12_high_208 : decode cX12_high 208 = .ok (.i2l, 1) := dl_o133 kcX12_high (by decide +kernel)
theorem dX12_high_209 : decode cX12_high 209 = .ok (.lstore_n 2, 1) := dl_o65 kcX12_high (by decide +kernel)
theorem dX12_high_210 : decode cX12_high 210 = .ok (.aload_n 0, 1) := dl_o42 kcX12_high (by decide +kernel)
theorem dX12_high_211 : decode cX12_high 211 = .ok (.invokevirtual 579, 3) := dl_o182 kcX12_high (by decide +kernel)
theorem dX12_high_214 : decode cX12_high 214 = .ok (.i2l, 1) := dl_o133 kcX12_high (by decide +kernel)
theorem dX12_high_215 : decode cX12_high 215 = .ok (.lstore 4, 2) := dl_o55 kcX12_high (by decide +kernel)
theorem dX12_high_217 : decode cX12_high 217 = .ok (.iload_n 1, 1) := dl_o27 kcX12_high (by decide +kernel)
theorem dX12_high_218 : decode cX12_high 218 = .ok (.bipush 98, 2) := dl_o16 kcX12_high 98 (by decide +kernel) (by decide +kernel)
theorem dX12_high_220 : decode cX12_high 220 = .ok (.if_icmp .ne 16, 3) := dl_o160 kcX12_high 16 (by decide +kernel) (by decide +kernel)
theorem dX12_high_223 : decode cX12_high 223 = .ok (.lload_n 2, 1) := dl_o32 kcX12_high (by decide +kernel)
theorem dX12_high_224 : decode cX12_high 224 = .ok (.lconst 0, 1) := dl_o9 kcX12_high (by decide +kernel)
theorem dX12_high_225 : decode cX12_high 225 = .ok (.lcmp, 1) := dl_o148 kcX12_high (by decide +kernel)
theorem dX12_high_226 : decode cX12_high 226 = .ok (.ifCond .ne 10, 3) := dl_o154 kcX12_high 10 (by decide +kernel) (by decide +kernel)
theorem dX12_high_229 : decode cX12_high 229 = .ok (.aload_n 0, 1) := dl_o42 kcX12_high (by decide +kernel)
theorem dX12_high_230 : decode cX12_high 230 = .ok (.bipush 7, 2) := dl_o16 kcX12_high 7 (by decide +kernel) (by decide +kernel)
theorem dX12_high_232 : decode cX12_high 232 = .ok (.invokevirtual 421, 3) := dl_o182 kcX12_high (by decide +kernel)
theorem dX12_high_235 : decode cX12_high 235 = .ok (.return_, 1) := dl_o177 kcX12_high (by decide +kernel)
theorem dX12_high_236 : decode cX12_high 236 = .ok (.aload_n 0, 1) := dl_o42 kcX12_high (by decide +kernel)
theorem dX12_high_237 : decode cX12_high 237 = .ok (.iload_n 1, 1) := dl_o27 kcX12_high (by decide +kernel)
theorem dX12_high_238 : decode cX12_high 238 = .ok (.bipush 96, 2) := dl_o16 kcX12_high 96 (by decide +kernel) (by decide +kernel)
theorem dX12_high_240 : decode cX12_high 240 = .ok (.if_icmp .ne 10, 3) := dl_o160 kcX12_high 10 (by decide +kernel) (by decide +kernel)
theorem dX12_high_243 : decode cX12_high 243 = .ok (.lload 4, 2) := dl_o22 kcX12_high (by decide +kernel)
theorem dX12_high_245 : decode cX12_high 245 = .ok (.lload_n 2, 1) := dl_o32 kcX12_high (by decide +kernel)
theorem dX12_high_246 : decode cX12_high 246 = .ok (.ladd, 1) := dl_o97 kcX12_high (by decide +kernel)
theorem dX12_high_247 : decode cX12_high 247 = .ok (.goto 88, 3) := dl_o167 kcX12_high 88 (by decide +kernel) (by decide +kernel)
theorem dX12_high_250 : decode cX12_high 250 = .ok (.iload_n 1, 1) := dl_o27 kcX12_high (by decide +kernel)
theorem dX12_high_251 : decode cX12_high 251 = .ok (.bipush 97, 2) := dl_o16 kcX12_high 97 (by decide +kernel) (by decide +kernel)
theorem dX12_high_253 : decode cX12_high 253 = .ok (.if_icmp .ne 10, 3) := dl_o160 kcX12_high 10 (by decide +kernel) (by decide +kernel)
theorem dX12_high_256 : decode cX12_high 256 = .ok (.lload 4, 2) := dl_o22 kcX12_high (by decide +kernel)
theorem dX12_high_258 : decode cX12_high 258 = .ok (.lload_n 2, 1) := dl_o32 kcX12_high (by decide +kernel)
theorem dX12_high_259 : decode cX12_high 259 = .ok (.lsub, 1) := dl_o101 kcX12_high (by decide +kernel)
theorem dX12_high_260 : decode cX12_high 260 = .ok (.goto 75, 3) := dl_o167 kcX12_high 75 (by decide +kernel) (by decide +kernel)
theorem dX12_high_263 : decode cX12_high 263 = .ok (.iload_n 1, 1) := dl_o27 kcX12_high (by decide +kernel)
theorem dX12_high_264 : decode cX12_high 264 = .ok (.bipush 98, 2) := dl_o16 kcX12_high 98 (by decide +kernel) (by decide +kernel)
theorem dX12_high_266 : decode cX12_high 266 = .ok (.if_icmp .ne 14, 3) := dl_o160 kcX12_high 14 (by decide +kernel) (by decide +kernel)
theorem dX12_high_269 : decode cX12_high 269 = .ok (.lload 4, 2) := dl_o22 kcX12_high (by decide +kernel)
theorem dX12_high_271 : decode cX12_high 271 = .ok (.ldc2_w 338, 3) := dl_o20 kcX12_high (by decide +kernel)
theorem dX12_high_274 : decode cX12_high 274 = .ok (.lmul, 1) := dl_o105 kcX12_high (by decide +kernel)
theorem dX12_high_275 : decode cX12_high 275 = .ok (.lload_n 2, 1) := dl_o32 kcX12_high (by decide +kernel)
theorem dX12_high_276 : decode cX12_high 276 = .ok (.ldiv, 1) := dl_o109 kcX12_high (by decide +kernel)
theorem dX12_high_277 : decode cX12_high 277 = .ok (.goto 58, 3) := dl_o167 kcX12_high 58 (by decide +kernel) (by decide +kernel)
theorem dX12_high_280 : decode cX12_high 280 = .ok (.iload_n 1, 1) := dl_o27 kcX12_high (by decide +kernel)
theorem dX12_high_281 : decode cX12_high 281 = .ok (.bipush 99, 2) := dl_o16 kcX12_high 99 (by decide +kernel) (by decide +kernel)
theorem dX12_high_283 : decode cX12_high 283 = .ok (.if_icmp .ne 16, 3) := dl_o160 kcX12_high 16 (by decide +kernel) (by decide +kernel)
theorem dX12_high_286 : decode cX12_high 286 = .ok (.lload 4, 2) := dl_o22 kcX12_high (by decide +kernel)
theorem dX12_high_288 : decode cX12_high 288 = .ok (.lload_n 2, 1) := dl_o32 kcX12_high (by decide +kernel)
theorem dX12_high_289 : decode cX12_high 289 = .ok (.lmul, 1) := dl_o105 kcX12_high (by decide +kernel)
theorem dX12_high_290 : decode cX12_high 290 = .ok (.ldc2_w 338, 3) := dl_o20 kcX12_high (by decide +kernel)
theorem dX12_high_293 : decode cX12_high 293 = .ok (.invokestatic 517, 3) := dl_o184 kcX12_high (by decide +kernel)
theorem dX12_high_296 : decode cX12_high 296 = .ok (.goto 39, 3) := dl_o167 kcX12_high 39 (by decide +kernel) (by decide +kernel)
theorem dX12_high_299 : decode cX12_high 299 = .ok (.iload_n 1, 1) := dl_o27 kcX12_high (by decide +kernel)
theorem dX12_high_300 : decode cX12_high 300 = .ok (.sipush 139, 3) := dl_o17 kcX12_high 139 (by decide +kernel) (by decide +kernel)
theorem dX12_high_303 : decode cX12_high 303 = .ok (.if_icmp .ne 19, 3) := dl_o160 kcX12_high 19 (by decide +kernel) (by decide +kernel)
theorem dX12_high_306 : decode cX12_high 306 = .ok (.lload 4, 2) := dl_o22 kcX12_high (by decide +kernel)
theorem dX12_high_308 : decode cX12_high 308 = .ok (.lload_n 2, 1) := dl_o32 kcX12_high (by decide +kernel)
theorem dX12_high_309 : decode cX12_high 309 = .ok (.lcmp, 1) := dl_o148 kcX12_high (by decide +kernel)
theorem dX12_high_310 : decode cX12_high 310 = .ok (.ifCond .le 8, 3) := dl_o158 kcX12_high 8 (by decide +kernel) (by decide +kernel)
theorem dX12_high_313 : decode cX12_high 313 = .ok (.lload 4, 2) := dl_o22 kcX12_high (by decide +kernel)
theorem dX12_high_315 : decode cX12_high 315 = .ok (.goto 20, 3) := dl_o167 kcX12_high 20 (by decide +kernel) (by decide +kernel)
theorem dX12_high_318 : decode cX12_high 318 = .ok (.lload_n 2, 1) := dl_o32 kcX12_high (by decide +kernel)
theorem dX12_high_319 : decode cX12_high 319 = .ok (.goto 16, 3) := dl_o167 kcX12_high 16 (by decide +kernel) (by decide +kernel)
theorem dX12_high_322 : decode cX12_high 322 = .ok (.lload 4, 2) := dl_o22 kcX12_high (by decide +kernel)
theorem dX12_high_324 : decode cX12_high 324 = .ok (.lload_n 2, 1) := dl_o32 kcX12_high (by decide +kernel)
theorem dX12_high_325 : decode cX12_high 325 = .ok (.lcmp, 1) := dl_o148 kcX12_high (by decide +kernel)
theorem dX12_high_326 : decode cX12_high 326 = .ok (.ifCond .ge 8, 3) := dl_o156 kcX12_high 8 (by decide +kernel) (by decide +kernel)
theorem dX12_high_329 : decode cX12_high 329 = .ok (.lload 4, 2) := dl_o22 kcX12_high (by decide +kernel)
theorem dX12_high_331 : decode cX12_high 331 = .ok (.goto 4, 3) := dl_o167 kcX12_high 4 (by decide +kernel) (by decide +kernel)
theorem dX12_high_334 : decode cX12_high 334 = .ok (.lload_n 2, 1) := dl_o32 kcX12_high (by decide +kernel)
theorem dX12_high_335 : decode cX12_high 335 = .ok (.invokevirtual 564, 3) := dl_o182 kcX12_high (by decide +kernel)
theorem dX12_high_338 : decode cX12_high 338 = .ok (.return_, 1) := dl_o177 kcX12_high (by decide +kernel)
theorem dX12_high_339 : decode cX12_high 339 = .ok (.aload_n 0, 1) := dl_o42 kcX12_high (by decide +kernel)
theorem dX12_high_340 : decode cX12_high 340 = .ok (.iconst 1, 1) := dl_o4 kcX12_high (by decide +kernel)
theorem dX12_high_341 : decode cX12_high 341 = .ok (.invokevirtual 576, 3) := dl_o182 kcX12_high (by decide +kernel)
theorem dX12_high_344 : decode cX12_high 344 = .ok (.ifCond .eq 60, 3) := dl_o153 kcX12_high 60 (by decide +kernel) (by decide +kernel)
theorem dX12_high_347 : decode cX12_high 347 = .ok (.aload_n 0, 1) := dl_o42 kcX12_high (by decide +kernel)
theorem dX12_high_348 : decode cX12_high 348 = .ok (.invokevirtual 579, 3) := dl_o182 kcX12_high (by decide +kernel)
theorem dX12_high_351 : decode cX12_high 351 = .ok (.i2l, 1) := dl_o133 kcX12_high (by decide +kernel)
theorem dX12_high_352 : decode cX12_high 352 = .ok (.lstore_n 2, 1) := dl_o65 kcX12_high (by decide +kernel)
theorem dX12_high_353 : decode cX12_high 353 = .ok (.aload_n 0, 1) := dl_o42 kcX12_high (by decide +kernel)
theorem dX12_high_354 : decode cX12_high 354 = .ok (.iload_n 1, 1) := dl_o27 kcX12_high (by decide +kernel)
theorem dX12_high_355 : decode cX12_high 355 = .ok (.bipush 100, 2) := dl_o16 kcX12_high 100 (by decide +kernel) (by decide +kernel)
theorem dX12_high_357 : decode cX12_high 357 = .ok (.if_icmp .ne 10, 3) := dl_o160 kcX12_high 10 (by decide +kernel) (by decide +kernel)
theorem dX12_high_360 : decode cX12_high 360 = .ok (.lload_n 2, 1) := dl_o32 kcX12_high (by decide +kernel)
theorem dX12_high_361 : decode cX12_high 361 = .ok (.invokestatic 198, 3) := dl_o184 kcX12_high (by decide +kernel)
theorem dX12_high_364 : decode cX12_high 364 = .ok (.goto 37, 3) := dl_o167 kcX12_high 37 (by decide +kernel) (by decide +kernel)
theorem dX12_high_367 : decode cX12_high 367 = .ok (.iload_n 1, 1) := dl_o27 kcX12_high (by decide +kernel)
theorem dX12_high_368 : decode cX12_high 368 = .ok (.bipush 101, 2) := dl_o16 kcX12_high 101 (by decide +kernel) (by decide +kernel)
theorem dX12_high_370 : decode cX12_high 370 = .ok (.if_icmp .ne 8, 3) := dl_o160 kcX12_high 8 (by decide +kernel) (by decide +kernel)
theorem dX12_high_373 : decode cX12_high 373 = .ok (.lload_n 2, 1) := dl_o32 kcX12_high (by decide +kernel)
theorem dX12_high_374 : decode cX12_high 374 = .ok (.lneg, 1) := dl_o117 kcX12_high (by decide +kernel)
theorem dX12_high_375 : decode cX12_high 375 = .ok (.goto 26, 3) := dl_o167 kcX12_high 26 (by decide +kernel) (by decide +kernel)
theorem dX12_high_378 : decode cX12_high 378 = .ok (.iload_n 1, 1) := dl_o27 kcX12_high (by decide +kernel)
theorem dX12_high_379 : decode cX12_high 379 = .ok (.bipush 102, 2) := dl_o16 kcX12_high 102 (by decide +kernel) (by decide +kernel)
theorem dX12_high_381 : decode cX12_high 381 = .ok (.if_icmp .ne 11, 3) := dl_o160 kcX12_high 11 (by decide +kernel) (by decide +kernel)
theorem dX12_high_384 : decode cX12_high 384 = .ok (.lload_n 2, 1) := dl_o32 kcX12_high (by decide +kernel)
theorem dX12_high_385 : decode cX12_high 385 = .ok (.ldc2_w 204, 3) := dl_o20 kcX12_high (by decide +kernel)
theorem dX12_high_388 : decode cX12_high 388 = .ok (.land, 1) := dl_o127 kcX12_high (by decide +kernel)
theorem dX12_high_389 : decode cX12_high 389 = .ok (.goto 12, 3) := dl_o167 kcX12_high 12 (by decide +kernel) (by decide +kernel)
theorem dX12_high_392 : decode cX12_high 392 = .ok (.lload_n 2, 1) := dl_o32 kcX12_high (by decide +kernel)
theorem dX12_high_393 : decode cX12_high 393 = .ok (.ldc2_w 731, 3) := dl_o20 kcX12_high (by decide +kernel)
theorem dX12_high_396 : decode cX12_high 396 = .ok (.ladd, 1) := dl_o97 kcX12_high (by decide +kernel)
theorem dX12_high_397 : decode cX12_high 397 = .ok (.ldc2_w 204, 3) := dl_o20 kcX12_high (by decide +kernel)
theorem dX12_high_400 : decode cX12_high 400 = .ok (.land, 1) := dl_o127 kcX12_high (by decide +kernel)
theorem dX12_high_401 : decode cX12_high 401 = .ok (.invokevirtual 564, 3) := dl_o182 kcX12_high (by decide +kernel)
theorem dX12_high_404 : decode cX12_high 404 = .ok (.return_, 1) := dl_o177 kcX12_high (by decide +kernel)
theorem dX12_high_405 : decode cX12_high 405 = .ok (.aload_n 0, 1) := dl_o42 kcX12_high (by decide +kernel)
theorem dX12_high_406 : decode cX12_high 406 = .ok (.iconst 1, 1) := dl_o4 kcX12_high (by decide +kernel)
theorem dX12_high_407 : decode cX12_high 407 = .ok (.invokevirtual 576, 3) := dl_o182 kcX12_high (by decide +kernel)
theorem dX12_high_410 : decode cX12_high 410 = .ok (.ifCond .eq 16, 3) := dl_o153 kcX12_high 16 (by decide +kernel) (by decide +kernel)
theorem dX12_high_413 : decode cX12_high 413 = .ok (.aload_n 0, 1) := dl_o42 kcX12_high (by decide +kernel)
theorem dX12_high_414 : decode cX12_high 414 = .ok (.aload_n 0, 1) := dl_o42 kcX12_high (by decide +kernel)
theorem dX12_high_415 : decode cX12_high 415 = .ok (.aload_n 0, 1) := dl_o42 kcX12_high (by decide +kernel)
theorem dX12_high_416 : decode cX12_high 416 = .ok (.invokevirtual 579, 3) := dl_o182 kcX12_high (by decide +kernel)
theorem dX12_high_419 : decode cX12_high 419 = .ok (.i2l, 1) := dl_o133 kcX12_high (by decide +kernel)
theorem dX12_high_420 : decode cX12_high 420 = .ok (.invokevirtual 647, 3) := dl_o182 kcX12_high (by decide +kernel)
theorem dX12_high_423 : decode cX12_high 423 = .ok (.invokevirtual 564, 3) := dl_o182 kcX12_high (by decide +kernel)
theorem dX12_high_426 : decode cX12_high 426 = .ok (.return_, 1) := dl_o177 kcX12_high (by decide +kernel)
theorem dX12_high_427 : decode cX12_high 427 = .ok (.aload_n 0, 1) := dl_o42 kcX12_high (by decide +kernel)
theorem dX12_high_428 : decode cX12_high 428 = .ok (.iconst 1, 1) := dl_o4 kcX12_high (by decide +kernel)
theorem dX12_high_429 : decode cX12_high 429 = .ok (.invokevirtual 576, 3) := dl_o182 kcX12_high (by decide +kernel)
theorem dX12_high_432 : decode cX12_high 432 = .ok (.istore_n 2, 1) := dl_o61 kcX12_high (by decide +kernel)
theorem dX12_high_433 : decode cX12_high 433 = .ok (.return_, 1) := dl_o177 kcX12_high (by decide +kernel)
theorem dX12_high_434 : decode cX12_high 434 = .ok (.aload_n 0, 1) := dl_o42 kcX12_high (by decide +kernel)
theorem dX12_high_435 : decode cX12_high 435 = .ok (.iconst 1, 1) := dl_o4 kcX12_high (by decide +kernel)
theorem dX12_high_436 : decode cX12_high 436 = .ok (.invokevirtual 674, 3) := dl_o182 kcX12_high (by decide +kernel)
theorem dX12_high_439 : decode cX12_high 439 = .ok (.return_, 1) := dl_o177 kcX12_high (by decide +kernel)
theorem dX12_high_440 : decode cX12_high 440 = .ok (.aload_n 0, 1) := dl_o42 kcX12_high (by decide +kernel)
theorem dX12_high_441 : decode cX12_high 441 = .ok (.bipush 16, 2) := dl_o16 kcX12_high 16 (by decide +kernel) (by decide +kernel)
theorem dX12_high_443 : decode cX12_high 443 = .ok (.iconst 1, 1) := dl_o4 kcX12_high (by decide +kernel)
theorem dX12_high_444 : decode cX12_high 444 = .ok (.invokevirtual 696, 3) := dl_o182 kcX12_high (by decide +kernel)
theorem dX12_high_447 : decode cX12_high 447 = .ok (.return_, 1) := dl_o177 kcX12_high (by decide +kernel)
theorem dX12_high_448 : decode cX12_high 448 = .ok (.aload_n 0, 1) := dl_o42 kcX12_high (by decide +kernel)
theorem dX12_high_449 : decode cX12_high 449 = .ok (.bipush 32, 2) := dl_o16 kcX12_high 32 (by decide +kernel) (by decide +kernel)
theorem dX12_high_451 : decode cX12_high 451 = .ok (.iconst 1, 1) := dl_o4 kcX12_high (by decide +kernel)
theorem dX12_high_452 : decode cX12_high 452 = .ok (.invokevirtual 696, 3) := dl_o182 kcX12_high (by decide +kernel)
theorem dX12_high_455 : decode cX12_high 455 = .ok (.return_, 1) := dl_o177 kcX12_high (by decide +kernel)
theorem dX12_high_456 : decode cX12_high 456 = .ok (.aload_n 0, 1) := dl_o42 kcX12_high (by decide +kernel)
theorem dX12_high_457 : decode cX12_high 457 = .ok (.iconst 0, 1) := dl_o3 kcX12_high (by decide +kernel)
theorem dX12_high_458 : decode cX12_high 458 = .ok (.iconst 0, 1) := dl_o3 kcX12_high (by decide +kernel)
theorem dX12_high_459 : decode cX12_high 459 = .ok (.invokevirtual 696, 3) := dl_o182 kcX12_high (by decide +kernel)
theorem dX12_high_462 : decode cX12_high 462 = .ok (.return_, 1) := dl_o177 kcX12_high (by decide +kernel)
theorem dX12_high_463 : decode cX12_high 463 = .ok (.aload_n 0, 1) := dl_o42 kcX12_high (by decide +kernel)
theorem dX12_high_464 : decode cX12_high 464 = .ok (.bipush 16, 2) := dl_o16 kcX12_high 16 (by decide +kernel) (by decide +kernel)
theorem dX12_high_466 : decode cX12_high 466 = .ok (.iconst 0, 1) := dl_o3 kcX12_high (by decide +kernel)
theorem dX12_high_467 : decode cX12_high 467 = .ok (.invokevirtual 696, 3) := dl_o182 kcX12_high (by decide +kernel)
theorem dX12_high_470 : decode cX12_high 470 = .ok (.return_, 1) := dl_o177 kcX12_high (by decide +kernel)
theorem dX12_high_471 : decode cX12_high 471 = .ok (.aload_n 0, 1) := dl_o42 kcX12_high (by decide +kernel)
theorem dX12_high_472 : decode cX12_high 472 = .ok (.bipush 32, 2) := dl_o16 kcX12_high 32 (by decide +kernel) (by decide +kernel)
theorem dX12_high_474 : decode cX12_high 474 = .ok (.iconst 0, 1) := dl_o3 kcX12_high (by decide +kernel)
theorem dX12_high_475 : decode cX12_high 475 = .ok (.invokevirtual 696, 3) := dl_o182 kcX12_high (by decide +kernel)
theorem dX12_high_478 : decode cX12_high 478 = .ok (.return_, 1) := dl_o177 kcX12_high (by decide +kernel)
theorem dX12_high_479 : decode cX12_high 479 = .ok (.aload_n 0, 1) := dl_o42 kcX12_high (by decide +kernel)
theorem dX12_high_480 : decode cX12_high 480 = .ok (.iload_n 1, 1) := dl_o27 kcX12_high (by decide +kernel)
theorem dX12_high_481 : decode cX12_high 481 = .ok (.invokevirtual 733, 3) := dl_o182 kcX12_high (by decide +kernel)
theorem dX12_high_484 : decode cX12_high 484 = .ok (.return_, 1) := dl_o177 kcX12_high (by decide +kernel)
theorem dX12_high_485 : decode cX12_high 485 = .ok (.aload_n 0, 1) := dl_o42 kcX12_high (by decide +kernel)
theorem dX12_high_486 : decode cX12_high 486 = .ok (.iconst 2, 1) := dl_o5 kcX12_high (by decide +kernel)
theorem dX12_high_487 : decode cX12_high 487 = .ok (.invokevirtual 576, 3) := dl_o182 kcX12_high (by decide +kernel)
theorem dX12_high_490 : decode cX12_high 490 = .ok (.ifCond .eq 42, 3) := dl_o153 kcX12_high 42 (by decide +kernel) (by decide +kernel)
theorem dX12_high_493 : decode cX12_high 493 = .ok (.aload_n 0, 1) := dl_o42 kcX12_high (by decide +kernel)
theorem dX12_high_494 : decode cX12_high 494 = .ok (.invokevirtual 579, 3) := dl_o182 kcX12_high (by decide +kernel)
theorem dX12_high_497 : decode cX12_high 497 = .ok (.istore_n 2, 1) := dl_o61 kcX12_high (by decide +kernel)
theorem dX12_high_498 : decode cX12_high 498 = .ok (.aload_n 0, 1) := dl_o42 kcX12_high (by decide +kernel)
theorem dX12_high_499 : decode cX12_high 499 = .ok (.invokevirtual 579, 3) := dl_o182 kcX12_high (by decide +kernel)
theorem dX12_high_502 : decode cX12_high 502 = .ok (.istore_n 3, 1) := dl_o62 kcX12_high (by decide +kernel)
theorem dX12_high_503 : decode cX12_high 503 = .ok (.iload_n 2, 1) := dl_o28 kcX12_high (by decide +kernel)
theorem dX12_high_504 : decode cX12_high 504 = .ok (.ifCond .eq 7, 3) := dl_o153 kcX12_high 7 (by decide +kernel) (by decide +kernel)
theorem dX12_high_507 : decode cX12_high 507 = .ok (.iconst 1, 1) := dl_o4 kcX12_high (by decide +kernel)
theorem dX12_high_508 : decode cX12_high 508 = .ok (.goto 4, 3) := dl_o167 kcX12_high 4 (by decide +kernel) (by decide +kernel)
theorem dX12_high_511 : decode cX12_high 511 = .ok (.iconst 0, 1) := dl_o3 kcX12_high (by decide +kernel)
theorem dX12_high_512 : decode cX12_high 512 = .ok (.iload_n 1, 1) := dl_o27 kcX12_high (by decide +kernel)
theorem dX12_high_513 : decode cX12_high 513 = .ok (.bipush 120, 2) := dl_o16 kcX12_high 120 (by decide +kernel) (by decide +kernel)
theorem dX12_high_515 : decode cX12_high 515 = .ok (.if_icmp .ne 7, 3) := dl_o160 kcX12_high 7 (by decide +kernel) (by decide +kernel)
theorem dX12_high_518 : decode cX12_high 518 = .ok (.iconst 1, 1) := dl_o4 kcX12_high (by decide +kernel)
theorem dX12_high_519 : decode cX12_high 519 = .ok (.goto 4, 3) := dl_o167 kcX12_high 4 (by decide +kernel) (by decide +kernel)
theorem dX12_high_522 : decode cX12_high 522 = .ok (.iconst 0, 1) := dl_o3 kcX12_high (by decide +kernel)
theorem dX12_high_523 : decode cX12_high 523 = .ok (.if_icmp .ne 9, 3) := dl_o160 kcX12_high 9 (by decide +kernel) (by decide +kernel)
theorem dX12_high_526 : decode cX12_high 526 = .ok (.aload_n 0, 1) := dl_o42 kcX12_high (by decide +kernel)
theorem dX12_high_527 : decode cX12_high 527 = .ok (.iload_n 3, 1) := dl_o29 kcX12_high (by decide +kernel)
theorem dX12_high_528 : decode cX12_high 528 = .ok (.i2l, 1) := dl_o133 kcX12_high (by decide +kernel)
theorem dX12_high_529 : decode cX12_high 529 = .ok (.invokevirtual 602, 3) := dl_o182 kcX12_high (by decide +kernel)
theorem dX12_high_532 : decode cX12_high 532 = .ok (.return_, 1) := dl_o177 kcX12_high (by decide +kernel)
theorem dX12_high_533 : decode cX12_high 533 = .ok (.aload_n 0, 1) := dl_o42 kcX12_high (by decide +kernel)
theorem dX12_high_534 : decode cX12_high 534 = .ok (.bipush 122, 2) := dl_o16 kcX12_high 122 (by decide +kernel) (by decide +kernel)
theorem dX12_high_536 : decode cX12_high 536 = .ok (.putfield 476, 3) := dl_o181 kcX12_high (by decide +kernel)
theorem dX12_high_539 : decode cX12_high 539 = .ok (.return_, 1) := dl_o177 kcX12_high (by decide +kernel)
theorem dX12_high_540 : decode cX12_high 540 = .ok (.aload_n 0, 1) := dl_o42 kcX12_high (by decide +kernel)
theorem dX12_high_541 : decode cX12_high 541 = .ok (.bipush 124, 2) := dl_o16 kcX12_high 124 (by decide +kernel) (by decide +kernel)
theorem dX12_high_543 : decode cX12_high 543 = .ok (.bipush 64, 2) := dl_o16 kcX12_high 64 (by decide +kernel) (by decide +kernel)
theorem dX12_high_545 : decode cX12_high 545 = .ok (.iconst 0, 1) := dl_o3 kcX12_high (by decide +kernel)
theorem dX12_high_546 : decode cX12_high 546 = .ok (.bipush 63, 2) := dl_o16 kcX12_high 63 (by decide +kernel) (by decide +kernel)
theorem dX12_high_548 : decode cX12_high 548 = .ok (.invokevirtual 472, 3) := dl_o182 kcX12_high (by decide +kernel)
theorem dX12_high_551 : decode cX12_high 551 = .ok (.return_, 1) := dl_o177 kcX12_high (by decide +kernel)
theorem dX12_high_552 : decode cX12_high 552 = .ok (.aload_n 0, 1) := dl_o42 kcX12_high (by decide +kernel)
theorem dX12_high_553 : decode cX12_high 553 = .ok (.bipush 125, 2) := dl_o16 kcX12_high 125 (by decide +kernel) (by decide +kernel)
theorem dX12_high_555 : decode cX12_high 555 = .ok (.bipush 64, 2) := dl_o16 kcX12_high 64 (by decide +kernel) (by decide +kernel)
theorem dX12_high_557 : decode cX12_high 557 = .ok (.iconst 0, 1) := dl_o3 kcX12_high (by decide +kernel)
theorem dX12_high_558 : decode cX12_high 558 = .ok (.iconst 0, 1) := dl_o3 kcX12_high (by decide +kernel)
theorem dX12_high_559 : decode cX12_high 559 = .ok (.invokevirtual 472, 3) := dl_o182 kcX12_high (by decide +kernel)
theorem dX12_high_562 : decode cX12_high 562 = .ok (.return_, 1) := dl_o177 kcX12_high (by decide +kernel)
theorem dX12_high_563 : decode cX12_high 563 = .ok (.aload_n 0, 1) := dl_o42 kcX12_high (by decide +kernel)
theorem dX12_high_564 : decode cX12_high 564 = .ok (.iload_n 1, 1) := dl_o27 kcX12_high (by decide +kernel)
theorem dX12_high_565 : decode cX12_high 565 = .ok (.invokevirtual 736, 3) := dl_o182 kcX12_high (by decide +kernel)
theorem dX12_high_568 : decode cX12_high 568 = .ok (.return_, 1) := dl_o177 kcX12_high (by decide +kernel)
def B_X12_high_335 (N : Nat)  (s1 : Int64) (V : sv_V) : Option sv_V := (F_X12_push s1 V).bind (fun V1 => some V1)
set_option maxRecDepth 20000 in
theorem tB_X12_high_335 {g : sx_G} (hG : sx_Go g) {P : Option Value → sv_V → Prop} {Vr : sv_V} (hP : P none Vr) {N : Nat}   {s1 : Int64} {V : sv_V} (h : B_X12_high_335 N  s1 V = some Vr) : sv_N g qX12_high 6 335 [] [.long s1, .ref 146] V P := by
  unfold B_X12_high_335 at h
  obtain ⟨V1, g2, h⟩ := sx_bnd h
  refine sv_cV (pc := 335) (y := qX12_push) (o := none) (as := [.long s1]) (V1 := V1) hG dX12_high_335 l_X12_564 y0X12_push yvX12_push rfl (Nat.le_of_ble_eq_true rfl) lay_146 kr_12 (by decide) (Nat.le_of_ble_eq_true rfl) rfl rfl rfl (t_X12_push hG ⟨rfl, rfl⟩ g2) ?_
  exact sv_vret (pc := 338) dX12_high_338 rfl h hP
def B_X12_high_236 (N : Nat)  (l1 : Int32) (l2 : Int64) (l4 : Int64) (V : sv_V) : Option sv_V := if l1 = (96 : Int32) then (B_X12_high_335 N  (l4 + l2) V) else (if l1 = (97 : Int32) then (B_X12_high_335 N  (l4 - l2) V) else (if l1 = (98 : Int32) then (if ¬ l2 = 0 then B_X12_high_335 N  ((l4 * (64 : Int64)) / l2) V else none) else (if l1 = (99 : Int32) then ((F_X12_over (l4 * l2) (64 : Int64) V).bind (fun (x12, V10) => B_X12_high_335 N  x12 V10)) else (if l1 = (139 : Int32) then (if (lg_cmp l4 l2) ≤ 0 then (B_X12_high_335 N  l2 V) else (B_X12_high_335 N  l4 V)) else (if 0 ≤ (lg_cmp l4 l2) then (B_X12_high_335 N  l2 V) else (B_X12_high_335 N  l4 V))))))
set_option maxRecDepth 20000 in
theorem tB_X12_high_236 {g : sx_G} (hG : sx_Go g) {P : Option Value → sv_V → Prop} {Vr : sv_V} (hP : P none Vr) {N : Nat}   {l1 : Int32} {l2 : Int64} {l4 : Int64} {V : sv_V} (h : B_X12_high_236 N  l1 l2 l4 V = some Vr) : sv_N g qX12_high 6 236 [(0, .ref 146), (1, .int l1), (2, .long l2), (4, .long l4)] [] V P := by
  unfold B_X12_high_236 at h
  refine sx_aload_n (pc := 236) dX12_high_236 sx_m0 ?_
  refine sx_iload_n (pc := 237) dX12_high_237 sx_m1 ?_
  refine sx_bipush (pc := 238) (v := 96) dX12_high_238 (by decide) ?_
  refine sx_icmp_ne (pc := 240) (tgt := 250) dX12_high_240 (by decide) (fun c3 => ?_) (fun c3 => ?_)
  · have h := sx_neg c3 h
    refine sx_iload_n (pc := 250) dX12_high_250 sx_m1 ?_
    refine sx_bipush (pc := 251) (v := 97) dX12_high_251 (by decide) ?_
    refine sx_icmp_ne (pc := 253) (tgt := 263) dX12_high_253 (by decide) (fun c4 => ?_) (fun c4 => ?_)
    · have h := sx_neg c4 h
      refine sx_iload_n (pc := 263) dX12_high_263 sx_m1 ?_
      refine sx_bipush (pc := 264) (v := 98) dX12_high_264 (by decide) ?_
      refine sx_icmp_ne (pc := 266) (tgt := 280) dX12_high_266 (by decide) (fun c5 => ?_) (fun c5 => ?_)
      · have h := sx_neg c5 h
        refine sx_iload_n (pc := 280) dX12_high_280 sx_m1 ?_
        refine sx_bipush (pc := 281) (v := 99) dX12_high_281 (by decide) ?_
        refine sx_icmp_ne (pc := 283) (tgt := 299) dX12_high_283 (by decide) (fun c6 => ?_) (fun c6 => ?_)
        · have h := sx_neg c6 h
          refine sx_iload_n (pc := 299) dX12_high_299 sx_m1 ?_
          refine sx_sipush (pc := 300) (v := 139) dX12_high_300 (by decide) ?_
          refine sx_icmp_ne (pc := 303) (tgt := 322) dX12_high_303 (by decide) (fun c7 => ?_) (fun c7 => ?_)
          · have h := sx_neg c7 h
            refine sx_lload (pc := 322) dX12_high_322 sx_m3 ?_
            refine sx_lload_n (pc := 324) dX12_high_324 sx_m2 ?_
            refine sx_lcmp (pc := 325) dX12_high_325 ?_
            refine sx_if_ge (pc := 326) (tgt := 334) dX12_high_326 (by decide) (fun c8 => ?_) (fun c8 => ?_)
            · have h := sx_pos c8 h
              refine sx_lload_n (pc := 334) dX12_high_334 sx_m2 ?_
              refine sx_wk sx_s0 ?_
              exact tB_X12_high_335 hG hP  h
            · have h := sx_neg c8 h
              refine sx_lload (pc := 329) dX12_high_329 sx_m3 ?_
              refine sx_goto (pc := 331) (tgt := 335) dX12_high_331 (by decide) ?_
              refine sx_wk sx_s0 ?_
              exact tB_X12_high_335 hG hP  h
          · have h := sx_pos c7 h
            refine sx_lload (pc := 306) dX12_high_306 sx_m3 ?_
            refine sx_lload_n (pc := 308) dX12_high_308 sx_m2 ?_
            refine sx_lcmp (pc := 309) dX12_high_309 ?_
            refine sx_if_le (pc := 310) (tgt := 318) dX12_high_310 (by decide) (fun c9 => ?_) (fun c9 => ?_)
            · have h := sx_pos c9 h
              refine sx_lload_n (pc := 318) dX12_high_318 sx_m2 ?_
              refine sx_goto (pc := 319) (tgt := 335) dX12_high_319 (by decide) ?_
              refine sx_wk sx_s0 ?_
              exact tB_X12_high_335 hG hP  h
            · have h := sx_neg c9 h
              refine sx_lload (pc := 313) dX12_high_313 sx_m3 ?_
              refine sx_goto (pc := 315) (tgt := 335) dX12_high_315 (by decide) ?_
              refine sx_wk sx_s0 ?_
              exact tB_X12_high_335 hG hP  h
        · have h := sx_pos c6 h
          refine sx_lload (pc := 286) dX12_high_286 sx_m3 ?_
          refine sx_lload_n (pc := 288) dX12_high_288 sx_m2 ?_
          refine sx_lmul (pc := 289) dX12_high_289 ?_
          refine sx_ldc2 (pc := 290) dX12_high_290 k_X12_338 ?_
          obtain ⟨⟨x12, V10⟩, g11, h⟩ := sx_bnd h
          refine sv_cS (pc := 293) (y := qX12_over) (o := (some (.long x12))) (as := [.long (l4 * l2), .long (64 : Int64)]) (V1 := V10) dX12_high_293 l_X12_517 y0X12_over ysX12_over rfl (Nat.le_of_ble_eq_true rfl) (by decide) (Nat.le_of_ble_eq_true rfl) rfl rfl rfl (t_X12_over hG ⟨rfl, rfl⟩ g11) ?_
          refine sx_goto (pc := 296) (tgt := 335) dX12_high_296 (by decide) ?_
          refine sx_wk sx_s0 ?_
          exact tB_X12_high_335 hG hP  h
      · have h := sx_pos c5 h
        refine sx_lload (pc := 269) dX12_high_269 sx_m3 ?_
        refine sx_ldc2 (pc := 271) dX12_high_271 k_X12_338 ?_
        refine sx_lmul (pc := 274) dX12_high_274 ?_
        refine sx_lload_n (pc := 275) dX12_high_275 sx_m2 ?_
        obtain ⟨g13, h⟩ := sx_grd h
        refine sx_ldiv (pc := 276) dX12_high_276 g13 ?_
        refine sx_goto (pc := 277) (tgt := 335) dX12_high_277 (by decide) ?_
        refine sx_wk sx_s0 ?_
        exact tB_X12_high_335 hG hP  h
    · have h := sx_pos c4 h
      refine sx_lload (pc := 256) dX12_high_256 sx_m3 ?_
      refine sx_lload_n (pc := 258) dX12_high_258 sx_m2 ?_
      refine sx_lsub (pc := 259) dX12_high_259 ?_
      refine sx_goto (pc := 260) (tgt := 335) dX12_high_260 (by decide) ?_
      refine sx_wk sx_s0 ?_
      exact tB_X12_high_335 hG hP  h
  · have h := sx_pos c3 h
    refine sx_lload (pc := 243) dX12_high_243 sx_m3 ?_
    refine sx_lload_n (pc := 245) dX12_high_245 sx_m2 ?_
    refine sx_ladd (pc := 246) dX12_high_246 ?_
    refine sx_goto (pc := 247) (tgt := 335) dX12_high_247 (by decide) ?_
    refine sx_wk sx_s0 ?_
    exact tB_X12_high_335 hG hP  h
def B_X12_high_196 (N : Nat)  (l1 : Int32) (V : sv_V) : Option sv_V := (F_X12_has (2 : Int32) V).bind (fun (x16, V14) => if x16 = 0 then (some V14) else ((F_X12_pop  V14).bind (fun (x20, V18) => sx_let (x20.toInt64) (fun x21 => (F_X12_pop  V18).bind (fun (x24, V22) => sx_let (x24.toInt64) (fun x25 => if l1 = (98 : Int32) then (if (lg_cmp x21 (0 : Int64)) = 0 then ((F_X12_fail (7 : Int32) V22).bind (fun V28 => some V28)) else (B_X12_high_236 N  l1 x21 x25 V22)) else (B_X12_high_236 N  l1 x21 x25 V22)))))))
set_option maxRecDepth 20000 in
theorem tB_X12_high_196 {g : sx_G} (hG : sx_Go g) {P : Option Value → sv_V → Prop} {Vr : sv_V} (hP : P none Vr) {N : Nat}   {l1 : Int32} {V : sv_V} (h : B_X12_high_196 N  l1 V = some Vr) : sv_N g qX12_high 6 196 [(0, .ref 146), (1, .int l1)] [] V P := by
  unfold B_X12_high_196 at h
  refine sx_aload_n (pc := 196) dX12_high_196 sx_m0 ?_
  refine sx_iconst (pc := 197) (v := 2) dX12_high_197 (by decide) ?_
  obtain ⟨⟨x16, V14⟩, g15, h⟩ := sx_bnd h
  refine sv_cV (pc := 198) (y := qX12_has) (o := (some (.int x16))) (as := [.int (2 : Int32)]) (V1 := V14) hG dX12_high_198 l_X12_576 y0X12_has yvX12_has rfl (Nat.le_of_ble_eq_true rfl) lay_146 kr_12 (by decide) (Nat.le_of_ble_eq_true rfl) rfl rfl rfl (t_X12_has hG ⟨rfl, rfl⟩ g15) ?_
  refine sx_if_eq (pc := 201) (tgt := 338) dX12_high_201 (by decide) (fun c17 => ?_) (fun c17 => ?_)
  · have h := sx_pos c17 h
    exact sv_vret (pc := 338) dX12_high_338 rfl h hP
  · have h := sx_neg c17 h
    refine sx_aload_n (pc := 204) dX12_high_204 sx_m0 ?_
    obtain ⟨⟨x20, V18⟩, g19, h⟩ := sx_bnd h
    refine sv_cV (pc := 205) (y := qX12_pop) (o := (some (.int x20))) (as := []) (V1 := V18) hG dX12_high_205 l_X12_579 y0X12_pop yvX12_pop rfl (Nat.le_of_ble_eq_true rfl) lay_146 kr_12 (by decide) (Nat.le_of_ble_eq_true rfl) rfl rfl rfl (t_X12_pop hG ⟨rfl, rfl⟩ g19) ?_
    refine sx_i2l (pc := 208) dX12_high_208 ?_
    refine sv_tJ (fun x21 hx21 => ?_)
    have h := sx_letE hx21 h
    refine sx_lstore_n (pc := 209) (lo' := [(2, .long x21), (0, .ref 146), (1, .int l1)]) dX12_high_209 (by decide) rfl ?_
    refine sx_aload_n (pc := 210) dX12_high_210 sx_m1 ?_
    obtain ⟨⟨x24, V22⟩, g23, h⟩ := sx_bnd h
    refine sv_cV (pc := 211) (y := qX12_pop) (o := (some (.int x24))) (as := []) (V1 := V22) hG dX12_high_211 l_X12_579 y0X12_pop yvX12_pop rfl (Nat.le_of_ble_eq_true rfl) lay_146 kr_12 (by decide) (Nat.le_of_ble_eq_true rfl) rfl rfl rfl (t_X12_pop hG ⟨rfl, rfl⟩ g23) ?_
    refine sx_i2l (pc := 214) dX12_high_214 ?_
    refine sv_tJ (fun x25 hx25 => ?_)
    have h := sx_letE hx25 h
    refine sx_lstore (pc := 215) (lo' := [(4, .long x25), (2, .long x21), (0, .ref 146), (1, .int l1)]) dX12_high_215 (by decide) rfl ?_
    refine sx_iload_n (pc := 217) dX12_high_217 sx_m3 ?_
    refine sx_bipush (pc := 218) (v := 98) dX12_high_218 (by decide) ?_
    refine sx_icmp_ne (pc := 220) (tgt := 236) dX12_high_220 (by decide) (fun c26 => ?_) (fun c26 => ?_)
    · have h := sx_neg c26 h
      refine sx_wk (sx_s1 sx_m2 (sx_s1 sx_m3 (sx_s1 sx_m1 (sx_s1 sx_m0 sx_s0)))) ?_
      exact tB_X12_high_236 hG hP  h
    · have h := sx_pos c26 h
      refine sx_lload_n (pc := 223) dX12_high_223 sx_m1 ?_
      refine sx_lconst (pc := 224) (v := 0) dX12_high_224 rfl ?_
      refine sx_lcmp (pc := 225) dX12_high_225 ?_
      refine sx_if_ne (pc := 226) (tgt := 236) dX12_high_226 (by decide) (fun c27 => ?_) (fun c27 => ?_)
      · have h := sx_neg c27 h
        refine sx_wk (sx_s1 sx_m2 (sx_s1 sx_m3 (sx_s1 sx_m1 (sx_s1 sx_m0 sx_s0)))) ?_
        exact tB_X12_high_236 hG hP  h
      · have h := sx_pos c27 h
        refine sx_aload_n (pc := 229) dX12_high_229 sx_m2 ?_
        refine sx_bipush (pc := 230) (v := 7) dX12_high_230 (by decide) ?_
        obtain ⟨V28, g29, h⟩ := sx_bnd h
        refine sv_cV (pc := 232) (y := qX12_fail) (o := none) (as := [.int (7 : Int32)]) (V1 := V28) hG dX12_high_232 l_X12_421 y0X12_fail yvX12_fail rfl (Nat.le_of_ble_eq_true rfl) lay_146 kr_12 (by decide) (Nat.le_of_ble_eq_true rfl) rfl rfl rfl (t_X12_fail hG ⟨rfl, rfl⟩ g29) ?_
        exact sv_vret (pc := 235) dX12_high_235 rfl h hP
def B_X12_high_401 (N : Nat)  (s1 : Int64) (V : sv_V) : Option sv_V := (F_X12_push s1 V).bind (fun V30 => some V30)
set_option maxRecDepth 20000 in
theorem tB_X12_high_401 {g : sx_G} (hG : sx_Go g) {P : Option Value → sv_V → Prop} {Vr : sv_V} (hP : P none Vr) {N : Nat}   {s1 : Int64} {V : sv_V} (h : B_X12_high_401 N  s1 V = some Vr) : sv_N g qX12_high 6 401 [] [.long s1, .ref 146] V P := by
  unfold B_X12_high_401 at h
  obtain ⟨V30, g31, h⟩ := sx_bnd h
  refine sv_cV (pc := 401) (y := qX12_push) (o := none) (as := [.long s1]) (V1 := V30) hG dX12_high_401 l_X12_564 y0X12_push yvX12_push rfl (Nat.le_of_ble_eq_true rfl) lay_146 kr_12 (by decide) (Nat.le_of_ble_eq_true rfl) rfl rfl rfl (t_X12_push hG ⟨rfl, rfl⟩ g31) ?_
  exact sv_vret (pc := 404) dX12_high_404 rfl h hP
def B_X12_high_339 (N : Nat)  (l1 : Int32) (V : sv_V) : Option sv_V := (F_X12_has (1 : Int32) V).bind (fun (x34, V32) => if x34 = 0 then (some V32) else ((F_X12_pop  V32).bind (fun (x38, V36) => sx_let (x38.toInt64) (fun x39 => if l1 = (100 : Int32) then ((F_X12_sizeOf x39 V36).bind (fun (x45, V43) => B_X12_high_401 N  x45 V43)) else (if l1 = (101 : Int32) then (B_X12_high_401 N  (-x39) V36) else (if l1 = (102 : Int32) then (B_X12_high_401 N  (x39 &&& (-64 : Int64)) V36) else (B_X12_high_401 N  ((x39 + (63 : Int64)) &&& (-64 : Int64)) V36)))))))
set_option maxRecDepth 20000 in
theorem tB_X12_high_339 {g : sx_G} (hG : sx_Go g) {P : Option Value → sv_V → Prop} {Vr : sv_V} (hP : P none Vr) {N : Nat}   {l1 : Int32} {V : sv_V} (h : B_X12_high_339 N  l1 V = some Vr) : sv_N g qX12_high 6 339 [(0, .ref 146), (1, .int l1)] [] V P := by
  unfold B_X12_high_339 at h
  refine sx_aload_n (pc := 339) dX12_high_339 sx_m0 ?_
  refine sx_iconst (pc := 340) (v := 1) dX12_high_340 (by decide) ?_
  obtain ⟨⟨x34, V32⟩, g33, h⟩ := sx_bnd h
  refine sv_cV (pc := 341) (y := qX12_has) (o := (some (.int x34))) (as := [.int (1 : Int32)]) (V1 := V32) hG dX12_high_341 l_X12_576 y0X12_has yvX12_has rfl (Nat.le_of_ble_eq_true rfl) lay_146 kr_12 (by decide) (Nat.le_of_ble_eq_true rfl) rfl rfl rfl (t_X12_has hG ⟨rfl, rfl⟩ g33) ?_
  refine sx_if_eq (pc := 344) (tgt := 404) dX12_high_344 (by decide) (fun c35 => ?_) (fun c35 => ?_)
  · have h := sx_pos c35 h
    exact sv_vret (pc := 404) dX12_high_404 rfl h hP
  · have h := sx_neg c35 h
    refine sx_aload_n (pc := 347) dX12_high_347 sx_m0 ?_
    obtain ⟨⟨x38, V36⟩, g37, h⟩ := sx_bnd h
    refine sv_cV (pc := 348) (y := qX12_pop) (o := (some (.int x38))) (as := []) (V1 := V36) hG dX12_high_348 l_X12_579 y0X12_pop yvX12_pop rfl (Nat.le_of_ble_eq_true rfl) lay_146 kr_12 (by decide) (Nat.le_of_ble_eq_true rfl) rfl rfl rfl (t_X12_pop hG ⟨rfl, rfl⟩ g37) ?_
    refine sx_i2l (pc := 351) dX12_high_351 ?_
    refine sv_tJ (fun x39 hx39 => ?_)
    have h := sx_letE hx39 h
    refine sx_lstore_n (pc := 352) (lo' := [(2, .long x39), (0, .ref 146), (1, .int l1)]) dX12_high_352 (by decide) rfl ?_
    refine sx_aload_n (pc := 353) dX12_high_353 sx_m1 ?_
    refine sx_iload_n (pc := 354) dX12_high_354 sx_m2 ?_
    refine sx_bipush (pc := 355) (v := 100) dX12_high_355 (by decide) ?_
    refine sx_icmp_ne (pc := 357) (tgt := 367) dX12_high_357 (by decide) (fun c40 => ?_) (fun c40 => ?_)
    · have h := sx_neg c40 h
      refine sx_iload_n (pc := 367) dX12_high_367 sx_m2 ?_
      refine sx_bipush (pc := 368) (v := 101) dX12_high_368 (by decide) ?_
      refine sx_icmp_ne (pc := 370) (tgt := 378) dX12_high_370 (by decide) (fun c41 => ?_) (fun c41 => ?_)
      · have h := sx_neg c41 h
        refine sx_iload_n (pc := 378) dX12_high_378 sx_m2 ?_
        refine sx_bipush (pc := 379) (v := 102) dX12_high_379 (by decide) ?_
        refine sx_icmp_ne (pc := 381) (tgt := 392) dX12_high_381 (by decide) (fun c42 => ?_) (fun c42 => ?_)
        · have h := sx_neg c42 h
          refine sx_lload_n (pc := 392) dX12_high_392 sx_m0 ?_
          refine sx_ldc2 (pc := 393) dX12_high_393 k_X12_731 ?_
          refine sx_ladd (pc := 396) dX12_high_396 ?_
          refine sx_ldc2 (pc := 397) dX12_high_397 k_X12_204 ?_
          refine sx_land (pc := 400) dX12_high_400 ?_
          refine sx_wk sx_s0 ?_
          exact tB_X12_high_401 hG hP  h
        · have h := sx_pos c42 h
          refine sx_lload_n (pc := 384) dX12_high_384 sx_m0 ?_
          refine sx_ldc2 (pc := 385) dX12_high_385 k_X12_204 ?_
          refine sx_land (pc := 388) dX12_high_388 ?_
          refine sx_goto (pc := 389) (tgt := 401) dX12_high_389 (by decide) ?_
          refine sx_wk sx_s0 ?_
          exact tB_X12_high_401 hG hP  h
      · have h := sx_pos c41 h
        refine sx_lload_n (pc := 373) dX12_high_373 sx_m0 ?_
        refine sx_lneg (pc := 374) dX12_high_374 ?_
        refine sx_goto (pc := 375) (tgt := 401) dX12_high_375 (by decide) ?_
        refine sx_wk sx_s0 ?_
        exact tB_X12_high_401 hG hP  h
    · have h := sx_pos c40 h
      refine sx_lload_n (pc := 360) dX12_high_360 sx_m0 ?_
      obtain ⟨⟨x45, V43⟩, g44, h⟩ := sx_bnd h
      refine sv_cS (pc := 361) (y := qX12_sizeOf) (o := (some (.long x45))) (as := [.long x39]) (V1 := V43) dX12_high_361 l_X12_198 y0X12_sizeOf ysX12_sizeOf rfl (Nat.le_of_ble_eq_true rfl) (by decide) (Nat.le_of_ble_eq_true rfl) rfl rfl rfl (t_X12_sizeOf hG ⟨rfl, rfl⟩ g44) ?_
      refine sx_goto (pc := 364) (tgt := 401) dX12_high_364 (by decide) ?_
      refine sx_wk sx_s0 ?_
      exact tB_X12_high_401 hG hP  h
def B_X12_high_405 (N : Nat)   (V : sv_V) : Option sv_V := (F_X12_has (1 : Int32) V).bind (fun (x48, V46) => if x48 = 0 then (some V46) else ((F_X12_pop  V46).bind (fun (x52, V50) => (F_X12_rounded x52.toInt64 V50).bind (fun (x55, V53) => (F_X12_push x55 V53).bind (fun V56 => some V56)))))
set_option maxRecDepth 20000 in
theorem tB_X12_high_405 {g : sx_G} (hG : sx_Go g) {P : Option Value → sv_V → Prop} {Vr : sv_V} (hP : P none Vr) {N : Nat}    {V : sv_V} (h : B_X12_high_405 N   V = some Vr) : sv_N g qX12_high 6 405 [(0, .ref 146)] [] V P := by
  unfold B_X12_high_405 at h
  refine sx_aload_n (pc := 405) dX12_high_405 sx_m0 ?_
  refine sx_iconst (pc := 406) (v := 1) dX12_high_406 (by decide) ?_
  obtain ⟨⟨x48, V46⟩, g47, h⟩ := sx_bnd h
  refine sv_cV (pc := 407) (y := qX12_has) (o := (some (.int x48))) (as := [.int (1 : Int32)]) (V1 := V46) hG dX12_high_407 l_X12_576 y0X12_has yvX12_has rfl (Nat.le_of_ble_eq_true rfl) lay_146 kr_12 (by decide) (Nat.le_of_ble_eq_true rfl) rfl rfl rfl (t_X12_has hG ⟨rfl, rfl⟩ g47) ?_
  refine sx_if_eq (pc := 410) (tgt := 426) dX12_high_410 (by decide) (fun c49 => ?_) (fun c49 => ?_)
  · have h := sx_pos c49 h
    exact sv_vret (pc := 426) dX12_high_426 rfl h hP
  · have h := sx_neg c49 h
    refine sx_aload_n (pc := 413) dX12_high_413 sx_m0 ?_
    refine sx_aload_n (pc := 414) dX12_high_414 sx_m0 ?_
    refine sx_aload_n (pc := 415) dX12_high_415 sx_m0 ?_
    obtain ⟨⟨x52, V50⟩, g51, h⟩ := sx_bnd h
    refine sv_cV (pc := 416) (y := qX12_pop) (o := (some (.int x52))) (as := []) (V1 := V50) hG dX12_high_416 l_X12_579 y0X12_pop yvX12_pop rfl (Nat.le_of_ble_eq_true rfl) lay_146 kr_12 (by decide) (Nat.le_of_ble_eq_true rfl) rfl rfl rfl (t_X12_pop hG ⟨rfl, rfl⟩ g51) ?_
    refine sx_i2l (pc := 419) dX12_high_419 ?_
    obtain ⟨⟨x55, V53⟩, g54, h⟩ := sx_bnd h
    refine sv_cV (pc := 420) (y := qX12_rounded) (o := (some (.long x55))) (as := [.long x52.toInt64]) (V1 := V53) hG dX12_high_420 l_X12_647 y0X12_rounded yvX12_rounded rfl (Nat.le_of_ble_eq_true rfl) lay_146 kr_12 (by decide) (Nat.le_of_ble_eq_true rfl) rfl rfl rfl (t_X12_rounded hG ⟨rfl, rfl⟩ g54) ?_
    obtain ⟨V56, g57, h⟩ := sx_bnd h
    refine sv_cV (pc := 423) (y := qX12_push) (o := none) (as := [.long x55]) (V1 := V56) hG dX12_high_423 l_X12_564 y0X12_push yvX12_push rfl (Nat.le_of_ble_eq_true rfl) lay_146 kr_12 (by decide) (Nat.le_of_ble_eq_true rfl) rfl rfl rfl (t_X12_push hG ⟨rfl, rfl⟩ g57) ?_
    exact sv_vret (pc := 426) dX12_high_426 rfl h hP
def B_X12_high_427 (N : Nat)   (V : sv_V) : Option sv_V := (F_X12_has (1 : Int32) V).bind (fun (x60, V58) => some V58)
set_option maxRecDepth 20000 in
theorem tB_X12_high_427 {g : sx_G} (hG : sx_Go g) {P : Option Value → sv_V → Prop} {Vr : sv_V} (hP : P none Vr) {N : Nat}    {V : sv_V} (h : B_X12_high_427 N   V = some Vr) : sv_N g qX12_high 6 427 [(0, .ref 146)] [] V P := by
  unfold B_X12_high_427 at h
  refine sx_aload_n (pc := 427) dX12_high_427 sx_m0 ?_
  refine sx_iconst (pc := 428) (v := 1) dX12_high_428 (by decide) ?_
  obtain ⟨⟨x60, V58⟩, g59, h⟩ := sx_bnd h
  refine sv_cV (pc := 429) (y := qX12_has) (o := (some (.int x60))) (as := [.int (1 : Int32)]) (V1 := V58) hG dX12_high_429 l_X12_576 y0X12_has yvX12_has rfl (Nat.le_of_ble_eq_true rfl) lay_146 kr_12 (by decide) (Nat.le_of_ble_eq_true rfl) rfl rfl rfl (t_X12_has hG ⟨rfl, rfl⟩ g59) ?_
  refine sx_istore_n (pc := 432) (lo' := [(2, .int x60), (0, .ref 146)]) dX12_high_432 (by decide) rfl ?_
  exact sv_vret (pc := 433) dX12_high_433 rfl h hP
def B_X12_high_479 (N : Nat)  (l1 : Int32) (V : sv_V) : Option sv_V := (F_X12_ownRounding l1 V).bind (fun V61 => some V61)
set_option maxRecDepth 20000 in
theorem tB_X12_high_479 {g : sx_G} (hG : sx_Go g) {P : Option Value → sv_V → Prop} {Vr : sv_V} (hP : P none Vr) {N : Nat}   {l1 : Int32} {V : sv_V} (h : B_X12_high_479 N  l1 V = some Vr) : sv_N g qX12_high 6 479 [(0, .ref 146), (1, .int l1)] [] V P := by
  unfold B_X12_high_479 at h
  refine sx_aload_n (pc := 479) dX12_high_479 sx_m0 ?_
  refine sx_iload_n (pc := 480) dX12_high_480 sx_m1 ?_
  obtain ⟨V61, g62, h⟩ := sx_bnd h
  refine sv_cV (pc := 481) (y := qX12_ownRounding) (o := none) (as := [.int l1]) (V1 := V61) hG dX12_high_481 l_X12_733 y0X12_ownRounding yvX12_ownRounding rfl (Nat.le_of_ble_eq_true rfl) lay_146 kr_12 (by decide) (Nat.le_of_ble_eq_true rfl) rfl rfl rfl (t_X12_ownRounding hG ⟨rfl, rfl⟩ g62) ?_
  exact sv_vret (pc := 484) dX12_high_484 rfl h hP
def B_X12_high_523 (N : Nat)  (l3 : Int32) (s0 : Int32) (s1 : Int32) (V : sv_V) : Option sv_V := if s0 = s1 then ((F_X12_jump l3.toInt64 V).bind (fun V64 => some V64)) else (some V)
set_option maxRecDepth 20000 in
theorem tB_X12_high_523 {g : sx_G} (hG : sx_Go g) {P : Option Value → sv_V → Prop} {Vr : sv_V} (hP : P none Vr) {N : Nat}   {l3 : Int32} {s0 : Int32} {s1 : Int32} {V : sv_V} (h : B_X12_high_523 N  l3 s0 s1 V = some Vr) : sv_N g qX12_high 6 523 [(0, .ref 146), (3, .int l3)] [.int s1, .int s0] V P := by
  unfold B_X12_high_523 at h
  refine sx_icmp_ne (pc := 523) (tgt := 532) dX12_high_523 (by decide) (fun c63 => ?_) (fun c63 => ?_)
  · have h := sx_neg c63 h
    exact sv_vret (pc := 532) dX12_high_532 rfl h hP
  · have h := sx_pos c63 h
    refine sx_aload_n (pc := 526) dX12_high_526 sx_m0 ?_
    refine sx_iload_n (pc := 527) dX12_high_527 sx_m1 ?_
    refine sx_i2l (pc := 528) dX12_high_528 ?_
    obtain ⟨V64, g65, h⟩ := sx_bnd h
    refine sv_cV (pc := 529) (y := qX12_jump) (o := none) (as := [.long l3.toInt64]) (V1 := V64) hG dX12_high_529 l_X12_602 y0X12_jump yvX12_jump rfl (Nat.le_of_ble_eq_true rfl) lay_146 kr_12 (by decide) (Nat.le_of_ble_eq_true rfl) rfl rfl rfl (t_X12_jump hG ⟨rfl, rfl⟩ g65) ?_
    exact sv_vret (pc := 532) dX12_high_532 rfl h hP
def B_X12_high_512 (N : Nat)  (l1 : Int32) (l3 : Int32) (s0 : Int32) (V : sv_V) : Option sv_V := if l1 = (120 : Int32) then (B_X12_high_523 N  l3 s0 (1 : Int32) V) else (B_X12_high_523 N  l3 s0 (0 : Int32) V)
set_option maxRecDepth 20000 in
theorem tB_X12_high_512 {g : sx_G} (hG : sx_Go g) {P : Option Value → sv_V → Prop} {Vr : sv_V} (hP : P none Vr) {N : Nat}   {l1 : Int32} {l3 : Int32} {s0 : Int32} {V : sv_V} (h : B_X12_high_512 N  l1 l3 s0 V = some Vr) : sv_N g qX12_high 6 512 [(0, .ref 146), (1, .int l1), (3, .int l3)] [.int s0] V P := by
  unfold B_X12_high_512 at h
  refine sx_iload_n (pc := 512) dX12_high_512 sx_m1 ?_
  refine sx_bipush (pc := 513) (v := 120) dX12_high_513 (by decide) ?_
  refine sx_icmp_ne (pc := 515) (tgt := 522) dX12_high_515 (by decide) (fun c66 => ?_) (fun c66 => ?_)
  · have h := sx_neg c66 h
    refine sx_iconst (pc := 522) (v := 0) dX12_high_522 (by decide) ?_
    refine sx_wk (sx_s1 sx_m0 (sx_s1 sx_m2 sx_s0)) ?_
    exact tB_X12_high_523 hG hP  h
  · have h := sx_pos c66 h
    refine sx_iconst (pc := 518) (v := 1) dX12_high_518 (by decide) ?_
    refine sx_goto (pc := 519) (tgt := 523) dX12_high_519 (by decide) ?_
    refine sx_wk (sx_s1 sx_m0 (sx_s1 sx_m2 sx_s0)) ?_
    exact tB_X12_high_523 hG hP  h
def B_X12_high_485 (N : Nat)  (l1 : Int32) (V : sv_V) : Option sv_V := (F_X12_has (2 : Int32) V).bind (fun (x69, V67) => if x69 = 0 then (some V67) else ((F_X12_pop  V67).bind (fun (x73, V71) => (F_X12_pop  V71).bind (fun (x76, V74) => if x73 = 0 then (B_X12_high_512 N  l1 x76 (0 : Int32) V74) else (B_X12_high_512 N  l1 x76 (1 : Int32) V74)))))
set_option maxRecDepth 20000 in
theorem tB_X12_high_485 {g : sx_G} (hG : sx_Go g) {P : Option Value → sv_V → Prop} {Vr : sv_V} (hP : P none Vr) {N : Nat}   {l1 : Int32} {V : sv_V} (h : B_X12_high_485 N  l1 V = some Vr) : sv_N g qX12_high 6 485 [(0, .ref 146), (1, .int l1)] [] V P := by
  unfold B_X12_high_485 at h
  refine sx_aload_n (pc := 485) dX12_high_485 sx_m0 ?_
  refine sx_iconst (pc := 486) (v := 2) dX12_high_486 (by decide) ?_
  obtain ⟨⟨x69, V67⟩, g68, h⟩ := sx_bnd h
  refine sv_cV (pc := 487) (y := qX12_has) (o := (some (.int x69))) (as := [.int (2 : Int32)]) (V1 := V67) hG dX12_high_487 l_X12_576 y0X12_has yvX12_has rfl (Nat.le_of_ble_eq_true rfl) lay_146 kr_12 (by decide) (Nat.le_of_ble_eq_true rfl) rfl rfl rfl (t_X12_has hG ⟨rfl, rfl⟩ g68) ?_
  refine sx_if_eq (pc := 490) (tgt := 532) dX12_high_490 (by decide) (fun c70 => ?_) (fun c70 => ?_)
  · have h := sx_pos c70 h
    exact sv_vret (pc := 532) dX12_high_532 rfl h hP
  · have h := sx_neg c70 h
    refine sx_aload_n (pc := 493) dX12_high_493 sx_m0 ?_
    obtain ⟨⟨x73, V71⟩, g72, h⟩ := sx_bnd h
    refine sv_cV (pc := 494) (y := qX12_pop) (o := (some (.int x73))) (as := []) (V1 := V71) hG dX12_high_494 l_X12_579 y0X12_pop yvX12_pop rfl (Nat.le_of_ble_eq_true rfl) lay_146 kr_12 (by decide) (Nat.le_of_ble_eq_true rfl) rfl rfl rfl (t_X12_pop hG ⟨rfl, rfl⟩ g72) ?_
    refine sx_istore_n (pc := 497) (lo' := [(2, .int x73), (0, .ref 146), (1, .int l1)]) dX12_high_497 (by decide) rfl ?_
    refine sx_aload_n (pc := 498) dX12_high_498 sx_m1 ?_
    obtain ⟨⟨x76, V74⟩, g75, h⟩ := sx_bnd h
    refine sv_cV (pc := 499) (y := qX12_pop) (o := (some (.int x76))) (as := []) (V1 := V74) hG dX12_high_499 l_X12_579 y0X12_pop yvX12_pop rfl (Nat.le_of_ble_eq_true rfl) lay_146 kr_12 (by decide) (Nat.le_of_ble_eq_true rfl) rfl rfl rfl (t_X12_pop hG ⟨rfl, rfl⟩ g75) ?_
    refine sx_istore_n (pc := 502) (lo' := [(3, .int x76), (2, .int x73), (0, .ref 146), (1, .int l1)]) dX12_high_502 (by decide) rfl ?_
    refine sx_iload_n (pc := 503) dX12_high_503 sx_m1 ?_
    refine sx_if_eq (pc := 504) (tgt := 511) dX12_high_504 (by decide) (fun c77 => ?_) (fun c77 => ?_)
    · have h := sx_pos c77 h
      refine sx_iconst (pc := 511) (v := 0) dX12_high_511 (by decide) ?_
      refine sx_wk (sx_s1 sx_m2 (sx_s1 sx_m3 (sx_s1 sx_m0 sx_s0))) ?_
      exact tB_X12_high_512 hG hP  h
    · have h := sx_neg c77 h
      refine sx_iconst (pc := 507) (v := 1) dX12_high_507 (by decide) ?_
      refine sx_goto (pc := 508) (tgt := 512) dX12_high_508 (by decide) ?_
      refine sx_wk (sx_s1 sx_m2 (sx_s1 sx_m3 (sx_s1 sx_m0 sx_s0))) ?_
      exact tB_X12_high_512 hG hP  h
def B_X12_high_563 (N : Nat)  (l1 : Int32) (V : sv_V) : Option sv_V := (F_X12_more N l1 V).bind (fun V78 => some V78)
set_option maxRecDepth 20000 in
theorem tB_X12_high_563 {g : sx_G} (hG : sx_Go g) {P : Option Value → sv_V → Prop} {Vr : sv_V} (hP : P none Vr) {N : Nat}   {l1 : Int32} {V : sv_V} (h : B_X12_high_563 N  l1 V = some Vr) : sv_N g qX12_high 6 563 [(0, .ref 146), (1, .int l1)] [] V P := by
  unfold B_X12_high_563 at h
  refine sx_aload_n (pc := 563) dX12_high_563 sx_m0 ?_
  refine sx_iload_n (pc := 564) dX12_high_564 sx_m1 ?_
  obtain ⟨V78, g79, h⟩ := sx_bnd h
  refine sv_cV (pc := 565) (y := qX12_more) (o := none) (as := [.int l1]) (V1 := V78) hG dX12_high_565 l_X12_736 y0X12_more yvX12_more rfl (Nat.le_of_ble_eq_true rfl) lay_146 kr_12 (by decide) (Nat.le_of_ble_eq_true rfl) rfl rfl rfl (t_X12_more hG ⟨rfl, rfl⟩ g79) ?_
  exact sv_vret (pc := 568) dX12_high_568 rfl h hP
def F_X12_high (N : Nat) (l1 : Int32) (V : sv_V) : Option sv_V := if l1 = 96 then (B_X12_high_196 N  l1 V) else (if l1 = 97 then (B_X12_high_196 N  l1 V) else (if l1 = 98 then (B_X12_high_196 N  l1 V) else (if l1 = 99 then (B_X12_high_196 N  l1 V) else (if l1 = 100 then (B_X12_high_339 N  l1 V) else (if l1 = 101 then (B_X12_high_339 N  l1 V) else (if l1 = 102 then (B_X12_high_339 N  l1 V) else (if l1 = 103 then (B_X12_high_339 N  l1 V) else (if l1 = 104 then (B_X12_high_405 N   V) else (if l1 = 105 then (B_X12_high_405 N   V) else (if l1 = 106 then (B_X12_high_405 N   V) else (if l1 = 107 then (B_X12_high_405 N   V) else (if l1 = 108 then (B_X12_high_427 N   V) else (if l1 = 109 then (B_X12_high_427 N   V) else (if l1 = 110 then (B_X12_high_427 N   V) else (if l1 = 111 then (B_X12_high_427 N   V) else (if l1 = 112 then ((F_X12_setCvt (1 : Int32) V).bind (fun V97 => some V97)) else (if l1 = 113 then ((F_X12_deltas N (16 : Int32) (1 : Int32) V).bind (fun V100 => some V100)) else (if l1 = 114 then ((F_X12_deltas N (32 : Int32) (1 : Int32) V).bind (fun V103 => some V103)) else (if l1 = 115 then ((F_X12_deltas N (0 : Int32) (0 : Int32) V).bind (fun V106 => some V106)) else (if l1 = 116 then ((F_X12_deltas N (16 : Int32) (0 : Int32) V).bind (fun V109 => some V109)) else (if l1 = 117 then ((F_X12_deltas N (32 : Int32) (0 : Int32) V).bind (fun V112 => some V112)) else (if l1 = 118 then (B_X12_high_479 N  l1 V) else (if l1 = 119 then (B_X12_high_479 N  l1 V) else (if l1 = 120 then (B_X12_high_485 N  l1 V) else (if l1 = 121 then (B_X12_high_485 N  l1 V) else (if l1 = 122 then (sx_let (sv_I V 146 76 (122 : Int32)) (fun V119 => some V119)) else (if l1 = 123 then (B_X12_high_563 N  l1 V) else (if l1 = 124 then ((F_X12_setRounding (124 : Int32) (64 : Int32) (0 : Int32) (63 : Int32) V).bind (fun V122 => some V122)) else (if l1 = 125 then ((F_X12_setRounding (125 : Int32) (64 : Int32) (0 : Int32) (0 : Int32) V).bind (fun V125 => some V125)) else (if l1 = 126 then (B_X12_high_563 N  l1 V) else (if l1 = 127 then (B_X12_high_563 N  l1 V) else (if l1 = 128 then (B_X12_high_563 N  l1 V) else (if l1 = 129 then (B_X12_high_563 N  l1 V) else (if l1 = 130 then (B_X12_high_563 N  l1 V) else (if l1 = 131 then (B_X12_high_563 N  l1 V) else (if l1 = 132 then (B_X12_high_563 N  l1 V) else (if l1 = 133 then (B_X12_high_563 N  l1 V) else (if l1 = 134 then (B_X12_high_563 N  l1 V) else (if l1 = 135 then (B_X12_high_563 N  l1 V) else (if l1 = 136 then (B_X12_high_563 N  l1 V) else (if l1 = 137 then (B_X12_high_563 N  l1 V) else (if l1 = 138 then (B_X12_high_563 N  l1 V) else (if l1 = 139 then (B_X12_high_196 N  l1 V) else (if l1 = 140 then (B_X12_high_196 N  l1 V) else (B_X12_high_563 N  l1 V)))))))))))))))))))))))))))))))))))))))))))))
set_option maxRecDepth 20000 in
theorem t_X12_high {g : sx_G} (hG : sx_Go g) {P : Option Value → sv_V → Prop} {Vr : sv_V} (hP : P none Vr) {N : Nat} {l1 : Int32} {V : sv_V} (h : F_X12_high N l1 V = some Vr) : sv_N g qX12_high 6 0 [(0, .ref 146), (1, .int l1)] [] V P := by
  unfold F_X12_high at h
  refine sx_iload_n (pc := 0) dX12_high_0 sx_m1 ?_
  by_cases c80 : l1 = 96
  · have h := sx_pos c80 h
    refine sx_tabI (pc := 1) (off := 195) (tgt := 196) dX12_high_1 (by rw [c80]; decide) (by rw [c80]; decide) (by rw [c80]; rfl) (by decide) ?_
    refine sx_wk (sx_s1 sx_m0 (sx_s1 sx_m1 sx_s0)) ?_
    exact tB_X12_high_196 hG hP  h
  have h := sx_neg c80 h
  by_cases c81 : l1 = 97
  · have h := sx_pos c81 h
    refine sx_tabI (pc := 1) (off := 195) (tgt := 196) dX12_high_1 (by rw [c81]; decide) (by rw [c81]; decide) (by rw [c81]; rfl) (by decide) ?_
    refine sx_wk (sx_s1 sx_m0 (sx_s1 sx_m1 sx_s0)) ?_
    exact tB_X12_high_196 hG hP  h
  have h := sx_neg c81 h
  by_cases c82 : l1 = 98
  · have h := sx_pos c82 h
    refine sx_tabI (pc := 1) (off := 195) (tgt := 196) dX12_high_1 (by rw [c82]; decide) (by rw [c82]; decide) (by rw [c82]; rfl) (by decide) ?_
    refine sx_wk (sx_s1 sx_m0 (sx_s1 sx_m1 sx_s0)) ?_
    exact tB_X12_high_196 hG hP  h
  have h := sx_neg c82 h
  by_cases c83 : l1 = 99
  · have h := sx_pos c83 h
    refine sx_tabI (pc := 1) (off := 195) (tgt := 196) dX12_high_1 (by rw [c83]; decide) (by rw [c83]; decide) (by rw [c83]; rfl) (by decide) ?_
    refine sx_wk (sx_s1 sx_m0 (sx_s1 sx_m1 sx_s0)) ?_
    exact tB_X12_high_196 hG hP  h
  have h := sx_neg c83 h
  by_cases c84 : l1 = 100
  · have h := sx_pos c84 h
    refine sx_tabI (pc := 1) (off := 338) (tgt := 339) dX12_high_1 (by rw [c84]; decide) (by rw [c84]; decide) (by rw [c84]; rfl) (by decide) ?_
    refine sx_wk (sx_s1 sx_m0 (sx_s1 sx_m1 sx_s0)) ?_
    exact tB_X12_high_339 hG hP  h
  have h := sx_neg c84 h
  by_cases c85 : l1 = 101
  · have h := sx_pos c85 h
    refine sx_tabI (pc := 1) (off := 338) (tgt := 339) dX12_high_1 (by rw [c85]; decide) (by rw [c85]; decide) (by rw [c85]; rfl) (by decide) ?_
    refine sx_wk (sx_s1 sx_m0 (sx_s1 sx_m1 sx_s0)) ?_
    exact tB_X12_high_339 hG hP  h
  have h := sx_neg c85 h
  by_cases c86 : l1 = 102
  · have h := sx_pos c86 h
    refine sx_tabI (pc := 1) (off := 338) (tgt := 339) dX12_high_1 (by rw [c86]; decide) (by rw [c86]; decide) (by rw [c86]; rfl) (by decide) ?_
    refine sx_wk (sx_s1 sx_m0 (sx_s1 sx_m1 sx_s0)) ?_
    exact tB_X12_high_339 hG hP  h
  have h := sx_neg c86 h
  by_cases c87 : l1 = 103
  · have h := sx_pos c87 h
    refine sx_tabI (pc := 1) (off := 338) (tgt := 339) dX12_high_1 (by rw [c87]; decide) (by rw [c87]; decide) (by rw [c87]; rfl) (by decide) ?_
    refine sx_wk (sx_s1 sx_m0 (sx_s1 sx_m1 sx_s0)) ?_
    exact tB_X12_high_339 hG hP  h
  have h := sx_neg c87 h
  by_cases c88 : l1 = 104
  · have h := sx_pos c88 h
    refine sx_tabI (pc := 1) (off := 404) (tgt := 405) dX12_high_1 (by rw [c88]; decide) (by rw [c88]; decide) (by rw [c88]; rfl) (by decide) ?_
    refine sx_wk (sx_s1 sx_m0 sx_s0) ?_
    exact tB_X12_high_405 hG hP  h
  have h := sx_neg c88 h
  by_cases c89 : l1 = 105
  · have h := sx_pos c89 h
    refine sx_tabI (pc := 1) (off := 404) (tgt := 405) dX12_high_1 (by rw [c89]; decide) (by rw [c89]; decide) (by rw [c89]; rfl) (by decide) ?_
    refine sx_wk (sx_s1 sx_m0 sx_s0) ?_
    exact tB_X12_high_405 hG hP  h
  have h := sx_neg c89 h
  by_cases c90 : l1 = 106
  · have h := sx_pos c90 h
    refine sx_tabI (pc := 1) (off := 404) (tgt := 405) dX12_high_1 (by rw [c90]; decide) (by rw [c90]; decide) (by rw [c90]; rfl) (by decide) ?_
    refine sx_wk (sx_s1 sx_m0 sx_s0) ?_
    exact tB_X12_high_405 hG hP  h
  have h := sx_neg c90 h
  by_cases c91 : l1 = 107
  · have h := sx_pos c91 h
    refine sx_tabI (pc := 1) (off := 404) (tgt := 405) dX12_high_1 (by rw [c91]; decide) (by rw [c91]; decide) (by rw [c91]; rfl) (by decide) ?_
    refine sx_wk (sx_s1 sx_m0 sx_s0) ?_
    exact tB_X12_high_405 hG hP  h
  have h := sx_neg c91 h
  by_cases c92 : l1 = 108
  · have h := sx_pos c92 h
    refine sx_tabI (pc := 1) (off := 426) (tgt := 427) dX12_high_1 (by rw [c92]; decide) (by rw [c92]; decide) (by rw [c92]; rfl) (by decide) ?_
    refine sx_wk (sx_s1 sx_m0 sx_s0) ?_
    exact tB_X12_high_427 hG hP  h
  have h := sx_neg c92 h
  by_cases c93 : l1 = 109
  · have h := sx_pos c93 h
    refine sx_tabI (pc := 1) (off := 426) (tgt := 427) dX12_high_1 (by rw [c93]; decide) (by rw [c93]; decide) (by rw [c93]; rfl) (by decide) ?_
    refine sx_wk (sx_s1 sx_m0 sx_s0) ?_
    exact tB_X12_high_427 hG hP  h
  have h := sx_neg c93 h
  by_cases c94 : l1 = 110
  · have h := sx_pos c94 h
    refine sx_tabI (pc := 1) (off := 426) (tgt := 427) dX12_high_1 (by rw [c94]; decide) (by rw [c94]; decide) (by rw [c94]; rfl) (by decide) ?_
    refine sx_wk (sx_s1 sx_m0 sx_s0) ?_
    exact tB_X12_high_427 hG hP  h
  have h := sx_neg c94 h
  by_cases c95 : l1 = 111
  · have h := sx_pos c95 h
    refine sx_tabI (pc := 1) (off := 426) (tgt := 427) dX12_high_1 (by rw [c95]; decide) (by rw [c95]; decide) (by rw [c95]; rfl) (by decide) ?_
    refine sx_wk (sx_s1 sx_m0 sx_s0) ?_
    exact tB_X12_high_427 hG hP  h
  have h := sx_neg c95 h
  by_cases c96 : l1 = 112
  · have h := sx_pos c96 h
    refine sx_tabI (pc := 1) (off := 433) (tgt := 434) dX12_high_1 (by rw [c96]; decide) (by rw [c96]; decide) (by rw [c96]; rfl) (by decide) ?_
    refine sx_aload_n (pc := 434) dX12_high_434 sx_m0 ?_
    refine sx_iconst (pc := 435) (v := 1) dX12_high_435 (by decide) ?_
    obtain ⟨V97, g98, h⟩ := sx_bnd h
    refine sv_cV (pc := 436) (y := qX12_setCvt) (o := none) (as := [.int (1 : Int32)]) (V1 := V97) hG dX12_high_436 l_X12_674 y0X12_setCvt yvX12_setCvt rfl (Nat.le_of_ble_eq_true rfl) lay_146 kr_12 (by decide) (Nat.le_of_ble_eq_true rfl) rfl rfl rfl (t_X12_setCvt hG ⟨rfl, rfl⟩ g98) ?_
    exact sv_vret (pc := 439) dX12_high_439 rfl h hP
  have h := sx_neg c96 h
  by_cases c99 : l1 = 113
  · have h := sx_pos c99 h
    refine sx_tabI (pc := 1) (off := 439) (tgt := 440) dX12_high_1 (by rw [c99]; decide) (by rw [c99]; decide) (by rw [c99]; rfl) (by decide) ?_
    refine sx_aload_n (pc := 440) dX12_high_440 sx_m0 ?_
    refine sx_bipush (pc := 441) (v := 16) dX12_high_441 (by decide) ?_
    refine sx_iconst (pc := 443) (v := 1) dX12_high_443 (by decide) ?_
    obtain ⟨V100, g101, h⟩ := sx_bnd h
    refine sv_cV (pc := 444) (y := qX12_deltas) (o := none) (as := [.int (16 : Int32), .int (1 : Int32)]) (V1 := V100) hG dX12_high_444 l_X12_696 y0X12_deltas yvX12_deltas rfl (Nat.le_of_ble_eq_true rfl) lay_146 kr_12 (by decide) (Nat.le_of_ble_eq_true rfl) rfl rfl rfl (t_X12_deltas hG ⟨rfl, rfl⟩ g101) ?_
    exact sv_vret (pc := 447) dX12_high_447 rfl h hP
  have h := sx_neg c99 h
  by_cases c102 : l1 = 114
  · have h := sx_pos c102 h
    refine sx_tabI (pc := 1) (off := 447) (tgt := 448) dX12_high_1 (by rw [c102]; decide) (by rw [c102]; decide) (by rw [c102]; rfl) (by decide) ?_
    refine sx_aload_n (pc := 448) dX12_high_448 sx_m0 ?_
    refine sx_bipush (pc := 449) (v := 32) dX12_high_449 (by decide) ?_
    refine sx_iconst (pc := 451) (v := 1) dX12_high_451 (by decide) ?_
    obtain ⟨V103, g104, h⟩ := sx_bnd h
    refine sv_cV (pc := 452) (y := qX12_deltas) (o := none) (as := [.int (32 : Int32), .int (1 : Int32)]) (V1 := V103) hG dX12_high_452 l_X12_696 y0X12_deltas yvX12_deltas rfl (Nat.le_of_ble_eq_true rfl) lay_146 kr_12 (by decide) (Nat.le_of_ble_eq_true rfl) rfl rfl rfl (t_X12_deltas hG ⟨rfl, rfl⟩ g104) ?_
    exact sv_vret (pc := 455) dX12_high_455 rfl h hP
  have h := sx_neg c102 h
  by_cases c105 : l1 = 115
  · have h := sx_pos c105 h
    refine sx_tabI (pc := 1) (off := 455) (tgt := 456) dX12_high_1 (by rw [c105]; decide) (by rw [c105]; decide) (by rw [c105]; rfl) (by decide) ?_
    refine sx_aload_n (pc := 456) dX12_high_456 sx_m0 ?_
    refine sx_iconst (pc := 457) (v := 0) dX12_high_457 (by decide) ?_
    refine sx_iconst (pc := 458) (v := 0) dX12_high_458 (by decide) ?_
    obtain ⟨V106, g107, h⟩ := sx_bnd h
    refine sv_cV (pc := 459) (y := qX12_deltas) (o := none) (as := [.int (0 : Int32), .int (0 : Int32)]) (V1 := V106) hG dX12_high_459 l_X12_696 y0X12_deltas yvX12_deltas rfl (Nat.le_of_ble_eq_true rfl) lay_146 kr_12 (by decide) (Nat.le_of_ble_eq_true rfl) rfl rfl rfl (t_X12_deltas hG ⟨rfl, rfl⟩ g107) ?_
    exact sv_vret (pc := 462) dX12_high_462 rfl h hP
  have h := sx_neg c105 h
  by_cases c108 : l1 = 116
  · have h := sx_pos c108 h
    refine sx_tabI (pc := 1) (off := 462) (tgt := 463) dX12_high_1 (by rw [c108]; decide) (by rw [c108]; decide) (by rw [c108]; rfl) (by decide) ?_
    refine sx_aload_n (pc := 463) dX12_high_463 sx_m0 ?_
    refine sx_bipush (pc := 464) (v := 16) dX12_high_464 (by decide) ?_
    refine sx_iconst (pc := 466) (v := 0) dX12_high_466 (by decide) ?_
    obtain ⟨V109, g110, h⟩ := sx_bnd h
    refine sv_cV (pc := 467) (y := qX12_deltas) (o := none) (as := [.int (16 : Int32), .int (0 : Int32)]) (V1 := V109) hG dX12_high_467 l_X12_696 y0X12_deltas yvX12_deltas rfl (Nat.le_of_ble_eq_true rfl) lay_146 kr_12 (by decide) (Nat.le_of_ble_eq_true rfl) rfl rfl rfl (t_X12_deltas hG ⟨rfl, rfl⟩ g110) ?_
    exact sv_vret (pc := 470) dX12_high_470 rfl h hP
  have h := sx_neg c108 h
  by_cases c111 : l1 = 117
  · have h := sx_pos c111 h
    refine sx_tabI (pc := 1) (off := 470) (tgt := 471) dX12_high_1 (by rw [c111]; decide) (by rw [c111]; decide) (by rw [c111]; rfl) (by decide) ?_
    refine sx_aload_n (pc := 471) dX12_high_471 sx_m0 ?_
    refine sx_bipush (pc := 472) (v := 32) dX12_high_472 (by decide) ?_
    refine sx_iconst (pc := 474) (v := 0) dX12_high_474 (by decide) ?_
    obtain ⟨V112, g113, h⟩ := sx_bnd h
    refine sv_cV (pc := 475) (y := qX12_deltas) (o := none) (as := [.int (32 : Int32), .int (0 : Int32)]) (V1 := V112) hG dX12_high_475 l_X12_696 y0X12_deltas yvX12_deltas rfl (Nat.le_of_ble_eq_true rfl) lay_146 kr_12 (by decide) (Nat.le_of_ble_eq_true rfl) rfl rfl rfl (t_X12_deltas hG ⟨rfl, rfl⟩ g113) ?_
    exact sv_vret (pc := 478) dX12_high_478 rfl h hP
  have h := sx_neg c111 h
  by_cases c114 : l1 = 118
  · have h := sx_pos c114 h
    refine sx_tabI (pc := 1) (off := 478) (tgt := 479) dX12_high_1 (by rw [c114]; decide) (by rw [c114]; decide) (by rw [c114]; rfl) (by decide) ?_
    refine sx_wk (sx_s1 sx_m0 (sx_s1 sx_m1 sx_s0)) ?_
    exact tB_X12_high_479 hG hP  h
  have h := sx_neg c114 h
  by_cases c115 : l1 = 119
  · have h := sx_pos c115 h
    refine sx_tabI (pc := 1) (off := 478) (tgt := 479) dX12_high_1 (by rw [c115]; decide) (by rw [c115]; decide) (by rw [c115]; rfl) (by decide) ?_
    refine sx_wk (sx_s1 sx_m0 (sx_s1 sx_m1 sx_s0)) ?_
    exact tB_X12_high_479 hG hP  h
  have h := sx_neg c115 h
  by_cases c116 : l1 = 120
  · have h := sx_pos c116 h
    refine sx_tabI (pc := 1) (off := 484) (tgt := 485) dX12_high_1 (by rw [c116]; decide) (by rw [c116]; decide) (by rw [c116]; rfl) (by decide) ?_
    refine sx_wk (sx_s1 sx_m0 (sx_s1 sx_m1 sx_s0)) ?_
    exact tB_X12_high_485 hG hP  h
  have h := sx_neg c116 h
  by_cases c117 : l1 = 121
  · have h := sx_pos c117 h
    refine sx_tabI (pc := 1) (off := 484) (tgt := 485) dX12_high_1 (by rw [c117]; decide) (by rw [c117]; decide) (by rw [c117]; rfl) (by decide) ?_
    refine sx_wk (sx_s1 sx_m0 (sx_s1 sx_m1 sx_s0)) ?_
    exact tB_X12_high_485 hG hP  h
  have h := sx_neg c117 h
  by_cases c118 : l1 = 122
  · have h := sx_pos c118 h
    refine sx_tabI (pc := 1) (off := 532) (tgt := 533) dX12_high_1 (by rw [c118]; decide) (by rw [c118]; decide) (by rw [c118]; rfl) (by decide) ?_
    refine sx_aload_n (pc := 533) dX12_high_533 sx_m0 ?_
    refine sx_bipush (pc := 534) (v := 122) dX12_high_534 (by decide) ?_
    obtain ⟨V119, hV119⟩ : ∃ z : sv_V, z = sv_I V 146 76 (122 : Int32) := ⟨_, rfl⟩
    have h := sx_letE hV119 h
    refine sv_putI (pc := 536) hG dX12_high_536 f_12_476 lay_146 rfl hV119 ?_
    exact sv_vret (pc := 539) dX12_high_539 rfl h hP
  have h := sx_neg c118 h
  by_cases c120 : l1 = 123
  · have h := sx_pos c120 h
    refine sx_tabI (pc := 1) (off := 562) (tgt := 563) dX12_high_1 (by rw [c120]; decide) (by rw [c120]; decide) (by rw [c120]; rfl) (by decide) ?_
    refine sx_wk (sx_s1 sx_m0 (sx_s1 sx_m1 sx_s0)) ?_
    exact tB_X12_high_563 hG hP  h
  have h := sx_neg c120 h
  by_cases c121 : l1 = 124
  · have h := sx_pos c121 h
    refine sx_tabI (pc := 1) (off := 539) (tgt := 540) dX12_high_1 (by rw [c121]; decide) (by rw [c121]; decide) (by rw [c121]; rfl) (by decide) ?_
    refine sx_aload_n (pc := 540) dX12_high_540 sx_m0 ?_
    refine sx_bipush (pc := 541) (v := 124) dX12_high_541 (by decide) ?_
    refine sx_bipush (pc := 543) (v := 64) dX12_high_543 (by decide) ?_
    refine sx_iconst (pc := 545) (v := 0) dX12_high_545 (by decide) ?_
    refine sx_bipush (pc := 546) (v := 63) dX12_high_546 (by decide) ?_
    obtain ⟨V122, g123, h⟩ := sx_bnd h
    refine sv_cV (pc := 548) (y := qX12_setRounding) (o := none) (as := [.int (124 : Int32), .int (64 : Int32), .int (0 : Int32), .int (63 : Int32)]) (V1 := V122) hG dX12_high_548 l_X12_472 y0X12_setRounding yvX12_setRounding rfl (Nat.le_of_ble_eq_true rfl) lay_146 kr_12 (by decide) (Nat.le_of_ble_eq_true rfl) rfl rfl rfl (t_X12_setRounding hG ⟨rfl, rfl⟩ g123) ?_
    exact sv_vret (pc := 551) dX12_high_551 rfl h hP
  have h := sx_neg c121 h
  by_cases c124 : l1 = 125
  · have h := sx_pos c124 h
    refine sx_tabI (pc := 1) (off := 551) (tgt := 552) dX12_high_1 (by rw [c124]; decide) (by rw [c124]; decide) (by rw [c124]; rfl) (by decide) ?_
    refine sx_aload_n (pc := 552) dX12_high_552 sx_m0 ?_
    refine sx_bipush (pc := 553) (v := 125) dX12_high_553 (by decide) ?_
    refine sx_bipush (pc := 555) (v := 64) dX12_high_555 (by decide) ?_
    refine sx_iconst (pc := 557) (v := 0) dX12_high_557 (by decide) ?_
    refine sx_iconst (pc := 558) (v := 0) dX12_high_558 (by decide) ?_
    obtain ⟨V125, g126, h⟩ := sx_bnd h
    refine sv_cV (pc := 559) (y := qX12_setRounding) (o := none) (as := [.int (125 : Int32), .int (64 : Int32), .int (0 : Int32), .int (0 : Int32)]) (V1 := V125) hG dX12_high_559 l_X12_472 y0X12_setRounding yvX12_setRounding rfl (Nat.le_of_ble_eq_true rfl) lay_146 kr_12 (by decide) (Nat.le_of_ble_eq_true rfl) rfl rfl rfl (t_X12_setRounding hG ⟨rfl, rfl⟩ g126) ?_
    exact sv_vret (pc := 562) dX12_high_562 rfl h hP
  have h := sx_neg c124 h
  by_cases c127 : l1 = 126
  · have h := sx_pos c127 h
    refine sx_tabI (pc := 1) (off := 562) (tgt := 563) dX12_high_1 (by rw [c127]; decide) (by rw [c127]; decide) (by rw [c127]; rfl) (by decide) ?_
    refine sx_wk (sx_s1 sx_m0 (sx_s1 sx_m1 sx_s0)) ?_
    exact tB_X12_high_563 hG hP  h
  have h := sx_neg c127 h
  by_cases c128 : l1 = 127
  · have h := sx_pos c128 h
    refine sx_tabI (pc := 1) (off := 562) (tgt := 563) dX12_high_1 (by rw [c128]; decide) (by rw [c128]; decide) (by rw [c128]; rfl) (by decide) ?_
    refine sx_wk (sx_s1 sx_m0 (sx_s1 sx_m1 sx_s0)) ?_
    exact tB_X12_high_563 hG hP  h
  have h := sx_neg c128 h
  by_cases c129 : l1 = 128
  · have h := sx_pos c129 h
    refine sx_tabI (pc := 1) (off := 562) (tgt := 563) dX12_high_1 (by rw [c129]; decide) (by rw [c129]; decide) (by rw [c129]; rfl) (by decide) ?_
    refine sx_wk (sx_s1 sx_m0 (sx_s1 sx_m1 sx_s0)) ?_
    exact tB_X12_high_563 hG hP  h
  have h := sx_neg c129 h
  by_cases c130 : l1 = 129
  · have h := sx_pos c130 h
    refine sx_tabI (pc := 1) (off := 562) (tgt := 563) dX12_high_1 (by rw [c130]; decide) (by rw [c130]; decide) (by rw [c130]; rfl) (by decide) ?_
    refine sx_wk (sx_s1 sx_m0 (sx_s1 sx_m1 sx_s0)) ?_
    exact tB_X12_high_563 hG hP  h
  have h := sx_neg c130 h
  by_cases c131 : l1 = 130
  · have h := sx_pos c131 h
    refine sx_tabI (pc := 1) (off := 562) (tgt := 563) dX12_high_1 (by rw [c131]; decide) (by rw [c131]; decide) (by rw [c131]; rfl) (by decide) ?_
    refine sx_wk (sx_s1 sx_m0 (sx_s1 sx_m1 sx_s0)) ?_
    exact tB_X12_high_563 hG hP  h
  have h := sx_neg c131 h
  by_cases c132 : l1 = 131
  · have h := sx_pos c132 h
    refine sx_tabI (pc := 1) (off := 562) (tgt := 563) dX12_high_1 (by rw [c132]; decide) (by rw [c132]; decide) (by rw [c132]; rfl) (by decide) ?_
    refine sx_wk (sx_s1 sx_m0 (sx_s1 sx_m1 sx_s0)) ?_
    exact tB_X12_high_563 hG hP  h
  have h := sx_neg c132 h
  by_cases c133 : l1 = 132
  · have h := sx_pos c133 h
    refine sx_tabI (pc := 1) (off := 562) (tgt := 563) dX12_high_1 (by rw [c133]; decide) (by rw [c133]; decide) (by rw [c133]; rfl) (by decide) ?_
    refine sx_wk (sx_s1 sx_m0 (sx_s1 sx_m1 sx_s0)) ?_
    exact tB_X12_high_563 hG hP  h
  have h := sx_neg c133 h
  by_cases c134 : l1 = 133
  · have h := sx_pos c134 h
    refine sx_tabI (pc := 1) (off := 562) (tgt := 563) dX12_high_1 (by rw [c134]; decide) (by rw [c134]; decide) (by rw [c134]; rfl) (by decide) ?_
    refine sx_wk (sx_s1 sx_m0 (sx_s1 sx_m1 sx_s0)) ?_
    exact tB_X12_high_563 hG hP  h
  have h := sx_neg c134 h
  by_cases c135 : l1 = 134
  · have h := sx_pos c135 h
    refine sx_tabI (pc := 1) (off := 562) (tgt := 563) dX12_high_1 (by rw [c135]; decide) (by rw [c135]; decide) (by rw [c135]; rfl) (by decide) ?_
    refine sx_wk (sx_s1 sx_m0 (sx_s1 sx_m1 sx_s0)) ?_
    exact tB_X12_high_563 hG hP  h
  have h := sx_neg c135 h
  by_cases c136 : l1 = 135
  · have h := sx_pos c136 h
    refine sx_tabI (pc := 1) (off := 562) (tgt := 563) dX12_high_1 (by rw [c136]; decide) (by rw [c136]; decide) (by rw [c136]; rfl) (by decide) ?_
    refine sx_wk (sx_s1 sx_m0 (sx_s1 sx_m1 sx_s0)) ?_
    exact tB_X12_high_563 hG hP  h
  have h := sx_neg c136 h
  by_cases c137 : l1 = 136
  · have h := sx_pos c137 h
    refine sx_tabI (pc := 1) (off := 562) (tgt := 563) dX12_high_1 (by rw [c137]; decide) (by rw [c137]; decide) (by rw [c137]; rfl) (by decide) ?_
    refine sx_wk (sx_s1 sx_m0 (sx_s1 sx_m1 sx_s0)) ?_
    exact tB_X12_high_563 hG hP  h
  have h := sx_neg c137 h
  by_cases c138 : l1 = 137
  · have h := sx_pos c138 h
    refine sx_tabI (pc := 1) (off := 562) (tgt := 563) dX12_high_1 (by rw [c138]; decide) (by rw [c138]; decide) (by rw [c138]; rfl) (by decide) ?_
    refine sx_wk (sx_s1 sx_m0 (sx_s1 sx_m1 sx_s0)) ?_
    exact tB_X12_high_563 hG hP  h
  have h := sx_neg c138 h
  by_cases c139 : l1 = 138
  · have h := sx_pos c139 h
    refine sx_tabI (pc := 1) (off := 562) (tgt := 563) dX12_high_1 (by rw [c139]; decide) (by rw [c139]; decide) (by rw [c139]; rfl) (by decide) ?_
    refine sx_wk (sx_s1 sx_m0 (sx_s1 sx_m1 sx_s0)) ?_
    exact tB_X12_high_563 hG hP  h
  have h := sx_neg c139 h
  by_cases c140 : l1 = 139
  · have h := sx_pos c140 h
    refine sx_tabI (pc := 1) (off := 195) (tgt := 196) dX12_high_1 (by rw [c140]; decide) (by rw [c140]; decide) (by rw [c140]; rfl) (by decide) ?_
    refine sx_wk (sx_s1 sx_m0 (sx_s1 sx_m1 sx_s0)) ?_
    exact tB_X12_high_196 hG hP  h
  have h := sx_neg c140 h
  by_cases c141 : l1 = 140
  · have h := sx_pos c141 h
    refine sx_tabI (pc := 1) (off := 195) (tgt := 196) dX12_high_1 (by rw [c141]; decide) (by rw [c141]; decide) (by rw [c141]; rfl) (by decide) ?_
    refine sx_wk (sx_s1 sx_m0 (sx_s1 sx_m1 sx_s0)) ?_
    exact tB_X12_high_196 hG hP  h
  have h := sx_neg c141 h
  refine sx_tabO (pc := 1) (tgt := 563) dX12_high_1 (by have ec80 := lv_neT (a := 96) c80 rfl; have ec81 := lv_neT (a := 97) c81 rfl; have ec82 := lv_neT (a := 98) c82 rfl; have ec83 := lv_neT (a := 99) c83 rfl; have ec84 := lv_neT (a := 100) c84 rfl; have ec85 := lv_neT (a := 101) c85 rfl; have ec86 := lv_neT (a := 102) c86 rfl; have ec87 := lv_neT (a := 103) c87 rfl; have ec88 := lv_neT (a := 104) c88 rfl; have ec89 := lv_neT (a := 105) c89 rfl; have ec90 := lv_neT (a := 106) c90 rfl; have ec91 := lv_neT (a := 107) c91 rfl; have ec92 := lv_neT (a := 108) c92 rfl; have ec93 := lv_neT (a := 109) c93 rfl; have ec94 := lv_neT (a := 110) c94 rfl; have ec95 := lv_neT (a := 111) c95 rfl; have ec96 := lv_neT (a := 112) c96 rfl; have ec99 := lv_neT (a := 113) c99 rfl; have ec102 := lv_neT (a := 114) c102 rfl; have ec105 := lv_neT (a := 115) c105 rfl; have ec108 := lv_neT (a := 116) c108 rfl; have ec111 := lv_neT (a := 117) c111 rfl; have ec114 := lv_neT (a := 118) c114 rfl; have ec115 := lv_neT (a := 119) c115 rfl; have ec116 := lv_neT (a := 120) c116 rfl; have ec117 := lv_neT (a := 121) c117 rfl; have ec118 := lv_neT (a := 122) c118 rfl; have ec120 := lv_neT (a := 123) c120 rfl; have ec121 := lv_neT (a := 124) c121 rfl; have ec124 := lv_neT (a := 125) c124 rfl; have ec127 := lv_neT (a := 126) c127 rfl; have ec128 := lv_neT (a := 127) c128 rfl; have ec129 := lv_neT (a := 128) c129 rfl; have ec130 := lv_neT (a := 129) c130 rfl; have ec131 := lv_neT (a := 130) c131 rfl; have ec132 := lv_neT (a := 131) c132 rfl; have ec133 := lv_neT (a := 132) c133 rfl; have ec134 := lv_neT (a := 133) c134 rfl; have ec135 := lv_neT (a := 134) c135 rfl; have ec136 := lv_neT (a := 135) c136 rfl; have ec137 := lv_neT (a := 136) c137 rfl; have ec138 := lv_neT (a := 137) c138 rfl; have ec139 := lv_neT (a := 138) c139 rfl; have ec140 := lv_neT (a := 139) c140 rfl; have ec141 := lv_neT (a := 140) c141 rfl; omega) (by decide) ?_
  refine sx_wk (sx_s1 sx_m0 (sx_s1 sx_m1 sx_s0)) ?_
  exact tB_X12_high_563 hG hP  h
end
section
/-! methods: X12_makePart, X12_glyph, X1_fillIn, X3_glyphsHold, X4_findFault, X5_vectorCodes, X5_singlePointCodes -/
def ncX12_makePart : Nat := 7512255937291101426135205929944614400798332413065336172444454557413402061346465809727922545649984005264243915578060553453490067694499925241210969109431204838523564195833745334461382011223596089292099224902261510692694492004263165343048239124367644939725835269925889577856722660901164804017343232945808203423105455634115098704469784658368453939999754995618250203203523911838872491339949814193186895361241367453280863584109626494596652027753651471306944750664908004178310480872211605214832101056334505114242628331899732046904645689849506049662947216889123716170065051161474454317461249703758869763615416392757611223038139841345079125346640164667619745552424652653978052182250514281607540289801733822519748120020697481588781839866249988917329577714567652110174491321314943660709779094822297012410198563403577050164012719987914546808679644494614429410906597563621730869394501778192697228945759902720456233872704134495110920095585466426445964335837504932408167579150198952186153515363965446493197067489720633888244041273998032333721013278527672148049584242154248731101340801947882494315502629780466802757699129126117409220590665235846326956884708555663974433571462995276048313507338107279992656983847734545620101105036341862077390958230202884837104505517904919390764087189959095467371020621403382288846858874436344067584838483577777912183170363859367467796995879561506188229479660273465913720715940740370048493177530612334960813114564329315465309143814733329291206494045347567536478284199189041124086089507528028141020838254378947540908714770888524144047406579391697545980895082384444093224150235041674131405021197628789347106205727038463839814463521374862953579348473605141038443257175471316972539484777460778
theorem kcX12_makePart : CK cX12_makePart ncX12_makePart 708 := ⟨by decide +kernel, by decide +kernel⟩
theorem dX12_makePart_0 : decode cX12_makePart 0 = .ok (.aload_n 0, 1) := dl_o42 kcX12_makePart (by decide +kernel)
theorem dX12_makePart_1 : decode cX12_makePart 1 = .ok (.getfield 807, 3) := dl_o180 kcX12_makePart (by decide +kernel)
theorem dX12_makePart_4 : decode cX12_makePart 4 = .ok (.bipush 60, 2) := dl_o16 kcX12_makePart 60 (by decide +kernel) (by decide +kernel)
theorem dX12_makePart_6 : decode cX12_makePart 6 = .ok (.if_icmp .ne 10, 3) := dl_o160 kcX12_makePart 10 (by decide +kernel) (by decide +kernel)
theorem dX12_makePart_9 : decode cX12_makePart 9 = .ok (.aload_n 0, 1) := dl_o42 kcX12_makePart (by decide +kernel)
theorem dX12_makePart_10 : decode cX12_makePart 10 = .ok (.bipush 12, 2) := dl_o16 kcX12_makePart 12 (by decide +kernel) (by decide +kernel)
theorem dX12_makePart_12 : decode cX12_makePart 12 = .ok (.invokevirtual 795, 3) := dl_o182 kcX12_makePart (by decide +kernel)
theorem dX12_makePart_15 : decode cX12_makePart 15 = .ok (.return_, 1) := dl_o177 kcX12_makePart (by decide +kernel)
theorem dX12_makePart_16 : decode cX12_makePart 16 = .ok (.aload_n 0, 1) := dl_o42 kcX12_makePart (by decide +kernel)
theorem dX12_makePart_17 : decode cX12_makePart 17 = .ok (.dup, 1) := dl_o89 kcX12_makePart (by decide +kernel)
theorem dX12_makePart_18 : decode cX12_makePart 18 = .ok (.getfield 807, 3) := dl_o180 kcX12_makePart (by decide +kernel)
theorem dX12_makePart_21 : decode cX12_makePart 21 = .ok (.iconst 1, 1) := dl_o4 kcX12_makePart (by decide +kernel)
theorem dX12_makePart_22 : decode cX12_makePart 22 = .ok (.iadd, 1) := dl_o96 kcX12_makePart (by decide +kernel)
theorem dX12_makePart_23 : decode cX12_makePart 23 = .ok (.putfield 807, 3) := dl_o181 kcX12_makePart (by decide +kernel)
theorem dX12_makePart_26 : decode cX12_makePart 26 = .ok (.aload_n 0, 1) := dl_o42 kcX12_makePart (by decide +kernel)
theorem dX12_makePart_27 : decode cX12_makePart 27 = .ok (.iload_n 1, 1) := dl_o27 kcX12_makePart (by decide +kernel)
theorem dX12_makePart_28 : decode cX12_makePart 28 = .ok (.invokevirtual 278, 3) := dl_o182 kcX12_makePart (by decide +kernel)
theorem dX12_makePart_31 : decode cX12_makePart 31 = .ok (.istore 4, 2) := dl_o54 kcX12_makePart (by decide +kernel)
theorem dX12_makePart_33 : decode cX12_makePart 33 = .ok (.aload_n 0, 1) := dl_o42 kcX12_makePart (by decide +kernel)
theorem dX12_makePart_34 : decode cX12_makePart 34 = .ok (.getfield 45, 3) := dl_o180 kcX12_makePart (by decide +kernel)
theorem dX12_makePart_37 : decode cX12_makePart 37 = .ok (.iload_n 2, 1) := dl_o28 kcX12_makePart (by decide +kernel)
theorem dX12_makePart_38 : decode cX12_makePart 38 = .ok (.iaload, 1) := dl_o46 kcX12_makePart (by decide +kernel)
theorem dX12_makePart_39 : decode cX12_makePart 39 = .ok (.istore 5, 2) := dl_o54 kcX12_makePart (by decide +kernel)
theorem dX12_makePart_41 : decode cX12_makePart 41 = .ok (.aload_n 0, 1) := dl_o42 kcX12_makePart (by decide +kernel)
theorem dX12_makePart_42 : decode cX12_makePart 42 = .ok (.iload 5, 2) := dl_o21 kcX12_makePart (by decide +kernel)
theorem dX12_makePart_44 : decode cX12_makePart 44 = .ok (.iload_n 3, 1) := dl_o29 kcX12_makePart (by decide +kernel)
theorem dX12_makePart_45 : decode cX12_makePart 45 = .ok (.iconst 1, 1) := dl_o4 kcX12_makePart (by decide +kernel)
theorem dX12_makePart_46 : decode cX12_makePart 46 = .ok (.iadd, 1) := dl_o96 kcX12_makePart (by decide +kernel)
theorem dX12_makePart_47 : decode cX12_makePart 47 = .ok (.invokevirtual 810, 3) := dl_o182 kcX12_makePart (by decide +kernel)
theorem dX12_makePart_50 : decode cX12_makePart 50 = .ok (.aload_n 0, 1) := dl_o42 kcX12_makePart (by decide +kernel)
theorem dX12_makePart_51 : decode cX12_makePart 51 = .ok (.iload_n 1, 1) := dl_o27 kcX12_makePart (by decide +kernel)
theorem dX12_makePart_52 : decode cX12_makePart 52 = .ok (.invokevirtual 278, 3) := dl_o182 kcX12_makePart (by decide +kernel)
theorem dX12_makePart_55 : decode cX12_makePart 55 = .ok (.istore 4, 2) := dl_o54 kcX12_makePart (by decide +kernel)
theorem dX12_makePart_57 : decode cX12_makePart 57 = .ok (.aload_n 0, 1) := dl_o42 kcX12_makePart (by decide +kernel)
theorem dX12_makePart_58 : decode cX12_makePart 58 = .ok (.getfield 409, 3) := dl_o180 kcX12_makePart (by decide +kernel)
theorem dX12_makePart_61 : decode cX12_makePart 61 = .ok (.ifCond .le 4, 3) := dl_o158 kcX12_makePart 4 (by decide +kernel) (by decide +kernel)
theorem dX12_makePart_64 : decode cX12_makePart 64 = .ok (.return_, 1) := dl_o177 kcX12_makePart (by decide +kernel)
theorem dX12_makePart_65 : decode cX12_makePart 65 = .ok (.bipush 102, 2) := dl_o16 kcX12_makePart 102 (by decide +kernel) (by decide +kernel)
theorem dX12_makePart_67 : decode cX12_makePart 67 = .ok (.iload_n 3, 1) := dl_o29 kcX12_makePart (by decide +kernel)
theorem dX12_makePart_68 : decode cX12_makePart 68 = .ok (.imul, 1) := dl_o104 kcX12_makePart (by decide +kernel)
theorem dX12_makePart_69 : decode cX12_makePart 69 = .ok (.istore 6, 2) := dl_o54 kcX12_makePart (by decide +kernel)
theorem dX12_makePart_71 : decode cX12_makePart 71 = .ok (.iload 6, 2) := dl_o21 kcX12_makePart (by decide +kernel)
theorem dX12_makePart_73 : decode cX12_makePart 73 = .ok (.bipush 102, 2) := dl_o16 kcX12_makePart 102 (by decide +kernel) (by decide +kernel)
theorem dX12_makePart_75 : decode cX12_makePart 75 = .ok (.iadd, 1) := dl_o96 kcX12_makePart (by decide +kernel)
theorem dX12_makePart_76 : decode cX12_makePart 76 = .ok (.istore 7, 2) := dl_o54 kcX12_makePart (by decide +kernel)
theorem dX12_makePart_78 : decode cX12_makePart 78 = .ok (.aload_n 0, 1) := dl_o42 kcX12_makePart (by decide +kernel)
theorem dX12_makePart_79 : decode cX12_makePart 79 = .ok (.getfield 146, 3) := dl_o180 kcX12_makePart (by decide +kernel)
theorem dX12_makePart_82 : decode cX12_makePart 82 = .ok (.iload_n 3, 1) := dl_o29 kcX12_makePart (by decide +kernel)
theorem dX12_makePart_83 : decode cX12_makePart 83 = .ok (.iaload, 1) := dl_o46 kcX12_makePart (by decide +kernel)
theorem dX12_makePart_84 : decode cX12_makePart 84 = .ok (.istore 8, 2) := dl_o54 kcX12_makePart (by decide +kernel)
theorem dX12_makePart_86 : decode cX12_makePart 86 = .ok (.aload_n 0, 1) := dl_o42 kcX12_makePart (by decide +kernel)
theorem dX12_makePart_87 : decode cX12_makePart 87 = .ok (.getfield 146, 3) := dl_o180 kcX12_makePart (by decide +kernel)
theorem dX12_makePart_90 : decode cX12_makePart 90 = .ok (.iload_n 3, 1) := dl_o29 kcX12_makePart (by decide +kernel)
theorem dX12_makePart_91 : decode cX12_makePart 91 = .ok (.iconst 1, 1) := dl_o4 kcX12_makePart (by decide +kernel)
theorem dX12_makePart_92 : decode cX12_makePart 92 = .ok (.iadd, 1) := dl_o96 kcX12_makePart (by decide +kernel)
theorem dX12_makePart_93 : decode cX12_makePart 93 = .ok (.iaload, 1) := dl_o46 kcX12_makePart (by decide +kernel)
theorem dX12_makePart_94 : decode cX12_makePart 94 = .ok (.istore 9, 2) := dl_o54 kcX12_makePart (by decide +kernel)
theorem dX12_makePart_96 : decode cX12_makePart 96 = .ok (.iload 8, 2) := dl_o21 kcX12_makePart (by decide +kernel)
theorem dX12_makePart_98 : decode cX12_makePart 98 = .ok (.iload 9, 2) := dl_o21 kcX12_makePart (by decide +kernel)
theorem dX12_makePart_100 : decode cX12_makePart 100 = .ok (.iadd, 1) := dl_o96 kcX12_makePart (by decide +kernel)
theorem dX12_makePart_101 : decode cX12_makePart 101 = .ok (.bipush 100, 2) := dl_o16 kcX12_makePart 100 (by decide +kernel) (by decide +kernel)
theorem dX12_makePart_103 : decode cX12_makePart 103 = .ok (.if_icmp .gt 23, 3) := dl_o163 kcX12_makePart 23 (by decide +kernel) (by decide +kernel)
theorem dX12_makePart_106 : decode cX12_makePart 106 = .ok (.aload_n 0, 1) := dl_o42 kcX12_makePart (by decide +kernel)
theorem dX12_makePart_107 : decode cX12_makePart 107 = .ok (.getfield 149, 3) := dl_o180 kcX12_makePart (by decide +kernel)
theorem dX12_makePart_110 : decode cX12_makePart 110 = .ok (.iload_n 3, 1) := dl_o29 kcX12_makePart (by decide +kernel)
theorem dX12_makePart_111 : decode cX12_makePart 111 = .ok (.iaload, 1) := dl_o46 kcX12_makePart (by decide +kernel)
theorem dX12_makePart_112 : decode cX12_makePart 112 = .ok (.aload_n 0, 1) := dl_o42 kcX12_makePart (by decide +kernel)
theorem dX12_makePart_113 : decode cX12_makePart 113 = .ok (.getfield 149, 3) := dl_o180 kcX12_makePart (by decide +kernel)
theorem dX12_makePart_116 : decode cX12_makePart 116 = .ok (.iload_n 3, 1) := dl_o29 kcX12_makePart (by decide +kernel)
theorem dX12_makePart_117 : decode cX12_makePart 117 = .ok (.iconst 1, 1) := dl_o4 kcX12_makePart (by decide +kernel)
theorem dX12_makePart_118 : decode cX12_makePart 118 = .ok (.iadd, 1) := dl_o96 kcX12_makePart (by decide +kernel)
theorem dX12_makePart_119 : decode cX12_makePart 119 = .ok (.iaload, 1) := dl_o46 kcX12_makePart (by decide +kernel)
theorem dX12_makePart_120 : decode cX12_makePart 120 = .ok (.iadd, 1) := dl_o96 kcX12_makePart (by decide +kernel)
theorem dX12_makePart_121 : decode cX12_makePart 121 = .ok (.bipush 20, 2) := dl_o16 kcX12_makePart 20 (by decide +kernel) (by decide +kernel)
theorem dX12_makePart_123 : decode cX12_makePart 123 = .ok (.if_icmp .le 10, 3) := dl_o164 kcX12_makePart 10 (by decide +kernel) (by decide +kernel)
theorem dX12_makePart_126 : decode cX12_makePart 126 = .ok (.aload_n 0, 1) := dl_o42 kcX12_makePart (by decide +kernel)
theorem dX12_makePart_127 : decode cX12_makePart 127 = .ok (.bipush 12, 2) := dl_o16 kcX12_makePart 12 (by decide +kernel) (by decide +kernel)
theorem dX12_makePart_129 : decode cX12_makePart 129 = .ok (.invokevirtual 795, 3) := dl_o182 kcX12_makePart (by decide +kernel)
theorem dX12_makePart_132 : decode cX12_makePart 132 = .ok (.return_, 1) := dl_o177 kcX12_makePart (by decide +kernel)
theorem dX12_makePart_133 : decode cX12_makePart 133 = .ok (.aload_n 0, 1) := dl_o42 kcX12_makePart (by decide +kernel)
theorem dX12_makePart_134 : decode cX12_makePart 134 = .ok (.getfield 54, 3) := dl_o180 kcX12_makePart (by decide +kernel)
theorem dX12_makePart_137 : decode cX12_makePart 137 = .ok (.iconst 4, 1) := dl_o7 kcX12_makePart (by decide +kernel)
theorem dX12_makePart_138 : decode cX12_makePart 138 = .ok (.iload_n 2, 1) := dl_o28 kcX12_makePart (by decide +kernel)
theorem dX12_makePart_139 : decode cX12_makePart 139 = .ok (.imul, 1) := dl_o104 kcX12_makePart (by decide +kernel)
theorem dX12_makePart_140 : decode cX12_makePart 140 = .ok (.iaload, 1) := dl_o46 kcX12_makePart (by decide +kernel)
theorem dX12_makePart_141 : decode cX12_makePart 141 = .ok (.i2l, 1) := dl_o133 kcX12_makePart (by decide +kernel)
theorem dX12_makePart_142 : decode cX12_makePart 142 = .ok (.lstore 10, 2) := dl_o55 kcX12_makePart (by decide +kernel)
theorem dX12_makePart_144 : decode cX12_makePart 144 = .ok (.aload_n 0, 1) := dl_o42 kcX12_makePart (by decide +kernel)
theorem dX12_makePart_145 : decode cX12_makePart 145 = .ok (.getfield 54, 3) := dl_o180 kcX12_makePart (by decide +kernel)
theorem dX12_makePart_148 : decode cX12_makePart 148 = .ok (.iconst 4, 1) := dl_o7 kcX12_makePart (by decide +kernel)
theorem dX12_makePart_149 : decode cX12_makePart 149 = .ok (.iload_n 2, 1) := dl_o28 kcX12_makePart (by decide +kernel)
theorem dX12_makePart_150 : decode cX12_makePart 150 = .ok (.imul, 1) := dl_o104 kcX12_makePart (by decide +kernel)
theorem dX12_makePart_151 : decode cX12_makePart 151 = .ok (.iconst 1, 1) := dl_o4 kcX12_makePart (by decide +kernel)
theorem dX12_makePart_152 : decode cX12_makePart 152 = .ok (.iadd, 1) := dl_o96 kcX12_makePart (by decide +kernel)
theorem dX12_makePart_153 : decode cX12_makePart 153 = .ok (.iaload, 1) := dl_o46 kcX12_makePart (by decide +kernel)
theorem dX12_makePart_154 : decode cX12_makePart 154 = .ok (.i2l, 1) := dl_o133 kcX12_makePart (by decide +kernel)
theorem dX12_makePart_155 : decode cX12_makePart 155 = .ok (.lstore 12, 2) := dl_o55 kcX12_makePart (by decide +kernel)
theorem dX12_makePart_157 : decode cX12_makePart 157 = .ok (.aload_n 0, 1) := dl_o42 kcX12_makePart (by decide +kernel)
theorem dX12_makePart_158 : decode cX12_makePart 158 = .ok (.getfield 54, 3) := dl_o180 kcX12_makePart (by decide +kernel)
theorem dX12_makePart_161 : decode cX12_makePart 161 = .ok (.iconst 4, 1) := dl_o7 kcX12_makePart (by decide +kernel)
theorem dX12_makePart_162 : decode cX12_makePart 162 = .ok (.iload_n 2, 1) := dl_o28 kcX12_makePart (by decide +kernel)
theorem dX12_makePart_163 : decode cX12_makePart 163 = .ok (.imul, 1) := dl_o104 kcX12_makePart (by decide +kernel)
theorem dX12_makePart_164 : decode cX12_makePart 164 = .ok (.iconst 2, 1) := dl_o5 kcX12_makePart (by decide +kernel)
theorem dX12_makePart_165 : decode cX12_makePart 165 = .ok (.iadd, 1) := dl_o96 kcX12_makePart (by decide +kernel)
theorem dX12_makePart_166 : decode cX12_makePart 166 = .ok (.iaload, 1) := dl_o46 kcX12_makePart (by decide +kernel)
theorem dX12_makePart_167 : decode cX12_makePart 167 = .ok (.i2l, 1) := dl_o133 kcX12_makePart (by decide +kernel)
theorem dX12_makePart_168 : decode cX12_makePart 168 = .ok (.lstore 14, 2) := dl_o55 kcX12_makePart (by decide +kernel)
theorem dX12_makePart_170 : decode cX12_makePart 170 = .ok (.aload_n 0, 1) := dl_o42 kcX12_makePart (by decide +kernel)
theorem dX12_makePart_171 : decode cX12_makePart 171 = .ok (.getfield 54, 3) := dl_o180 kcX12_makePart (by decide +kernel)
theorem dX12_makePart_174 : decode cX12_makePart 174 = .ok (.iconst 4, 1) := dl_o7 kcX12_makePart (by decide +kernel)
theorem dX12_makePart_175 : decode cX12_makePart 175 = .ok (.iload_n 2, 1) := dl_o28 kcX12_makePart (by decide +kernel)
theorem dX12_makePart_176 : decode cX12_makePart 176 = .ok (.imul, 1) := dl_o104 kcX12_makePart (by decide +kernel)
theorem dX12_makePart_177 : decode cX12_makePart 177 = .ok (.iconst 3, 1) := dl_o6 kcX12_makePart (by decide +kernel)
theorem dX12_makePart_178 : decode cX12_makePart 178 = .ok (.iadd, 1) := dl_o96 kcX12_makePart (by decide +kernel)
theorem dX12_makePart_179 : decode cX12_makePart 179 = .ok (.iaload, 1) := dl_o46 kcX12_makePart (by decide +kernel)
theorem dX12_makePart_180 : decode cX12_makePart 180 = .ok (.i2l, 1) := dl_o133 kcX12_makePart (by decide +kernel)
theorem dX12_makePart_181 : decode cX12_makePart 181 = .ok (.lstore 16, 2) := dl_o55 kcX12_makePart (by decide +kernel)
theorem dX12_makePart_183 : decode cX12_makePart 183 = .ok (.iconst 0, 1) := dl_o3 kcX12_makePart (by decide +kernel)
theorem dX12_makePart_184 : decode cX12_makePart 184 = .ok (.istore 18, 2) := dl_o54 kcX12_makePart (by decide +kernel)
theorem dX12_makePart_186 : decode cX12_makePart 186 = .ok (.iload 18, 2) := dl_o21 kcX12_makePart (by decide +kernel)
theorem dX12_makePart_188 : decode cX12_makePart 188 = .ok (.iload 9, 2) := dl_o21 kcX12_makePart (by decide +kernel)
theorem dX12_makePart_190 : decode cX12_makePart 190 = .ok (.if_icmp .ge 120, 3) := dl_o162 kcX12_makePart 120 (by decide +kernel) (by decide +kernel)
theorem dX12_makePart_193 : decode cX12_makePart 193 = .ok (.aload_n 0, 1) := dl_o42 kcX12_makePart (by decide +kernel)
theorem dX12_makePart_194 : decode cX12_makePart 194 = .ok (.getfield 152, 3) := dl_o180 kcX12_makePart (by decide +kernel)
theorem dX12_makePart_197 : decode cX12_makePart 197 = .ok (.iload 7, 2) := dl_o21 kcX12_makePart (by decide +kernel)
theorem dX12_makePart_199 : decode cX12_makePart 199 = .ok (.iload 18, 2) := dl_o21 kcX12_makePart (by decide +kernel)
theorem dX12_makePart_201 : decode cX12_makePart 201 = .ok (.iadd, 1) := dl_o96 kcX12_makePart (by decide +kernel)
theorem dX12_makePart_202 : decode cX12_makePart 202 = .ok (.iaload, 1) := dl_o46 kcX12_makePart (by decide +kernel)
theorem dX12_makePart_203 : decode cX12_makePart 203 = .ok (.i2l, 1) := dl_o133 kcX12_makePart (by decide +kernel)
theorem dX12_makePart_204 : decode cX12_makePart 204 = .ok (.lstore 19, 2) := dl_o55 kcX12_makePart (by decide +kernel)
theorem dX12_makePart_206 : decode cX12_makePart 206 = .ok (.aload_n 0, 1) := dl_o42 kcX12_makePart (by decide +kernel)
theorem dX12_makePart_207 : decode cX12_makePart 207 = .ok (.getfield 155, 3) := dl_o180 kcX12_makePart (by decide +kernel)
theorem dX12_makePart_210 : decode cX12_makePart 210 = .ok (.iload 7, 2) := dl_o21 kcX12_makePart (by decide +kernel)
theorem dX12_makePart_212 : decode cX12_makePart 212 = .ok (.iload 18, 2) := dl_o21 kcX12_makePart (by decide +kernel)
theorem dX12_makePart_214 : decode cX12_makePart 214 = .ok (.iadd, 1) := dl_o96 kcX12_makePart (by decide +kernel)
theorem dX12_makePart_215 : decode cX12_makePart 215 = .ok (.iaload, 1) := dl_o46 kcX12_makePart (by decide +kernel)
theorem dX12_makePart_216 : decode cX12_makePart 216 = .ok (.i2l, 1) := dl_o133 kcX12_makePart (by decide +kernel)
theorem dX12_makePart_217 : decode cX12_makePart 217 = .ok (.lstore 21, 2) := dl_o55 kcX12_makePart (by decide +kernel)
theorem dX12_makePart_219 : decode cX12_makePart 219 = .ok (.aload_n 0, 1) := dl_o42 kcX12_makePart (by decide +kernel)
theorem dX12_makePart_220 : decode cX12_makePart 220 = .ok (.getfield 152, 3) := dl_o180 kcX12_makePart (by decide +kernel)
theorem dX12_makePart_223 : decode cX12_makePart 223 = .ok (.iload 6, 2) := dl_o21 kcX12_makePart (by decide +kernel)
theorem dX12_makePart_225 : decode cX12_makePart 225 = .ok (.iload 8, 2) := dl_o21 kcX12_makePart (by decide +kernel)
theorem dX12_makePart_227 : decode cX12_makePart 227 = .ok (.iadd, 1) := dl_o96 kcX12_makePart (by decide +kernel)
theorem dX12_makePart_228 : decode cX12_makePart 228 = .ok (.iload 18, 2) := dl_o21 kcX12_makePart (by decide +kernel)
theorem dX12_makePart_230 : decode cX12_makePart 230 = .ok (.iadd, 1) := dl_o96 kcX12_makePart (by decide +kernel)
theorem dX12_makePart_231 : decode cX12_makePart 231 = .ok (.lload 19, 2) := dl_o22 kcX12_makePart (by decide +kernel)
theorem dX12_makePart_233 : decode cX12_makePart 233 = .ok (.lload 10, 2) := dl_o22 kcX12_makePart (by decide +kernel)
theorem dX12_makePart_235 : decode cX12_makePart 235 = .ok (.lmul, 1) := dl_o105 kcX12_makePart (by decide +kernel)
theorem dX12_makePart_236 : decode cX12_makePart 236 = .ok (.lload 21, 2) := dl_o22 kcX12_makePart (by decide +kernel)
theorem dX12_makePart_238 : decode cX12_makePart 238 = .ok (.lload 14, 2) := dl_o22 kcX12_makePart (by decide +kernel)
theorem dX12_makePart_240 : decode cX12_makePart 240 = .ok (.lmul, 1) := dl_o105 kcX12_makePart (by decide +kernel)
theorem dX12_makePart_241 : decode cX12_makePart 241 = .ok (.ladd, 1) := dl_o97 kcX12_makePart (by decide +kernel)
theorem dX12_makePart_242 : decode cX12_makePart 242 = .ok (.ldc2_w 310, 3) := dl_o20 kcX12_makePart (by decide +kernel)
theorem dX12_makePart_245 : decode cX12_makePart 245 = .ok (.invokestatic 517, 3) := dl_o184 kcX12_makePart (by decide +kernel)
theorem dX12_makePart_248 : decode cX12_makePart 248 = .ok (.l2i, 1) := dl_o136 kcX12_makePart (by decide +kernel)
theorem dX12_makePart_249 : decode cX12_makePart 249 = .ok (.iastore, 1) := dl_o79 kcX12_makePart (by decide +kernel)
theorem dX12_makePart_250 : decode cX12_makePart 250 = .ok (.aload_n 0, 1) := dl_o42 kcX12_makePart (by decide +kernel)
theorem dX12_makePart_251 : decode cX12_makePart 251 = .ok (.getfield 155, 3) := dl_o180 kcX12_makePart (by decide +kernel)
theorem dX12_makePart_254 : decode cX12_makePart 254 = .ok (.iload 6, 2) := dl_o21 kcX12_makePart (by decide +kernel)
theorem dX12_makePart_256 : decode cX12_makePart 256 = .ok (.iload 8, 2) := dl_o21 kcX12_makePart (by decide +kernel)
theorem dX12_makePart_258 : decode cX12_makePart 258 = .ok (.iadd, 1) := dl_o96 kcX12_makePart (by decide +kernel)
theorem dX12_makePart_259 : decode cX12_makePart 259 = .ok (.iload 18, 2) := dl_o21 kcX12_makePart (by decide +kernel)
theorem dX12_makePart_261 : decode cX12_makePart 261 = .ok (.iadd, 1) := dl_o96 kcX12_makePart (by decide +kernel)
theorem dX12_makePart_262 : decode cX12_makePart 262 = .ok (.lload 19, 2) := dl_o22 kcX12_makePart (by decide +kernel)
theorem dX12_makePart_264 : decode cX12_makePart 264 = .ok (.lload 12, 2) := dl_o22 kcX12_makePart (by decide +kernel)
theorem dX12_makePart_266 : decode cX12_makePart 266 = .ok (.lmul, 1) := dl_o105 kcX12_makePart (by decide +kernel)
theorem dX12_makePart_267 : decode cX12_makePart 267 = .ok (.lload 21, 2) := dl_o22 kcX12_makePart (by decide +kernel)
theorem dX12_makePart_269 : decode cX12_makePart 269 = .ok (.lload 16, 2) := dl_o22 kcX12_makePart (by decide +kernel)
theorem dX12_makePart_271 : decode cX12_makePart 271 = .ok (.lmul, 1) := dl_o105 kcX12_makePart (by decide +kernel)
theorem dX12_makePart_272 : decode cX12_makePart 272 = .ok (.ladd, 1) := dl_o97 kcX12_makePart (by decide +kernel)
theorem dX12_makePart_273 : decode cX12_makePart 273 = .ok (.ldc2_w 310, 3) := dl_o20 kcX12_makePart (by decide +kernel)
theorem dX12_makePart_276 : decode cX12_makePart 276 = .ok (.invokestatic 517, 3) := dl_o184 kcX12_makePart (by decide +kernel)
theorem dX12_makePart_279 : decode cX12_makePart 279 = .ok (.l2i, 1) := dl_o136 kcX12_makePart (by decide +kernel)
theorem dX12_makePart_280 : decode cX12_makePart 280 = .ok (.iastore, 1) := dl_o79 kcX12_makePart (by decide +kernel)
theorem dX12_makePart_281 : decode cX12_makePart 281 = .ok (.aload_n 0, 1) := dl_o42 kcX12_makePart (by decide +kernel)
theorem dX12_makePart_282 : decode cX12_makePart 282 = .ok (.getfield 158, 3) := dl_o180 kcX12_makePart (by decide +kernel)
theorem dX12_makePart_285 : decode cX12_makePart 285 = .ok (.iload 6, 2) := dl_o21 kcX12_makePart (by decide +kernel)
theorem dX12_makePart_287 : decode cX12_makePart 287 = .ok (.iload 8, 2) := dl_o21 kcX12_makePart (by decide +kernel)
theorem dX12_makePart_289 : decode cX12_makePart 289 = .ok (.iadd, 1) := dl_o96 kcX12_makePart (by decide +kernel)
theorem dX12_makePart_290 : decode cX12_makePart 290 = .ok (.iload 18, 2) := dl_o21 kcX12_makePart (by decide +kernel)
theorem dX12_makePart_292 : decode cX12_makePart 292 = .ok (.iadd, 1) := dl_o96 kcX12_makePart (by decide +kernel)
theorem dX12_makePart_293 : decode cX12_makePart 293 = .ok (.aload_n 0, 1) := dl_o42 kcX12_makePart (by decide +kernel)
theorem dX12_makePart_294 : decode cX12_makePart 294 = .ok (.getfield 158, 3) := dl_o180 kcX12_makePart (by decide +kernel)
theorem dX12_makePart_297 : decode cX12_makePart 297 = .ok (.iload 7, 2) := dl_o21 kcX12_makePart (by decide +kernel)
theorem dX12_makePart_299 : decode cX12_makePart 299 = .ok (.iload 18, 2) := dl_o21 kcX12_makePart (by decide +kernel)
theorem dX12_makePart_301 : decode cX12_makePart 301 = .ok (.iadd, 1) := dl_o96 kcX12_makePart (by decide +kernel)
theorem dX12_makePart_302 : decode cX12_makePart 302 = .ok (.baload, 1) := dl_o51 kcX12_makePart (by decide +kernel)
theorem dX12_makePart_303 : decode cX12_makePart 303 = .ok (.bastore, 1) := dl_o84 kcX12_makePart (by decide +kernel)
theorem dX12_makePart_304 : decode cX12_makePart 304 = .ok (.iinc 18 1, 3) := by decide +kernel
theorem dX12_makePart_307 : decode cX12_makePart 307 = .ok (.goto (-121), 3) := dl_o167 kcX12_makePart 65415 (by decide +kernel) (by decide +kernel)
theorem dX12_makePart_310 : decode cX12_makePart 310 = .ok (.iconst 0, 1) := dl_o3 kcX12_makePart (by decide +kernel)
theorem dX12_makePart_311 : decode cX12_makePart 311 = .ok (.istore 18, 2) := dl_o54 kcX12_makePart (by decide +kernel)
theorem dX12_makePart_313 : decode cX12_makePart 313 = .ok (.iconst 0, 1) := dl_o3 kcX12_makePart (by decide +kernel)
theorem dX12_makePart_314 : decode cX12_makePart 314 = .ok (.istore 19, 2) := dl_o54 kcX12_makePart (by decide +kernel)
theorem dX12_makePart_316 : decode cX12_makePart 316 = .ok (.aload_n 0, 1) := dl_o42 kcX12_makePart (by decide +kernel)
theorem dX12_makePart_317 : decode cX12_makePart 317 = .ok (.getfield 42, 3) := dl_o180 kcX12_makePart (by decide +kernel)
theorem dX12_makePart_320 : decode cX12_makePart 320 = .ok (.iload_n 2, 1) := dl_o28 kcX12_makePart (by decide +kernel)
theorem dX12_makePart_321 : decode cX12_makePart 321 = .ok (.iaload, 1) := dl_o46 kcX12_makePart (by decide +kernel)
theorem dX12_makePart_322 : decode cX12_makePart 322 = .ok (.iconst 2, 1) := dl_o5 kcX12_makePart (by decide +kernel)
theorem dX12_makePart_323 : decode cX12_makePart 323 = .ok (.iand, 1) := dl_o126 kcX12_makePart (by decide +kernel)
theorem dX12_makePart_324 : decode cX12_makePart 324 = .ok (.ifCond .eq 80, 3) := dl_o153 kcX12_makePart 80 (by decide +kernel) (by decide +kernel)
theorem dX12_makePart_327 : decode cX12_makePart 327 = .ok (.aload_n 0, 1) := dl_o42 kcX12_makePart (by decide +kernel)
theorem dX12_makePart_328 : decode cX12_makePart 328 = .ok (.aload_n 0, 1) := dl_o42 kcX12_makePart (by decide +kernel)
theorem dX12_makePart_329 : decode cX12_makePart 329 = .ok (.getfield 48, 3) := dl_o180 kcX12_makePart (by decide +kernel)
theorem dX12_makePart_332 : decode cX12_makePart 332 = .ok (.iload_n 2, 1) := dl_o28 kcX12_makePart (by decide +kernel)
theorem dX12_makePart_333 : decode cX12_makePart 333 = .ok (.iaload, 1) := dl_o46 kcX12_makePart (by decide +kernel)
theorem dX12_makePart_334 : decode cX12_makePart 334 = .ok (.i2l, 1) := dl_o133 kcX12_makePart (by decide +kernel)
theorem dX12_makePart_335 : decode cX12_makePart 335 = .ok (.invokevirtual 611, 3) := dl_o182 kcX12_makePart (by decide +kernel)
theorem dX12_makePart_338 : decode cX12_makePart 338 = .ok (.istore 18, 2) := dl_o54 kcX12_makePart (by decide +kernel)
theorem dX12_makePart_340 : decode cX12_makePart 340 = .ok (.aload_n 0, 1) := dl_o42 kcX12_makePart (by decide +kernel)
theorem dX12_makePart_341 : decode cX12_makePart 341 = .ok (.aload_n 0, 1) := dl_o42 kcX12_makePart (by decide +kernel)
theorem dX12_makePart_342 : decode cX12_makePart 342 = .ok (.getfield 51, 3) := dl_o180 kcX12_makePart (by decide +kernel)
theorem dX12_makePart_345 : decode cX12_makePart 345 = .ok (.iload_n 2, 1) := dl_o28 kcX12_makePart (by decide +kernel)
theorem dX12_makePart_346 : decode cX12_makePart 346 = .ok (.iaload, 1) := dl_o46 kcX12_makePart (by decide +kernel)
theorem dX12_makePart_347 : decode cX12_makePart 347 = .ok (.i2l, 1) := dl_o133 kcX12_makePart (by decide +kernel)
theorem dX12_makePart_348 : decode cX12_makePart 348 = .ok (.invokevirtual 611, 3) := dl_o182 kcX12_makePart (by decide +kernel)
theorem dX12_makePart_351 : decode cX12_makePart 351 = .ok (.istore 19, 2) := dl_o54 kcX12_makePart (by decide +kernel)
theorem dX12_makePart_353 : decode cX12_makePart 353 = .ok (.aload_n 0, 1) := dl_o42 kcX12_makePart (by decide +kernel)
theorem dX12_makePart_354 : decode cX12_makePart 354 = .ok (.getfield 42, 3) := dl_o180 kcX12_makePart (by decide +kernel)
theorem dX12_makePart_357 : decode cX12_makePart 357 = .ok (.iload_n 2, 1) := dl_o28 kcX12_makePart (by decide +kernel)
theorem dX12_makePart_358 : decode cX12_makePart 358 = .ok (.iaload, 1) := dl_o46 kcX12_makePart (by decide +kernel)
theorem dX12_makePart_359 : decode cX12_makePart 359 = .ok (.iconst 4, 1) := dl_o7 kcX12_makePart (by decide +kernel)
theorem dX12_makePart_360 : decode cX12_makePart 360 = .ok (.iand, 1) := dl_o126 kcX12_makePart (by decide +kernel)
theorem dX12_makePart_361 : decode cX12_makePart 361 = .ok (.ifCond .eq 12, 3) := dl_o153 kcX12_makePart 12 (by decide +kernel) (by decide +kernel)
theorem dX12_makePart_364 : decode cX12_makePart 364 = .ok (.iload 18, 2) := dl_o21 kcX12_makePart (by decide +kernel)
theorem dX12_makePart_366 : decode cX12_makePart 366 = .ok (.i2l, 1) := dl_o133 kcX12_makePart (by decide +kernel)
theorem dX12_makePart_367 : decode cX12_makePart 367 = .ok (.invokestatic 813, 3) := dl_o184 kcX12_makePart (by decide +kernel)
theorem dX12_makePart_370 : decode cX12_makePart 370 = .ok (.goto 5, 3) := dl_o167 kcX12_makePart 5 (by decide +kernel) (by decide +kernel)
theorem dX12_makePart_373 : decode cX12_makePart 373 = .ok (.iload 18, 2) := dl_o21 kcX12_makePart (by decide +kernel)
theorem dX12_makePart_375 : decode cX12_makePart 375 = .ok (.istore 18, 2) := dl_o54 kcX12_makePart (by decide +kernel)
theorem dX12_makePart_377 : decode cX12_makePart 377 = .ok (.aload_n 0, 1) := dl_o42 kcX12_makePart (by decide +kernel)
theorem dX12_makePart_378 : decode cX12_makePart 378 = .ok (.getfield 42, 3) := dl_o180 kcX12_makePart (by decide +kernel)
theorem dX12_makePart_381 : decode cX12_makePart 381 = .ok (.iload_n 2, 1) := dl_o28 kcX12_makePart (by decide +kernel)
theorem dX12_makePart_382 : decode cX12_makePart 382 = .ok (.iaload, 1) := dl_o46 kcX12_makePart (by decide +kernel)
theorem dX12_makePart_383 : decode cX12_makePart 383 = .ok (.iconst 4, 1) := dl_o7 kcX12_makePart (by decide +kernel)
theorem dX12_makePart_384 : decode cX12_makePart 384 = .ok (.iand, 1) := dl_o126 kcX12_makePart (by decide +kernel)
theorem dX12_makePart_385 : decode cX12_makePart 385 = .ok (.ifCond .eq 12, 3) := dl_o153 kcX12_makePart 12 (by decide +kernel) (by decide +kernel)
theorem dX12_makePart_388 : decode cX12_makePart 388 = .ok (.iload 19, 2) := dl_o21 kcX12_makePart (by decide +kernel)
theorem dX12_makePart_390 : decode cX12_makePart 390 = .ok (.i2l, 1) := dl_o133 kcX12_makePart (by decide +kernel)
theorem dX12_makePart_391 : decode cX12_makePart 391 = .ok (.invokestatic 813, 3) := dl_o184 kcX12_makePart (by decide +kernel)
theorem dX12_makePart_394 : decode cX12_makePart 394 = .ok (.goto 5, 3) := dl_o167 kcX12_makePart 5 (by decide +kernel) (by decide +kernel)
theorem dX12_makePart_397 : decode cX12_makePart 397 = .ok (.iload 19, 2) := dl_o21 kcX12_makePart (by decide +kernel)
theorem dX12_makePart_399 : decode cX12_makePart 399 = .ok (.istore 19, 2) := dl_o54 kcX12_makePart (by decide +kernel)
theorem dX12_makePart_401 : decode cX12_makePart 401 = .ok (.goto 117, 3) := dl_o167 kcX12_makePart 117 (by decide +kernel) (by decide +kernel)
theorem dX12_makePart_404 : decode cX12_makePart 404 = .ok (.aload_n 0, 1) := dl_o42 kcX12_makePart (by decide +kernel)
theorem dX12_makePart_405 : decode cX12_makePart 405 = .ok (.getfield 48, 3) := dl_o180 kcX12_makePart (by decide +kernel)
theorem dX12_makePart_408 : decode cX12_makePart 408 = .ok (.iload_n 2, 1) := dl_o28 kcX12_makePart (by decide +kernel)
theorem dX12_makePart_409 : decode cX12_makePart 409 = .ok (.iaload, 1) := dl_o46 kcX12_makePart (by decide +kernel)
theorem dX12_makePart_410 : decode cX12_makePart 410 = .ok (.ifCond .lt 34, 3) := dl_o155 kcX12_makePart 34 (by decide +kernel) (by decide +kernel)
theorem dX12_makePart_413 : decode cX12_makePart 413 = .ok (.aload_n 0, 1) := dl_o42 kcX12_makePart (by decide +kernel)
theorem dX12_makePart_414 : decode cX12_makePart 414 = .ok (.getfield 48, 3) := dl_o180 kcX12_makePart (by decide +kernel)
theorem dX12_makePart_417 : decode cX12_makePart 417 = .ok (.iload_n 2, 1) := dl_o28 kcX12_makePart (by decide +kernel)
theorem dX12_makePart_418 : decode cX12_makePart 418 = .ok (.iaload, 1) := dl_o46 kcX12_makePart (by decide +kernel)
theorem dX12_makePart_419 : decode cX12_makePart 419 = .ok (.iload 8, 2) := dl_o21 kcX12_makePart (by decide +kernel)
theorem dX12_makePart_421 : decode cX12_makePart 421 = .ok (.if_icmp .ge 23, 3) := dl_o162 kcX12_makePart 23 (by decide +kernel) (by decide +kernel)
theorem dX12_makePart_424 : decode cX12_makePart 424 = .ok (.aload_n 0, 1) := dl_o42 kcX12_makePart (by decide +kernel)
theorem dX12_makePart_425 : decode cX12_makePart 425 = .ok (.getfield 51, 3) := dl_o180 kcX12_makePart (by decide +kernel)
theorem dX12_makePart_428 : decode cX12_makePart 428 = .ok (.iload_n 2, 1) := dl_o28 kcX12_makePart (by decide +kernel)
theorem dX12_makePart_429 : decode cX12_makePart 429 = .ok (.iaload, 1) := dl_o46 kcX12_makePart (by decide +kernel)
theorem dX12_makePart_430 : decode cX12_makePart 430 = .ok (.ifCond .lt 14, 3) := dl_o155 kcX12_makePart 14 (by decide +kernel) (by decide +kernel)
theorem dX12_makePart_433 : decode cX12_makePart 433 = .ok (.aload_n 0, 1) := dl_o42 kcX12_makePart (by decide +kernel)
theorem dX12_makePart_434 : decode cX12_makePart 434 = .ok (.getfield 51, 3) := dl_o180 kcX12_makePart (by decide +kernel)
theorem dX12_makePart_437 : decode cX12_makePart 437 = .ok (.iload_n 2, 1) := dl_o28 kcX12_makePart (by decide +kernel)
theorem dX12_makePart_438 : decode cX12_makePart 438 = .ok (.iaload, 1) := dl_o46 kcX12_makePart (by decide +kernel)
theorem dX12_makePart_439 : decode cX12_makePart 439 = .ok (.iload 9, 2) := dl_o21 kcX12_makePart (by decide +kernel)
theorem dX12_makePart_441 : decode cX12_makePart 441 = .ok (.if_icmp .lt 9, 3) := dl_o161 kcX12_makePart 9 (by decide +kernel) (by decide +kernel)
theorem dX12_makePart_444 : decode cX12_makePart 444 = .ok (.aload_n 0, 1) := dl_o42 kcX12_makePart (by decide +kernel)
theorem dX12_makePart_445 : decode cX12_makePart 445 = .ok (.iconst 5, 1) := dl_o8 kcX12_makePart (by decide +kernel)
theorem dX12_makePart_446 : decode cX12_makePart 446 = .ok (.invokevirtual 795, 3) := dl_o182 kcX12_makePart (by decide +kernel)
theorem dX12_makePart_449 : decode cX12_makePart 449 = .ok (.return_, 1) := dl_o177 kcX12_makePart (by decide +kernel)
theorem dX12_makePart_450 : decode cX12_makePart 450 = .ok (.aload_n 0, 1) := dl_o42 kcX12_makePart (by decide +kernel)
theorem dX12_makePart_451 : decode cX12_makePart 451 = .ok (.getfield 152, 3) := dl_o180 kcX12_makePart (by decide +kernel)
theorem dX12_makePart_454 : decode cX12_makePart 454 = .ok (.iload 6, 2) := dl_o21 kcX12_makePart (by decide +kernel)
theorem dX12_makePart_456 : decode cX12_makePart 456 = .ok (.aload_n 0, 1) := dl_o42 kcX12_makePart (by decide +kernel)
theorem dX12_makePart_457 : decode cX12_makePart 457 = .ok (.getfield 48, 3) := dl_o180 kcX12_makePart (by decide +kernel)
theorem dX12_makePart_460 : decode cX12_makePart 460 = .ok (.iload_n 2, 1) := dl_o28 kcX12_makePart (by decide +kernel)
theorem dX12_makePart_461 : decode cX12_makePart 461 = .ok (.iaload, 1) := dl_o46 kcX12_makePart (by decide +kernel)
theorem dX12_makePart_462 : decode cX12_makePart 462 = .ok (.iadd, 1) := dl_o96 kcX12_makePart (by decide +kernel)
theorem dX12_makePart_463 : decode cX12_makePart 463 = .ok (.iaload, 1) := dl_o46 kcX12_makePart (by decide +kernel)
theorem dX12_makePart_464 : decode cX12_makePart 464 = .ok (.aload_n 0, 1) := dl_o42 kcX12_makePart (by decide +kernel)
theorem dX12_makePart_465 : decode cX12_makePart 465 = .ok (.getfield 152, 3) := dl_o180 kcX12_makePart (by decide +kernel)
theorem dX12_makePart_468 : decode cX12_makePart 468 = .ok (.iload 6, 2) := dl_o21 kcX12_makePart (by decide +kernel)
theorem dX12_makePart_470 : decode cX12_makePart 470 = .ok (.iload 8, 2) := dl_o21 kcX12_makePart (by decide +kernel)
theorem dX12_makePart_472 : decode cX12_makePart 472 = .ok (.iadd, 1) := dl_o96 kcX12_makePart (by decide +kernel)
theorem dX12_makePart_473 : decode cX12_makePart 473 = .ok (.aload_n 0, 1) := dl_o42 kcX12_makePart (by decide +kernel)
theorem dX12_makePart_474 : decode cX12_makePart 474 = .ok (.getfield 51, 3) := dl_o180 kcX12_makePart (by decide +kernel)
theorem dX12_makePart_477 : decode cX12_makePart 477 = .ok (.iload_n 2, 1) := dl_o28 kcX12_makePart (by decide +kernel)
theorem dX12_makePart_478 : decode cX12_makePart 478 = .ok (.iaload, 1) := dl_o46 kcX12_makePart (by decide +kernel)
theorem dX12_makePart_479 : decode cX12_makePart 479 = .ok (.iadd, 1) := dl_o96 kcX12_makePart (by decide +kernel)
theorem dX12_makePart_480 : decode cX12_makePart 480 = .ok (.iaload, 1) := dl_o46 kcX12_makePart (by decide +kernel)
theorem dX12_makePart_481 : decode cX12_makePart 481 = .ok (.isub, 1) := dl_o100 kcX12_makePart (by decide +kernel)
theorem dX12_makePart_482 : decode cX12_makePart 482 = .ok (.istore 18, 2) := dl_o54 kcX12_makePart (by decide +kernel)
theorem dX12_makePart_484 : decode cX12_makePart 484 = .ok (.aload_n 0, 1) := dl_o42 kcX12_makePart (by decide +kernel)
theorem dX12_makePart_485 : decode cX12_makePart 485 = .ok (.getfield 155, 3) := dl_o180 kcX12_makePart (by decide +kernel)
theorem dX12_makePart_488 : decode cX12_makePart 488 = .ok (.iload 6, 2) := dl_o21 kcX12_makePart (by decide +kernel)
theorem dX12_makePart_490 : decode cX12_makePart 490 = .ok (.aload_n 0, 1) := dl_o42 kcX12_makePart (by decide +kernel)
theorem dX12_makePart_491 : decode cX12_makePart 491 = .ok (.getfield 48, 3) := dl_o180 kcX12_makePart (by decide +kernel)
theorem dX12_makePart_494 : decode cX12_makePart 494 = .ok (.iload_n 2, 1) := dl_o28 kcX12_makePart (by decide +kernel)
theorem dX12_makePart_495 : decode cX12_makePart 495 = .ok (.iaload, 1) := dl_o46 kcX12_makePart (by decide +kernel)
theorem dX12_makePart_496 : decode cX12_makePart 496 = .ok (.iadd, 1) := dl_o96 kcX12_makePart (by decide +kernel)
theorem dX12_makePart_497 : decode cX12_makePart 497 = .ok (.iaload, 1) := dl_o46 kcX12_makePart (by decide +kernel)
theorem dX12_makePart_498 : decode cX12_makePart 498 = .ok (.aload_n 0, 1) := dl_o42 kcX12_makePart (by decide +kernel)
theorem dX12_makePart_499 : decode cX12_makePart 499 = .ok (.getfield 155, 3) := dl_o180 kcX12_makePart (by decide +kernel)
theorem dX12_makePart_502 : decode cX12_makePart 502 = .ok (.iload 6, 2) := dl_o21 kcX12_makePart (by decide +kernel)
theorem dX12_makePart_504 : decode cX12_makePart 504 = .ok (.iload 8, 2) := dl_o21 kcX12_makePart (by decide +kernel)
theorem dX12_makePart_506 : decode cX12_makePart 506 = .ok (.iadd, 1) := dl_o96 kcX12_makePart (by decide +kernel)
theorem dX12_makePart_507 : decode cX12_makePart 507 = .ok (.aload_n 0, 1) := dl_o42 kcX12_makePart (by decide +kernel)
theorem dX12_makePart_508 : decode cX12_makePart 508 = .ok (.getfield 51, 3) := dl_o180 kcX12_makePart (by decide +kernel)
theorem dX12_makePart_511 : decode cX12_makePart 511 = .ok (.iload_n 2, 1) := dl_o28 kcX12_makePart (by decide +kernel)
theorem dX12_makePart_512 : decode cX12_makePart 512 = .ok (.iaload, 1) := dl_o46 kcX12_makePart (by decide +kernel)
theorem dX12_makePart_513 : decode cX12_makePart 513 = .ok (.iadd, 1) := dl_o96 kcX12_makePart (by decide +kernel)
theorem dX12_makePart_514 : decode cX12_makePart 514 = .ok (.iaload, 1) := dl_o46 kcX12_makePart (by decide +kernel)
theorem dX12_makePart_515 : decode cX12_makePart 515 = .ok (.isub, 1) := dl_o100 kcX12_makePart (by decide +kernel)
theorem dX12_makePart_516 : decode cX12_makePart 516 = .ok (.istore 19, 2) := dl_o54 kcX12_makePart (by decide +kernel)
theorem dX12_makePart_518 : decode cX12_makePart 518 = .ok (.iload 6, 2) := dl_o21 kcX12_makePart (by decide +kernel)
theorem dX12_makePart_520 : decode cX12_makePart 520 = .ok (.iload 8, 2) := dl_o21 kcX12_makePart (by decide +kernel)
theorem dX12_makePart_522 : decode cX12_makePart 522 = .ok (.iadd, 1) := dl_o96 kcX12_makePart (by decide +kernel)
theorem dX12_makePart_523 : decode cX12_makePart 523 = .ok (.istore 20, 2) := dl_o54 kcX12_makePart (by decide +kernel)
theorem dX12_makePart_525 : decode cX12_makePart 525 = .ok (.iload 20, 2) := dl_o21 kcX12_makePart (by decide +kernel)
theorem dX12_makePart_527 : decode cX12_makePart 527 = .ok (.iload 6, 2) := dl_o21 kcX12_makePart (by decide +kernel)
theorem dX12_makePart_529 : decode cX12_makePart 529 = .ok (.iload 8, 2) := dl_o21 kcX12_makePart (by decide +kernel)
theorem dX12_makePart_531 : decode cX12_makePart 531 = .ok (.iadd, 1) := dl_o96 kcX12_makePart (by decide +kernel)
theorem dX12_makePart_532 : decode cX12_makePart 532 = .ok (.iload 9, 2) := dl_o21 kcX12_makePart (by decide +kernel)
theorem dX12_makePart_534 : decode cX12_makePart 534 = .ok (.iadd, 1) := dl_o96 kcX12_makePart (by decide +kernel)
theorem dX12_makePart_535 : decode cX12_makePart 535 = .ok (.if_icmp .ge 33, 3) := dl_o162 kcX12_makePart 33 (by decide +kernel) (by decide +kernel)
theorem dX12_makePart_538 : decode cX12_makePart 538 = .ok (.aload_n 0, 1) := dl_o42 kcX12_makePart (by decide +kernel)
theorem dX12_makePart_539 : decode cX12_makePart 539 = .ok (.getfield 152, 3) := dl_o180 kcX12_makePart (by decide +kernel)
theorem dX12_makePart_542 : decode cX12_makePart 542 = .ok (.iload 20, 2) := dl_o21 kcX12_makePart (by decide +kernel)
theorem dX12_makePart_544 : decode cX12_makePart 544 = .ok (.dup2, 1) := dl_o92 kcX12_makePart (by decide +kernel)
theorem dX12_makePart_545 : decode cX12_makePart 545 = .ok (.iaload, 1) := dl_o46 kcX12_makePart (by decide +kernel)
theorem dX12_makePart_546 : decode cX12_makePart 546 = .ok (.iload 18, 2) := dl_o21 kcX12_makePart (by decide +kernel)
theorem dX12_makePart_548 : decode cX12_makePart 548 = .ok (.iadd, 1) := dl_o96 kcX12_makePart (by decide +kernel)
theorem dX12_makePart_549 : decode cX12_makePart 549 = .ok (.iastore, 1) := dl_o79 kcX12_makePart (by decide +kernel)
theorem dX12_makePart_550 : decode cX12_makePart 550 = .ok (.aload_n 0, 1) := dl_o42 kcX12_makePart (by decide +kernel)
theorem dX12_makePart_551 : decode cX12_makePart 551 = .ok (.getfield 155, 3) := dl_o180 kcX12_makePart (by decide +kernel)
theorem dX12_makePart_554 : decode cX12_makePart 554 = .ok (.iload 20, 2) := dl_o21 kcX12_makePart (by decide +kernel)
theorem dX12_makePart_556 : decode cX12_makePart 556 = .ok (.dup2, 1) := dl_o92 kcX12_makePart (by decide +kernel)
theorem dX12_makePart_557 : decode cX12_makePart 557 = .ok (.iaload, 1) := dl_o46 kcX12_makePart (by decide +kernel)
theorem dX12_makePart_558 : decode cX12_makePart 558 = .ok (.iload 19, 2) := dl_o21 kcX12_makePart (by decide +kernel)
theorem dX12_makePart_560 : decode cX12_makePart 560 = .ok (.iadd, 1) := dl_o96 kcX12_makePart (by decide +kernel)
theorem dX12_makePart_561 : decode cX12_makePart 561 = .ok (.iastore, 1) := dl_o79 kcX12_makePart (by decide +kernel)
theorem dX12_makePart_562 : decode cX12_makePart 562 = .ok (.iinc 20 1, 3) := by decide +kernel
theorem dX12_makePart_565 : decode cX12_makePart 565 = .ok (.goto (-40), 3) := dl_o167 kcX12_makePart 65496 (by decide +kernel) (by decide +kernel)
theorem dX12_makePart_568 : decode cX12_makePart 568 = .ok (.iconst 0, 1) := dl_o3 kcX12_makePart (by decide +kernel)
theorem dX12_makePart_569 : decode cX12_makePart 569 = .ok (.istore 20, 2) := dl_o54 kcX12_makePart (by decide +kernel)
theorem dX12_makePart_571 : decode cX12_makePart 571 = .ok (.iload 20, 2) := dl_o21 kcX12_makePart (by decide +kernel)
theorem dX12_makePart_573 : decode cX12_makePart 573 = .ok (.aload_n 0, 1) := dl_o42 kcX12_makePart (by decide +kernel)
theorem dX12_makePart_574 : decode cX12_makePart 574 = .ok (.getfield 149, 3) := dl_o180 kcX12_makePart (by decide +kernel)
theorem dX12_makePart_577 : decode cX12_makePart 577 = .ok (.iload_n 3, 1) := dl_o29 kcX12_makePart (by decide +kernel)
theorem dX12_makePart_578 : decode cX12_makePart 578 = .ok (.iconst 1, 1) := dl_o4 kcX12_makePart (by decide +kernel)
theorem dX12_makePart_579 : decode cX12_makePart 579 = .ok (.iadd, 1) := dl_o96 kcX12_makePart (by decide +kernel)
theorem dX12_makePart_580 : decode cX12_makePart 580 = .ok (.iaload, 1) := dl_o46 kcX12_makePart (by decide +kernel)
theorem dX12_makePart_581 : decode cX12_makePart 581 = .ok (.if_icmp .ge 46, 3) := dl_o162 kcX12_makePart 46 (by decide +kernel) (by decide +kernel)
theorem dX12_makePart_584 : decode cX12_makePart 584 = .ok (.aload_n 0, 1) := dl_o42 kcX12_makePart (by decide +kernel)
theorem dX12_makePart_585 : decode cX12_makePart 585 = .ok (.getfield 161, 3) := dl_o180 kcX12_makePart (by decide +kernel)
theorem dX12_makePart_588 : decode cX12_makePart 588 = .ok (.bipush 20, 2) := dl_o16 kcX12_makePart 20 (by decide +kernel) (by decide +kernel)
theorem dX12_makePart_590 : decode cX12_makePart 590 = .ok (.iload_n 3, 1) := dl_o29 kcX12_makePart (by decide +kernel)
theorem dX12_makePart_591 : decode cX12_makePart 591 = .ok (.imul, 1) := dl_o104 kcX12_makePart (by decide +kernel)
theorem dX12_makePart_592 : decode cX12_makePart 592 = .ok (.aload_n 0, 1) := dl_o42 kcX12_makePart (by decide +kernel)
theorem dX12_makePart_593 : decode cX12_makePart 593 = .ok (.getfield 149, 3) := dl_o180 kcX12_makePart (by decide +kernel)
theorem dX12_makePart_596 : decode cX12_makePart 596 = .ok (.iload_n 3, 1) := dl_o29 kcX12_makePart (by decide +kernel)
theorem dX12_makePart_597 : decode cX12_makePart 597 = .ok (.iaload, 1) := dl_o46 kcX12_makePart (by decide +kernel)
theorem dX12_makePart_598 : decode cX12_makePart 598 = .ok (.iadd, 1) := dl_o96 kcX12_makePart (by decide +kernel)
theorem dX12_makePart_599 : decode cX12_makePart 599 = .ok (.iload 20, 2) := dl_o21 kcX12_makePart (by decide +kernel)
theorem dX12_makePart_601 : decode cX12_makePart 601 = .ok (.iadd, 1) := dl_o96 kcX12_makePart (by decide +kernel)
theorem dX12_makePart_602 : decode cX12_makePart 602 = .ok (.iload 8, 2) := dl_o21 kcX12_makePart (by decide +kernel)
theorem dX12_makePart_604 : decode cX12_makePart 604 = .ok (.aload_n 0, 1) := dl_o42 kcX12_makePart (by decide +kernel)
theorem dX12_makePart_605 : decode cX12_makePart 605 = .ok (.getfield 161, 3) := dl_o180 kcX12_makePart (by decide +kernel)
theorem dX12_makePart_608 : decode cX12_makePart 608 = .ok (.bipush 20, 2) := dl_o16 kcX12_makePart 20 (by decide +kernel) (by decide +kernel)
theorem dX12_makePart_610 : decode cX12_makePart 610 = .ok (.iload_n 3, 1) := dl_o29 kcX12_makePart (by decide +kernel)
theorem dX12_makePart_611 : decode cX12_makePart 611 = .ok (.imul, 1) := dl_o104 kcX12_makePart (by decide +kernel)
theorem dX12_makePart_612 : decode cX12_makePart 612 = .ok (.bipush 20, 2) := dl_o16 kcX12_makePart 20 (by decide +kernel) (by decide +kernel)
theorem dX12_makePart_614 : decode cX12_makePart 614 = .ok (.iadd, 1) := dl_o96 kcX12_makePart (by decide +kernel)
theorem dX12_makePart_615 : decode cX12_makePart 615 = .ok (.iload 20, 2) := dl_o21 kcX12_makePart (by decide +kernel)
theorem dX12_makePart_617 : decode cX12_makePart 617 = .ok (.iadd, 1) := dl_o96 kcX12_makePart (by decide +kernel)
theorem dX12_makePart_618 : decode cX12_makePart 618 = .ok (.iaload, 1) := dl_o46 kcX12_makePart (by decide +kernel)
theorem dX12_makePart_619 : decode cX12_makePart 619 = .ok (.iadd, 1) := dl_o96 kcX12_makePart (by decide +kernel)
theorem dX12_makePart_620 : decode cX12_makePart 620 = .ok (.iastore, 1) := dl_o79 kcX12_makePart (by decide +kernel)
theorem dX12_makePart_621 : decode cX12_makePart 621 = .ok (.iinc 20 1, 3) := by decide +kernel
theorem dX12_makePart_624 : decode cX12_makePart 624 = .ok (.goto (-53), 3) := dl_o167 kcX12_makePart 65483 (by decide +kernel) (by decide +kernel)
theorem dX12_makePart_627 : decode cX12_makePart 627 = .ok (.aload_n 0, 1) := dl_o42 kcX12_makePart (by decide +kernel)
theorem dX12_makePart_628 : decode cX12_makePart 628 = .ok (.getfield 146, 3) := dl_o180 kcX12_makePart (by decide +kernel)
theorem dX12_makePart_631 : decode cX12_makePart 631 = .ok (.iload_n 3, 1) := dl_o29 kcX12_makePart (by decide +kernel)
theorem dX12_makePart_632 : decode cX12_makePart 632 = .ok (.dup2, 1) := dl_o92 kcX12_makePart (by decide +kernel)
theorem dX12_makePart_633 : decode cX12_makePart 633 = .ok (.iaload, 1) := dl_o46 kcX12_makePart (by decide +kernel)
theorem dX12_makePart_634 : decode cX12_makePart 634 = .ok (.iload 9, 2) := dl_o21 kcX12_makePart (by decide +kernel)
theorem dX12_makePart_636 : decode cX12_makePart 636 = .ok (.iadd, 1) := dl_o96 kcX12_makePart (by decide +kernel)
theorem dX12_makePart_637 : decode cX12_makePart 637 = .ok (.iastore, 1) := dl_o79 kcX12_makePart (by decide +kernel)
theorem dX12_makePart_638 : decode cX12_makePart 638 = .ok (.aload_n 0, 1) := dl_o42 kcX12_makePart (by decide +kernel)
theorem dX12_makePart_639 : decode cX12_makePart 639 = .ok (.getfield 149, 3) := dl_o180 kcX12_makePart (by decide +kernel)
theorem dX12_makePart_642 : decode cX12_makePart 642 = .ok (.iload_n 3, 1) := dl_o29 kcX12_makePart (by decide +kernel)
theorem dX12_makePart_643 : decode cX12_makePart 643 = .ok (.dup2, 1) := dl_o92 kcX12_makePart (by decide +kernel)
theorem dX12_makePart_644 : decode cX12_makePart 644 = .ok (.iaload, 1) := dl_o46 kcX12_makePart (by decide +kernel)
theorem dX12_makePart_645 : decode cX12_makePart 645 = .ok (.aload_n 0, 1) := dl_o42 kcX12_makePart (by decide +kernel)
theorem dX12_makePart_646 : decode cX12_makePart 646 = .ok (.getfield 149, 3) := dl_o180 kcX12_makePart (by decide +kernel)
theorem dX12_makePart_649 : decode cX12_makePart 649 = .ok (.iload_n 3, 1) := dl_o29 kcX12_makePart (by decide +kernel)
theorem dX12_makePart_650 : decode cX12_makePart 650 = .ok (.iconst 1, 1) := dl_o4 kcX12_makePart (by decide +kernel)
theorem dX12_makePart_651 : decode cX12_makePart 651 = .ok (.iadd, 1) := dl_o96 kcX12_makePart (by decide +kernel)
theorem dX12_makePart_652 : decode cX12_makePart 652 = .ok (.iaload, 1) := dl_o46 kcX12_makePart (by decide +kernel)
theorem dX12_makePart_653 : decode cX12_makePart 653 = .ok (.iadd, 1) := dl_o96 kcX12_makePart (by decide +kernel)
theorem dX12_makePart_654 : decode cX12_makePart 654 = .ok (.iastore, 1) := dl_o79 kcX12_makePart (by decide +kernel)
theorem dX12_makePart_655 : decode cX12_makePart 655 = .ok (.aload_n 0, 1) := dl_o42 kcX12_makePart (by decide +kernel)
theorem dX12_makePart_656 : decode cX12_makePart 656 = .ok (.getfield 42, 3) := dl_o180 kcX12_makePart (by decide +kernel)
theorem dX12_makePart_659 : decode cX12_makePart 659 = .ok (.iload_n 2, 1) := dl_o28 kcX12_makePart (by decide +kernel)
theorem dX12_makePart_660 : decode cX12_makePart 660 = .ok (.iaload, 1) := dl_o46 kcX12_makePart (by decide +kernel)
theorem dX12_makePart_661 : decode cX12_makePart 661 = .ok (.sipush 512, 3) := dl_o17 kcX12_makePart 512 (by decide +kernel) (by decide +kernel)
theorem dX12_makePart_664 : decode cX12_makePart 664 = .ok (.iand, 1) := dl_o126 kcX12_makePart (by decide +kernel)
theorem dX12_makePart_665 : decode cX12_makePart 665 = .ok (.ifCond .eq 42, 3) := dl_o153 kcX12_makePart 42 (by decide +kernel) (by decide +kernel)
theorem dX12_makePart_668 : decode cX12_makePart 668 = .ok (.iconst 0, 1) := dl_o3 kcX12_makePart (by decide +kernel)
theorem dX12_makePart_669 : decode cX12_makePart 669 = .ok (.istore 20, 2) := dl_o54 kcX12_makePart (by decide +kernel)
theorem dX12_makePart_671 : decode cX12_makePart 671 = .ok (.iload 20, 2) := dl_o21 kcX12_makePart (by decide +kernel)
theorem dX12_makePart_673 : decode cX12_makePart 673 = .ok (.iconst 4, 1) := dl_o7 kcX12_makePart (by decide +kernel)
theorem dX12_makePart_674 : decode cX12_makePart 674 = .ok (.if_icmp .ge 33, 3) := dl_o162 kcX12_makePart 33 (by decide +kernel) (by decide +kernel)
theorem dX12_makePart_677 : decode cX12_makePart 677 = .ok (.aload_n 0, 1) := dl_o42 kcX12_makePart (by decide +kernel)
theorem dX12_makePart_678 : decode cX12_makePart 678 = .ok (.getfield 164, 3) := dl_o180 kcX12_makePart (by decide +kernel)
theorem dX12_makePart_681 : decode cX12_makePart 681 = .ok (.iconst 4, 1) := dl_o7 kcX12_makePart (by decide +kernel)
theorem dX12_makePart_682 : decode cX12_makePart 682 = .ok (.iload_n 3, 1) := dl_o29 kcX12_makePart (by decide +kernel)
theorem dX12_makePart_683 : decode cX12_makePart 683 = .ok (.imul, 1) := dl_o104 kcX12_makePart (by decide +kernel)
theorem dX12_makePart_684 : decode cX12_makePart 684 = .ok (.iload 20, 2) := dl_o21 kcX12_makePart (by decide +kernel)
theorem dX12_makePart_686 : decode cX12_makePart 686 = .ok (.iadd, 1) := dl_o96 kcX12_makePart (by decide +kernel)
theorem dX12_makePart_687 : decode cX12_makePart 687 = .ok (.aload_n 0, 1) := dl_o42 kcX12_makePart (by decide +kernel)
theorem dX12_makePart_688 : decode cX12_makePart 688 = .ok (.getfield 164, 3) := dl_o180 kcX12_makePart (by decide +kernel)
theorem dX12_makePart_691 : decode cX12_makePart 691 = .ok (.iconst 4, 1) := dl_o7 kcX12_makePart (by decide +kernel)
theorem dX12_makePart_692 : decode cX12_makePart 692 = .ok (.iload_n 3, 1) := dl_o29 kcX12_makePart (by decide +kernel)
theorem dX12_makePart_693 : decode cX12_makePart 693 = .ok (.imul, 1) := dl_o104 kcX12_makePart (by decide +kernel)
theorem dX12_makePart_694 : decode cX12_makePart 694 = .ok (.iconst 4, 1) := dl_o7 kcX12_makePart (by decide +kernel)
theorem dX12_makePart_695 : decode cX12_makePart 695 = .ok (.iadd, 1) := dl_o96 kcX12_makePart (by decide +kernel)
theorem dX12_makePart_696 : decode cX12_makePart 696 = .ok (.iload 20, 2) := dl_o21 kcX12_makePart (by decide +kernel)
theorem dX12_makePart_698 : decode cX12_makePart 698 = .ok (.iadd, 1) := dl_o96 kcX12_makePart (by decide +kernel)
theorem dX12_makePart_699 : decode cX12_makePart 699 = .ok (.iaload, 1) := dl_o46 kcX12_makePart (by decide +kernel)
theorem dX12_makePart_700 : decode cX12_makePart 700 = .ok (.iastore, 1) := dl_o79 kcX12_makePart (by decide +kernel)
theorem dX12_makePart_701 : decode cX12_makePart 701 = .ok (.iinc 20 1, 3) := by decide +kernel
theorem dX12_makePart_704 : decode cX12_makePart 704 = .ok (.goto (-33), 3) := dl_o167 kcX12_makePart 65503 (by decide +kernel) (by decide +kernel)
theorem dX12_makePart_707 : decode cX12_makePart 707 = .ok (.return_, 1) := dl_o177 kcX12_makePart (by decide +kernel)
def B_X12_makePart_126 (N : Nat) (kb : Int32 → Int32 → sv_V → Option sv_V)   (V : sv_V) : Option sv_V := (F_X12_failOutside (12 : Int32) V).bind (fun V1 => some V1)
set_option maxRecDepth 20000 in
theorem tB_X12_makePart_126 {g : sx_G} (hG : sx_Go g) {P : Option Value → sv_V → Prop} {Vr : sv_V} (hP : P none Vr) {N : Nat} {D : Nat} {kb : Int32 → Int32 → sv_V → Option sv_V} (hkb : ∀ (l1 : Int32) (l2 : Int32) (V : sv_V) (Wr : sv_V), kb l1 l2 V = some Wr → ∀ P : Option Value → sv_V → Prop, P none Wr → sv_N g qX12_makeGlyph (30 + 2 * D) 0 [(0, .ref 146), (1, .int l1), (2, .int l2)] [] V P)    {V : sv_V} (h : B_X12_makePart_126 N kb   V = some Vr) : sv_N g qX12_makePart (30 + 2 * D + 1) 126 [(0, .ref 146)] [] V P := by
  unfold B_X12_makePart_126 at h
  refine sx_aload_n (pc := 126) dX12_makePart_126 sx_m0 ?_
  refine sx_bipush (pc := 127) (v := 12) dX12_makePart_127 (by decide) ?_
  obtain ⟨V1, g2, h⟩ := sx_bnd h
  refine sv_cV (pc := 129) (y := qX12_failOutside) (o := none) (as := [.int (12 : Int32)]) (V1 := V1) hG dX12_makePart_129 l_X12_795 y0X12_failOutside yvX12_failOutside rfl (Nat.le_of_ble_eq_true rfl) lay_146 kr_12 (by omega) (Nat.le_of_ble_eq_true rfl) rfl rfl rfl (t_X12_failOutside hG ⟨rfl, rfl⟩ g2) ?_
  exact sv_vret (pc := 132) dX12_makePart_132 rfl h hP
def B_X12_makePart_671 (N : Nat) (kb : Int32 → Int32 → sv_V → Option sv_V) (k671 : Int32 → Int32 → sv_V → Option sv_V) (l3 : Int32) (l20 : Int32) (V : sv_V) : Option sv_V := if (4 : Int32) ≤ l20 then (some V) else (if sx_in ((((4 : Int32) * l3) + (4 : Int32)) + l20) 24 = true then if sx_in (((4 : Int32) * l3) + l20) 24 = true then sx_let (sv_I V 196 (((4 : Int32) * l3) + l20).toNatClampNeg (V.1 196 ((((4 : Int32) * l3) + (4 : Int32)) + l20).toNatClampNeg)) (fun V6 => sx_let (l20 + 1) (fun x7 => k671 l3 x7 V6)) else none else none)
set_option maxRecDepth 20000 in
theorem tB_X12_makePart_671 {g : sx_G} (hG : sx_Go g) {P : Option Value → sv_V → Prop} {Vr : sv_V} (hP : P none Vr) {N : Nat} {D : Nat} {kb : Int32 → Int32 → sv_V → Option sv_V} (hkb : ∀ (l1 : Int32) (l2 : Int32) (V : sv_V) (Wr : sv_V), kb l1 l2 V = some Wr → ∀ P : Option Value → sv_V → Prop, P none Wr → sv_N g qX12_makeGlyph (30 + 2 * D) 0 [(0, .ref 146), (1, .int l1), (2, .int l2)] [] V P) {k671 : Int32 → Int32 → sv_V → Option sv_V} (hk671 : ∀ (l3 : Int32) (l20 : Int32) (V : sv_V), k671 l3 l20 V = some Vr → sv_N g qX12_makePart (30 + 2 * D + 1) 671 [(0, .ref 146), (3, .int l3), (20, .int l20)] [] V P) {l3 : Int32} {l20 : Int32} {V : sv_V} (h : B_X12_makePart_671 N kb k671 l3 l20 V = some Vr) : sv_N g qX12_makePart (30 + 2 * D + 1) 671 [(0, .ref 146), (3, .int l3), (20, .int l20)] [] V P := by
  unfold B_X12_makePart_671 at h
  refine sx_iload (pc := 671) dX12_makePart_671 sx_m2 ?_
  refine sx_iconst (pc := 673) (v := 4) dX12_makePart_673 (by decide) ?_
  refine sx_icmp_ge (pc := 674) (tgt := 707) dX12_makePart_674 (by decide) (fun c3 => ?_) (fun c3 => ?_)
  · have h := sx_pos c3 h
    exact sv_vret (pc := 707) dX12_makePart_707 rfl h hP
  · have h := sx_neg c3 h
    refine sx_aload_n (pc := 677) dX12_makePart_677 sx_m0 ?_
    refine sv_getA (pc := 678) hG dX12_makePart_678 f_12_164 lay_146 rfl cr_146_124 ?_
    refine sx_iconst (pc := 681) (v := 4) dX12_makePart_681 (by decide) ?_
    refine sx_iload_n (pc := 682) dX12_makePart_682 sx_m1 ?_
    refine sx_imul (pc := 683) dX12_makePart_683 ?_
    refine sx_iload (pc := 684) dX12_makePart_684 sx_m2 ?_
    refine sx_iadd (pc := 686) dX12_makePart_686 ?_
    refine sx_aload_n (pc := 687) dX12_makePart_687 sx_m0 ?_
    refine sv_getA (pc := 688) hG dX12_makePart_688 f_12_164 lay_146 rfl cr_146_124 ?_
    refine sx_iconst (pc := 691) (v := 4) dX12_makePart_691 (by decide) ?_
    refine sx_iload_n (pc := 692) dX12_makePart_692 sx_m1 ?_
    refine sx_imul (pc := 693) dX12_makePart_693 ?_
    refine sx_iconst (pc := 694) (v := 4) dX12_makePart_694 (by decide) ?_
    refine sx_iadd (pc := 695) dX12_makePart_695 ?_
    refine sx_iload (pc := 696) dX12_makePart_696 sx_m2 ?_
    refine sx_iadd (pc := 698) dX12_makePart_698 ?_
    obtain ⟨g4, h⟩ := sx_grd h
    refine sv_iald (pc := 699) hG dX12_makePart_699 lay_196 g4 ?_
    obtain ⟨g5, h⟩ := sx_grd h
    obtain ⟨V6, hV6⟩ : ∃ z : sv_V, z = sv_I V 196 (((4 : Int32) * l3) + l20).toNatClampNeg (V.1 196 ((((4 : Int32) * l3) + (4 : Int32)) + l20).toNatClampNeg) := ⟨_, rfl⟩
    have h := sx_letE hV6 h
    refine sv_iast (pc := 700) hG dX12_makePart_700 lay_196 g5 hV6 ?_
    obtain ⟨x7, hx7⟩ : ∃ z : Int32, z = l20 + 1 := ⟨_, rfl⟩
    have h := sx_letE hx7 h
    refine sx_iinc (pc := 701) (v := x7) (lo' := [(20, .int x7), (0, .ref 146), (3, .int l3)]) dX12_makePart_701 sx_m2 (by rw [hx7]; rfl) (by decide) rfl ?_
    refine sx_goto (pc := 704) (tgt := 671) dX12_makePart_704 (by decide) ?_
    refine sx_wk (sx_s1 sx_m1 (sx_s1 sx_m2 (sx_s1 sx_m0 sx_s0))) ?_
    exact hk671 _ _ _ h
theorem tL_X12_makePart_671 {g : sx_G} (hG : sx_Go g) {P : Option Value → sv_V → Prop} {Vr : sv_V} (hP : P none Vr) {N : Nat} {D : Nat} {kb : Int32 → Int32 → sv_V → Option sv_V} (hkb : ∀ (l1 : Int32) (l2 : Int32) (V : sv_V) (Wr : sv_V), kb l1 l2 V = some Wr → ∀ P : Option Value → sv_V → Prop, P none Wr → sv_N g qX12_makeGlyph (30 + 2 * D) 0 [(0, .ref 146), (1, .int l1), (2, .int l2)] [] V P)   : ∀ (n : Nat) (l3 : Int32) (l20 : Int32) (V : sv_V), sx_lp3 (B_X12_makePart_671 N kb ) n l3 l20 V = some Vr → sv_N g qX12_makePart (30 + 2 * D + 1) 671 [(0, .ref 146), (3, .int l3), (20, .int l20)] [] V P :=
  sx_lp3_ind (fun k0 ih _ _ V h => tB_X12_makePart_671 hG hP hkb ih h)
def B_X12_makePart_571 (N : Nat) (kb : Int32 → Int32 → sv_V → Option sv_V) (k571 : Int32 → Int32 → Int32 → Int32 → Int32 → sv_V → Option sv_V) (l2 : Int32) (l3 : Int32) (l8 : Int32) (l9 : Int32) (l20 : Int32) (V : sv_V) : Option sv_V := if sx_in (l3 + (1 : Int32)) 6 = true then if (V.1 191 (l3 + (1 : Int32)).toNatClampNeg) ≤ l20 then (if sx_in l3 6 = true then if sx_in l3 6 = true then sx_let (sv_I V 190 l3.toNatClampNeg ((V.1 190 l3.toNatClampNeg) + l9)) (fun V12 => if sx_in l3 6 = true then if sx_in (l3 + (1 : Int32)) 6 = true then if sx_in l3 6 = true then sx_let (sv_I V12 191 l3.toNatClampNeg ((V12.1 191 l3.toNatClampNeg) + (V12.1 191 (l3 + (1 : Int32)).toNatClampNeg))) (fun V16 => if sx_in l2 8 = true then if ((V16.1 157 l2.toNatClampNeg) &&& (512 : Int32)) = 0 then (some V16) else (sx_lp3 (B_X12_makePart_671 N kb ) N l3 (0 : Int32) V16) else none) else none else none else none) else none else none) else (if sx_in l3 6 = true then if sx_in ((((20 : Int32) * l3) + (20 : Int32)) + l20) 120 = true then if sx_in ((((20 : Int32) * l3) + (V.1 191 l3.toNatClampNeg)) + l20) 120 = true then sx_let (sv_I V 195 ((((20 : Int32) * l3) + (V.1 191 l3.toNatClampNeg)) + l20).toNatClampNeg (l8 + (V.1 195 ((((20 : Int32) * l3) + (20 : Int32)) + l20).toNatClampNeg))) (fun V22 => sx_let (l20 + 1) (fun x23 => k571 l2 l3 l8 l9 x23 V22)) else none else none else none) else none
set_option maxRecDepth 20000 in
theorem tB_X12_makePart_571 {g : sx_G} (hG : sx_Go g) {P : Option Value → sv_V → Prop} {Vr : sv_V} (hP : P none Vr) {N : Nat} {D : Nat} {kb : Int32 → Int32 → sv_V → Option sv_V} (hkb : ∀ (l1 : Int32) (l2 : Int32) (V : sv_V) (Wr : sv_V), kb l1 l2 V = some Wr → ∀ P : Option Value → sv_V → Prop, P none Wr → sv_N g qX12_makeGlyph (30 + 2 * D) 0 [(0, .ref 146), (1, .int l1), (2, .int l2)] [] V P) {k571 : Int32 → Int32 → Int32 → Int32 → Int32 → sv_V → Option sv_V} (hk571 : ∀ (l2 : Int32) (l3 : Int32) (l8 : Int32) (l9 : Int32) (l20 : Int32) (V : sv_V), k571 l2 l3 l8 l9 l20 V = some Vr → sv_N g qX12_makePart (30 + 2 * D + 1) 571 [(0, .ref 146), (2, .int l2), (3, .int l3), (8, .int l8), (9, .int l9), (20, .int l20)] [] V P) {l2 : Int32} {l3 : Int32} {l8 : Int32} {l9 : Int32} {l20 : Int32} {V : sv_V} (h : B_X12_makePart_571 N kb k571 l2 l3 l8 l9 l20 V = some Vr) : sv_N g qX12_makePart (30 + 2 * D + 1) 571 [(0, .ref 146), (2, .int l2), (3, .int l3), (8, .int l8), (9, .int l9), (20, .int l20)] [] V P := by
  unfold B_X12_makePart_571 at h
  refine sx_iload (pc := 571) dX12_makePart_571 sx_m5 ?_
  refine sx_aload_n (pc := 573) dX12_makePart_573 sx_m0 ?_
  refine sv_getA (pc := 574) hG dX12_makePart_574 f_12_149 lay_146 rfl cr_146_119 ?_
  refine sx_iload_n (pc := 577) dX12_makePart_577 sx_m2 ?_
  refine sx_iconst (pc := 578) (v := 1) dX12_makePart_578 (by decide) ?_
  refine sx_iadd (pc := 579) dX12_makePart_579 ?_
  obtain ⟨g8, h⟩ := sx_grd h
  refine sv_iald (pc := 580) hG dX12_makePart_580 lay_191 g8 ?_
  refine sx_icmp_ge (pc := 581) (tgt := 627) dX12_makePart_581 (by decide) (fun c9 => ?_) (fun c9 => ?_)
  · have h := sx_pos c9 h
    refine sx_aload_n (pc := 627) dX12_makePart_627 sx_m0 ?_
    refine sv_getA (pc := 628) hG dX12_makePart_628 f_12_146 lay_146 rfl cr_146_118 ?_
    refine sx_iload_n (pc := 631) dX12_makePart_631 sx_m2 ?_
    refine sx_dup2 (pc := 632) dX12_makePart_632 rfl rfl ?_
    obtain ⟨g10, h⟩ := sx_grd h
    refine sv_iald (pc := 633) hG dX12_makePart_633 lay_190 g10 ?_
    refine sx_iload (pc := 634) dX12_makePart_634 sx_m4 ?_
    refine sx_iadd (pc := 636) dX12_makePart_636 ?_
    obtain ⟨g11, h⟩ := sx_grd h
    obtain ⟨V12, hV12⟩ : ∃ z : sv_V, z = sv_I V 190 l3.toNatClampNeg ((V.1 190 l3.toNatClampNeg) + l9) := ⟨_, rfl⟩
    have h := sx_letE hV12 h
    refine sv_iast (pc := 637) hG dX12_makePart_637 lay_190 g11 hV12 ?_
    refine sx_aload_n (pc := 638) dX12_makePart_638 sx_m0 ?_
    refine sv_getA (pc := 639) hG dX12_makePart_639 f_12_149 lay_146 rfl cr_146_119 ?_
    refine sx_iload_n (pc := 642) dX12_makePart_642 sx_m2 ?_
    refine sx_dup2 (pc := 643) dX12_makePart_643 rfl rfl ?_
    obtain ⟨g13, h⟩ := sx_grd h
    refine sv_iald (pc := 644) hG dX12_makePart_644 lay_191 g13 ?_
    refine sx_aload_n (pc := 645) dX12_makePart_645 sx_m0 ?_
    refine sv_getA (pc := 646) hG dX12_makePart_646 f_12_149 lay_146 rfl cr_146_119 ?_
    refine sx_iload_n (pc := 649) dX12_makePart_649 sx_m2 ?_
    refine sx_iconst (pc := 650) (v := 1) dX12_makePart_650 (by decide) ?_
    refine sx_iadd (pc := 651) dX12_makePart_651 ?_
    obtain ⟨g14, h⟩ := sx_grd h
    refine sv_iald (pc := 652) hG dX12_makePart_652 lay_191 g14 ?_
    refine sx_iadd (pc := 653) dX12_makePart_653 ?_
    obtain ⟨g15, h⟩ := sx_grd h
    obtain ⟨V16, hV16⟩ : ∃ z : sv_V, z = sv_I V12 191 l3.toNatClampNeg ((V12.1 191 l3.toNatClampNeg) + (V12.1 191 (l3 + (1 : Int32)).toNatClampNeg)) := ⟨_, rfl⟩
    have h := sx_letE hV16 h
    refine sv_iast (pc := 654) hG dX12_makePart_654 lay_191 g15 hV16 ?_
    refine sx_aload_n (pc := 655) dX12_makePart_655 sx_m0 ?_
    refine sv_getA (pc := 656) hG dX12_makePart_656 f_12_42 lay_146 rfl cr_146_37 ?_
    refine sx_iload_n (pc := 659) dX12_makePart_659 sx_m1 ?_
    obtain ⟨g17, h⟩ := sx_grd h
    refine sv_iald (pc := 660) hG dX12_makePart_660 lay_157 g17 ?_
    refine sx_sipush (pc := 661) (v := 512) dX12_makePart_661 (by decide) ?_
    refine sx_iand (pc := 664) dX12_makePart_664 ?_
    refine sx_if_eq (pc := 665) (tgt := 707) dX12_makePart_665 (by decide) (fun c18 => ?_) (fun c18 => ?_)
    · have h := sx_pos c18 h
      exact sv_vret (pc := 707) dX12_makePart_707 rfl h hP
    · have h := sx_neg c18 h
      refine sx_iconst (pc := 668) (v := 0) dX12_makePart_668 (by decide) ?_
      refine sx_istore (pc := 669) (lo' := [(20, .int (0 : Int32)), (0, .ref 146), (2, .int l2), (3, .int l3), (8, .int l8), (9, .int l9)]) dX12_makePart_669 (by decide) rfl ?_
      refine sx_wk (sx_s1 sx_m1 (sx_s1 sx_m3 (sx_s1 sx_m0 sx_s0))) ?_
      exact tL_X12_makePart_671 hG hP hkb  N _ _ _ h
  · have h := sx_neg c9 h
    refine sx_aload_n (pc := 584) dX12_makePart_584 sx_m0 ?_
    refine sv_getA (pc := 585) hG dX12_makePart_585 f_12_161 lay_146 rfl cr_146_123 ?_
    refine sx_bipush (pc := 588) (v := 20) dX12_makePart_588 (by decide) ?_
    refine sx_iload_n (pc := 590) dX12_makePart_590 sx_m2 ?_
    refine sx_imul (pc := 591) dX12_makePart_591 ?_
    refine sx_aload_n (pc := 592) dX12_makePart_592 sx_m0 ?_
    refine sv_getA (pc := 593) hG dX12_makePart_593 f_12_149 lay_146 rfl cr_146_119 ?_
    refine sx_iload_n (pc := 596) dX12_makePart_596 sx_m2 ?_
    obtain ⟨g19, h⟩ := sx_grd h
    refine sv_iald (pc := 597) hG dX12_makePart_597 lay_191 g19 ?_
    refine sx_iadd (pc := 598) dX12_makePart_598 ?_
    refine sx_iload (pc := 599) dX12_makePart_599 sx_m5 ?_
    refine sx_iadd (pc := 601) dX12_makePart_601 ?_
    refine sx_iload (pc := 602) dX12_makePart_602 sx_m3 ?_
    refine sx_aload_n (pc := 604) dX12_makePart_604 sx_m0 ?_
    refine sv_getA (pc := 605) hG dX12_makePart_605 f_12_161 lay_146 rfl cr_146_123 ?_
    refine sx_bipush (pc := 608) (v := 20) dX12_makePart_608 (by decide) ?_
    refine sx_iload_n (pc := 610) dX12_makePart_610 sx_m2 ?_
    refine sx_imul (pc := 611) dX12_makePart_611 ?_
    refine sx_bipush (pc := 612) (v := 20) dX12_makePart_612 (by decide) ?_
    refine sx_iadd (pc := 614) dX12_makePart_614 ?_
    refine sx_iload (pc := 615) dX12_makePart_615 sx_m5 ?_
    refine sx_iadd (pc := 617) dX12_makePart_617 ?_
    obtain ⟨g20, h⟩ := sx_grd h
    refine sv_iald (pc := 618) hG dX12_makePart_618 lay_195 g20 ?_
    refine sx_iadd (pc := 619) dX12_makePart_619 ?_
    obtain ⟨g21, h⟩ := sx_grd h
    obtain ⟨V22, hV22⟩ : ∃ z : sv_V, z = sv_I V 195 ((((20 : Int32) * l3) + (V.1 191 l3.toNatClampNeg)) + l20).toNatClampNeg (l8 + (V.1 195 ((((20 : Int32) * l3) + (20 : Int32)) + l20).toNatClampNeg)) := ⟨_, rfl⟩
    have h := sx_letE hV22 h
    refine sv_iast (pc := 620) hG dX12_makePart_620 lay_195 g21 hV22 ?_
    obtain ⟨x23, hx23⟩ : ∃ z : Int32, z = l20 + 1 := ⟨_, rfl⟩
    have h := sx_letE hx23 h
    refine sx_iinc (pc := 621) (v := x23) (lo' := [(20, .int x23), (0, .ref 146), (2, .int l2), (3, .int l3), (8, .int l8), (9, .int l9)]) dX12_makePart_621 sx_m5 (by rw [hx23]; rfl) (by decide) rfl ?_
    refine sx_goto (pc := 624) (tgt := 571) dX12_makePart_624 (by decide) ?_
    refine sx_wk (sx_s1 sx_m1 (sx_s1 sx_m2 (sx_s1 sx_m3 (sx_s1 sx_m4 (sx_s1 sx_m5 (sx_s1 sx_m0 sx_s0)))))) ?_
    exact hk571 _ _ _ _ _ _ h
theorem tL_X12_makePart_571 {g : sx_G} (hG : sx_Go g) {P : Option Value → sv_V → Prop} {Vr : sv_V} (hP : P none Vr) {N : Nat} {D : Nat} {kb : Int32 → Int32 → sv_V → Option sv_V} (hkb : ∀ (l1 : Int32) (l2 : Int32) (V : sv_V) (Wr : sv_V), kb l1 l2 V = some Wr → ∀ P : Option Value → sv_V → Prop, P none Wr → sv_N g qX12_makeGlyph (30 + 2 * D) 0 [(0, .ref 146), (1, .int l1), (2, .int l2)] [] V P)   : ∀ (n : Nat) (l2 : Int32) (l3 : Int32) (l8 : Int32) (l9 : Int32) (l20 : Int32) (V : sv_V), sx_lp6 (B_X12_makePart_571 N kb ) n l2 l3 l8 l9 l20 V = some Vr → sv_N g qX12_makePart (30 + 2 * D + 1) 571 [(0, .ref 146), (2, .int l2), (3, .int l3), (8, .int l8), (9, .int l9), (20, .int l20)] [] V P :=
  sx_lp6_ind (fun k0 ih _ _ _ _ _ V h => tB_X12_makePart_571 hG hP hkb ih h)
def B_X12_makePart_525 (N : Nat) (kb : Int32 → Int32 → sv_V → Option sv_V) (k525 : Int32 → Int32 → Int32 → Int32 → Int32 → Int32 → Int32 → Int32 → sv_V → Option sv_V) (l2 : Int32) (l3 : Int32) (l6 : Int32) (l8 : Int32) (l9 : Int32) (l18 : Int32) (l19 : Int32) (l20 : Int32) (V : sv_V) : Option sv_V := if ((l6 + l8) + l9) ≤ l20 then (sx_lp6 (B_X12_makePart_571 N kb ) N l2 l3 l8 l9 (0 : Int32) V) else (if sx_in l20 612 = true then if sx_in l20 612 = true then sx_let (sv_I V 192 l20.toNatClampNeg ((V.1 192 l20.toNatClampNeg) + l18)) (fun V27 => if sx_in l20 612 = true then if sx_in l20 612 = true then sx_let (sv_I V27 193 l20.toNatClampNeg ((V27.1 193 l20.toNatClampNeg) + l19)) (fun V30 => sx_let (l20 + 1) (fun x31 => k525 l2 l3 l6 l8 l9 l18 l19 x31 V30)) else none else none) else none else none)
set_option maxRecDepth 20000 in
theorem tB_X12_makePart_525 {g : sx_G} (hG : sx_Go g) {P : Option Value → sv_V → Prop} {Vr : sv_V} (hP : P none Vr) {N : Nat} {D : Nat} {kb : Int32 → Int32 → sv_V → Option sv_V} (hkb : ∀ (l1 : Int32) (l2 : Int32) (V : sv_V) (Wr : sv_V), kb l1 l2 V = some Wr → ∀ P : Option Value → sv_V → Prop, P none Wr → sv_N g qX12_makeGlyph (30 + 2 * D) 0 [(0, .ref 146), (1, .int l1), (2, .int l2)] [] V P) {k525 : Int32 → Int32 → Int32 → Int32 → Int32 → Int32 → Int32 → Int32 → sv_V → Option sv_V} (hk525 : ∀ (l2 : Int32) (l3 : Int32) (l6 : Int32) (l8 : Int32) (l9 : Int32) (l18 : Int32) (l19 : Int32) (l20 : Int32) (V : sv_V), k525 l2 l3 l6 l8 l9 l18 l19 l20 V = some Vr → sv_N g qX12_makePart (30 + 2 * D + 1) 525 [(0, .ref 146), (2, .int l2), (3, .int l3), (6, .int l6), (8, .int l8), (9, .int l9), (18, .int l18), (19, .int l19), (20, .int l20)] [] V P) {l2 : Int32} {l3 : Int32} {l6 : Int32} {l8 : Int32} {l9 : Int32} {l18 : Int32} {l19 : Int32} {l20 : Int32} {V : sv_V} (h : B_X12_makePart_525 N kb k525 l2 l3 l6 l8 l9 l18 l19 l20 V = some Vr) : sv_N g qX12_makePart (30 + 2 * D + 1) 525 [(0, .ref 146), (2, .int l2), (3, .int l3), (6, .int l6), (8, .int l8), (9, .int l9), (18, .int l18), (19, .int l19), (20, .int l20)] [] V P := by
  unfold B_X12_makePart_525 at h
  refine sx_iload (pc := 525) dX12_makePart_525 sx_m8 ?_
  refine sx_iload (pc := 527) dX12_makePart_527 sx_m3 ?_
  refine sx_iload (pc := 529) dX12_makePart_529 sx_m4 ?_
  refine sx_iadd (pc := 531) dX12_makePart_531 ?_
  refine sx_iload (pc := 532) dX12_makePart_532 sx_m5 ?_
  refine sx_iadd (pc := 534) dX12_makePart_534 ?_
  refine sx_icmp_ge (pc := 535) (tgt := 568) dX12_makePart_535 (by decide) (fun c24 => ?_) (fun c24 => ?_)
  · have h := sx_pos c24 h
    refine sx_iconst (pc := 568) (v := 0) dX12_makePart_568 (by decide) ?_
    refine sx_istore (pc := 569) (lo' := [(20, .int (0 : Int32)), (0, .ref 146), (2, .int l2), (3, .int l3), (6, .int l6), (8, .int l8), (9, .int l9), (18, .int l18), (19, .int l19)]) dX12_makePart_569 (by decide) rfl ?_
    refine sx_wk (sx_s1 sx_m1 (sx_s1 sx_m2 (sx_s1 sx_m3 (sx_s1 sx_m5 (sx_s1 sx_m6 (sx_s1 sx_m0 sx_s0)))))) ?_
    exact tL_X12_makePart_571 hG hP hkb  N _ _ _ _ _ _ h
  · have h := sx_neg c24 h
    refine sx_aload_n (pc := 538) dX12_makePart_538 sx_m0 ?_
    refine sv_getA (pc := 539) hG dX12_makePart_539 f_12_152 lay_146 rfl cr_146_120 ?_
    refine sx_iload (pc := 542) dX12_makePart_542 sx_m8 ?_
    refine sx_dup2 (pc := 544) dX12_makePart_544 rfl rfl ?_
    obtain ⟨g25, h⟩ := sx_grd h
    refine sv_iald (pc := 545) hG dX12_makePart_545 lay_192 g25 ?_
    refine sx_iload (pc := 546) dX12_makePart_546 sx_m6 ?_
    refine sx_iadd (pc := 548) dX12_makePart_548 ?_
    obtain ⟨g26, h⟩ := sx_grd h
    obtain ⟨V27, hV27⟩ : ∃ z : sv_V, z = sv_I V 192 l20.toNatClampNeg ((V.1 192 l20.toNatClampNeg) + l18) := ⟨_, rfl⟩
    have h := sx_letE hV27 h
    refine sv_iast (pc := 549) hG dX12_makePart_549 lay_192 g26 hV27 ?_
    refine sx_aload_n (pc := 550) dX12_makePart_550 sx_m0 ?_
    refine sv_getA (pc := 551) hG dX12_makePart_551 f_12_155 lay_146 rfl cr_146_121 ?_
    refine sx_iload (pc := 554) dX12_makePart_554 sx_m8 ?_
    refine sx_dup2 (pc := 556) dX12_makePart_556 rfl rfl ?_
    obtain ⟨g28, h⟩ := sx_grd h
    refine sv_iald (pc := 557) hG dX12_makePart_557 lay_193 g28 ?_
    refine sx_iload (pc := 558) dX12_makePart_558 sx_m7 ?_
    refine sx_iadd (pc := 560) dX12_makePart_560 ?_
    obtain ⟨g29, h⟩ := sx_grd h
    obtain ⟨V30, hV30⟩ : ∃ z : sv_V, z = sv_I V27 193 l20.toNatClampNeg ((V27.1 193 l20.toNatClampNeg) + l19) := ⟨_, rfl⟩
    have h := sx_letE hV30 h
    refine sv_iast (pc := 561) hG dX12_makePart_561 lay_193 g29 hV30 ?_
    obtain ⟨x31, hx31⟩ : ∃ z : Int32, z = l20 + 1 := ⟨_, rfl⟩
    have h := sx_letE hx31 h
    refine sx_iinc (pc := 562) (v := x31) (lo' := [(20, .int x31), (0, .ref 146), (2, .int l2), (3, .int l3), (6, .int l6), (8, .int l8), (9, .int l9), (18, .int l18), (19, .int l19)]) dX12_makePart_562 sx_m8 (by rw [hx31]; rfl) (by decide) rfl ?_
    refine sx_goto (pc := 565) (tgt := 525) dX12_makePart_565 (by decide) ?_
    refine sx_wk (sx_s1 sx_m1 (sx_s1 sx_m2 (sx_s1 sx_m3 (sx_s1 sx_m4 (sx_s1 sx_m5 (sx_s1 sx_m6 (sx_s1 sx_m7 (sx_s1 sx_m8 (sx_s1 sx_m0 sx_s0))))))))) ?_
    exact hk525 _ _ _ _ _ _ _ _ _ h
theorem tL_X12_makePart_525 {g : sx_G} (hG : sx_Go g) {P : Option Value → sv_V → Prop} {Vr : sv_V} (hP : P none Vr) {N : Nat} {D : Nat} {kb : Int32 → Int32 → sv_V → Option sv_V} (hkb : ∀ (l1 : Int32) (l2 : Int32) (V : sv_V) (Wr : sv_V), kb l1 l2 V = some Wr → ∀ P : Option Value → sv_V → Prop, P none Wr → sv_N g qX12_makeGlyph (30 + 2 * D) 0 [(0, .ref 146), (1, .int l1), (2, .int l2)] [] V P)   : ∀ (n : Nat) (l2 : Int32) (l3 : Int32) (l6 : Int32) (l8 : Int32) (l9 : Int32) (l18 : Int32) (l19 : Int32) (l20 : Int32) (V : sv_V), sx_lp9 (B_X12_makePart_525 N kb ) n l2 l3 l6 l8 l9 l18 l19 l20 V = some Vr → sv_N g qX12_makePart (30 + 2 * D + 1) 525 [(0, .ref 146), (2, .int l2), (3, .int l3), (6, .int l6), (8, .int l8), (9, .int l9), (18, .int l18), (19, .int l19), (20, .int l20)] [] V P :=
  sx_lp9_ind (fun k0 ih _ _ _ _ _ _ _ _ V h => tB_X12_makePart_525 hG hP hkb ih h)
def B_X12_makePart_518 (N : Nat) (kb : Int32 → Int32 → sv_V → Option sv_V)  (l2 : Int32) (l3 : Int32) (l6 : Int32) (l8 : Int32) (l9 : Int32) (l18 : Int32) (l19 : Int32) (V : sv_V) : Option sv_V := sx_let (l6 + l8) (fun x32 => sx_lp9 (B_X12_makePart_525 N kb ) N l2 l3 l6 l8 l9 l18 l19 x32 V)
set_option maxRecDepth 20000 in
theorem tB_X12_makePart_518 {g : sx_G} (hG : sx_Go g) {P : Option Value → sv_V → Prop} {Vr : sv_V} (hP : P none Vr) {N : Nat} {D : Nat} {kb : Int32 → Int32 → sv_V → Option sv_V} (hkb : ∀ (l1 : Int32) (l2 : Int32) (V : sv_V) (Wr : sv_V), kb l1 l2 V = some Wr → ∀ P : Option Value → sv_V → Prop, P none Wr → sv_N g qX12_makeGlyph (30 + 2 * D) 0 [(0, .ref 146), (1, .int l1), (2, .int l2)] [] V P)   {l2 : Int32} {l3 : Int32} {l6 : Int32} {l8 : Int32} {l9 : Int32} {l18 : Int32} {l19 : Int32} {V : sv_V} (h : B_X12_makePart_518 N kb  l2 l3 l6 l8 l9 l18 l19 V = some Vr) : sv_N g qX12_makePart (30 + 2 * D + 1) 518 [(0, .ref 146), (2, .int l2), (3, .int l3), (6, .int l6), (8, .int l8), (9, .int l9), (18, .int l18), (19, .int l19)] [] V P := by
  unfold B_X12_makePart_518 at h
  refine sx_iload (pc := 518) dX12_makePart_518 sx_m3 ?_
  refine sx_iload (pc := 520) dX12_makePart_520 sx_m4 ?_
  refine sx_iadd (pc := 522) dX12_makePart_522 ?_
  refine sv_tI (fun x32 hx32 => ?_)
  have h := sx_letE hx32 h
  refine sx_istore (pc := 523) (lo' := [(20, .int x32), (0, .ref 146), (2, .int l2), (3, .int l3), (6, .int l6), (8, .int l8), (9, .int l9), (18, .int l18), (19, .int l19)]) dX12_makePart_523 (by decide) rfl ?_
  refine sx_wk (sx_s1 sx_m1 (sx_s1 sx_m2 (sx_s1 sx_m3 (sx_s1 sx_m4 (sx_s1 sx_m5 (sx_s1 sx_m6 (sx_s1 sx_m7 (sx_s1 sx_m8 (sx_s1 sx_m0 sx_s0))))))))) ?_
  exact tL_X12_makePart_525 hG hP hkb  N _ _ _ _ _ _ _ _ _ h
def B_X12_makePart_399 (N : Nat) (kb : Int32 → Int32 → sv_V → Option sv_V)  (l2 : Int32) (l3 : Int32) (l6 : Int32) (l8 : Int32) (l9 : Int32) (l18 : Int32) (s0 : Int32) (V : sv_V) : Option sv_V := B_X12_makePart_518 N kb  l2 l3 l6 l8 l9 l18 s0 V
set_option maxRecDepth 20000 in
theorem tB_X12_makePart_399 {g : sx_G} (hG : sx_Go g) {P : Option Value → sv_V → Prop} {Vr : sv_V} (hP : P none Vr) {N : Nat} {D : Nat} {kb : Int32 → Int32 → sv_V → Option sv_V} (hkb : ∀ (l1 : Int32) (l2 : Int32) (V : sv_V) (Wr : sv_V), kb l1 l2 V = some Wr → ∀ P : Option Value → sv_V → Prop, P none Wr → sv_N g qX12_makeGlyph (30 + 2 * D) 0 [(0, .ref 146), (1, .int l1), (2, .int l2)] [] V P)   {l2 : Int32} {l3 : Int32} {l6 : Int32} {l8 : Int32} {l9 : Int32} {l18 : Int32} {s0 : Int32} {V : sv_V} (h : B_X12_makePart_399 N kb  l2 l3 l6 l8 l9 l18 s0 V = some Vr) : sv_N g qX12_makePart (30 + 2 * D + 1) 399 [(0, .ref 146), (2, .int l2), (3, .int l3), (6, .int l6), (8, .int l8), (9, .int l9), (18, .int l18)] [.int s0] V P := by
  unfold B_X12_makePart_399 at h
  refine sx_istore (pc := 399) (lo' := [(19, .int s0), (0, .ref 146), (2, .int l2), (3, .int l3), (6, .int l6), (8, .int l8), (9, .int l9), (18, .int l18)]) dX12_makePart_399 (by decide) rfl ?_
  refine sx_goto (pc := 401) (tgt := 518) dX12_makePart_401 (by decide) ?_
  refine sx_wk (sx_s1 sx_m1 (sx_s1 sx_m2 (sx_s1 sx_m3 (sx_s1 sx_m4 (sx_s1 sx_m5 (sx_s1 sx_m6 (sx_s1 sx_m7 (sx_s1 sx_m0 sx_s0)))))))) ?_
  exact tB_X12_makePart_518 hG hP hkb  h
def B_X12_makePart_375 (N : Nat) (kb : Int32 → Int32 → sv_V → Option sv_V)  (l2 : Int32) (l3 : Int32) (l6 : Int32) (l8 : Int32) (l9 : Int32) (l19 : Int32) (s0 : Int32) (V : sv_V) : Option sv_V := if sx_in l2 8 = true then if ((V.1 157 l2.toNatClampNeg) &&& (4 : Int32)) = 0 then (B_X12_makePart_399 N kb  l2 l3 l6 l8 l9 s0 l19 V) else ((F_X12_toPixel l19.toInt64 V).bind (fun (x37, V35) => B_X12_makePart_399 N kb  l2 l3 l6 l8 l9 s0 x37 V35)) else none
set_option maxRecDepth 20000 in
theorem tB_X12_makePart_375 {g : sx_G} (hG : sx_Go g) {P : Option Value → sv_V → Prop} {Vr : sv_V} (hP : P none Vr) {N : Nat} {D : Nat} {kb : Int32 → Int32 → sv_V → Option sv_V} (hkb : ∀ (l1 : Int32) (l2 : Int32) (V : sv_V) (Wr : sv_V), kb l1 l2 V = some Wr → ∀ P : Option Value → sv_V → Prop, P none Wr → sv_N g qX12_makeGlyph (30 + 2 * D) 0 [(0, .ref 146), (1, .int l1), (2, .int l2)] [] V P)   {l2 : Int32} {l3 : Int32} {l6 : Int32} {l8 : Int32} {l9 : Int32} {l19 : Int32} {s0 : Int32} {V : sv_V} (h : B_X12_makePart_375 N kb  l2 l3 l6 l8 l9 l19 s0 V = some Vr) : sv_N g qX12_makePart (30 + 2 * D + 1) 375 [(0, .ref 146), (2, .int l2), (3, .int l3), (6, .int l6), (8, .int l8), (9, .int l9), (19, .int l19)] [.int s0] V P := by
  unfold B_X12_makePart_375 at h
  refine sx_istore (pc := 375) (lo' := [(18, .int s0), (0, .ref 146), (2, .int l2), (3, .int l3), (6, .int l6), (8, .int l8), (9, .int l9), (19, .int l19)]) dX12_makePart_375 (by decide) rfl ?_
  refine sx_aload_n (pc := 377) dX12_makePart_377 sx_m1 ?_
  refine sv_getA (pc := 378) hG dX12_makePart_378 f_12_42 lay_146 rfl cr_146_37 ?_
  refine sx_iload_n (pc := 381) dX12_makePart_381 sx_m2 ?_
  obtain ⟨g33, h⟩ := sx_grd h
  refine sv_iald (pc := 382) hG dX12_makePart_382 lay_157 g33 ?_
  refine sx_iconst (pc := 383) (v := 4) dX12_makePart_383 (by decide) ?_
  refine sx_iand (pc := 384) dX12_makePart_384 ?_
  refine sx_if_eq (pc := 385) (tgt := 397) dX12_makePart_385 (by decide) (fun c34 => ?_) (fun c34 => ?_)
  · have h := sx_pos c34 h
    refine sx_iload (pc := 397) dX12_makePart_397 sx_m7 ?_
    refine sx_wk (sx_s1 sx_m1 (sx_s1 sx_m2 (sx_s1 sx_m3 (sx_s1 sx_m4 (sx_s1 sx_m5 (sx_s1 sx_m6 (sx_s1 sx_m0 sx_s0))))))) ?_
    exact tB_X12_makePart_399 hG hP hkb  h
  · have h := sx_neg c34 h
    refine sx_iload (pc := 388) dX12_makePart_388 sx_m7 ?_
    refine sx_i2l (pc := 390) dX12_makePart_390 ?_
    obtain ⟨⟨x37, V35⟩, g36, h⟩ := sx_bnd h
    refine sv_cS (pc := 391) (y := qX12_toPixel) (o := (some (.int x37))) (as := [.long l19.toInt64]) (V1 := V35) dX12_makePart_391 l_X12_813 y0X12_toPixel ysX12_toPixel rfl (Nat.le_of_ble_eq_true rfl) (by omega) (Nat.le_of_ble_eq_true rfl) rfl rfl rfl (t_X12_toPixel hG ⟨rfl, rfl⟩ g36) ?_
    refine sx_goto (pc := 394) (tgt := 399) dX12_makePart_394 (by decide) ?_
    refine sx_wk (sx_s1 sx_m1 (sx_s1 sx_m2 (sx_s1 sx_m3 (sx_s1 sx_m4 (sx_s1 sx_m5 (sx_s1 sx_m6 (sx_s1 sx_m0 sx_s0))))))) ?_
    exact tB_X12_makePart_399 hG hP hkb  h
def B_X12_makePart_444 (N : Nat) (kb : Int32 → Int32 → sv_V → Option sv_V)   (V : sv_V) : Option sv_V := (F_X12_failOutside (5 : Int32) V).bind (fun V38 => some V38)
set_option maxRecDepth 20000 in
theorem tB_X12_makePart_444 {g : sx_G} (hG : sx_Go g) {P : Option Value → sv_V → Prop} {Vr : sv_V} (hP : P none Vr) {N : Nat} {D : Nat} {kb : Int32 → Int32 → sv_V → Option sv_V} (hkb : ∀ (l1 : Int32) (l2 : Int32) (V : sv_V) (Wr : sv_V), kb l1 l2 V = some Wr → ∀ P : Option Value → sv_V → Prop, P none Wr → sv_N g qX12_makeGlyph (30 + 2 * D) 0 [(0, .ref 146), (1, .int l1), (2, .int l2)] [] V P)    {V : sv_V} (h : B_X12_makePart_444 N kb   V = some Vr) : sv_N g qX12_makePart (30 + 2 * D + 1) 444 [(0, .ref 146)] [] V P := by
  unfold B_X12_makePart_444 at h
  refine sx_aload_n (pc := 444) dX12_makePart_444 sx_m0 ?_
  refine sx_iconst (pc := 445) (v := 5) dX12_makePart_445 (by decide) ?_
  obtain ⟨V38, g39, h⟩ := sx_bnd h
  refine sv_cV (pc := 446) (y := qX12_failOutside) (o := none) (as := [.int (5 : Int32)]) (V1 := V38) hG dX12_makePart_446 l_X12_795 y0X12_failOutside yvX12_failOutside rfl (Nat.le_of_ble_eq_true rfl) lay_146 kr_12 (by omega) (Nat.le_of_ble_eq_true rfl) rfl rfl rfl (t_X12_failOutside hG ⟨rfl, rfl⟩ g39) ?_
  exact sv_vret (pc := 449) dX12_makePart_449 rfl h hP
def B_X12_makePart_186 (N : Nat) (kb : Int32 → Int32 → sv_V → Option sv_V) (k186 : Int32 → Int32 → Int32 → Int32 → Int32 → Int32 → Int64 → Int64 → Int64 → Int64 → Int32 → sv_V → Option sv_V) (l2 : Int32) (l3 : Int32) (l6 : Int32) (l7 : Int32) (l8 : Int32) (l9 : Int32) (l10 : Int64) (l12 : Int64) (l14 : Int64) (l16 : Int64) (l18 : Int32) (V : sv_V) : Option sv_V := if l9 ≤ l18 then (if sx_in l2 8 = true then if ((V.1 157 l2.toNatClampNeg) &&& (2 : Int32)) = 0 then (if sx_in l2 8 = true then if (V.1 159 l2.toNatClampNeg) < 0 then (B_X12_makePart_444 N kb   V) else (if sx_in l2 8 = true then if l8 ≤ (V.1 159 l2.toNatClampNeg) then (B_X12_makePart_444 N kb   V) else (if sx_in l2 8 = true then if (V.1 160 l2.toNatClampNeg) < 0 then (B_X12_makePart_444 N kb   V) else (if sx_in l2 8 = true then if (V.1 160 l2.toNatClampNeg) < l9 then (if sx_in l2 8 = true then if sx_in (l6 + (V.1 159 l2.toNatClampNeg)) 612 = true then if sx_in l2 8 = true then if sx_in ((l6 + l8) + (V.1 160 l2.toNatClampNeg)) 612 = true then sx_let ((V.1 192 (l6 + (V.1 159 l2.toNatClampNeg)).toNatClampNeg) - (V.1 192 ((l6 + l8) + (V.1 160 l2.toNatClampNeg)).toNatClampNeg)) (fun x55 => if sx_in l2 8 = true then if sx_in (l6 + (V.1 159 l2.toNatClampNeg)) 612 = true then if sx_in l2 8 = true then if sx_in ((l6 + l8) + (V.1 160 l2.toNatClampNeg)) 612 = true then sx_let ((V.1 193 (l6 + (V.1 159 l2.toNatClampNeg)).toNatClampNeg) - (V.1 193 ((l6 + l8) + (V.1 160 l2.toNatClampNeg)).toNatClampNeg)) (fun x60 => B_X12_makePart_518 N kb  l2 l3 l6 l8 l9 x55 x60 V) else none else none else none else none) else none else none else none else none) else (B_X12_makePart_444 N kb   V) else none) else none) else none) else none) else (if sx_in l2 8 = true then (F_X12_scaled ((V.1 159 l2.toNatClampNeg).toInt64) V).bind (fun (x64, V62) => if sx_in l2 8 = true then (F_X12_scaled ((V62.1 160 l2.toNatClampNeg).toInt64) V62).bind (fun (x68, V66) => if sx_in l2 8 = true then if ((V66.1 157 l2.toNatClampNeg) &&& (4 : Int32)) = 0 then (B_X12_makePart_375 N kb  l2 l3 l6 l8 l9 x68 x64 V66) else ((F_X12_toPixel x64.toInt64 V66).bind (fun (x73, V71) => B_X12_makePart_375 N kb  l2 l3 l6 l8 l9 x68 x73 V71)) else none) else none) else none) else none) else (if sx_in (l7 + l18) 612 = true then sx_let ((V.1 192 (l7 + l18).toNatClampNeg).toInt64) (fun x75 => if sx_in (l7 + l18) 612 = true then sx_let ((V.1 193 (l7 + l18).toNatClampNeg).toInt64) (fun x77 => (F_X12_over ((x75 * l10) + (x77 * l14)) (16384 : Int64) V).bind (fun (x80, V78) => if sx_in ((l6 + l8) + l18) 612 = true then sx_let (sv_I V78 192 ((l6 + l8) + l18).toNatClampNeg x80.toInt32) (fun V82 => (F_X12_over ((x75 * l12) + (x77 * l16)) (16384 : Int64) V82).bind (fun (x85, V83) => if sx_in ((l6 + l8) + l18) 612 = true then sx_let (sv_I V83 193 ((l6 + l8) + l18).toNatClampNeg x85.toInt32) (fun V87 => if sx_in (l7 + l18) 612 = true then if sx_in ((l6 + l8) + l18) 612 = true then if sv_bl (V87.1 194 (l7 + l18).toNatClampNeg) = true then sx_let (sv_I V87 194 ((l6 + l8) + l18).toNatClampNeg (V87.1 194 (l7 + l18).toNatClampNeg)) (fun V91 => sx_let (l18 + 1) (fun x92 => k186 l2 l3 l6 l7 l8 l9 l10 l12 l14 l16 x92 V91)) else none else none else none) else none)) else none)) else none) else none)
set_option maxRecDepth 20000 in
theorem tB_X12_makePart_186 {g : sx_G} (hG : sx_Go g) {P : Option Value → sv_V → Prop} {Vr : sv_V} (hP : P none Vr) {N : Nat} {D : Nat} {kb : Int32 → Int32 → sv_V → Option sv_V} (hkb : ∀ (l1 : Int32) (l2 : Int32) (V : sv_V) (Wr : sv_V), kb l1 l2 V = some Wr → ∀ P : Option Value → sv_V → Prop, P none Wr → sv_N g qX12_makeGlyph (30 + 2 * D) 0 [(0, .ref 146), (1, .int l1), (2, .int l2)] [] V P) {k186 : Int32 → Int32 → Int32 → Int32 → Int32 → Int32 → Int64 → Int64 → Int64 → Int64 → Int32 → sv_V → Option sv_V} (hk186 : ∀ (l2 : Int32) (l3 : Int32) (l6 : Int32) (l7 : Int32) (l8 : Int32) (l9 : Int32) (l10 : Int64) (l12 : Int64) (l14 : Int64) (l16 : Int64) (l18 : Int32) (V : sv_V), k186 l2 l3 l6 l7 l8 l9 l10 l12 l14 l16 l18 V = some Vr → sv_N g qX12_makePart (30 + 2 * D + 1) 186 [(0, .ref 146), (2, .int l2), (3, .int l3), (6, .int l6), (7, .int l7), (8, .int l8), (9, .int l9), (10, .long l10), (12, .long l12), (14, .long l14), (16, .long l16), (18, .int l18)] [] V P) {l2 : Int32} {l3 : Int32} {l6 : Int32} {l7 : Int32} {l8 : Int32} {l9 : Int32} {l10 : Int64} {l12 : Int64} {l14 : Int64} {l16 : Int64} {l18 : Int32} {V : sv_V} (h : B_X12_makePart_186 N kb k186 l2 l3 l6 l7 l8 l9 l10 l12 l14 l16 l18 V = some Vr) : sv_N g qX12_makePart (30 + 2 * D + 1) 186 [(0, .ref 146), (2, .int l2), (3, .int l3), (6, .int l6), (7, .int l7), (8, .int l8), (9, .int l9), (10, .long l10), (12, .long l12), (14, .long l14), (16, .long l16), (18, .int l18)] [] V P := by
  unfold B_X12_makePart_186 at h
  refine sx_iload (pc := 186) dX12_makePart_186 sx_m11 ?_
  refine sx_iload (pc := 188) dX12_makePart_188 sx_m6 ?_
  refine sx_icmp_ge (pc := 190) (tgt := 310) dX12_makePart_190 (by decide) (fun c40 => ?_) (fun c40 => ?_)
  · have h := sx_pos c40 h
    refine sx_iconst (pc := 310) (v := 0) dX12_makePart_310 (by decide) ?_
    refine sx_istore (pc := 311) (lo' := [(18, .int (0 : Int32)), (0, .ref 146), (2, .int l2), (3, .int l3), (6, .int l6), (7, .int l7), (8, .int l8), (9, .int l9), (10, .long l10), (12, .long l12), (14, .long l14), (16, .long l16)]) dX12_makePart_311 (by decide) rfl ?_
    refine sx_iconst (pc := 313) (v := 0) dX12_makePart_313 (by decide) ?_
    refine sx_istore (pc := 314) (lo' := [(19, .int (0 : Int32)), (18, .int (0 : Int32)), (0, .ref 146), (2, .int l2), (3, .int l3), (6, .int l6), (7, .int l7), (8, .int l8), (9, .int l9), (10, .long l10), (12, .long l12), (14, .long l14), (16, .long l16)]) dX12_makePart_314 (by decide) rfl ?_
    refine sx_aload_n (pc := 316) dX12_makePart_316 sx_m2 ?_
    refine sv_getA (pc := 317) hG dX12_makePart_317 f_12_42 lay_146 rfl cr_146_37 ?_
    refine sx_iload_n (pc := 320) dX12_makePart_320 sx_m3 ?_
    obtain ⟨g41, h⟩ := sx_grd h
    refine sv_iald (pc := 321) hG dX12_makePart_321 lay_157 g41 ?_
    refine sx_iconst (pc := 322) (v := 2) dX12_makePart_322 (by decide) ?_
    refine sx_iand (pc := 323) dX12_makePart_323 ?_
    refine sx_if_eq (pc := 324) (tgt := 404) dX12_makePart_324 (by decide) (fun c42 => ?_) (fun c42 => ?_)
    · have h := sx_pos c42 h
      refine sx_aload_n (pc := 404) dX12_makePart_404 sx_m2 ?_
      refine sv_getA (pc := 405) hG dX12_makePart_405 f_12_48 lay_146 rfl cr_146_39 ?_
      refine sx_iload_n (pc := 408) dX12_makePart_408 sx_m3 ?_
      obtain ⟨g43, h⟩ := sx_grd h
      refine sv_iald (pc := 409) hG dX12_makePart_409 lay_159 g43 ?_
      refine sx_if_lt (pc := 410) (tgt := 444) dX12_makePart_410 (by decide) (fun c44 => ?_) (fun c44 => ?_)
      · have h := sx_pos c44 h
        refine sx_wk (sx_s1 sx_m2 sx_s0) ?_
        exact tB_X12_makePart_444 hG hP hkb  h
      · have h := sx_neg c44 h
        refine sx_aload_n (pc := 413) dX12_makePart_413 sx_m2 ?_
        refine sv_getA (pc := 414) hG dX12_makePart_414 f_12_48 lay_146 rfl cr_146_39 ?_
        refine sx_iload_n (pc := 417) dX12_makePart_417 sx_m3 ?_
        obtain ⟨g45, h⟩ := sx_grd h
        refine sv_iald (pc := 418) hG dX12_makePart_418 lay_159 g45 ?_
        refine sx_iload (pc := 419) dX12_makePart_419 sx_m7 ?_
        refine sx_icmp_ge (pc := 421) (tgt := 444) dX12_makePart_421 (by decide) (fun c46 => ?_) (fun c46 => ?_)
        · have h := sx_pos c46 h
          refine sx_wk (sx_s1 sx_m2 sx_s0) ?_
          exact tB_X12_makePart_444 hG hP hkb  h
        · have h := sx_neg c46 h
          refine sx_aload_n (pc := 424) dX12_makePart_424 sx_m2 ?_
          refine sv_getA (pc := 425) hG dX12_makePart_425 f_12_51 lay_146 rfl cr_146_40 ?_
          refine sx_iload_n (pc := 428) dX12_makePart_428 sx_m3 ?_
          obtain ⟨g47, h⟩ := sx_grd h
          refine sv_iald (pc := 429) hG dX12_makePart_429 lay_160 g47 ?_
          refine sx_if_lt (pc := 430) (tgt := 444) dX12_makePart_430 (by decide) (fun c48 => ?_) (fun c48 => ?_)
          · have h := sx_pos c48 h
            refine sx_wk (sx_s1 sx_m2 sx_s0) ?_
            exact tB_X12_makePart_444 hG hP hkb  h
          · have h := sx_neg c48 h
            refine sx_aload_n (pc := 433) dX12_makePart_433 sx_m2 ?_
            refine sv_getA (pc := 434) hG dX12_makePart_434 f_12_51 lay_146 rfl cr_146_40 ?_
            refine sx_iload_n (pc := 437) dX12_makePart_437 sx_m3 ?_
            obtain ⟨g49, h⟩ := sx_grd h
            refine sv_iald (pc := 438) hG dX12_makePart_438 lay_160 g49 ?_
            refine sx_iload (pc := 439) dX12_makePart_439 sx_m8 ?_
            refine sx_icmp_lt (pc := 441) (tgt := 450) dX12_makePart_441 (by decide) (fun c50 => ?_) (fun c50 => ?_)
            · have h := sx_pos c50 h
              refine sx_aload_n (pc := 450) dX12_makePart_450 sx_m2 ?_
              refine sv_getA (pc := 451) hG dX12_makePart_451 f_12_152 lay_146 rfl cr_146_120 ?_
              refine sx_iload (pc := 454) dX12_makePart_454 sx_m5 ?_
              refine sx_aload_n (pc := 456) dX12_makePart_456 sx_m2 ?_
              refine sv_getA (pc := 457) hG dX12_makePart_457 f_12_48 lay_146 rfl cr_146_39 ?_
              refine sx_iload_n (pc := 460) dX12_makePart_460 sx_m3 ?_
              obtain ⟨g51, h⟩ := sx_grd h
              refine sv_iald (pc := 461) hG dX12_makePart_461 lay_159 g51 ?_
              refine sx_iadd (pc := 462) dX12_makePart_462 ?_
              obtain ⟨g52, h⟩ := sx_grd h
              refine sv_iald (pc := 463) hG dX12_makePart_463 lay_192 g52 ?_
              refine sx_aload_n (pc := 464) dX12_makePart_464 sx_m2 ?_
              refine sv_getA (pc := 465) hG dX12_makePart_465 f_12_152 lay_146 rfl cr_146_120 ?_
              refine sx_iload (pc := 468) dX12_makePart_468 sx_m5 ?_
              refine sx_iload (pc := 470) dX12_makePart_470 sx_m7 ?_
              refine sx_iadd (pc := 472) dX12_makePart_472 ?_
              refine sx_aload_n (pc := 473) dX12_makePart_473 sx_m2 ?_
              refine sv_getA (pc := 474) hG dX12_makePart_474 f_12_51 lay_146 rfl cr_146_40 ?_
              refine sx_iload_n (pc := 477) dX12_makePart_477 sx_m3 ?_
              obtain ⟨g53, h⟩ := sx_grd h
              refine sv_iald (pc := 478) hG dX12_makePart_478 lay_160 g53 ?_
              refine sx_iadd (pc := 479) dX12_makePart_479 ?_
              obtain ⟨g54, h⟩ := sx_grd h
              refine sv_iald (pc := 480) hG dX12_makePart_480 lay_192 g54 ?_
              refine sx_isub (pc := 481) dX12_makePart_481 ?_
              refine sv_tI (fun x55 hx55 => ?_)
              have h := sx_letE hx55 h
              refine sx_istore (pc := 482) (lo' := [(18, .int x55), (19, .int (0 : Int32)), (0, .ref 146), (2, .int l2), (3, .int l3), (6, .int l6), (7, .int l7), (8, .int l8), (9, .int l9), (10, .long l10), (12, .long l12), (14, .long l14), (16, .long l16)]) dX12_makePart_482 (by decide) rfl ?_
              refine sx_aload_n (pc := 484) dX12_makePart_484 sx_m2 ?_
              refine sv_getA (pc := 485) hG dX12_makePart_485 f_12_155 lay_146 rfl cr_146_121 ?_
              refine sx_iload (pc := 488) dX12_makePart_488 sx_m5 ?_
              refine sx_aload_n (pc := 490) dX12_makePart_490 sx_m2 ?_
              refine sv_getA (pc := 491) hG dX12_makePart_491 f_12_48 lay_146 rfl cr_146_39 ?_
              refine sx_iload_n (pc := 494) dX12_makePart_494 sx_m3 ?_
              obtain ⟨g56, h⟩ := sx_grd h
              refine sv_iald (pc := 495) hG dX12_makePart_495 lay_159 g56 ?_
              refine sx_iadd (pc := 496) dX12_makePart_496 ?_
              obtain ⟨g57, h⟩ := sx_grd h
              refine sv_iald (pc := 497) hG dX12_makePart_497 lay_193 g57 ?_
              refine sx_aload_n (pc := 498) dX12_makePart_498 sx_m2 ?_
              refine sv_getA (pc := 499) hG dX12_makePart_499 f_12_155 lay_146 rfl cr_146_121 ?_
              refine sx_iload (pc := 502) dX12_makePart_502 sx_m5 ?_
              refine sx_iload (pc := 504) dX12_makePart_504 sx_m7 ?_
              refine sx_iadd (pc := 506) dX12_makePart_506 ?_
              refine sx_aload_n (pc := 507) dX12_makePart_507 sx_m2 ?_
              refine sv_getA (pc := 508) hG dX12_makePart_508 f_12_51 lay_146 rfl cr_146_40 ?_
              refine sx_iload_n (pc := 511) dX12_makePart_511 sx_m3 ?_
              obtain ⟨g58, h⟩ := sx_grd h
              refine sv_iald (pc := 512) hG dX12_makePart_512 lay_160 g58 ?_
              refine sx_iadd (pc := 513) dX12_makePart_513 ?_
              obtain ⟨g59, h⟩ := sx_grd h
              refine sv_iald (pc := 514) hG dX12_makePart_514 lay_193 g59 ?_
              refine sx_isub (pc := 515) dX12_makePart_515 ?_
              refine sv_tI (fun x60 hx60 => ?_)
              have h := sx_letE hx60 h
              refine sx_istore (pc := 516) (lo' := [(19, .int x60), (18, .int x55), (0, .ref 146), (2, .int l2), (3, .int l3), (6, .int l6), (7, .int l7), (8, .int l8), (9, .int l9), (10, .long l10), (12, .long l12), (14, .long l14), (16, .long l16)]) dX12_makePart_516 (by decide) rfl ?_
              refine sx_wk (sx_s1 sx_m2 (sx_s1 sx_m3 (sx_s1 sx_m4 (sx_s1 sx_m5 (sx_s1 sx_m7 (sx_s1 sx_m8 (sx_s1 sx_m1 (sx_s1 sx_m0 sx_s0)))))))) ?_
              exact tB_X12_makePart_518 hG hP hkb  h
            · have h := sx_neg c50 h
              refine sx_wk (sx_s1 sx_m2 sx_s0) ?_
              exact tB_X12_makePart_444 hG hP hkb  h
    · have h := sx_neg c42 h
      refine sx_aload_n (pc := 327) dX12_makePart_327 sx_m2 ?_
      refine sx_aload_n (pc := 328) dX12_makePart_328 sx_m2 ?_
      refine sv_getA (pc := 329) hG dX12_makePart_329 f_12_48 lay_146 rfl cr_146_39 ?_
      refine sx_iload_n (pc := 332) dX12_makePart_332 sx_m3 ?_
      obtain ⟨g61, h⟩ := sx_grd h
      refine sv_iald (pc := 333) hG dX12_makePart_333 lay_159 g61 ?_
      refine sx_i2l (pc := 334) dX12_makePart_334 ?_
      obtain ⟨⟨x64, V62⟩, g63, h⟩ := sx_bnd h
      refine sv_cV (pc := 335) (y := qX12_scaled) (o := (some (.int x64))) (as := [.long ((V.1 159 l2.toNatClampNeg).toInt64)]) (V1 := V62) hG dX12_makePart_335 l_X12_611 y0X12_scaled yvX12_scaled rfl (Nat.le_of_ble_eq_true rfl) lay_146 kr_12 (by omega) (Nat.le_of_ble_eq_true rfl) rfl rfl rfl (t_X12_scaled hG ⟨rfl, rfl⟩ g63) ?_
      refine sx_istore (pc := 338) (lo' := [(18, .int x64), (19, .int (0 : Int32)), (0, .ref 146), (2, .int l2), (3, .int l3), (6, .int l6), (7, .int l7), (8, .int l8), (9, .int l9), (10, .long l10), (12, .long l12), (14, .long l14), (16, .long l16)]) dX12_makePart_338 (by decide) rfl ?_
      refine sx_aload_n (pc := 340) dX12_makePart_340 sx_m2 ?_
      refine sx_aload_n (pc := 341) dX12_makePart_341 sx_m2 ?_
      refine sv_getA (pc := 342) hG dX12_makePart_342 f_12_51 lay_146 rfl cr_146_40 ?_
      refine sx_iload_n (pc := 345) dX12_makePart_345 sx_m3 ?_
      obtain ⟨g65, h⟩ := sx_grd h
      refine sv_iald (pc := 346) hG dX12_makePart_346 lay_160 g65 ?_
      refine sx_i2l (pc := 347) dX12_makePart_347 ?_
      obtain ⟨⟨x68, V66⟩, g67, h⟩ := sx_bnd h
      refine sv_cV (pc := 348) (y := qX12_scaled) (o := (some (.int x68))) (as := [.long ((V62.1 160 l2.toNatClampNeg).toInt64)]) (V1 := V66) hG dX12_makePart_348 l_X12_611 y0X12_scaled yvX12_scaled rfl (Nat.le_of_ble_eq_true rfl) lay_146 kr_12 (by omega) (Nat.le_of_ble_eq_true rfl) rfl rfl rfl (t_X12_scaled hG ⟨rfl, rfl⟩ g67) ?_
      refine sx_istore (pc := 351) (lo' := [(19, .int x68), (18, .int x64), (0, .ref 146), (2, .int l2), (3, .int l3), (6, .int l6), (7, .int l7), (8, .int l8), (9, .int l9), (10, .long l10), (12, .long l12), (14, .long l14), (16, .long l16)]) dX12_makePart_351 (by decide) rfl ?_
      refine sx_aload_n (pc := 353) dX12_makePart_353 sx_m2 ?_
      refine sv_getA (pc := 354) hG dX12_makePart_354 f_12_42 lay_146 rfl cr_146_37 ?_
      refine sx_iload_n (pc := 357) dX12_makePart_357 sx_m3 ?_
      obtain ⟨g69, h⟩ := sx_grd h
      refine sv_iald (pc := 358) hG dX12_makePart_358 lay_157 g69 ?_
      refine sx_iconst (pc := 359) (v := 4) dX12_makePart_359 (by decide) ?_
      refine sx_iand (pc := 360) dX12_makePart_360 ?_
      refine sx_if_eq (pc := 361) (tgt := 373) dX12_makePart_361 (by decide) (fun c70 => ?_) (fun c70 => ?_)
      · have h := sx_pos c70 h
        refine sx_iload (pc := 373) dX12_makePart_373 sx_m1 ?_
        refine sx_wk (sx_s1 sx_m2 (sx_s1 sx_m3 (sx_s1 sx_m4 (sx_s1 sx_m5 (sx_s1 sx_m7 (sx_s1 sx_m8 (sx_s1 sx_m0 sx_s0))))))) ?_
        exact tB_X12_makePart_375 hG hP hkb  h
      · have h := sx_neg c70 h
        refine sx_iload (pc := 364) dX12_makePart_364 sx_m1 ?_
        refine sx_i2l (pc := 366) dX12_makePart_366 ?_
        obtain ⟨⟨x73, V71⟩, g72, h⟩ := sx_bnd h
        refine sv_cS (pc := 367) (y := qX12_toPixel) (o := (some (.int x73))) (as := [.long x64.toInt64]) (V1 := V71) dX12_makePart_367 l_X12_813 y0X12_toPixel ysX12_toPixel rfl (Nat.le_of_ble_eq_true rfl) (by omega) (Nat.le_of_ble_eq_true rfl) rfl rfl rfl (t_X12_toPixel hG ⟨rfl, rfl⟩ g72) ?_
        refine sx_goto (pc := 370) (tgt := 375) dX12_makePart_370 (by decide) ?_
        refine sx_wk (sx_s1 sx_m2 (sx_s1 sx_m3 (sx_s1 sx_m4 (sx_s1 sx_m5 (sx_s1 sx_m7 (sx_s1 sx_m8 (sx_s1 sx_m0 sx_s0))))))) ?_
        exact tB_X12_makePart_375 hG hP hkb  h
  · have h := sx_neg c40 h
    refine sx_aload_n (pc := 193) dX12_makePart_193 sx_m0 ?_
    refine sv_getA (pc := 194) hG dX12_makePart_194 f_12_152 lay_146 rfl cr_146_120 ?_
    refine sx_iload (pc := 197) dX12_makePart_197 sx_m4 ?_
    refine sx_iload (pc := 199) dX12_makePart_199 sx_m11 ?_
    refine sx_iadd (pc := 201) dX12_makePart_201 ?_
    obtain ⟨g74, h⟩ := sx_grd h
    refine sv_iald (pc := 202) hG dX12_makePart_202 lay_192 g74 ?_
    refine sx_i2l (pc := 203) dX12_makePart_203 ?_
    refine sv_tJ (fun x75 hx75 => ?_)
    have h := sx_letE hx75 h
    refine sx_lstore (pc := 204) (lo' := [(19, .long x75), (0, .ref 146), (2, .int l2), (3, .int l3), (6, .int l6), (7, .int l7), (8, .int l8), (9, .int l9), (10, .long l10), (12, .long l12), (14, .long l14), (16, .long l16), (18, .int l18)]) dX12_makePart_204 (by decide) rfl ?_
    refine sx_aload_n (pc := 206) dX12_makePart_206 sx_m1 ?_
    refine sv_getA (pc := 207) hG dX12_makePart_207 f_12_155 lay_146 rfl cr_146_121 ?_
    refine sx_iload (pc := 210) dX12_makePart_210 sx_m5 ?_
    refine sx_iload (pc := 212) dX12_makePart_212 sx_m12 ?_
    refine sx_iadd (pc := 214) dX12_makePart_214 ?_
    obtain ⟨g76, h⟩ := sx_grd h
    refine sv_iald (pc := 215) hG dX12_makePart_215 lay_193 g76 ?_
    refine sx_i2l (pc := 216) dX12_makePart_216 ?_
    refine sv_tJ (fun x77 hx77 => ?_)
    have h := sx_letE hx77 h
    refine sx_lstore (pc := 217) (lo' := [(21, .long x77), (19, .long x75), (0, .ref 146), (2, .int l2), (3, .int l3), (6, .int l6), (7, .int l7), (8, .int l8), (9, .int l9), (10, .long l10), (12, .long l12), (14, .long l14), (16, .long l16), (18, .int l18)]) dX12_makePart_217 (by decide) rfl ?_
    refine sx_aload_n (pc := 219) dX12_makePart_219 sx_m2 ?_
    refine sv_getA (pc := 220) hG dX12_makePart_220 f_12_152 lay_146 rfl cr_146_120 ?_
    refine sx_iload (pc := 223) dX12_makePart_223 sx_m5 ?_
    refine sx_iload (pc := 225) dX12_makePart_225 sx_m7 ?_
    refine sx_iadd (pc := 227) dX12_makePart_227 ?_
    refine sx_iload (pc := 228) dX12_makePart_228 sx_m13 ?_
    refine sx_iadd (pc := 230) dX12_makePart_230 ?_
    refine sx_lload (pc := 231) dX12_makePart_231 sx_m1 ?_
    refine sx_lload (pc := 233) dX12_makePart_233 sx_m9 ?_
    refine sx_lmul (pc := 235) dX12_makePart_235 ?_
    refine sx_lload (pc := 236) dX12_makePart_236 sx_m0 ?_
    refine sx_lload (pc := 238) dX12_makePart_238 sx_m11 ?_
    refine sx_lmul (pc := 240) dX12_makePart_240 ?_
    refine sx_ladd (pc := 241) dX12_makePart_241 ?_
    refine sx_ldc2 (pc := 242) dX12_makePart_242 k_X12_310 ?_
    obtain ⟨⟨x80, V78⟩, g79, h⟩ := sx_bnd h
    refine sv_cS (pc := 245) (y := qX12_over) (o := (some (.long x80))) (as := [.long ((x75 * l10) + (x77 * l14)), .long (16384 : Int64)]) (V1 := V78) dX12_makePart_245 l_X12_517 y0X12_over ysX12_over rfl (Nat.le_of_ble_eq_true rfl) (by omega) (Nat.le_of_ble_eq_true rfl) rfl rfl rfl (t_X12_over hG ⟨rfl, rfl⟩ g79) ?_
    refine sx_l2i (pc := 248) dX12_makePart_248 ?_
    obtain ⟨g81, h⟩ := sx_grd h
    obtain ⟨V82, hV82⟩ : ∃ z : sv_V, z = sv_I V78 192 ((l6 + l8) + l18).toNatClampNeg x80.toInt32 := ⟨_, rfl⟩
    have h := sx_letE hV82 h
    refine sv_iast (pc := 249) hG dX12_makePart_249 lay_192 g81 hV82 ?_
    refine sx_aload_n (pc := 250) dX12_makePart_250 sx_m2 ?_
    refine sv_getA (pc := 251) hG dX12_makePart_251 f_12_155 lay_146 rfl cr_146_121 ?_
    refine sx_iload (pc := 254) dX12_makePart_254 sx_m5 ?_
    refine sx_iload (pc := 256) dX12_makePart_256 sx_m7 ?_
    refine sx_iadd (pc := 258) dX12_makePart_258 ?_
    refine sx_iload (pc := 259) dX12_makePart_259 sx_m13 ?_
    refine sx_iadd (pc := 261) dX12_makePart_261 ?_
    refine sx_lload (pc := 262) dX12_makePart_262 sx_m1 ?_
    refine sx_lload (pc := 264) dX12_makePart_264 sx_m10 ?_
    refine sx_lmul (pc := 266) dX12_makePart_266 ?_
    refine sx_lload (pc := 267) dX12_makePart_267 sx_m0 ?_
    refine sx_lload (pc := 269) dX12_makePart_269 sx_m12 ?_
    refine sx_lmul (pc := 271) dX12_makePart_271 ?_
    refine sx_ladd (pc := 272) dX12_makePart_272 ?_
    refine sx_ldc2 (pc := 273) dX12_makePart_273 k_X12_310 ?_
    obtain ⟨⟨x85, V83⟩, g84, h⟩ := sx_bnd h
    refine sv_cS (pc := 276) (y := qX12_over) (o := (some (.long x85))) (as := [.long ((x75 * l12) + (x77 * l16)), .long (16384 : Int64)]) (V1 := V83) dX12_makePart_276 l_X12_517 y0X12_over ysX12_over rfl (Nat.le_of_ble_eq_true rfl) (by omega) (Nat.le_of_ble_eq_true rfl) rfl rfl rfl (t_X12_over hG ⟨rfl, rfl⟩ g84) ?_
    refine sx_l2i (pc := 279) dX12_makePart_279 ?_
    obtain ⟨g86, h⟩ := sx_grd h
    obtain ⟨V87, hV87⟩ : ∃ z : sv_V, z = sv_I V83 193 ((l6 + l8) + l18).toNatClampNeg x85.toInt32 := ⟨_, rfl⟩
    have h := sx_letE hV87 h
    refine sv_iast (pc := 280) hG dX12_makePart_280 lay_193 g86 hV87 ?_
    refine sx_aload_n (pc := 281) dX12_makePart_281 sx_m2 ?_
    refine sv_getA (pc := 282) hG dX12_makePart_282 f_12_158 lay_146 rfl cr_146_122 ?_
    refine sx_iload (pc := 285) dX12_makePart_285 sx_m5 ?_
    refine sx_iload (pc := 287) dX12_makePart_287 sx_m7 ?_
    refine sx_iadd (pc := 289) dX12_makePart_289 ?_
    refine sx_iload (pc := 290) dX12_makePart_290 sx_m13 ?_
    refine sx_iadd (pc := 292) dX12_makePart_292 ?_
    refine sx_aload_n (pc := 293) dX12_makePart_293 sx_m2 ?_
    refine sv_getA (pc := 294) hG dX12_makePart_294 f_12_158 lay_146 rfl cr_146_122 ?_
    refine sx_iload (pc := 297) dX12_makePart_297 sx_m6 ?_
    refine sx_iload (pc := 299) dX12_makePart_299 sx_m13 ?_
    refine sx_iadd (pc := 301) dX12_makePart_301 ?_
    obtain ⟨g88, h⟩ := sx_grd h
    refine sv_zald (pc := 302) hG dX12_makePart_302 lay_194 g88 ?_
    obtain ⟨g89, h⟩ := sx_grd h
    obtain ⟨g90, h⟩ := sx_grd h
    obtain ⟨V91, hV91⟩ : ∃ z : sv_V, z = sv_I V87 194 ((l6 + l8) + l18).toNatClampNeg (V87.1 194 (l7 + l18).toNatClampNeg) := ⟨_, rfl⟩
    have h := sx_letE hV91 h
    refine sv_zast (pc := 303) hG dX12_makePart_303 lay_194 g89 g90 hV91 ?_
    obtain ⟨x92, hx92⟩ : ∃ z : Int32, z = l18 + 1 := ⟨_, rfl⟩
    have h := sx_letE hx92 h
    refine sx_iinc (pc := 304) (v := x92) (lo' := [(18, .int x92), (21, .long x77), (19, .long x75), (0, .ref 146), (2, .int l2), (3, .int l3), (6, .int l6), (7, .int l7), (8, .int l8), (9, .int l9), (10, .long l10), (12, .long l12), (14, .long l14), (16, .long l16)]) dX12_makePart_304 sx_m13 (by rw [hx92]; rfl) (by decide) rfl ?_
    refine sx_goto (pc := 307) (tgt := 186) dX12_makePart_307 (by decide) ?_
    refine sx_wk (sx_s1 sx_m3 (sx_s1 sx_m4 (sx_s1 sx_m5 (sx_s1 sx_m6 (sx_s1 sx_m7 (sx_s1 sx_m8 (sx_s1 sx_m9 (sx_s1 sx_m10 (sx_s1 sx_m11 (sx_s1 sx_m12 (sx_s1 sx_m13 (sx_s1 sx_m0 sx_s0)))))))))))) ?_
    exact hk186 _ _ _ _ _ _ _ _ _ _ _ _ h
theorem tL_X12_makePart_186 {g : sx_G} (hG : sx_Go g) {P : Option Value → sv_V → Prop} {Vr : sv_V} (hP : P none Vr) {N : Nat} {D : Nat} {kb : Int32 → Int32 → sv_V → Option sv_V} (hkb : ∀ (l1 : Int32) (l2 : Int32) (V : sv_V) (Wr : sv_V), kb l1 l2 V = some Wr → ∀ P : Option Value → sv_V → Prop, P none Wr → sv_N g qX12_makeGlyph (30 + 2 * D) 0 [(0, .ref 146), (1, .int l1), (2, .int l2)] [] V P)   : ∀ (n : Nat) (l2 : Int32) (l3 : Int32) (l6 : Int32) (l7 : Int32) (l8 : Int32) (l9 : Int32) (l10 : Int64) (l12 : Int64) (l14 : Int64) (l16 : Int64) (l18 : Int32) (V : sv_V), sx_lp12 (B_X12_makePart_186 N kb ) n l2 l3 l6 l7 l8 l9 l10 l12 l14 l16 l18 V = some Vr → sv_N g qX12_makePart (30 + 2 * D + 1) 186 [(0, .ref 146), (2, .int l2), (3, .int l3), (6, .int l6), (7, .int l7), (8, .int l8), (9, .int l9), (10, .long l10), (12, .long l12), (14, .long l14), (16, .long l16), (18, .int l18)] [] V P :=
  sx_lp12_ind (fun k0 ih _ _ _ _ _ _ _ _ _ _ _ V h => tB_X12_makePart_186 hG hP hkb ih h)
def F_X12_makePart (N : Nat) (kb : Int32 → Int32 → sv_V → Option sv_V) (l1 : Int32) (l2 : Int32) (l3 : Int32) (V : sv_V) : Option sv_V := if (V.1 146 125) = (60 : Int32) then ((F_X12_failOutside (12 : Int32) V).bind (fun V124 => some V124)) else (sx_let (sv_I V 146 125 ((V.1 146 125) + (1 : Int32))) (fun V94 => (F_X12_isGlyph N l1 V94).bind (fun (x97, V95) => if sx_in l2 8 = true then sx_let (V95.1 158 l2.toNatClampNeg) (fun x99 => (kb x99 (l3 + (1 : Int32)) V95).bind (fun V100 => (F_X12_isGlyph N l1 V100).bind (fun (x104, V102) => if (V102.1 146 59) ≤ 0 then (sx_let ((102 : Int32) * l3) (fun x106 => sx_let (x106 + (102 : Int32)) (fun x107 => if sx_in l3 6 = true then sx_let (V102.1 190 l3.toNatClampNeg) (fun x109 => if sx_in (l3 + (1 : Int32)) 6 = true then sx_let (V102.1 190 (l3 + (1 : Int32)).toNatClampNeg) (fun x111 => if (100 : Int32) < (x109 + x111) then (B_X12_makePart_126 N kb   V102) else (if sx_in l3 6 = true then if sx_in (l3 + (1 : Int32)) 6 = true then if ((V102.1 191 l3.toNatClampNeg) + (V102.1 191 (l3 + (1 : Int32)).toNatClampNeg)) ≤ (20 : Int32) then (if sx_in ((4 : Int32) * l2) 32 = true then sx_let ((V102.1 161 ((4 : Int32) * l2).toNatClampNeg).toInt64) (fun x117 => if sx_in (((4 : Int32) * l2) + (1 : Int32)) 32 = true then sx_let ((V102.1 161 (((4 : Int32) * l2) + (1 : Int32)).toNatClampNeg).toInt64) (fun x119 => if sx_in (((4 : Int32) * l2) + (2 : Int32)) 32 = true then sx_let ((V102.1 161 (((4 : Int32) * l2) + (2 : Int32)).toNatClampNeg).toInt64) (fun x121 => if sx_in (((4 : Int32) * l2) + (3 : Int32)) 32 = true then sx_let ((V102.1 161 (((4 : Int32) * l2) + (3 : Int32)).toNatClampNeg).toInt64) (fun x123 => sx_lp12 (B_X12_makePart_186 N kb ) N l2 l3 x106 x107 x109 x111 x117 x119 x121 x123 (0 : Int32) V102) else none) else none) else none) else none) else (B_X12_makePart_126 N kb   V102) else none else none)) else none) else none))) else (some V102)))) else none)))
set_option maxRecDepth 20000 in
theorem t_X12_makePart {g : sx_G} (hG : sx_Go g) {P : Option Value → sv_V → Prop} {Vr : sv_V} (hP : P none Vr) {N : Nat} {D : Nat} {kb : Int32 → Int32 → sv_V → Option sv_V} (hkb : ∀ (l1 : Int32) (l2 : Int32) (V : sv_V) (Wr : sv_V), kb l1 l2 V = some Wr → ∀ P : Option Value → sv_V → Prop, P none Wr → sv_N g qX12_makeGlyph (30 + 2 * D) 0 [(0, .ref 146), (1, .int l1), (2, .int l2)] [] V P) {l1 : Int32} {l2 : Int32} {l3 : Int32} {V : sv_V} (h : F_X12_makePart N kb l1 l2 l3 V = some Vr) : sv_N g qX12_makePart (30 + 2 * D + 1) 0 [(0, .ref 146), (1, .int l1), (2, .int l2), (3, .int l3)] [] V P := by
  unfold F_X12_makePart at h
  refine sx_aload_n (pc := 0) dX12_makePart_0 sx_m0 ?_
  refine sv_getI (pc := 1) hG dX12_makePart_1 f_12_807 lay_146 rfl ?_
  refine sx_bipush (pc := 4) (v := 60) dX12_makePart_4 (by decide) ?_
  refine sx_icmp_ne (pc := 6) (tgt := 16) dX12_makePart_6 (by decide) (fun c93 => ?_) (fun c93 => ?_)
  · have h := sx_neg c93 h
    refine sx_aload_n (pc := 16) dX12_makePart_16 sx_m0 ?_
    refine sx_dup (pc := 17) dX12_makePart_17 rfl ?_
    refine sv_getI (pc := 18) hG dX12_makePart_18 f_12_807 lay_146 rfl ?_
    refine sx_iconst (pc := 21) (v := 1) dX12_makePart_21 (by decide) ?_
    refine sx_iadd (pc := 22) dX12_makePart_22 ?_
    obtain ⟨V94, hV94⟩ : ∃ z : sv_V, z = sv_I V 146 125 ((V.1 146 125) + (1 : Int32)) := ⟨_, rfl⟩
    have h := sx_letE hV94 h
    refine sv_putI (pc := 23) hG dX12_makePart_23 f_12_807 lay_146 rfl hV94 ?_
    refine sx_aload_n (pc := 26) dX12_makePart_26 sx_m0 ?_
    refine sx_iload_n (pc := 27) dX12_makePart_27 sx_m1 ?_
    obtain ⟨⟨x97, V95⟩, g96, h⟩ := sx_bnd h
    refine sv_cV (pc := 28) (y := qX12_isGlyph) (o := (some (.int x97))) (as := [.int l1]) (V1 := V95) hG dX12_makePart_28 l_X12_278 y0X12_isGlyph yvX12_isGlyph rfl (Nat.le_of_ble_eq_true rfl) lay_146 kr_12 (by omega) (Nat.le_of_ble_eq_true rfl) rfl rfl rfl (t_X12_isGlyph hG ⟨rfl, rfl⟩ g96) ?_
    refine sx_istore (pc := 31) (lo' := [(4, .int x97), (0, .ref 146), (1, .int l1), (2, .int l2), (3, .int l3)]) dX12_makePart_31 (by decide) rfl ?_
    refine sx_aload_n (pc := 33) dX12_makePart_33 sx_m1 ?_
    refine sv_getA (pc := 34) hG dX12_makePart_34 f_12_45 lay_146 rfl cr_146_38 ?_
    refine sx_iload_n (pc := 37) dX12_makePart_37 sx_m3 ?_
    obtain ⟨g98, h⟩ := sx_grd h
    refine sv_iald (pc := 38) hG dX12_makePart_38 lay_158 g98 ?_
    refine sv_tI (fun x99 hx99 => ?_)
    have h := sx_letE hx99 h
    refine sx_istore (pc := 39) (lo' := [(5, .int x99), (4, .int x97), (0, .ref 146), (1, .int l1), (2, .int l2), (3, .int l3)]) dX12_makePart_39 (by decide) rfl ?_
    refine sx_aload_n (pc := 41) dX12_makePart_41 sx_m2 ?_
    refine sx_iload (pc := 42) dX12_makePart_42 sx_m0 ?_
    refine sx_iload_n (pc := 44) dX12_makePart_44 sx_m5 ?_
    refine sx_iconst (pc := 45) (v := 1) dX12_makePart_45 (by decide) ?_
    refine sx_iadd (pc := 46) dX12_makePart_46 ?_
    obtain ⟨V100, g101, h⟩ := sx_bnd h
    refine sv_cV (pc := 47) (y := qX12_makeGlyph) (o := none) (as := [.int x99, .int (l3 + (1 : Int32))]) (V1 := V100) hG dX12_makePart_47 l_X12_810 y0X12_makeGlyph yvX12_makeGlyph rfl (Nat.le_of_ble_eq_true rfl) lay_146 kr_12 (by omega) (Nat.le_of_ble_eq_true rfl) rfl rfl rfl (hkb _ _  _ _ g101 _ ⟨rfl, rfl⟩) ?_
    refine sx_aload_n (pc := 50) dX12_makePart_50 sx_m2 ?_
    refine sx_iload_n (pc := 51) dX12_makePart_51 sx_m3 ?_
    obtain ⟨⟨x104, V102⟩, g103, h⟩ := sx_bnd h
    refine sv_cV (pc := 52) (y := qX12_isGlyph) (o := (some (.int x104))) (as := [.int l1]) (V1 := V102) hG dX12_makePart_52 l_X12_278 y0X12_isGlyph yvX12_isGlyph rfl (Nat.le_of_ble_eq_true rfl) lay_146 kr_12 (by omega) (Nat.le_of_ble_eq_true rfl) rfl rfl rfl (t_X12_isGlyph hG ⟨rfl, rfl⟩ g103) ?_
    refine sx_istore (pc := 55) (lo' := [(4, .int x104), (5, .int x99), (0, .ref 146), (1, .int l1), (2, .int l2), (3, .int l3)]) dX12_makePart_55 (by decide) rfl ?_
    refine sx_aload_n (pc := 57) dX12_makePart_57 sx_m2 ?_
    refine sv_getI (pc := 58) hG dX12_makePart_58 f_12_409 lay_146 rfl ?_
    refine sx_if_le (pc := 61) (tgt := 65) dX12_makePart_61 (by decide) (fun c105 => ?_) (fun c105 => ?_)
    · have h := sx_pos c105 h
      refine sx_bipush (pc := 65) (v := 102) dX12_makePart_65 (by decide) ?_
      refine sx_iload_n (pc := 67) dX12_makePart_67 sx_m5 ?_
      refine sx_imul (pc := 68) dX12_makePart_68 ?_
      refine sv_tI (fun x106 hx106 => ?_)
      have h := sx_letE hx106 h
      refine sx_istore (pc := 69) (lo' := [(6, .int x106), (4, .int x104), (5, .int x99), (0, .ref 146), (1, .int l1), (2, .int l2), (3, .int l3)]) dX12_makePart_69 (by decide) rfl ?_
      refine sx_iload (pc := 71) dX12_makePart_71 sx_m0 ?_
      refine sx_bipush (pc := 73) (v := 102) dX12_makePart_73 (by decide) ?_
      refine sx_iadd (pc := 75) dX12_makePart_75 ?_
      refine sv_tI (fun x107 hx107 => ?_)
      have h := sx_letE hx107 h
      refine sx_istore (pc := 76) (lo' := [(7, .int x107), (6, .int x106), (4, .int x104), (5, .int x99), (0, .ref 146), (1, .int l1), (2, .int l2), (3, .int l3)]) dX12_makePart_76 (by decide) rfl ?_
      refine sx_aload_n (pc := 78) dX12_makePart_78 sx_m4 ?_
      refine sv_getA (pc := 79) hG dX12_makePart_79 f_12_146 lay_146 rfl cr_146_118 ?_
      refine sx_iload_n (pc := 82) dX12_makePart_82 sx_m7 ?_
      obtain ⟨g108, h⟩ := sx_grd h
      refine sv_iald (pc := 83) hG dX12_makePart_83 lay_190 g108 ?_
      refine sv_tI (fun x109 hx109 => ?_)
      have h := sx_letE hx109 h
      refine sx_istore (pc := 84) (lo' := [(8, .int x109), (7, .int x107), (6, .int x106), (4, .int x104), (5, .int x99), (0, .ref 146), (1, .int l1), (2, .int l2), (3, .int l3)]) dX12_makePart_84 (by decide) rfl ?_
      refine sx_aload_n (pc := 86) dX12_makePart_86 sx_m5 ?_
      refine sv_getA (pc := 87) hG dX12_makePart_87 f_12_146 lay_146 rfl cr_146_118 ?_
      refine sx_iload_n (pc := 90) dX12_makePart_90 sx_m8 ?_
      refine sx_iconst (pc := 91) (v := 1) dX12_makePart_91 (by decide) ?_
      refine sx_iadd (pc := 92) dX12_makePart_92 ?_
      obtain ⟨g110, h⟩ := sx_grd h
      refine sv_iald (pc := 93) hG dX12_makePart_93 lay_190 g110 ?_
      refine sv_tI (fun x111 hx111 => ?_)
      have h := sx_letE hx111 h
      refine sx_istore (pc := 94) (lo' := [(9, .int x111), (8, .int x109), (7, .int x107), (6, .int x106), (4, .int x104), (5, .int x99), (0, .ref 146), (1, .int l1), (2, .int l2), (3, .int l3)]) dX12_makePart_94 (by decide) rfl ?_
      refine sx_iload (pc := 96) dX12_makePart_96 sx_m1 ?_
      refine sx_iload (pc := 98) dX12_makePart_98 sx_m0 ?_
      refine sx_iadd (pc := 100) dX12_makePart_100 ?_
      refine sx_bipush (pc := 101) (v := 100) dX12_makePart_101 (by decide) ?_
      refine sx_icmp_gt (pc := 103) (tgt := 126) dX12_makePart_103 (by decide) (fun c112 => ?_) (fun c112 => ?_)
      · have h := sx_pos c112 h
        refine sx_wk (sx_s1 sx_m6 sx_s0) ?_
        exact tB_X12_makePart_126 hG hP hkb  h
      · have h := sx_neg c112 h
        refine sx_aload_n (pc := 106) dX12_makePart_106 sx_m6 ?_
        refine sv_getA (pc := 107) hG dX12_makePart_107 f_12_149 lay_146 rfl cr_146_119 ?_
        refine sx_iload_n (pc := 110) dX12_makePart_110 sx_m9 ?_
        obtain ⟨g113, h⟩ := sx_grd h
        refine sv_iald (pc := 111) hG dX12_makePart_111 lay_191 g113 ?_
        refine sx_aload_n (pc := 112) dX12_makePart_112 sx_m6 ?_
        refine sv_getA (pc := 113) hG dX12_makePart_113 f_12_149 lay_146 rfl cr_146_119 ?_
        refine sx_iload_n (pc := 116) dX12_makePart_116 sx_m9 ?_
        refine sx_iconst (pc := 117) (v := 1) dX12_makePart_117 (by decide) ?_
        refine sx_iadd (pc := 118) dX12_makePart_118 ?_
        obtain ⟨g114, h⟩ := sx_grd h
        refine sv_iald (pc := 119) hG dX12_makePart_119 lay_191 g114 ?_
        refine sx_iadd (pc := 120) dX12_makePart_120 ?_
        refine sx_bipush (pc := 121) (v := 20) dX12_makePart_121 (by decide) ?_
        refine sx_icmp_le (pc := 123) (tgt := 133) dX12_makePart_123 (by decide) (fun c115 => ?_) (fun c115 => ?_)
        · have h := sx_pos c115 h
          refine sx_aload_n (pc := 133) dX12_makePart_133 sx_m6 ?_
          refine sv_getA (pc := 134) hG dX12_makePart_134 f_12_54 lay_146 rfl cr_146_41 ?_
          refine sx_iconst (pc := 137) (v := 4) dX12_makePart_137 (by decide) ?_
          refine sx_iload_n (pc := 138) dX12_makePart_138 sx_m8 ?_
          refine sx_imul (pc := 139) dX12_makePart_139 ?_
          obtain ⟨g116, h⟩ := sx_grd h
          refine sv_iald (pc := 140) hG dX12_makePart_140 lay_161 g116 ?_
          refine sx_i2l (pc := 141) dX12_makePart_141 ?_
          refine sv_tJ (fun x117 hx117 => ?_)
          have h := sx_letE hx117 h
          refine sx_lstore (pc := 142) (lo' := [(10, .long x117), (9, .int x111), (8, .int x109), (7, .int x107), (6, .int x106), (4, .int x104), (5, .int x99), (0, .ref 146), (1, .int l1), (2, .int l2), (3, .int l3)]) dX12_makePart_142 (by decide) rfl ?_
          refine sx_aload_n (pc := 144) dX12_makePart_144 sx_m7 ?_
          refine sv_getA (pc := 145) hG dX12_makePart_145 f_12_54 lay_146 rfl cr_146_41 ?_
          refine sx_iconst (pc := 148) (v := 4) dX12_makePart_148 (by decide) ?_
          refine sx_iload_n (pc := 149) dX12_makePart_149 sx_m9 ?_
          refine sx_imul (pc := 150) dX12_makePart_150 ?_
          refine sx_iconst (pc := 151) (v := 1) dX12_makePart_151 (by decide) ?_
          refine sx_iadd (pc := 152) dX12_makePart_152 ?_
          obtain ⟨g118, h⟩ := sx_grd h
          refine sv_iald (pc := 153) hG dX12_makePart_153 lay_161 g118 ?_
          refine sx_i2l (pc := 154) dX12_makePart_154 ?_
          refine sv_tJ (fun x119 hx119 => ?_)
          have h := sx_letE hx119 h
          refine sx_lstore (pc := 155) (lo' := [(12, .long x119), (10, .long x117), (9, .int x111), (8, .int x109), (7, .int x107), (6, .int x106), (4, .int x104), (5, .int x99), (0, .ref 146), (1, .int l1), (2, .int l2), (3, .int l3)]) dX12_makePart_155 (by decide) rfl ?_
          refine sx_aload_n (pc := 157) dX12_makePart_157 sx_m8 ?_
          refine sv_getA (pc := 158) hG dX12_makePart_158 f_12_54 lay_146 rfl cr_146_41 ?_
          refine sx_iconst (pc := 161) (v := 4) dX12_makePart_161 (by decide) ?_
          refine sx_iload_n (pc := 162) dX12_makePart_162 sx_m10 ?_
          refine sx_imul (pc := 163) dX12_makePart_163 ?_
          refine sx_iconst (pc := 164) (v := 2) dX12_makePart_164 (by decide) ?_
          refine sx_iadd (pc := 165) dX12_makePart_165 ?_
          obtain ⟨g120, h⟩ := sx_grd h
          refine sv_iald (pc := 166) hG dX12_makePart_166 lay_161 g120 ?_
          refine sx_i2l (pc := 167) dX12_makePart_167 ?_
          refine sv_tJ (fun x121 hx121 => ?_)
          have h := sx_letE hx121 h
          refine sx_lstore (pc := 168) (lo' := [(14, .long x121), (12, .long x119), (10, .long x117), (9, .int x111), (8, .int x109), (7, .int x107), (6, .int x106), (4, .int x104), (5, .int x99), (0, .ref 146), (1, .int l1), (2, .int l2), (3, .int l3)]) dX12_makePart_168 (by decide) rfl ?_
          refine sx_aload_n (pc := 170) dX12_makePart_170 sx_m9 ?_
          refine sv_getA (pc := 171) hG dX12_makePart_171 f_12_54 lay_146 rfl cr_146_41 ?_
          refine sx_iconst (pc := 174) (v := 4) dX12_makePart_174 (by decide) ?_
          refine sx_iload_n (pc := 175) dX12_makePart_175 sx_m11 ?_
          refine sx_imul (pc := 176) dX12_makePart_176 ?_
          refine sx_iconst (pc := 177) (v := 3) dX12_makePart_177 (by decide) ?_
          refine sx_iadd (pc := 178) dX12_makePart_178 ?_
          obtain ⟨g122, h⟩ := sx_grd h
          refine sv_iald (pc := 179) hG dX12_makePart_179 lay_161 g122 ?_
          refine sx_i2l (pc := 180) dX12_makePart_180 ?_
          refine sv_tJ (fun x123 hx123 => ?_)
          have h := sx_letE hx123 h
          refine sx_lstore (pc := 181) (lo' := [(16, .long x123), (14, .long x121), (12, .long x119), (10, .long x117), (9, .int x111), (8, .int x109), (7, .int x107), (6, .int x106), (4, .int x104), (5, .int x99), (0, .ref 146), (1, .int l1), (2, .int l2), (3, .int l3)]) dX12_makePart_181 (by decide) rfl ?_
          refine sx_iconst (pc := 183) (v := 0) dX12_makePart_183 (by decide) ?_
          refine sx_istore (pc := 184) (lo' := [(18, .int (0 : Int32)), (16, .long x123), (14, .long x121), (12, .long x119), (10, .long x117), (9, .int x111), (8, .int x109), (7, .int x107), (6, .int x106), (4, .int x104), (5, .int x99), (0, .ref 146), (1, .int l1), (2, .int l2), (3, .int l3)]) dX12_makePart_184 (by decide) rfl ?_
          refine sx_wk (sx_s1 sx_m11 (sx_s1 sx_m13 (sx_s1 sx_m14 (sx_s1 sx_m8 (sx_s1 sx_m7 (sx_s1 sx_m6 (sx_s1 sx_m5 (sx_s1 sx_m4 (sx_s1 sx_m3 (sx_s1 sx_m2 (sx_s1 sx_m1 (sx_s1 sx_m0 sx_s0)))))))))))) ?_
          exact tL_X12_makePart_186 hG hP hkb  N _ _ _ _ _ _ _ _ _ _ _ _ h
        · have h := sx_neg c115 h
          refine sx_wk (sx_s1 sx_m6 sx_s0) ?_
          exact tB_X12_makePart_126 hG hP hkb  h
    · have h := sx_neg c105 h
      exact sv_vret (pc := 64) dX12_makePart_64 rfl h hP
  · have h := sx_pos c93 h
    refine sx_aload_n (pc := 9) dX12_makePart_9 sx_m0 ?_
    refine sx_bipush (pc := 10) (v := 12) dX12_makePart_10 (by decide) ?_
    obtain ⟨V124, g125, h⟩ := sx_bnd h
    refine sv_cV (pc := 12) (y := qX12_failOutside) (o := none) (as := [.int (12 : Int32)]) (V1 := V124) hG dX12_makePart_12 l_X12_795 y0X12_failOutside yvX12_failOutside rfl (Nat.le_of_ble_eq_true rfl) lay_146 kr_12 (by omega) (Nat.le_of_ble_eq_true rfl) rfl rfl rfl (t_X12_failOutside hG ⟨rfl, rfl⟩ g125) ?_
    exact sv_vret (pc := 15) dX12_makePart_15 rfl h hP
def ncX12_glyph : Nat := 2038086534541940556568924178161335615528452575416676674853871146890863882349466042718778410389173698854359547176266209941499190679672274919423863822008373451438628603469172338159736884982911649382017823558036957390836233600829088559330318305509933793185907084723120447238232711559779715107031513486065035759950410794
theorem kcX12_glyph : CK cX12_glyph ncX12_glyph 131 := ⟨by decide +kernel, by decide +kernel⟩
theorem dX12_glyph_0 : decode cX12_glyph 0 = .ok (.aload_n 0, 1) := dl_o42 kcX12_glyph (by decide +kernel)
theorem dX12_glyph_1 : decode cX12_glyph 1 = .ok (.getfield 759, 3) := dl_o180 kcX12_glyph (by decide +kernel)
theorem dX12_glyph_4 : decode cX12_glyph 4 = .ok (.ifCond .ne 6, 3) := dl_o154 kcX12_glyph 6 (by decide +kernel) (by decide +kernel)
theorem dX12_glyph_7 : decode cX12_glyph 7 = .ok (.bipush (-3), 2) := dl_o16 kcX12_glyph 253 (by decide +kernel) (by decide +kernel)
theorem dX12_glyph_9 : decode cX12_glyph 9 = .ok (.ireturn, 1) := dl_o172 kcX12_glyph (by decide +kernel)
theorem dX12_glyph_10 : decode cX12_glyph 10 = .ok (.iload_n 1, 1) := dl_o27 kcX12_glyph (by decide +kernel)
theorem dX12_glyph_11 : decode cX12_glyph 11 = .ok (.i2l, 1) := dl_o133 kcX12_glyph (by decide +kernel)
theorem dX12_glyph_12 : decode cX12_glyph 12 = .ok (.lconst 0, 1) := dl_o9 kcX12_glyph (by decide +kernel)
theorem dX12_glyph_13 : decode cX12_glyph 13 = .ok (.aload_n 0, 1) := dl_o42 kcX12_glyph (by decide +kernel)
theorem dX12_glyph_14 : decode cX12_glyph 14 = .ok (.getfield 260, 3) := dl_o180 kcX12_glyph (by decide +kernel)
theorem dX12_glyph_17 : decode cX12_glyph 17 = .ok (.iconst 1, 1) := dl_o4 kcX12_glyph (by decide +kernel)
theorem dX12_glyph_18 : decode cX12_glyph 18 = .ok (.isub, 1) := dl_o100 kcX12_glyph (by decide +kernel)
theorem dX12_glyph_19 : decode cX12_glyph 19 = .ok (.i2l, 1) := dl_o133 kcX12_glyph (by decide +kernel)
theorem dX12_glyph_20 : decode cX12_glyph 20 = .ok (.invokestatic 263, 3) := dl_o184 kcX12_glyph (by decide +kernel)
theorem dX12_glyph_23 : decode cX12_glyph 23 = .ok (.ifCond .ne 5, 3) := dl_o154 kcX12_glyph 5 (by decide +kernel) (by decide +kernel)
theorem dX12_glyph_26 : decode cX12_glyph 26 = .ok (.iconst (-1), 1) := dl_o2 kcX12_glyph (by decide +kernel)
theorem dX12_glyph_27 : decode cX12_glyph 27 = .ok (.ireturn, 1) := dl_o172 kcX12_glyph (by decide +kernel)
theorem dX12_glyph_28 : decode cX12_glyph 28 = .ok (.aload_n 0, 1) := dl_o42 kcX12_glyph (by decide +kernel)
theorem dX12_glyph_29 : decode cX12_glyph 29 = .ok (.iload_n 1, 1) := dl_o27 kcX12_glyph (by decide +kernel)
theorem dX12_glyph_30 : decode cX12_glyph 30 = .ok (.invokevirtual 278, 3) := dl_o182 kcX12_glyph (by decide +kernel)
theorem dX12_glyph_33 : decode cX12_glyph 33 = .ok (.istore_n 3, 1) := dl_o62 kcX12_glyph (by decide +kernel)
theorem dX12_glyph_34 : decode cX12_glyph 34 = .ok (.iload_n 2, 1) := dl_o28 kcX12_glyph (by decide +kernel)
theorem dX12_glyph_35 : decode cX12_glyph 35 = .ok (.tableswitch 93 0 7 #[45, 51, 57, 67, 72, 78, 83, 88], 45) := by decide +kernel
theorem dX12_glyph_80 : decode cX12_glyph 80 = .ok (.aload_n 0, 1) := dl_o42 kcX12_glyph (by decide +kernel)
theorem dX12_glyph_81 : decode cX12_glyph 81 = .ok (.iload_n 1, 1) := dl_o27 kcX12_glyph (by decide +kernel)
theorem dX12_glyph_82 : decode cX12_glyph 82 = .ok (.invokevirtual 785, 3) := dl_o182 kcX12_glyph (by decide +kernel)
theorem dX12_glyph_85 : decode cX12_glyph 85 = .ok (.ireturn, 1) := dl_o172 kcX12_glyph (by decide +kernel)
theorem dX12_glyph_86 : decode cX12_glyph 86 = .ok (.aload_n 0, 1) := dl_o42 kcX12_glyph (by decide +kernel)
theorem dX12_glyph_87 : decode cX12_glyph 87 = .ok (.iload_n 1, 1) := dl_o27 kcX12_glyph (by decide +kernel)
theorem dX12_glyph_88 : decode cX12_glyph 88 = .ok (.invokevirtual 782, 3) := dl_o182 kcX12_glyph (by decide +kernel)
theorem dX12_glyph_91 : decode cX12_glyph 91 = .ok (.ireturn, 1) := dl_o172 kcX12_glyph (by decide +kernel)
theorem dX12_glyph_92 : decode cX12_glyph 92 = .ok (.aload_n 0, 1) := dl_o42 kcX12_glyph (by decide +kernel)
theorem dX12_glyph_93 : decode cX12_glyph 93 = .ok (.getfield 345, 3) := dl_o180 kcX12_glyph (by decide +kernel)
theorem dX12_glyph_96 : decode cX12_glyph 96 = .ok (.aload_n 0, 1) := dl_o42 kcX12_glyph (by decide +kernel)
theorem dX12_glyph_97 : decode cX12_glyph 97 = .ok (.getfield 342, 3) := dl_o180 kcX12_glyph (by decide +kernel)
theorem dX12_glyph_100 : decode cX12_glyph 100 = .ok (.isub, 1) := dl_o100 kcX12_glyph (by decide +kernel)
theorem dX12_glyph_101 : decode cX12_glyph 101 = .ok (.ireturn, 1) := dl_o172 kcX12_glyph (by decide +kernel)
theorem dX12_glyph_102 : decode cX12_glyph 102 = .ok (.aload_n 0, 1) := dl_o42 kcX12_glyph (by decide +kernel)
theorem dX12_glyph_103 : decode cX12_glyph 103 = .ok (.getfield 348, 3) := dl_o180 kcX12_glyph (by decide +kernel)
theorem dX12_glyph_106 : decode cX12_glyph 106 = .ok (.ireturn, 1) := dl_o172 kcX12_glyph (by decide +kernel)
theorem dX12_glyph_107 : decode cX12_glyph 107 = .ok (.aload_n 0, 1) := dl_o42 kcX12_glyph (by decide +kernel)
theorem dX12_glyph_108 : decode cX12_glyph 108 = .ok (.iload_n 1, 1) := dl_o27 kcX12_glyph (by decide +kernel)
theorem dX12_glyph_109 : decode cX12_glyph 109 = .ok (.invokevirtual 779, 3) := dl_o182 kcX12_glyph (by decide +kernel)
theorem dX12_glyph_112 : decode cX12_glyph 112 = .ok (.ireturn, 1) := dl_o172 kcX12_glyph (by decide +kernel)
theorem dX12_glyph_113 : decode cX12_glyph 113 = .ok (.aload_n 0, 1) := dl_o42 kcX12_glyph (by decide +kernel)
theorem dX12_glyph_114 : decode cX12_glyph 114 = .ok (.getfield 351, 3) := dl_o180 kcX12_glyph (by decide +kernel)
theorem dX12_glyph_117 : decode cX12_glyph 117 = .ok (.ireturn, 1) := dl_o172 kcX12_glyph (by decide +kernel)
theorem dX12_glyph_118 : decode cX12_glyph 118 = .ok (.aload_n 0, 1) := dl_o42 kcX12_glyph (by decide +kernel)
theorem dX12_glyph_119 : decode cX12_glyph 119 = .ok (.getfield 354, 3) := dl_o180 kcX12_glyph (by decide +kernel)
theorem dX12_glyph_122 : decode cX12_glyph 122 = .ok (.ireturn, 1) := dl_o172 kcX12_glyph (by decide +kernel)
theorem dX12_glyph_123 : decode cX12_glyph 123 = .ok (.aload_n 0, 1) := dl_o42 kcX12_glyph (by decide +kernel)
theorem dX12_glyph_124 : decode cX12_glyph 124 = .ok (.getfield 360, 3) := dl_o180 kcX12_glyph (by decide +kernel)
theorem dX12_glyph_127 : decode cX12_glyph 127 = .ok (.ireturn, 1) := dl_o172 kcX12_glyph (by decide +kernel)
theorem dX12_glyph_128 : decode cX12_glyph 128 = .ok (.bipush (-2), 2) := dl_o16 kcX12_glyph 254 (by decide +kernel) (by decide +kernel)
theorem dX12_glyph_130 : decode cX12_glyph 130 = .ok (.ireturn, 1) := dl_o172 kcX12_glyph (by decide +kernel)
def F_X12_glyph (N : Nat) (l1 : Int32) (l2 : Int32) (V : sv_V) : Option (Int32 × sv_V) := if (V.1 146 4) = 0 then (some ((-3 : Int32), V)) else ((F_X12_in l1.toInt64 (0 : Int64) (((V.1 146 12) - (1 : Int32)).toInt64) V).bind (fun (x4, V2) => if x4 = 0 then (some ((-1 : Int32), V2)) else ((F_X12_isGlyph N l1 V2).bind (fun (x8, V6) => if l2 = 0 then ((F_X12_advanceOf N l1 V6).bind (fun (x12, V10) => some (x12, V10))) else (if l2 = 1 then ((F_X12_bearingOf N l1 V6).bind (fun (x16, V14) => some (x16, V14))) else (if l2 = 2 then (some ((V6.1 146 27) - (V6.1 146 26), V6)) else (if l2 = 3 then (some (V6.1 146 28, V6)) else (if l2 = 4 then ((F_X12_leftOf N l1 V6).bind (fun (x22, V20) => some (x22, V20))) else (if l2 = 5 then (some (V6.1 146 29, V6)) else (if l2 = 6 then (some (V6.1 146 30, V6)) else (if l2 = 7 then (some (V6.1 146 32, V6)) else (some ((-2 : Int32), V6)))))))))))))
set_option maxRecDepth 20000 in
theorem t_X12_glyph {g : sx_G} (hG : sx_Go g) {P : Option Value → sv_V → Prop} {r : Int32} {Vr : sv_V} (hP : P (some (.int r)) Vr) {N : Nat} {l1 : Int32} {l2 : Int32} {V : sv_V} (h : F_X12_glyph N l1 l2 V = some (r, Vr)) : sv_N g qX12_glyph 6 0 [(0, .ref 146), (1, .int l1), (2, .int l2)] [] V P := by
  unfold F_X12_glyph at h
  refine sx_aload_n (pc := 0) dX12_glyph_0 sx_m0 ?_
  refine sv_getZ (pc := 1) hG dX12_glyph_1 f_12_759 lay_146 rfl ?_
  refine sx_if_ne (pc := 4) (tgt := 10) dX12_glyph_4 (by decide) (fun c1 => ?_) (fun c1 => ?_)
  · have h := sx_neg c1 h
    refine sx_iload_n (pc := 10) dX12_glyph_10 sx_m1 ?_
    refine sx_i2l (pc := 11) dX12_glyph_11 ?_
    refine sx_lconst (pc := 12) (v := 0) dX12_glyph_12 rfl ?_
    refine sx_aload_n (pc := 13) dX12_glyph_13 sx_m0 ?_
    refine sv_getI (pc := 14) hG dX12_glyph_14 f_12_260 lay_146 rfl ?_
    refine sx_iconst (pc := 17) (v := 1) dX12_glyph_17 (by decide) ?_
    refine sx_isub (pc := 18) dX12_glyph_18 ?_
    refine sx_i2l (pc := 19) dX12_glyph_19 ?_
    obtain ⟨⟨x4, V2⟩, g3, h⟩ := sx_bnd h
    refine sv_cS (pc := 20) (y := qX12_in) (o := (some (.int x4))) (as := [.long l1.toInt64, .long (0 : Int64), .long (((V.1 146 12) - (1 : Int32)).toInt64)]) (V1 := V2) dX12_glyph_20 l_X12_263 y0X12_in ysX12_in rfl (Nat.le_of_ble_eq_true rfl) (by decide) (Nat.le_of_ble_eq_true rfl) rfl rfl rfl (t_X12_in hG ⟨rfl, rfl⟩ g3) ?_
    refine sx_if_ne (pc := 23) (tgt := 28) dX12_glyph_23 (by decide) (fun c5 => ?_) (fun c5 => ?_)
    · have h := sx_neg c5 h
      refine sx_aload_n (pc := 28) dX12_glyph_28 sx_m0 ?_
      refine sx_iload_n (pc := 29) dX12_glyph_29 sx_m1 ?_
      obtain ⟨⟨x8, V6⟩, g7, h⟩ := sx_bnd h
      refine sv_cV (pc := 30) (y := qX12_isGlyph) (o := (some (.int x8))) (as := [.int l1]) (V1 := V6) hG dX12_glyph_30 l_X12_278 y0X12_isGlyph yvX12_isGlyph rfl (Nat.le_of_ble_eq_true rfl) lay_146 kr_12 (by decide) (Nat.le_of_ble_eq_true rfl) rfl rfl rfl (t_X12_isGlyph hG ⟨rfl, rfl⟩ g7) ?_
      refine sx_istore_n (pc := 33) (lo' := [(3, .int x8), (0, .ref 146), (1, .int l1), (2, .int l2)]) dX12_glyph_33 (by decide) rfl ?_
      refine sx_iload_n (pc := 34) dX12_glyph_34 sx_m3 ?_
      by_cases c9 : l2 = 0
      · have h := sx_pos c9 h
        refine sx_tabI (pc := 35) (off := 45) (tgt := 80) dX12_glyph_35 (by rw [c9]; decide) (by rw [c9]; decide) (by rw [c9]; rfl) (by decide) ?_
        refine sx_aload_n (pc := 80) dX12_glyph_80 sx_m1 ?_
        refine sx_iload_n (pc := 81) dX12_glyph_81 sx_m2 ?_
        obtain ⟨⟨x12, V10⟩, g11, h⟩ := sx_bnd h
        refine sv_cV (pc := 82) (y := qX12_advanceOf) (o := (some (.int x12))) (as := [.int l1]) (V1 := V10) hG dX12_glyph_82 l_X12_785 y0X12_advanceOf yvX12_advanceOf rfl (Nat.le_of_ble_eq_true rfl) lay_146 kr_12 (by decide) (Nat.le_of_ble_eq_true rfl) rfl rfl rfl (t_X12_advanceOf hG ⟨rfl, rfl⟩ g11) ?_
        exact sv_iret (pc := 85) dX12_glyph_85 rfl h hP
      have h := sx_neg c9 h
      by_cases c13 : l2 = 1
      · have h := sx_pos c13 h
        refine sx_tabI (pc := 35) (off := 51) (tgt := 86) dX12_glyph_35 (by rw [c13]; decide) (by rw [c13]; decide) (by rw [c13]; rfl) (by decide) ?_
        refine sx_aload_n (pc := 86) dX12_glyph_86 sx_m1 ?_
        refine sx_iload_n (pc := 87) dX12_glyph_87 sx_m2 ?_
        obtain ⟨⟨x16, V14⟩, g15, h⟩ := sx_bnd h
        refine sv_cV (pc := 88) (y := qX12_bearingOf) (o := (some (.int x16))) (as := [.int l1]) (V1 := V14) hG dX12_glyph_88 l_X12_782 y0X12_bearingOf yvX12_bearingOf rfl (Nat.le_of_ble_eq_true rfl) lay_146 kr_12 (by decide) (Nat.le_of_ble_eq_true rfl) rfl rfl rfl (t_X12_bearingOf hG ⟨rfl, rfl⟩ g15) ?_
        exact sv_iret (pc := 91) dX12_glyph_91 rfl h hP
      have h := sx_neg c13 h
      by_cases c17 : l2 = 2
      · have h := sx_pos c17 h
        refine sx_tabI (pc := 35) (off := 57) (tgt := 92) dX12_glyph_35 (by rw [c17]; decide) (by rw [c17]; decide) (by rw [c17]; rfl) (by decide) ?_
        refine sx_aload_n (pc := 92) dX12_glyph_92 sx_m1 ?_
        refine sv_getI (pc := 93) hG dX12_glyph_93 f_12_345 lay_146 rfl ?_
        refine sx_aload_n (pc := 96) dX12_glyph_96 sx_m1 ?_
        refine sv_getI (pc := 97) hG dX12_glyph_97 f_12_342 lay_146 rfl ?_
        refine sx_isub (pc := 100) dX12_glyph_100 ?_
        exact sv_iret (pc := 101) dX12_glyph_101 rfl h hP
      have h := sx_neg c17 h
      by_cases c18 : l2 = 3
      · have h := sx_pos c18 h
        refine sx_tabI (pc := 35) (off := 67) (tgt := 102) dX12_glyph_35 (by rw [c18]; decide) (by rw [c18]; decide) (by rw [c18]; rfl) (by decide) ?_
        refine sx_aload_n (pc := 102) dX12_glyph_102 sx_m1 ?_
        refine sv_getI (pc := 103) hG dX12_glyph_103 f_12_348 lay_146 rfl ?_
        exact sv_iret (pc := 106) dX12_glyph_106 rfl h hP
      have h := sx_neg c18 h
      by_cases c19 : l2 = 4
      · have h := sx_pos c19 h
        refine sx_tabI (pc := 35) (off := 72) (tgt := 107) dX12_glyph_35 (by rw [c19]; decide) (by rw [c19]; decide) (by rw [c19]; rfl) (by decide) ?_
        refine sx_aload_n (pc := 107) dX12_glyph_107 sx_m1 ?_
        refine sx_iload_n (pc := 108) dX12_glyph_108 sx_m2 ?_
        obtain ⟨⟨x22, V20⟩, g21, h⟩ := sx_bnd h
        refine sv_cV (pc := 109) (y := qX12_leftOf) (o := (some (.int x22))) (as := [.int l1]) (V1 := V20) hG dX12_glyph_109 l_X12_779 y0X12_leftOf yvX12_leftOf rfl (Nat.le_of_ble_eq_true rfl) lay_146 kr_12 (by decide) (Nat.le_of_ble_eq_true rfl) rfl rfl rfl (t_X12_leftOf hG ⟨rfl, rfl⟩ g21) ?_
        exact sv_iret (pc := 112) dX12_glyph_112 rfl h hP
      have h := sx_neg c19 h
      by_cases c23 : l2 = 5
      · have h := sx_pos c23 h
        refine sx_tabI (pc := 35) (off := 78) (tgt := 113) dX12_glyph_35 (by rw [c23]; decide) (by rw [c23]; decide) (by rw [c23]; rfl) (by decide) ?_
        refine sx_aload_n (pc := 113) dX12_glyph_113 sx_m1 ?_
        refine sv_getI (pc := 114) hG dX12_glyph_114 f_12_351 lay_146 rfl ?_
        exact sv_iret (pc := 117) dX12_glyph_117 rfl h hP
      have h := sx_neg c23 h
      by_cases c24 : l2 = 6
      · have h := sx_pos c24 h
        refine sx_tabI (pc := 35) (off := 83) (tgt := 118) dX12_glyph_35 (by rw [c24]; decide) (by rw [c24]; decide) (by rw [c24]; rfl) (by decide) ?_
        refine sx_aload_n (pc := 118) dX12_glyph_118 sx_m1 ?_
        refine sv_getI (pc := 119) hG dX12_glyph_119 f_12_354 lay_146 rfl ?_
        exact sv_iret (pc := 122) dX12_glyph_122 rfl h hP
      have h := sx_neg c24 h
      by_cases c25 : l2 = 7
      · have h := sx_pos c25 h
        refine sx_tabI (pc := 35) (off := 88) (tgt := 123) dX12_glyph_35 (by rw [c25]; decide) (by rw [c25]; decide) (by rw [c25]; rfl) (by decide) ?_
        refine sx_aload_n (pc := 123) dX12_glyph_123 sx_m1 ?_
        refine sv_getI (pc := 124) hG dX12_glyph_124 f_12_360 lay_146 rfl ?_
        exact sv_iret (pc := 127) dX12_glyph_127 rfl h hP
      have h := sx_neg c25 h
      refine sx_tabO (pc := 35) (tgt := 128) dX12_glyph_35 (by have ec9 := lv_neT (a := 0) c9 rfl; have ec13 := lv_neT (a := 1) c13 rfl; have ec17 := lv_neT (a := 2) c17 rfl; have ec18 := lv_neT (a := 3) c18 rfl; have ec19 := lv_neT (a := 4) c19 rfl; have ec23 := lv_neT (a := 5) c23 rfl; have ec24 := lv_neT (a := 6) c24 rfl; have ec25 := lv_neT (a := 7) c25 rfl; omega) (by decide) ?_
      refine sx_bipush (pc := 128) (v := (-2)) dX12_glyph_128 (by decide) ?_
      exact sv_iret (pc := 130) dX12_glyph_130 rfl h hP
    · have h := sx_pos c5 h
      refine sx_iconst (pc := 26) (v := (-1)) dX12_glyph_26 (by decide) ?_
      exact sv_iret (pc := 27) dX12_glyph_27 rfl h hP
  · have h := sx_pos c1 h
    refine sx_bipush (pc := 7) (v := (-3)) dX12_glyph_7 (by decide) ?_
    exact sv_iret (pc := 9) dX12_glyph_9 rfl h hP
def ncX1_fillIn : Nat := 8704104144329842532380667662404031510519386561429085984697140012294116913280930033256307655019915760652467502424143765636218451940345369811344353607085265969178875686000548091280129734440870958848021103098386727037679027142880174444509445276688748405818467753549906546809584166290463144545576273866315369754148624357988251139
theorem kcX1_fillIn : CK cX1_fillIn ncX1_fillIn 135 := ⟨by decide +kernel, by decide +kernel⟩
theorem dX1_fillIn_0 : decode cX1_fillIn 0 = .ok (.iconst 0, 1) := dl_o3 kcX1_fillIn (by decide +kernel)
theorem dX1_fillIn_1 : decode cX1_fillIn 1 = .ok (.istore 4, 2) := dl_o54 kcX1_fillIn (by decide +kernel)
theorem dX1_fillIn_3 : decode cX1_fillIn 3 = .ok (.iconst 0, 1) := dl_o3 kcX1_fillIn (by decide +kernel)
theorem dX1_fillIn_4 : decode cX1_fillIn 4 = .ok (.istore 5, 2) := dl_o54 kcX1_fillIn (by decide +kernel)
theorem dX1_fillIn_6 : decode cX1_fillIn 6 = .ok (.iload 5, 2) := dl_o21 kcX1_fillIn (by decide +kernel)
theorem dX1_fillIn_8 : decode cX1_fillIn 8 = .ok (.aload_n 0, 1) := dl_o42 kcX1_fillIn (by decide +kernel)
theorem dX1_fillIn_9 : decode cX1_fillIn 9 = .ok (.getfield 19, 3) := dl_o180 kcX1_fillIn (by decide +kernel)
theorem dX1_fillIn_12 : decode cX1_fillIn 12 = .ok (.if_icmp .ge 120, 3) := dl_o162 kcX1_fillIn 120 (by decide +kernel) (by decide +kernel)
theorem dX1_fillIn_15 : decode cX1_fillIn 15 = .ok (.iconst 2, 1) := dl_o5 kcX1_fillIn (by decide +kernel)
theorem dX1_fillIn_16 : decode cX1_fillIn 16 = .ok (.bipush 64, 2) := dl_o16 kcX1_fillIn 64 (by decide +kernel) (by decide +kernel)
theorem dX1_fillIn_18 : decode cX1_fillIn 18 = .ok (.iload 5, 2) := dl_o21 kcX1_fillIn (by decide +kernel)
theorem dX1_fillIn_20 : decode cX1_fillIn 20 = .ok (.imul, 1) := dl_o104 kcX1_fillIn (by decide +kernel)
theorem dX1_fillIn_21 : decode cX1_fillIn 21 = .ok (.bipush 32, 2) := dl_o16 kcX1_fillIn 32 (by decide +kernel) (by decide +kernel)
theorem dX1_fillIn_23 : decode cX1_fillIn 23 = .ok (.iadd, 1) := dl_o96 kcX1_fillIn (by decide +kernel)
theorem dX1_fillIn_24 : decode cX1_fillIn 24 = .ok (.iload_n 3, 1) := dl_o29 kcX1_fillIn (by decide +kernel)
theorem dX1_fillIn_25 : decode cX1_fillIn 25 = .ok (.isub, 1) := dl_o100 kcX1_fillIn (by decide +kernel)
theorem dX1_fillIn_26 : decode cX1_fillIn 26 = .ok (.imul, 1) := dl_o104 kcX1_fillIn (by decide +kernel)
theorem dX1_fillIn_27 : decode cX1_fillIn 27 = .ok (.istore 6, 2) := dl_o54 kcX1_fillIn (by decide +kernel)
theorem dX1_fillIn_29 : decode cX1_fillIn 29 = .ok (.aload_n 1, 1) := dl_o43 kcX1_fillIn (by decide +kernel)
theorem dX1_fillIn_30 : decode cX1_fillIn 30 = .ok (.iload 6, 2) := dl_o21 kcX1_fillIn (by decide +kernel)
theorem dX1_fillIn_32 : decode cX1_fillIn 32 = .ok (.invokevirtual 28, 3) := dl_o182 kcX1_fillIn (by decide +kernel)
theorem dX1_fillIn_35 : decode cX1_fillIn 35 = .ok (.iconst 0, 1) := dl_o3 kcX1_fillIn (by decide +kernel)
theorem dX1_fillIn_36 : decode cX1_fillIn 36 = .ok (.istore 7, 2) := dl_o54 kcX1_fillIn (by decide +kernel)
theorem dX1_fillIn_38 : decode cX1_fillIn 38 = .ok (.iload 7, 2) := dl_o21 kcX1_fillIn (by decide +kernel)
theorem dX1_fillIn_40 : decode cX1_fillIn 40 = .ok (.aload_n 0, 1) := dl_o42 kcX1_fillIn (by decide +kernel)
theorem dX1_fillIn_41 : decode cX1_fillIn 41 = .ok (.getfield 15, 3) := dl_o180 kcX1_fillIn (by decide +kernel)
theorem dX1_fillIn_44 : decode cX1_fillIn 44 = .ok (.if_icmp .ge 82, 3) := dl_o162 kcX1_fillIn 82 (by decide +kernel) (by decide +kernel)
theorem dX1_fillIn_47 : decode cX1_fillIn 47 = .ok (.aload_n 1, 1) := dl_o43 kcX1_fillIn (by decide +kernel)
theorem dX1_fillIn_48 : decode cX1_fillIn 48 = .ok (.invokevirtual 34, 3) := dl_o182 kcX1_fillIn (by decide +kernel)
theorem dX1_fillIn_51 : decode cX1_fillIn 51 = .ok (.ifCond .eq 75, 3) := dl_o153 kcX1_fillIn 75 (by decide +kernel) (by decide +kernel)
theorem dX1_fillIn_54 : decode cX1_fillIn 54 = .ok (.iconst 2, 1) := dl_o5 kcX1_fillIn (by decide +kernel)
theorem dX1_fillIn_55 : decode cX1_fillIn 55 = .ok (.bipush 64, 2) := dl_o16 kcX1_fillIn 64 (by decide +kernel) (by decide +kernel)
theorem dX1_fillIn_57 : decode cX1_fillIn 57 = .ok (.iload 7, 2) := dl_o21 kcX1_fillIn (by decide +kernel)
theorem dX1_fillIn_59 : decode cX1_fillIn 59 = .ok (.imul, 1) := dl_o104 kcX1_fillIn (by decide +kernel)
theorem dX1_fillIn_60 : decode cX1_fillIn 60 = .ok (.bipush 32, 2) := dl_o16 kcX1_fillIn 32 (by decide +kernel) (by decide +kernel)
theorem dX1_fillIn_62 : decode cX1_fillIn 62 = .ok (.iadd, 1) := dl_o96 kcX1_fillIn (by decide +kernel)
theorem dX1_fillIn_63 : decode cX1_fillIn 63 = .ok (.iload_n 2, 1) := dl_o28 kcX1_fillIn (by decide +kernel)
theorem dX1_fillIn_64 : decode cX1_fillIn 64 = .ok (.isub, 1) := dl_o100 kcX1_fillIn (by decide +kernel)
theorem dX1_fillIn_65 : decode cX1_fillIn 65 = .ok (.imul, 1) := dl_o104 kcX1_fillIn (by decide +kernel)
theorem dX1_fillIn_66 : decode cX1_fillIn 66 = .ok (.istore 8, 2) := dl_o54 kcX1_fillIn (by decide +kernel)
theorem dX1_fillIn_68 : decode cX1_fillIn 68 = .ok (.iload 5, 2) := dl_o21 kcX1_fillIn (by decide +kernel)
theorem dX1_fillIn_70 : decode cX1_fillIn 70 = .ok (.sipush 128, 3) := dl_o17 kcX1_fillIn 128 (by decide +kernel) (by decide +kernel)
theorem dX1_fillIn_73 : decode cX1_fillIn 73 = .ok (.imul, 1) := dl_o104 kcX1_fillIn (by decide +kernel)
theorem dX1_fillIn_74 : decode cX1_fillIn 74 = .ok (.iload 7, 2) := dl_o21 kcX1_fillIn (by decide +kernel)
theorem dX1_fillIn_76 : decode cX1_fillIn 76 = .ok (.iadd, 1) := dl_o96 kcX1_fillIn (by decide +kernel)
theorem dX1_fillIn_77 : decode cX1_fillIn 77 = .ok (.istore 9, 2) := dl_o54 kcX1_fillIn (by decide +kernel)
theorem dX1_fillIn_79 : decode cX1_fillIn 79 = .ok (.aload_n 0, 1) := dl_o42 kcX1_fillIn (by decide +kernel)
theorem dX1_fillIn_80 : decode cX1_fillIn 80 = .ok (.getfield 11, 3) := dl_o180 kcX1_fillIn (by decide +kernel)
theorem dX1_fillIn_83 : decode cX1_fillIn 83 = .ok (.iload 9, 2) := dl_o21 kcX1_fillIn (by decide +kernel)
theorem dX1_fillIn_85 : decode cX1_fillIn 85 = .ok (.baload, 1) := dl_o51 kcX1_fillIn (by decide +kernel)
theorem dX1_fillIn_86 : decode cX1_fillIn 86 = .ok (.ifCond .ne 34, 3) := dl_o154 kcX1_fillIn 34 (by decide +kernel) (by decide +kernel)
theorem dX1_fillIn_89 : decode cX1_fillIn 89 = .ok (.aload_n 1, 1) := dl_o43 kcX1_fillIn (by decide +kernel)
theorem dX1_fillIn_90 : decode cX1_fillIn 90 = .ok (.iload 8, 2) := dl_o21 kcX1_fillIn (by decide +kernel)
theorem dX1_fillIn_92 : decode cX1_fillIn 92 = .ok (.invokevirtual 38, 3) := dl_o182 kcX1_fillIn (by decide +kernel)
theorem dX1_fillIn_95 : decode cX1_fillIn 95 = .ok (.ifCond .eq 25, 3) := dl_o153 kcX1_fillIn 25 (by decide +kernel) (by decide +kernel)
theorem dX1_fillIn_98 : decode cX1_fillIn 98 = .ok (.aload_n 1, 1) := dl_o43 kcX1_fillIn (by decide +kernel)
theorem dX1_fillIn_99 : decode cX1_fillIn 99 = .ok (.iload 8, 2) := dl_o21 kcX1_fillIn (by decide +kernel)
theorem dX1_fillIn_101 : decode cX1_fillIn 101 = .ok (.iload 6, 2) := dl_o21 kcX1_fillIn (by decide +kernel)
theorem dX1_fillIn_103 : decode cX1_fillIn 103 = .ok (.invokevirtual 42, 3) := dl_o182 kcX1_fillIn (by decide +kernel)
theorem dX1_fillIn_106 : decode cX1_fillIn 106 = .ok (.ifCond .eq 14, 3) := dl_o153 kcX1_fillIn 14 (by decide +kernel) (by decide +kernel)
theorem dX1_fillIn_109 : decode cX1_fillIn 109 = .ok (.aload_n 0, 1) := dl_o42 kcX1_fillIn (by decide +kernel)
theorem dX1_fillIn_110 : decode cX1_fillIn 110 = .ok (.getfield 11, 3) := dl_o180 kcX1_fillIn (by decide +kernel)
theorem dX1_fillIn_113 : decode cX1_fillIn 113 = .ok (.iload 9, 2) := dl_o21 kcX1_fillIn (by decide +kernel)
theorem dX1_fillIn_115 : decode cX1_fillIn 115 = .ok (.iconst 1, 1) := dl_o4 kcX1_fillIn (by decide +kernel)
theorem dX1_fillIn_116 : decode cX1_fillIn 116 = .ok (.bastore, 1) := dl_o84 kcX1_fillIn (by decide +kernel)
theorem dX1_fillIn_117 : decode cX1_fillIn 117 = .ok (.iinc 4 1, 3) := by decide +kernel
theorem dX1_fillIn_120 : decode cX1_fillIn 120 = .ok (.iinc 7 1, 3) := by decide +kernel
theorem dX1_fillIn_123 : decode cX1_fillIn 123 = .ok (.goto (-85), 3) := dl_o167 kcX1_fillIn 65451 (by decide +kernel) (by decide +kernel)
theorem dX1_fillIn_126 : decode cX1_fillIn 126 = .ok (.iinc 5 1, 3) := by decide +kernel
theorem dX1_fillIn_129 : decode cX1_fillIn 129 = .ok (.goto (-123), 3) := dl_o167 kcX1_fillIn 65413 (by decide +kernel) (by decide +kernel)
theorem dX1_fillIn_132 : decode cX1_fillIn 132 = .ok (.iload 4, 2) := dl_o21 kcX1_fillIn (by decide +kernel)
theorem dX1_fillIn_134 : decode cX1_fillIn 134 = .ok (.ireturn, 1) := dl_o172 kcX1_fillIn (by decide +kernel)
def B_X1_fillIn_120 (N : Nat) (k6 : Int32 → Int32 → Int32 → Int32 → sv_V → Option (Int32 × sv_V)) (k38 : Int32 → Int32 → Int32 → Int32 → Int32 → Int32 → sv_V → Option (Int32 × sv_V)) (l2 : Int32) (l3 : Int32) (l4 : Int32) (l5 : Int32) (l6 : Int32) (l7 : Int32) (V : sv_V) : Option (Int32 × sv_V) := sx_let (l7 + 1) (fun x1 => k38 l2 l3 l4 l5 l6 x1 V)
set_option maxRecDepth 20000 in
theorem tB_X1_fillIn_120 {g : sx_G} (hG : sx_Go g) {P : Option Value → sv_V → Prop} {r : Int32} {Vr : sv_V} (hP : P (some (.int r)) Vr) {N : Nat} {k6 : Int32 → Int32 → Int32 → Int32 → sv_V → Option (Int32 × sv_V)} {k38 : Int32 → Int32 → Int32 → Int32 → Int32 → Int32 → sv_V → Option (Int32 × sv_V)} (hk6 : ∀ (l2 : Int32) (l3 : Int32) (l4 : Int32) (l5 : Int32) (V : sv_V), k6 l2 l3 l4 l5 V = some (r, Vr) → sv_N g qX1_fillIn 4 6 [(0, .ref 143), (1, .ref 60), (2, .int l2), (3, .int l3), (4, .int l4), (5, .int l5)] [] V P) (hk38 : ∀ (l2 : Int32) (l3 : Int32) (l4 : Int32) (l5 : Int32) (l6 : Int32) (l7 : Int32) (V : sv_V), k38 l2 l3 l4 l5 l6 l7 V = some (r, Vr) → sv_N g qX1_fillIn 4 38 [(0, .ref 143), (1, .ref 60), (2, .int l2), (3, .int l3), (4, .int l4), (5, .int l5), (6, .int l6), (7, .int l7)] [] V P) {l2 : Int32} {l3 : Int32} {l4 : Int32} {l5 : Int32} {l6 : Int32} {l7 : Int32} {V : sv_V} (h : B_X1_fillIn_120 N k6 k38 l2 l3 l4 l5 l6 l7 V = some (r, Vr)) : sv_N g qX1_fillIn 4 120 [(0, .ref 143), (1, .ref 60), (2, .int l2), (3, .int l3), (4, .int l4), (5, .int l5), (6, .int l6), (7, .int l7)] [] V P := by
  unfold B_X1_fillIn_120 at h
  obtain ⟨x1, hx1⟩ : ∃ z : Int32, z = l7 + 1 := ⟨_, rfl⟩
  have h := sx_letE hx1 h
  refine sx_iinc (pc := 120) (v := x1) (lo' := [(7, .int x1), (0, .ref 143), (1, .ref 60), (2, .int l2), (3, .int l3), (4, .int l4), (5, .int l5), (6, .int l6)]) dX1_fillIn_120 sx_m7 (by rw [hx1]; rfl) (by decide) rfl ?_
  refine sx_goto (pc := 123) (tgt := 38) dX1_fillIn_123 (by decide) ?_
  refine sx_wk (sx_s1 sx_m1 (sx_s1 sx_m2 (sx_s1 sx_m3 (sx_s1 sx_m4 (sx_s1 sx_m5 (sx_s1 sx_m6 (sx_s1 sx_m7 (sx_s1 sx_m0 sx_s0)))))))) ?_
  exact hk38 _ _ _ _ _ _ _ h
def B_X1_fillIn_126 (N : Nat) (k6 : Int32 → Int32 → Int32 → Int32 → sv_V → Option (Int32 × sv_V)) (l2 : Int32) (l3 : Int32) (l4 : Int32) (l5 : Int32) (V : sv_V) : Option (Int32 × sv_V) := sx_let (l5 + 1) (fun x2 => k6 l2 l3 l4 x2 V)
set_option maxRecDepth 20000 in
theorem tB_X1_fillIn_126 {g : sx_G} (hG : sx_Go g) {P : Option Value → sv_V → Prop} {r : Int32} {Vr : sv_V} (hP : P (some (.int r)) Vr) {N : Nat} {k6 : Int32 → Int32 → Int32 → Int32 → sv_V → Option (Int32 × sv_V)} (hk6 : ∀ (l2 : Int32) (l3 : Int32) (l4 : Int32) (l5 : Int32) (V : sv_V), k6 l2 l3 l4 l5 V = some (r, Vr) → sv_N g qX1_fillIn 4 6 [(0, .ref 143), (1, .ref 60), (2, .int l2), (3, .int l3), (4, .int l4), (5, .int l5)] [] V P) {l2 : Int32} {l3 : Int32} {l4 : Int32} {l5 : Int32} {V : sv_V} (h : B_X1_fillIn_126 N k6 l2 l3 l4 l5 V = some (r, Vr)) : sv_N g qX1_fillIn 4 126 [(0, .ref 143), (1, .ref 60), (2, .int l2), (3, .int l3), (4, .int l4), (5, .int l5)] [] V P := by
  unfold B_X1_fillIn_126 at h
  obtain ⟨x2, hx2⟩ : ∃ z : Int32, z = l5 + 1 := ⟨_, rfl⟩
  have h := sx_letE hx2 h
  refine sx_iinc (pc := 126) (v := x2) (lo' := [(5, .int x2), (0, .ref 143), (1, .ref 60), (2, .int l2), (3, .int l3), (4, .int l4)]) dX1_fillIn_126 sx_m5 (by rw [hx2]; rfl) (by decide) rfl ?_
  refine sx_goto (pc := 129) (tgt := 6) dX1_fillIn_129 (by decide) ?_
  refine sx_wk (sx_s1 sx_m1 (sx_s1 sx_m2 (sx_s1 sx_m3 (sx_s1 sx_m4 (sx_s1 sx_m5 (sx_s1 sx_m0 sx_s0)))))) ?_
  exact hk6 _ _ _ _ _ h
def B_X1_fillIn_38 (N : Nat) (k6 : Int32 → Int32 → Int32 → Int32 → sv_V → Option (Int32 × sv_V)) (k38 : Int32 → Int32 → Int32 → Int32 → Int32 → Int32 → sv_V → Option (Int32 × sv_V)) (l2 : Int32) (l3 : Int32) (l4 : Int32) (l5 : Int32) (l6 : Int32) (l7 : Int32) (V : sv_V) : Option (Int32 × sv_V) := if (V.1 143 1) ≤ l7 then (B_X1_fillIn_126 N k6 l2 l3 l4 l5 V) else ((F_X10_hasRow  V).bind (fun (x6, V4) => if x6 = 0 then (B_X1_fillIn_126 N k6 l2 l3 l4 l5 V4) else (sx_let ((2 : Int32) * ((((64 : Int32) * l7) + (32 : Int32)) - l2)) (fun x8 => sx_let ((l5 * (128 : Int32)) + l7) (fun x9 => if sx_in x9 16384 = true then if (V4.1 144 x9.toNatClampNeg) = 0 then ((F_X10_spans x8 V4).bind (fun (x14, V12) => if x14 = 0 then (B_X1_fillIn_120 N k6 k38 l2 l3 l4 l5 l6 l7 V12) else ((F_X10_holds N x8 l6 V12).bind (fun (x18, V16) => if x18 = 0 then (B_X1_fillIn_120 N k6 k38 l2 l3 l4 l5 l6 l7 V16) else (if sx_in x9 16384 = true then sx_let (sv_I V16 144 x9.toNatClampNeg (1 : Int32).toInt8.toInt32) (fun V21 => sx_let (l4 + 1) (fun x22 => B_X1_fillIn_120 N k6 k38 l2 l3 x22 l5 l6 l7 V21)) else none))))) else (B_X1_fillIn_120 N k6 k38 l2 l3 l4 l5 l6 l7 V4) else none)))))
set_option maxRecDepth 20000 in
theorem tB_X1_fillIn_38 {g : sx_G} (hG : sx_Go g) {P : Option Value → sv_V → Prop} {r : Int32} {Vr : sv_V} (hP : P (some (.int r)) Vr) {N : Nat} {k6 : Int32 → Int32 → Int32 → Int32 → sv_V → Option (Int32 × sv_V)} {k38 : Int32 → Int32 → Int32 → Int32 → Int32 → Int32 → sv_V → Option (Int32 × sv_V)} (hk6 : ∀ (l2 : Int32) (l3 : Int32) (l4 : Int32) (l5 : Int32) (V : sv_V), k6 l2 l3 l4 l5 V = some (r, Vr) → sv_N g qX1_fillIn 4 6 [(0, .ref 143), (1, .ref 60), (2, .int l2), (3, .int l3), (4, .int l4), (5, .int l5)] [] V P) (hk38 : ∀ (l2 : Int32) (l3 : Int32) (l4 : Int32) (l5 : Int32) (l6 : Int32) (l7 : Int32) (V : sv_V), k38 l2 l3 l4 l5 l6 l7 V = some (r, Vr) → sv_N g qX1_fillIn 4 38 [(0, .ref 143), (1, .ref 60), (2, .int l2), (3, .int l3), (4, .int l4), (5, .int l5), (6, .int l6), (7, .int l7)] [] V P) {l2 : Int32} {l3 : Int32} {l4 : Int32} {l5 : Int32} {l6 : Int32} {l7 : Int32} {V : sv_V} (h : B_X1_fillIn_38 N k6 k38 l2 l3 l4 l5 l6 l7 V = some (r, Vr)) : sv_N g qX1_fillIn 4 38 [(0, .ref 143), (1, .ref 60), (2, .int l2), (3, .int l3), (4, .int l4), (5, .int l5), (6, .int l6), (7, .int l7)] [] V P := by
  unfold B_X1_fillIn_38 at h
  refine sx_iload (pc := 38) dX1_fillIn_38 sx_m7 ?_
  refine sx_aload_n (pc := 40) dX1_fillIn_40 sx_m0 ?_
  refine sv_getI (pc := 41) hG dX1_fillIn_41 f_1_15 lay_143 rfl ?_
  refine sx_icmp_ge (pc := 44) (tgt := 126) dX1_fillIn_44 (by decide) (fun c3 => ?_) (fun c3 => ?_)
  · have h := sx_pos c3 h
    refine sx_wk (sx_s1 sx_m0 (sx_s1 sx_m1 (sx_s1 sx_m2 (sx_s1 sx_m3 (sx_s1 sx_m4 (sx_s1 sx_m5 sx_s0)))))) ?_
    exact tB_X1_fillIn_126 hG hP hk6 h
  · have h := sx_neg c3 h
    refine sx_aload_n (pc := 47) dX1_fillIn_47 sx_m1 ?_
    obtain ⟨⟨x6, V4⟩, g5, h⟩ := sx_bnd h
    refine sv_cV (pc := 48) (y := qX10_hasRow) (o := (some (.int x6))) (as := []) (V1 := V4) hG dX1_fillIn_48 l_X1_34 y0X10_hasRow yvX10_hasRow rfl (Nat.le_of_ble_eq_true rfl) lay_60 kr_10 (by decide) (Nat.le_of_ble_eq_true rfl) rfl rfl rfl (t_X10_hasRow hG ⟨rfl, rfl⟩ g5) ?_
    refine sx_if_eq (pc := 51) (tgt := 126) dX1_fillIn_51 (by decide) (fun c7 => ?_) (fun c7 => ?_)
    · have h := sx_pos c7 h
      refine sx_wk (sx_s1 sx_m0 (sx_s1 sx_m1 (sx_s1 sx_m2 (sx_s1 sx_m3 (sx_s1 sx_m4 (sx_s1 sx_m5 sx_s0)))))) ?_
      exact tB_X1_fillIn_126 hG hP hk6 h
    · have h := sx_neg c7 h
      refine sx_iconst (pc := 54) (v := 2) dX1_fillIn_54 (by decide) ?_
      refine sx_bipush (pc := 55) (v := 64) dX1_fillIn_55 (by decide) ?_
      refine sx_iload (pc := 57) dX1_fillIn_57 sx_m7 ?_
      refine sx_imul (pc := 59) dX1_fillIn_59 ?_
      refine sx_bipush (pc := 60) (v := 32) dX1_fillIn_60 (by decide) ?_
      refine sx_iadd (pc := 62) dX1_fillIn_62 ?_
      refine sx_iload_n (pc := 63) dX1_fillIn_63 sx_m2 ?_
      refine sx_isub (pc := 64) dX1_fillIn_64 ?_
      refine sx_imul (pc := 65) dX1_fillIn_65 ?_
      refine sv_tI (fun x8 hx8 => ?_)
      have h := sx_letE hx8 h
      refine sx_istore (pc := 66) (lo' := [(8, .int x8), (0, .ref 143), (1, .ref 60), (2, .int l2), (3, .int l3), (4, .int l4), (5, .int l5), (6, .int l6), (7, .int l7)]) dX1_fillIn_66 (by decide) rfl ?_
      refine sx_iload (pc := 68) dX1_fillIn_68 sx_m6 ?_
      refine sx_sipush (pc := 70) (v := 128) dX1_fillIn_70 (by decide) ?_
      refine sx_imul (pc := 73) dX1_fillIn_73 ?_
      refine sx_iload (pc := 74) dX1_fillIn_74 sx_m8 ?_
      refine sx_iadd (pc := 76) dX1_fillIn_76 ?_
      refine sv_tI (fun x9 hx9 => ?_)
      have h := sx_letE hx9 h
      refine sx_istore (pc := 77) (lo' := [(9, .int x9), (8, .int x8), (0, .ref 143), (1, .ref 60), (2, .int l2), (3, .int l3), (4, .int l4), (5, .int l5), (6, .int l6), (7, .int l7)]) dX1_fillIn_77 (by decide) rfl ?_
      refine sx_aload_n (pc := 79) dX1_fillIn_79 sx_m2 ?_
      refine sv_getA (pc := 80) hG dX1_fillIn_80 f_1_11 lay_143 rfl cr_143_0 ?_
      refine sx_iload (pc := 83) dX1_fillIn_83 sx_m0 ?_
      obtain ⟨g10, h⟩ := sx_grd h
      refine sv_bald (pc := 85) hG dX1_fillIn_85 lay_144 g10 ?_
      refine sx_if_ne (pc := 86) (tgt := 120) dX1_fillIn_86 (by decide) (fun c11 => ?_) (fun c11 => ?_)
      · have h := sx_neg c11 h
        refine sx_wk (sx_s1 sx_m2 (sx_s1 sx_m3 (sx_s1 sx_m4 (sx_s1 sx_m5 (sx_s1 sx_m6 (sx_s1 sx_m7 (sx_s1 sx_m8 (sx_s1 sx_m9 sx_s0)))))))) ?_
        exact tB_X1_fillIn_120 hG hP hk6 hk38 h
      · have h := sx_pos c11 h
        refine sx_aload_n (pc := 89) dX1_fillIn_89 sx_m3 ?_
        refine sx_iload (pc := 90) dX1_fillIn_90 sx_m1 ?_
        obtain ⟨⟨x14, V12⟩, g13, h⟩ := sx_bnd h
        refine sv_cV (pc := 92) (y := qX10_spans) (o := (some (.int x14))) (as := [.int x8]) (V1 := V12) hG dX1_fillIn_92 l_X1_38 y0X10_spans yvX10_spans rfl (Nat.le_of_ble_eq_true rfl) lay_60 kr_10 (by decide) (Nat.le_of_ble_eq_true rfl) rfl rfl rfl (t_X10_spans hG ⟨rfl, rfl⟩ g13) ?_
        refine sx_if_eq (pc := 95) (tgt := 120) dX1_fillIn_95 (by decide) (fun c15 => ?_) (fun c15 => ?_)
        · have h := sx_pos c15 h
          refine sx_wk (sx_s1 sx_m2 (sx_s1 sx_m3 (sx_s1 sx_m4 (sx_s1 sx_m5 (sx_s1 sx_m6 (sx_s1 sx_m7 (sx_s1 sx_m8 (sx_s1 sx_m9 sx_s0)))))))) ?_
          exact tB_X1_fillIn_120 hG hP hk6 hk38 h
        · have h := sx_neg c15 h
          refine sx_aload_n (pc := 98) dX1_fillIn_98 sx_m3 ?_
          refine sx_iload (pc := 99) dX1_fillIn_99 sx_m1 ?_
          refine sx_iload (pc := 101) dX1_fillIn_101 sx_m8 ?_
          obtain ⟨⟨x18, V16⟩, g17, h⟩ := sx_bnd h
          refine sv_cV (pc := 103) (y := qX10_holds) (o := (some (.int x18))) (as := [.int x8, .int l6]) (V1 := V16) hG dX1_fillIn_103 l_X1_42 y0X10_holds yvX10_holds rfl (Nat.le_of_ble_eq_true rfl) lay_60 kr_10 (by decide) (Nat.le_of_ble_eq_true rfl) rfl rfl rfl (t_X10_holds hG ⟨rfl, rfl⟩ g17) ?_
          refine sx_if_eq (pc := 106) (tgt := 120) dX1_fillIn_106 (by decide) (fun c19 => ?_) (fun c19 => ?_)
          · have h := sx_pos c19 h
            refine sx_wk (sx_s1 sx_m2 (sx_s1 sx_m3 (sx_s1 sx_m4 (sx_s1 sx_m5 (sx_s1 sx_m6 (sx_s1 sx_m7 (sx_s1 sx_m8 (sx_s1 sx_m9 sx_s0)))))))) ?_
            exact tB_X1_fillIn_120 hG hP hk6 hk38 h
          · have h := sx_neg c19 h
            refine sx_aload_n (pc := 109) dX1_fillIn_109 sx_m2 ?_
            refine sv_getA (pc := 110) hG dX1_fillIn_110 f_1_11 lay_143 rfl cr_143_0 ?_
            refine sx_iload (pc := 113) dX1_fillIn_113 sx_m0 ?_
            refine sx_iconst (pc := 115) (v := 1) dX1_fillIn_115 (by decide) ?_
            obtain ⟨g20, h⟩ := sx_grd h
            obtain ⟨V21, hV21⟩ : ∃ z : sv_V, z = sv_I V16 144 x9.toNatClampNeg (1 : Int32).toInt8.toInt32 := ⟨_, rfl⟩
            have h := sx_letE hV21 h
            refine sv_bast (pc := 116) hG dX1_fillIn_116 lay_144 g20 hV21 ?_
            obtain ⟨x22, hx22⟩ : ∃ z : Int32, z = l4 + 1 := ⟨_, rfl⟩
            have h := sx_letE hx22 h
            refine sx_iinc (pc := 117) (v := x22) (lo' := [(4, .int x22), (9, .int x9), (8, .int x8), (0, .ref 143), (1, .ref 60), (2, .int l2), (3, .int l3), (5, .int l5), (6, .int l6), (7, .int l7)]) dX1_fillIn_117 sx_m6 (by rw [hx22]; rfl) (by decide) rfl ?_
            refine sx_wk (sx_s1 sx_m3 (sx_s1 sx_m4 (sx_s1 sx_m5 (sx_s1 sx_m6 (sx_s1 sx_m0 (sx_s1 sx_m7 (sx_s1 sx_m8 (sx_s1 sx_m9 sx_s0)))))))) ?_
            exact tB_X1_fillIn_120 hG hP hk6 hk38 h
theorem tL_X1_fillIn_38 {g : sx_G} (hG : sx_Go g) {P : Option Value → sv_V → Prop} {r : Int32} {Vr : sv_V} (hP : P (some (.int r)) Vr) {N : Nat} {k6 : Int32 → Int32 → Int32 → Int32 → sv_V → Option (Int32 × sv_V)} (hk6 : ∀ (l2 : Int32) (l3 : Int32) (l4 : Int32) (l5 : Int32) (V : sv_V), k6 l2 l3 l4 l5 V = some (r, Vr) → sv_N g qX1_fillIn 4 6 [(0, .ref 143), (1, .ref 60), (2, .int l2), (3, .int l3), (4, .int l4), (5, .int l5)] [] V P) : ∀ (n : Nat) (l2 : Int32) (l3 : Int32) (l4 : Int32) (l5 : Int32) (l6 : Int32) (l7 : Int32) (V : sv_V), sx_lp7 (B_X1_fillIn_38 N k6) n l2 l3 l4 l5 l6 l7 V = some (r, Vr) → sv_N g qX1_fillIn 4 38 [(0, .ref 143), (1, .ref 60), (2, .int l2), (3, .int l3), (4, .int l4), (5, .int l5), (6, .int l6), (7, .int l7)] [] V P :=
  sx_lp7_ind (fun k0 ih _ _ _ _ _ _ V h => tB_X1_fillIn_38 hG hP hk6 ih h)
def B_X1_fillIn_6 (N : Nat) (k6 : Int32 → Int32 → Int32 → Int32 → sv_V → Option (Int32 × sv_V)) (l2 : Int32) (l3 : Int32) (l4 : Int32) (l5 : Int32) (V : sv_V) : Option (Int32 × sv_V) := if (V.1 143 2) ≤ l5 then (some (l4, V)) else (sx_let ((2 : Int32) * ((((64 : Int32) * l5) + (32 : Int32)) - l3)) (fun x24 => (F_X10_chooseRow N x24 V).bind (fun V25 => sx_lp7 (B_X1_fillIn_38 N k6) N l2 l3 l4 l5 x24 (0 : Int32) V25)))
set_option maxRecDepth 20000 in
theorem tB_X1_fillIn_6 {g : sx_G} (hG : sx_Go g) {P : Option Value → sv_V → Prop} {r : Int32} {Vr : sv_V} (hP : P (some (.int r)) Vr) {N : Nat} {k6 : Int32 → Int32 → Int32 → Int32 → sv_V → Option (Int32 × sv_V)} (hk6 : ∀ (l2 : Int32) (l3 : Int32) (l4 : Int32) (l5 : Int32) (V : sv_V), k6 l2 l3 l4 l5 V = some (r, Vr) → sv_N g qX1_fillIn 4 6 [(0, .ref 143), (1, .ref 60), (2, .int l2), (3, .int l3), (4, .int l4), (5, .int l5)] [] V P) {l2 : Int32} {l3 : Int32} {l4 : Int32} {l5 : Int32} {V : sv_V} (h : B_X1_fillIn_6 N k6 l2 l3 l4 l5 V = some (r, Vr)) : sv_N g qX1_fillIn 4 6 [(0, .ref 143), (1, .ref 60), (2, .int l2), (3, .int l3), (4, .int l4), (5, .int l5)] [] V P := by
  unfold B_X1_fillIn_6 at h
  refine sx_iload (pc := 6) dX1_fillIn_6 sx_m5 ?_
  refine sx_aload_n (pc := 8) dX1_fillIn_8 sx_m0 ?_
  refine sv_getI (pc := 9) hG dX1_fillIn_9 f_1_19 lay_143 rfl ?_
  refine sx_icmp_ge (pc := 12) (tgt := 132) dX1_fillIn_12 (by decide) (fun c23 => ?_) (fun c23 => ?_)
  · have h := sx_pos c23 h
    refine sx_iload (pc := 132) dX1_fillIn_132 sx_m4 ?_
    exact sv_iret (pc := 134) dX1_fillIn_134 rfl h hP
  · have h := sx_neg c23 h
    refine sx_iconst (pc := 15) (v := 2) dX1_fillIn_15 (by decide) ?_
    refine sx_bipush (pc := 16) (v := 64) dX1_fillIn_16 (by decide) ?_
    refine sx_iload (pc := 18) dX1_fillIn_18 sx_m5 ?_
    refine sx_imul (pc := 20) dX1_fillIn_20 ?_
    refine sx_bipush (pc := 21) (v := 32) dX1_fillIn_21 (by decide) ?_
    refine sx_iadd (pc := 23) dX1_fillIn_23 ?_
    refine sx_iload_n (pc := 24) dX1_fillIn_24 sx_m3 ?_
    refine sx_isub (pc := 25) dX1_fillIn_25 ?_
    refine sx_imul (pc := 26) dX1_fillIn_26 ?_
    refine sv_tI (fun x24 hx24 => ?_)
    have h := sx_letE hx24 h
    refine sx_istore (pc := 27) (lo' := [(6, .int x24), (0, .ref 143), (1, .ref 60), (2, .int l2), (3, .int l3), (4, .int l4), (5, .int l5)]) dX1_fillIn_27 (by decide) rfl ?_
    refine sx_aload_n (pc := 29) dX1_fillIn_29 sx_m2 ?_
    refine sx_iload (pc := 30) dX1_fillIn_30 sx_m0 ?_
    obtain ⟨V25, g26, h⟩ := sx_bnd h
    refine sv_cV (pc := 32) (y := qX10_chooseRow) (o := none) (as := [.int x24]) (V1 := V25) hG dX1_fillIn_32 l_X1_28 y0X10_chooseRow yvX10_chooseRow rfl (Nat.le_of_ble_eq_true rfl) lay_60 kr_10 (by decide) (Nat.le_of_ble_eq_true rfl) rfl rfl rfl (t_X10_chooseRow hG ⟨rfl, rfl⟩ g26) ?_
    refine sx_iconst (pc := 35) (v := 0) dX1_fillIn_35 (by decide) ?_
    refine sx_istore (pc := 36) (lo' := [(7, .int (0 : Int32)), (6, .int x24), (0, .ref 143), (1, .ref 60), (2, .int l2), (3, .int l3), (4, .int l4), (5, .int l5)]) dX1_fillIn_36 (by decide) rfl ?_
    refine sx_wk (sx_s1 sx_m2 (sx_s1 sx_m3 (sx_s1 sx_m4 (sx_s1 sx_m5 (sx_s1 sx_m6 (sx_s1 sx_m7 (sx_s1 sx_m1 (sx_s1 sx_m0 sx_s0)))))))) ?_
    exact tL_X1_fillIn_38 hG hP hk6 N _ _ _ _ _ _ _ h
theorem tL_X1_fillIn_6 {g : sx_G} (hG : sx_Go g) {P : Option Value → sv_V → Prop} {r : Int32} {Vr : sv_V} (hP : P (some (.int r)) Vr) {N : Nat}   : ∀ (n : Nat) (l2 : Int32) (l3 : Int32) (l4 : Int32) (l5 : Int32) (V : sv_V), sx_lp5 (B_X1_fillIn_6 N ) n l2 l3 l4 l5 V = some (r, Vr) → sv_N g qX1_fillIn 4 6 [(0, .ref 143), (1, .ref 60), (2, .int l2), (3, .int l3), (4, .int l4), (5, .int l5)] [] V P :=
  sx_lp5_ind (fun k0 ih _ _ _ _ V h => tB_X1_fillIn_6 hG hP ih h)
def F_X1_fillIn (N : Nat) (l2 : Int32) (l3 : Int32) (V : sv_V) : Option (Int32 × sv_V) := sx_lp5 (B_X1_fillIn_6 N ) N l2 l3 (0 : Int32) (0 : Int32) V
set_option maxRecDepth 20000 in
theorem t_X1_fillIn {g : sx_G} (hG : sx_Go g) {P : Option Value → sv_V → Prop} {r : Int32} {Vr : sv_V} (hP : P (some (.int r)) Vr) {N : Nat} {l2 : Int32} {l3 : Int32} {V : sv_V} (h : F_X1_fillIn N l2 l3 V = some (r, Vr)) : sv_N g qX1_fillIn 4 0 [(0, .ref 143), (1, .ref 60), (2, .int l2), (3, .int l3)] [] V P := by
  unfold F_X1_fillIn at h
  refine sx_iconst (pc := 0) (v := 0) dX1_fillIn_0 (by decide) ?_
  refine sx_istore (pc := 1) (lo' := [(4, .int (0 : Int32)), (0, .ref 143), (1, .ref 60), (2, .int l2), (3, .int l3)]) dX1_fillIn_1 (by decide) rfl ?_
  refine sx_iconst (pc := 3) (v := 0) dX1_fillIn_3 (by decide) ?_
  refine sx_istore (pc := 4) (lo' := [(5, .int (0 : Int32)), (4, .int (0 : Int32)), (0, .ref 143), (1, .ref 60), (2, .int l2), (3, .int l3)]) dX1_fillIn_4 (by decide) rfl ?_
  refine sx_wk (sx_s1 sx_m2 (sx_s1 sx_m3 (sx_s1 sx_m4 (sx_s1 sx_m5 (sx_s1 sx_m1 (sx_s1 sx_m0 sx_s0)))))) ?_
  exact tL_X1_fillIn_6 hG hP  N _ _ _ _ _ h
def ncX3_glyphsHold : Nat := 5103305070818557448096781852447663515036259069052120515544835618302124329449241603
theorem kcX3_glyphsHold : CK cX3_glyphsHold ncX3_glyphsHold 34 := ⟨by decide +kernel, by decide +kernel⟩
theorem dX3_glyphsHold_0 : decode cX3_glyphsHold 0 = .ok (.iconst 0, 1) := dl_o3 kcX3_glyphsHold (by decide +kernel)
theorem dX3_glyphsHold_1 : decode cX3_glyphsHold 1 = .ok (.istore_n 1, 1) := dl_o60 kcX3_glyphsHold (by decide +kernel)
theorem dX3_glyphsHold_2 : decode cX3_glyphsHold 2 = .ok (.iload_n 1, 1) := dl_o27 kcX3_glyphsHold (by decide +kernel)
theorem dX3_glyphsHold_3 : decode cX3_glyphsHold 3 = .ok (.aload_n 0, 1) := dl_o42 kcX3_glyphsHold (by decide +kernel)
theorem dX3_glyphsHold_4 : decode cX3_glyphsHold 4 = .ok (.getfield 27, 3) := dl_o180 kcX3_glyphsHold (by decide +kernel)
theorem dX3_glyphsHold_7 : decode cX3_glyphsHold 7 = .ok (.getfield 31, 3) := dl_o180 kcX3_glyphsHold (by decide +kernel)
theorem dX3_glyphsHold_10 : decode cX3_glyphsHold 10 = .ok (.if_icmp .ge 19, 3) := dl_o162 kcX3_glyphsHold 19 (by decide +kernel) (by decide +kernel)
theorem dX3_glyphsHold_13 : decode cX3_glyphsHold 13 = .ok (.aload_n 0, 1) := dl_o42 kcX3_glyphsHold (by decide +kernel)
theorem dX3_glyphsHold_14 : decode cX3_glyphsHold 14 = .ok (.iload_n 1, 1) := dl_o27 kcX3_glyphsHold (by decide +kernel)
theorem dX3_glyphsHold_15 : decode cX3_glyphsHold 15 = .ok (.invokevirtual 37, 3) := dl_o182 kcX3_glyphsHold (by decide +kernel)
theorem dX3_glyphsHold_18 : decode cX3_glyphsHold 18 = .ok (.ifCond .ne 5, 3) := dl_o154 kcX3_glyphsHold 5 (by decide +kernel) (by decide +kernel)
theorem dX3_glyphsHold_21 : decode cX3_glyphsHold 21 = .ok (.iconst 0, 1) := dl_o3 kcX3_glyphsHold (by decide +kernel)
theorem dX3_glyphsHold_22 : decode cX3_glyphsHold 22 = .ok (.ireturn, 1) := dl_o172 kcX3_glyphsHold (by decide +kernel)
theorem dX3_glyphsHold_23 : decode cX3_glyphsHold 23 = .ok (.iinc 1 1, 3) := by decide +kernel
theorem dX3_glyphsHold_26 : decode cX3_glyphsHold 26 = .ok (.goto (-24), 3) := dl_o167 kcX3_glyphsHold 65512 (by decide +kernel) (by decide +kernel)
theorem dX3_glyphsHold_29 : decode cX3_glyphsHold 29 = .ok (.aload_n 0, 1) := dl_o42 kcX3_glyphsHold (by decide +kernel)
theorem dX3_glyphsHold_30 : decode cX3_glyphsHold 30 = .ok (.invokevirtual 41, 3) := dl_o182 kcX3_glyphsHold (by decide +kernel)
theorem dX3_glyphsHold_33 : decode cX3_glyphsHold 33 = .ok (.ireturn, 1) := dl_o172 kcX3_glyphsHold (by decide +kernel)
def B_X3_glyphsHold_2 (N : Nat) (k2 : Int32 → sv_V → Option (Int32 × sv_V)) (l1 : Int32) (V : sv_V) : Option (Int32 × sv_V) := if (V.1 2 7) ≤ l1 then ((F_X3_depthsHold N  V).bind (fun (x4, V2) => if sv_bl x4 = true then some (x4, V2) else none)) else ((F_X3_glyphHolds N l1 V).bind (fun (x8, V6) => if x8 = 0 then (some ((0 : Int32), V6)) else (sx_let (l1 + 1) (fun x10 => k2 x10 V6))))
set_option maxRecDepth 20000 in
theorem tB_X3_glyphsHold_2 {g : sx_G} (hG : sx_Go g) {P : Option Value → sv_V → Prop} {r : Int32} {Vr : sv_V} (hP : P (some (.int r)) Vr) {N : Nat} {k2 : Int32 → sv_V → Option (Int32 × sv_V)} (hk2 : ∀ (l1 : Int32) (V : sv_V), k2 l1 V = some (r, Vr) → sv_N g qX3_glyphsHold 5 2 [(0, .ref 16), (1, .int l1)] [] V P) {l1 : Int32} {V : sv_V} (h : B_X3_glyphsHold_2 N k2 l1 V = some (r, Vr)) : sv_N g qX3_glyphsHold 5 2 [(0, .ref 16), (1, .int l1)] [] V P := by
  unfold B_X3_glyphsHold_2 at h
  refine sx_iload_n (pc := 2) dX3_glyphsHold_2 sx_m1 ?_
  refine sx_aload_n (pc := 3) dX3_glyphsHold_3 sx_m0 ?_
  refine sv_getO (pc := 4) hG dX3_glyphsHold_4 f_3_27 lay_16 rfl cr_16_0 ?_
  refine sv_getI (pc := 7) hG dX3_glyphsHold_7 f_3_31 lay_2 rfl ?_
  refine sx_icmp_ge (pc := 10) (tgt := 29) dX3_glyphsHold_10 (by decide) (fun c1 => ?_) (fun c1 => ?_)
  · have h := sx_pos c1 h
    refine sx_aload_n (pc := 29) dX3_glyphsHold_29 sx_m0 ?_
    obtain ⟨⟨x4, V2⟩, g3, h⟩ := sx_bnd h
    refine sv_cV (pc := 30) (y := qX3_depthsHold) (o := (some (.int x4))) (as := []) (V1 := V2) hG dX3_glyphsHold_30 l_X3_41 y0X3_depthsHold yvX3_depthsHold rfl (Nat.le_of_ble_eq_true rfl) lay_16 kr_3 (by decide) (Nat.le_of_ble_eq_true rfl) rfl rfl rfl (t_X3_depthsHold hG ⟨rfl, rfl⟩ g3) ?_
    obtain ⟨g5, h⟩ := sx_grd h
    exact sv_zret (pc := 33) dX3_glyphsHold_33 rfl g5 h hP
  · have h := sx_neg c1 h
    refine sx_aload_n (pc := 13) dX3_glyphsHold_13 sx_m0 ?_
    refine sx_iload_n (pc := 14) dX3_glyphsHold_14 sx_m1 ?_
    obtain ⟨⟨x8, V6⟩, g7, h⟩ := sx_bnd h
    refine sv_cV (pc := 15) (y := qX3_glyphHolds) (o := (some (.int x8))) (as := [.int l1]) (V1 := V6) hG dX3_glyphsHold_15 l_X3_37 y0X3_glyphHolds yvX3_glyphHolds rfl (Nat.le_of_ble_eq_true rfl) lay_16 kr_3 (by decide) (Nat.le_of_ble_eq_true rfl) rfl rfl rfl (t_X3_glyphHolds hG ⟨rfl, rfl⟩ g7) ?_
    refine sx_if_ne (pc := 18) (tgt := 23) dX3_glyphsHold_18 (by decide) (fun c9 => ?_) (fun c9 => ?_)
    · have h := sx_neg c9 h
      obtain ⟨x10, hx10⟩ : ∃ z : Int32, z = l1 + 1 := ⟨_, rfl⟩
      have h := sx_letE hx10 h
      refine sx_iinc (pc := 23) (v := x10) (lo' := [(1, .int x10), (0, .ref 16)]) dX3_glyphsHold_23 sx_m1 (by rw [hx10]; rfl) (by decide) rfl ?_
      refine sx_goto (pc := 26) (tgt := 2) dX3_glyphsHold_26 (by decide) ?_
      refine sx_wk (sx_s1 sx_m1 (sx_s1 sx_m0 sx_s0)) ?_
      exact hk2 _ _ h
    · have h := sx_pos c9 h
      refine sx_iconst (pc := 21) (v := 0) dX3_glyphsHold_21 (by decide) ?_
      exact sv_zret (pc := 22) dX3_glyphsHold_22 rfl rfl h hP
theorem tL_X3_glyphsHold_2 {g : sx_G} (hG : sx_Go g) {P : Option Value → sv_V → Prop} {r : Int32} {Vr : sv_V} (hP : P (some (.int r)) Vr) {N : Nat}   : ∀ (n : Nat) (l1 : Int32) (V : sv_V), sx_lp2 (B_X3_glyphsHold_2 N ) n l1 V = some (r, Vr) → sv_N g qX3_glyphsHold 5 2 [(0, .ref 16), (1, .int l1)] [] V P :=
  sx_lp2_ind (fun k0 ih _ V h => tB_X3_glyphsHold_2 hG hP ih h)
def F_X3_glyphsHold (N : Nat)  (V : sv_V) : Option (Int32 × sv_V) := sx_lp2 (B_X3_glyphsHold_2 N ) N (0 : Int32) V
set_option maxRecDepth 20000 in
theorem t_X3_glyphsHold {g : sx_G} (hG : sx_Go g) {P : Option Value → sv_V → Prop} {r : Int32} {Vr : sv_V} (hP : P (some (.int r)) Vr) {N : Nat}  {V : sv_V} (h : F_X3_glyphsHold N  V = some (r, Vr)) : sv_N g qX3_glyphsHold 5 0 [(0, .ref 16)] [] V P := by
  unfold F_X3_glyphsHold at h
  refine sx_iconst (pc := 0) (v := 0) dX3_glyphsHold_0 (by decide) ?_
  refine sx_istore_n (pc := 1) (lo' := [(1, .int (0 : Int32)), (0, .ref 16)]) dX3_glyphsHold_1 (by decide) rfl ?_
  refine sx_wk (sx_s1 sx_m1 (sx_s1 sx_m0 sx_s0)) ?_
  exact tL_X3_glyphsHold_2 hG hP  N _ _ h
def ncX4_findFault : Nat := 627338924605834122757018373794995618322942931780889663589155914096905862122898686629579433104197439208639094371987671306855520470961540167911603456604532438519592042451580579781329136650911168674078723053328530003399538436396626542534986928330967661729086655254778057144057952490568502316767476472018874829332509801759123908674447780738020906
theorem kcX4_findFault : CK cX4_findFault ncX4_findFault 142 := ⟨by decide +kernel, by decide +kernel⟩
theorem dX4_findFault_0 : decode cX4_findFault 0 = .ok (.aload_n 0, 1) := dl_o42 kcX4_findFault (by decide +kernel)
theorem dX4_findFault_1 : decode cX4_findFault 1 = .ok (.invokevirtual 19, 3) := dl_o182 kcX4_findFault (by decide +kernel)
theorem dX4_findFault_4 : decode cX4_findFault 4 = .ok (.ifCond .ne 5, 3) := dl_o154 kcX4_findFault 5 (by decide +kernel) (by decide +kernel)
theorem dX4_findFault_7 : decode cX4_findFault 7 = .ok (.iconst 1, 1) := dl_o4 kcX4_findFault (by decide +kernel)
theorem dX4_findFault_8 : decode cX4_findFault 8 = .ok (.ireturn, 1) := dl_o172 kcX4_findFault (by decide +kernel)
theorem dX4_findFault_9 : decode cX4_findFault 9 = .ok (.aload_n 0, 1) := dl_o42 kcX4_findFault (by decide +kernel)
theorem dX4_findFault_10 : decode cX4_findFault 10 = .ok (.invokevirtual 23, 3) := dl_o182 kcX4_findFault (by decide +kernel)
theorem dX4_findFault_13 : decode cX4_findFault 13 = .ok (.ifCond .ne 5, 3) := dl_o154 kcX4_findFault 5 (by decide +kernel) (by decide +kernel)
theorem dX4_findFault_16 : decode cX4_findFault 16 = .ok (.iconst 2, 1) := dl_o5 kcX4_findFault (by decide +kernel)
theorem dX4_findFault_17 : decode cX4_findFault 17 = .ok (.ireturn, 1) := dl_o172 kcX4_findFault (by decide +kernel)
theorem dX4_findFault_18 : decode cX4_findFault 18 = .ok (.aload_n 0, 1) := dl_o42 kcX4_findFault (by decide +kernel)
theorem dX4_findFault_19 : decode cX4_findFault 19 = .ok (.invokevirtual 26, 3) := dl_o182 kcX4_findFault (by decide +kernel)
theorem dX4_findFault_22 : decode cX4_findFault 22 = .ok (.ifCond .ne 5, 3) := dl_o154 kcX4_findFault 5 (by decide +kernel) (by decide +kernel)
theorem dX4_findFault_25 : decode cX4_findFault 25 = .ok (.iconst 3, 1) := dl_o6 kcX4_findFault (by decide +kernel)
theorem dX4_findFault_26 : decode cX4_findFault 26 = .ok (.ireturn, 1) := dl_o172 kcX4_findFault (by decide +kernel)
theorem dX4_findFault_27 : decode cX4_findFault 27 = .ok (.aload_n 0, 1) := dl_o42 kcX4_findFault (by decide +kernel)
theorem dX4_findFault_28 : decode cX4_findFault 28 = .ok (.invokevirtual 29, 3) := dl_o182 kcX4_findFault (by decide +kernel)
theorem dX4_findFault_31 : decode cX4_findFault 31 = .ok (.ifCond .ne 5, 3) := dl_o154 kcX4_findFault 5 (by decide +kernel) (by decide +kernel)
theorem dX4_findFault_34 : decode cX4_findFault 34 = .ok (.iconst 4, 1) := dl_o7 kcX4_findFault (by decide +kernel)
theorem dX4_findFault_35 : decode cX4_findFault 35 = .ok (.ireturn, 1) := dl_o172 kcX4_findFault (by decide +kernel)
theorem dX4_findFault_36 : decode cX4_findFault 36 = .ok (.aload_n 0, 1) := dl_o42 kcX4_findFault (by decide +kernel)
theorem dX4_findFault_37 : decode cX4_findFault 37 = .ok (.invokevirtual 32, 3) := dl_o182 kcX4_findFault (by decide +kernel)
theorem dX4_findFault_40 : decode cX4_findFault 40 = .ok (.ifCond .ne 5, 3) := dl_o154 kcX4_findFault 5 (by decide +kernel) (by decide +kernel)
theorem dX4_findFault_43 : decode cX4_findFault 43 = .ok (.iconst 5, 1) := dl_o8 kcX4_findFault (by decide +kernel)
theorem dX4_findFault_44 : decode cX4_findFault 44 = .ok (.ireturn, 1) := dl_o172 kcX4_findFault (by decide +kernel)
theorem dX4_findFault_45 : decode cX4_findFault 45 = .ok (.aload_n 0, 1) := dl_o42 kcX4_findFault (by decide +kernel)
theorem dX4_findFault_46 : decode cX4_findFault 46 = .ok (.invokevirtual 35, 3) := dl_o182 kcX4_findFault (by decide +kernel)
theorem dX4_findFault_49 : decode cX4_findFault 49 = .ok (.ifCond .ne 6, 3) := dl_o154 kcX4_findFault 6 (by decide +kernel) (by decide +kernel)
theorem dX4_findFault_52 : decode cX4_findFault 52 = .ok (.bipush 6, 2) := dl_o16 kcX4_findFault 6 (by decide +kernel) (by decide +kernel)
theorem dX4_findFault_54 : decode cX4_findFault 54 = .ok (.ireturn, 1) := dl_o172 kcX4_findFault (by decide +kernel)
theorem dX4_findFault_55 : decode cX4_findFault 55 = .ok (.aload_n 0, 1) := dl_o42 kcX4_findFault (by decide +kernel)
theorem dX4_findFault_56 : decode cX4_findFault 56 = .ok (.invokevirtual 38, 3) := dl_o182 kcX4_findFault (by decide +kernel)
theorem dX4_findFault_59 : decode cX4_findFault 59 = .ok (.ifCond .ne 6, 3) := dl_o154 kcX4_findFault 6 (by decide +kernel) (by decide +kernel)
theorem dX4_findFault_62 : decode cX4_findFault 62 = .ok (.bipush 7, 2) := dl_o16 kcX4_findFault 7 (by decide +kernel) (by decide +kernel)
theorem dX4_findFault_64 : decode cX4_findFault 64 = .ok (.ireturn, 1) := dl_o172 kcX4_findFault (by decide +kernel)
theorem dX4_findFault_65 : decode cX4_findFault 65 = .ok (.aload_n 0, 1) := dl_o42 kcX4_findFault (by decide +kernel)
theorem dX4_findFault_66 : decode cX4_findFault 66 = .ok (.invokevirtual 41, 3) := dl_o182 kcX4_findFault (by decide +kernel)
theorem dX4_findFault_69 : decode cX4_findFault 69 = .ok (.ifCond .ne 6, 3) := dl_o154 kcX4_findFault 6 (by decide +kernel) (by decide +kernel)
theorem dX4_findFault_72 : decode cX4_findFault 72 = .ok (.bipush 8, 2) := dl_o16 kcX4_findFault 8 (by decide +kernel) (by decide +kernel)
theorem dX4_findFault_74 : decode cX4_findFault 74 = .ok (.ireturn, 1) := dl_o172 kcX4_findFault (by decide +kernel)
theorem dX4_findFault_75 : decode cX4_findFault 75 = .ok (.aload_n 0, 1) := dl_o42 kcX4_findFault (by decide +kernel)
theorem dX4_findFault_76 : decode cX4_findFault 76 = .ok (.invokevirtual 44, 3) := dl_o182 kcX4_findFault (by decide +kernel)
theorem dX4_findFault_79 : decode cX4_findFault 79 = .ok (.ifCond .ne 6, 3) := dl_o154 kcX4_findFault 6 (by decide +kernel) (by decide +kernel)
theorem dX4_findFault_82 : decode cX4_findFault 82 = .ok (.bipush 9, 2) := dl_o16 kcX4_findFault 9 (by decide +kernel) (by decide +kernel)
theorem dX4_findFault_84 : decode cX4_findFault 84 = .ok (.ireturn, 1) := dl_o172 kcX4_findFault (by decide +kernel)
theorem dX4_findFault_85 : decode cX4_findFault 85 = .ok (.aload_n 0, 1) := dl_o42 kcX4_findFault (by decide +kernel)
theorem dX4_findFault_86 : decode cX4_findFault 86 = .ok (.invokevirtual 47, 3) := dl_o182 kcX4_findFault (by decide +kernel)
theorem dX4_findFault_89 : decode cX4_findFault 89 = .ok (.ifCond .ne 6, 3) := dl_o154 kcX4_findFault 6 (by decide +kernel) (by decide +kernel)
theorem dX4_findFault_92 : decode cX4_findFault 92 = .ok (.bipush 10, 2) := dl_o16 kcX4_findFault 10 (by decide +kernel) (by decide +kernel)
theorem dX4_findFault_94 : decode cX4_findFault 94 = .ok (.ireturn, 1) := dl_o172 kcX4_findFault (by decide +kernel)
theorem dX4_findFault_95 : decode cX4_findFault 95 = .ok (.aload_n 0, 1) := dl_o42 kcX4_findFault (by decide +kernel)
theorem dX4_findFault_96 : decode cX4_findFault 96 = .ok (.getfield 15, 3) := dl_o180 kcX4_findFault (by decide +kernel)
theorem dX4_findFault_99 : decode cX4_findFault 99 = .ok (.invokevirtual 50, 3) := dl_o182 kcX4_findFault (by decide +kernel)
theorem dX4_findFault_102 : decode cX4_findFault 102 = .ok (.ifCond .ne 6, 3) := dl_o154 kcX4_findFault 6 (by decide +kernel) (by decide +kernel)
theorem dX4_findFault_105 : decode cX4_findFault 105 = .ok (.bipush 11, 2) := dl_o16 kcX4_findFault 11 (by decide +kernel) (by decide +kernel)
theorem dX4_findFault_107 : decode cX4_findFault 107 = .ok (.ireturn, 1) := dl_o172 kcX4_findFault (by decide +kernel)
theorem dX4_findFault_108 : decode cX4_findFault 108 = .ok (.aload_n 0, 1) := dl_o42 kcX4_findFault (by decide +kernel)
theorem dX4_findFault_109 : decode cX4_findFault 109 = .ok (.invokevirtual 55, 3) := dl_o182 kcX4_findFault (by decide +kernel)
theorem dX4_findFault_112 : decode cX4_findFault 112 = .ok (.ifCond .ne 6, 3) := dl_o154 kcX4_findFault 6 (by decide +kernel) (by decide +kernel)
theorem dX4_findFault_115 : decode cX4_findFault 115 = .ok (.bipush 12, 2) := dl_o16 kcX4_findFault 12 (by decide +kernel) (by decide +kernel)
theorem dX4_findFault_117 : decode cX4_findFault 117 = .ok (.ireturn, 1) := dl_o172 kcX4_findFault (by decide +kernel)
theorem dX4_findFault_118 : decode cX4_findFault 118 = .ok (.aload_n 0, 1) := dl_o42 kcX4_findFault (by decide +kernel)
theorem dX4_findFault_119 : decode cX4_findFault 119 = .ok (.invokevirtual 58, 3) := dl_o182 kcX4_findFault (by decide +kernel)
theorem dX4_findFault_122 : decode cX4_findFault 122 = .ok (.ifCond .ne 6, 3) := dl_o154 kcX4_findFault 6 (by decide +kernel) (by decide +kernel)
theorem dX4_findFault_125 : decode cX4_findFault 125 = .ok (.bipush 13, 2) := dl_o16 kcX4_findFault 13 (by decide +kernel) (by decide +kernel)
theorem dX4_findFault_127 : decode cX4_findFault 127 = .ok (.ireturn, 1) := dl_o172 kcX4_findFault (by decide +kernel)
theorem dX4_findFault_128 : decode cX4_findFault 128 = .ok (.aload_n 0, 1) := dl_o42 kcX4_findFault (by decide +kernel)
theorem dX4_findFault_129 : decode cX4_findFault 129 = .ok (.invokevirtual 61, 3) := dl_o182 kcX4_findFault (by decide +kernel)
theorem dX4_findFault_132 : decode cX4_findFault 132 = .ok (.ifCond .eq 7, 3) := dl_o153 kcX4_findFault 7 (by decide +kernel) (by decide +kernel)
theorem dX4_findFault_135 : decode cX4_findFault 135 = .ok (.iconst 0, 1) := dl_o3 kcX4_findFault (by decide +kernel)
theorem dX4_findFault_136 : decode cX4_findFault 136 = .ok (.goto 5, 3) := dl_o167 kcX4_findFault 5 (by decide +kernel) (by decide +kernel)
theorem dX4_findFault_139 : decode cX4_findFault 139 = .ok (.bipush 14, 2) := dl_o16 kcX4_findFault 14 (by decide +kernel) (by decide +kernel)
theorem dX4_findFault_141 : decode cX4_findFault 141 = .ok (.ireturn, 1) := dl_o172 kcX4_findFault (by decide +kernel)
def F_X4_findFault (N : Nat)  (V : sv_V) : Option (Int32 × sv_V) := (F_X4_directoryHolds N  V).bind (fun (x3, V1) => if x3 = 0 then (some ((1 : Int32), V1)) else ((F_X4_tagsRise N  V1).bind (fun (x7, V5) => if x7 = 0 then (some ((2 : Int32), V5)) else ((F_X4_tablesLieRight N  V5).bind (fun (x11, V9) => if x11 = 0 then (some ((3 : Int32), V9)) else ((F_X4_sumsHold N  V9).bind (fun (x15, V13) => if x15 = 0 then (some ((4 : Int32), V13)) else ((F_X4_findTables N  V13).bind (fun (x19, V17) => if x19 = 0 then (some ((5 : Int32), V17)) else ((F_X4_headHolds N  V17).bind (fun (x23, V21) => if x23 = 0 then (some ((6 : Int32), V21)) else ((F_X4_maxpHolds N  V21).bind (fun (x27, V25) => if x27 = 0 then (some ((7 : Int32), V25)) else ((F_X4_hheaHolds  V25).bind (fun (x31, V29) => if x31 = 0 then (some ((8 : Int32), V29)) else ((F_X4_hmtxHolds  V29).bind (fun (x35, V33) => if x35 = 0 then (some ((9 : Int32), V33)) else ((F_X4_locaHolds N  V33).bind (fun (x39, V37) => if x39 = 0 then (some ((10 : Int32), V37)) else ((F_X3_glyphsHold N  V37).bind (fun (x43, V41) => if x43 = 0 then (some ((11 : Int32), V41)) else ((F_X4_cmapHolds N  V41).bind (fun (x47, V45) => if x47 = 0 then (some ((12 : Int32), V45)) else ((F_X4_kernHolds N  V45).bind (fun (x51, V49) => if x51 = 0 then (some ((13 : Int32), V49)) else ((F_X4_programsHold  V49).bind (fun (x55, V53) => if x55 = 0 then (some ((14 : Int32), V53)) else (some ((0 : Int32), V53)))))))))))))))))))))))))))))
set_option maxRecDepth 20000 in
theorem t_X4_findFault {g : sx_G} (hG : sx_Go g) {P : Option Value → sv_V → Prop} {r : Int32} {Vr : sv_V} (hP : P (some (.int r)) Vr) {N : Nat}  {V : sv_V} (h : F_X4_findFault N  V = some (r, Vr)) : sv_N g qX4_findFault 6 0 [(0, .ref 29)] [] V P := by
  unfold F_X4_findFault at h
  refine sx_aload_n (pc := 0) dX4_findFault_0 sx_m0 ?_
  obtain ⟨⟨x3, V1⟩, g2, h⟩ := sx_bnd h
  refine sv_cV (pc := 1) (y := qX4_directoryHolds) (o := (some (.int x3))) (as := []) (V1 := V1) hG dX4_findFault_1 l_X4_19 y0X4_directoryHolds yvX4_directoryHolds rfl (Nat.le_of_ble_eq_true rfl) lay_29 kr_4 (by decide) (Nat.le_of_ble_eq_true rfl) rfl rfl rfl (t_X4_directoryHolds hG ⟨rfl, rfl⟩ g2) ?_
  refine sx_if_ne (pc := 4) (tgt := 9) dX4_findFault_4 (by decide) (fun c4 => ?_) (fun c4 => ?_)
  · have h := sx_neg c4 h
    refine sx_aload_n (pc := 9) dX4_findFault_9 sx_m0 ?_
    obtain ⟨⟨x7, V5⟩, g6, h⟩ := sx_bnd h
    refine sv_cV (pc := 10) (y := qX4_tagsRise) (o := (some (.int x7))) (as := []) (V1 := V5) hG dX4_findFault_10 l_X4_23 y0X4_tagsRise yvX4_tagsRise rfl (Nat.le_of_ble_eq_true rfl) lay_29 kr_4 (by decide) (Nat.le_of_ble_eq_true rfl) rfl rfl rfl (t_X4_tagsRise hG ⟨rfl, rfl⟩ g6) ?_
    refine sx_if_ne (pc := 13) (tgt := 18) dX4_findFault_13 (by decide) (fun c8 => ?_) (fun c8 => ?_)
    · have h := sx_neg c8 h
      refine sx_aload_n (pc := 18) dX4_findFault_18 sx_m0 ?_
      obtain ⟨⟨x11, V9⟩, g10, h⟩ := sx_bnd h
      refine sv_cV (pc := 19) (y := qX4_tablesLieRight) (o := (some (.int x11))) (as := []) (V1 := V9) hG dX4_findFault_19 l_X4_26 y0X4_tablesLieRight yvX4_tablesLieRight rfl (Nat.le_of_ble_eq_true rfl) lay_29 kr_4 (by decide) (Nat.le_of_ble_eq_true rfl) rfl rfl rfl (t_X4_tablesLieRight hG ⟨rfl, rfl⟩ g10) ?_
      refine sx_if_ne (pc := 22) (tgt := 27) dX4_findFault_22 (by decide) (fun c12 => ?_) (fun c12 => ?_)
      · have h := sx_neg c12 h
        refine sx_aload_n (pc := 27) dX4_findFault_27 sx_m0 ?_
        obtain ⟨⟨x15, V13⟩, g14, h⟩ := sx_bnd h
        refine sv_cV (pc := 28) (y := qX4_sumsHold) (o := (some (.int x15))) (as := []) (V1 := V13) hG dX4_findFault_28 l_X4_29 y0X4_sumsHold yvX4_sumsHold rfl (Nat.le_of_ble_eq_true rfl) lay_29 kr_4 (by decide) (Nat.le_of_ble_eq_true rfl) rfl rfl rfl (t_X4_sumsHold hG ⟨rfl, rfl⟩ g14) ?_
        refine sx_if_ne (pc := 31) (tgt := 36) dX4_findFault_31 (by decide) (fun c16 => ?_) (fun c16 => ?_)
        · have h := sx_neg c16 h
          refine sx_aload_n (pc := 36) dX4_findFault_36 sx_m0 ?_
          obtain ⟨⟨x19, V17⟩, g18, h⟩ := sx_bnd h
          refine sv_cV (pc := 37) (y := qX4_findTables) (o := (some (.int x19))) (as := []) (V1 := V17) hG dX4_findFault_37 l_X4_32 y0X4_findTables yvX4_findTables rfl (Nat.le_of_ble_eq_true rfl) lay_29 kr_4 (by decide) (Nat.le_of_ble_eq_true rfl) rfl rfl rfl (t_X4_findTables hG ⟨rfl, rfl⟩ g18) ?_
          refine sx_if_ne (pc := 40) (tgt := 45) dX4_findFault_40 (by decide) (fun c20 => ?_) (fun c20 => ?_)
          · have h := sx_neg c20 h
            refine sx_aload_n (pc := 45) dX4_findFault_45 sx_m0 ?_
            obtain ⟨⟨x23, V21⟩, g22, h⟩ := sx_bnd h
            refine sv_cV (pc := 46) (y := qX4_headHolds) (o := (some (.int x23))) (as := []) (V1 := V21) hG dX4_findFault_46 l_X4_35 y0X4_headHolds yvX4_headHolds rfl (Nat.le_of_ble_eq_true rfl) lay_29 kr_4 (by decide) (Nat.le_of_ble_eq_true rfl) rfl rfl rfl (t_X4_headHolds hG ⟨rfl, rfl⟩ g22) ?_
            refine sx_if_ne (pc := 49) (tgt := 55) dX4_findFault_49 (by decide) (fun c24 => ?_) (fun c24 => ?_)
            · have h := sx_neg c24 h
              refine sx_aload_n (pc := 55) dX4_findFault_55 sx_m0 ?_
              obtain ⟨⟨x27, V25⟩, g26, h⟩ := sx_bnd h
              refine sv_cV (pc := 56) (y := qX4_maxpHolds) (o := (some (.int x27))) (as := []) (V1 := V25) hG dX4_findFault_56 l_X4_38 y0X4_maxpHolds yvX4_maxpHolds rfl (Nat.le_of_ble_eq_true rfl) lay_29 kr_4 (by decide) (Nat.le_of_ble_eq_true rfl) rfl rfl rfl (t_X4_maxpHolds hG ⟨rfl, rfl⟩ g26) ?_
              refine sx_if_ne (pc := 59) (tgt := 65) dX4_findFault_59 (by decide) (fun c28 => ?_) (fun c28 => ?_)
              · have h := sx_neg c28 h
                refine sx_aload_n (pc := 65) dX4_findFault_65 sx_m0 ?_
                obtain ⟨⟨x31, V29⟩, g30, h⟩ := sx_bnd h
                refine sv_cV (pc := 66) (y := qX4_hheaHolds) (o := (some (.int x31))) (as := []) (V1 := V29) hG dX4_findFault_66 l_X4_41 y0X4_hheaHolds yvX4_hheaHolds rfl (Nat.le_of_ble_eq_true rfl) lay_29 kr_4 (by decide) (Nat.le_of_ble_eq_true rfl) rfl rfl rfl (t_X4_hheaHolds hG ⟨rfl, rfl⟩ g30) ?_
                refine sx_if_ne (pc := 69) (tgt := 75) dX4_findFault_69 (by decide) (fun c32 => ?_) (fun c32 => ?_)
                · have h := sx_neg c32 h
                  refine sx_aload_n (pc := 75) dX4_findFault_75 sx_m0 ?_
                  obtain ⟨⟨x35, V33⟩, g34, h⟩ := sx_bnd h
                  refine sv_cV (pc := 76) (y := qX4_hmtxHolds) (o := (some (.int x35))) (as := []) (V1 := V33) hG dX4_findFault_76 l_X4_44 y0X4_hmtxHolds yvX4_hmtxHolds rfl (Nat.le_of_ble_eq_true rfl) lay_29 kr_4 (by decide) (Nat.le_of_ble_eq_true rfl) rfl rfl rfl (t_X4_hmtxHolds hG ⟨rfl, rfl⟩ g34) ?_
                  refine sx_if_ne (pc := 79) (tgt := 85) dX4_findFault_79 (by decide) (fun c36 => ?_) (fun c36 => ?_)
                  · have h := sx_neg c36 h
                    refine sx_aload_n (pc := 85) dX4_findFault_85 sx_m0 ?_
                    obtain ⟨⟨x39, V37⟩, g38, h⟩ := sx_bnd h
                    refine sv_cV (pc := 86) (y := qX4_locaHolds) (o := (some (.int x39))) (as := []) (V1 := V37) hG dX4_findFault_86 l_X4_47 y0X4_locaHolds yvX4_locaHolds rfl (Nat.le_of_ble_eq_true rfl) lay_29 kr_4 (by decide) (Nat.le_of_ble_eq_true rfl) rfl rfl rfl (t_X4_locaHolds hG ⟨rfl, rfl⟩ g38) ?_
                    refine sx_if_ne (pc := 89) (tgt := 95) dX4_findFault_89 (by decide) (fun c40 => ?_) (fun c40 => ?_)
                    · have h := sx_neg c40 h
                      refine sx_aload_n (pc := 95) dX4_findFault_95 sx_m0 ?_
                      refine sv_getO (pc := 96) hG dX4_findFault_96 f_4_15 lay_29 rfl cr_29_1 ?_
                      obtain ⟨⟨x43, V41⟩, g42, h⟩ := sx_bnd h
                      refine sv_cV (pc := 99) (y := qX3_glyphsHold) (o := (some (.int x43))) (as := []) (V1 := V41) hG dX4_findFault_99 l_X4_50 y0X3_glyphsHold yvX3_glyphsHold rfl (Nat.le_of_ble_eq_true rfl) lay_16 kr_3 (by decide) (Nat.le_of_ble_eq_true rfl) rfl rfl rfl (t_X3_glyphsHold hG ⟨rfl, rfl⟩ g42) ?_
                      refine sx_if_ne (pc := 102) (tgt := 108) dX4_findFault_102 (by decide) (fun c44 => ?_) (fun c44 => ?_)
                      · have h := sx_neg c44 h
                        refine sx_aload_n (pc := 108) dX4_findFault_108 sx_m0 ?_
                        obtain ⟨⟨x47, V45⟩, g46, h⟩ := sx_bnd h
                        refine sv_cV (pc := 109) (y := qX4_cmapHolds) (o := (some (.int x47))) (as := []) (V1 := V45) hG dX4_findFault_109 l_X4_55 y0X4_cmapHolds yvX4_cmapHolds rfl (Nat.le_of_ble_eq_true rfl) lay_29 kr_4 (by decide) (Nat.le_of_ble_eq_true rfl) rfl rfl rfl (t_X4_cmapHolds hG ⟨rfl, rfl⟩ g46) ?_
                        refine sx_if_ne (pc := 112) (tgt := 118) dX4_findFault_112 (by decide) (fun c48 => ?_) (fun c48 => ?_)
                        · have h := sx_neg c48 h
                          refine sx_aload_n (pc := 118) dX4_findFault_118 sx_m0 ?_
                          obtain ⟨⟨x51, V49⟩, g50, h⟩ := sx_bnd h
                          refine sv_cV (pc := 119) (y := qX4_kernHolds) (o := (some (.int x51))) (as := []) (V1 := V49) hG dX4_findFault_119 l_X4_58 y0X4_kernHolds yvX4_kernHolds rfl (Nat.le_of_ble_eq_true rfl) lay_29 kr_4 (by decide) (Nat.le_of_ble_eq_true rfl) rfl rfl rfl (t_X4_kernHolds hG ⟨rfl, rfl⟩ g50) ?_
                          refine sx_if_ne (pc := 122) (tgt := 128) dX4_findFault_122 (by decide) (fun c52 => ?_) (fun c52 => ?_)
                          · have h := sx_neg c52 h
                            refine sx_aload_n (pc := 128) dX4_findFault_128 sx_m0 ?_
                            obtain ⟨⟨x55, V53⟩, g54, h⟩ := sx_bnd h
                            refine sv_cV (pc := 129) (y := qX4_programsHold) (o := (some (.int x55))) (as := []) (V1 := V53) hG dX4_findFault_129 l_X4_61 y0X4_programsHold yvX4_programsHold rfl (Nat.le_of_ble_eq_true rfl) lay_29 kr_4 (by decide) (Nat.le_of_ble_eq_true rfl) rfl rfl rfl (t_X4_programsHold hG ⟨rfl, rfl⟩ g54) ?_
                            refine sx_if_eq (pc := 132) (tgt := 139) dX4_findFault_132 (by decide) (fun c56 => ?_) (fun c56 => ?_)
                            · have h := sx_pos c56 h
                              refine sx_bipush (pc := 139) (v := 14) dX4_findFault_139 (by decide) ?_
                              exact sv_iret (pc := 141) dX4_findFault_141 rfl h hP
                            · have h := sx_neg c56 h
                              refine sx_iconst (pc := 135) (v := 0) dX4_findFault_135 (by decide) ?_
                              refine sx_goto (pc := 136) (tgt := 141) dX4_findFault_136 (by decide) ?_
                              exact sv_iret (pc := 141) dX4_findFault_141 rfl h hP
                          · have h := sx_pos c52 h
                            refine sx_bipush (pc := 125) (v := 13) dX4_findFault_125 (by decide) ?_
                            exact sv_iret (pc := 127) dX4_findFault_127 rfl h hP
                        · have h := sx_pos c48 h
                          refine sx_bipush (pc := 115) (v := 12) dX4_findFault_115 (by decide) ?_
                          exact sv_iret (pc := 117) dX4_findFault_117 rfl h hP
                      · have h := sx_pos c44 h
                        refine sx_bipush (pc := 105) (v := 11) dX4_findFault_105 (by decide) ?_
                        exact sv_iret (pc := 107) dX4_findFault_107 rfl h hP
                    · have h := sx_pos c40 h
                      refine sx_bipush (pc := 92) (v := 10) dX4_findFault_92 (by decide) ?_
                      exact sv_iret (pc := 94) dX4_findFault_94 rfl h hP
                  · have h := sx_pos c36 h
                    refine sx_bipush (pc := 82) (v := 9) dX4_findFault_82 (by decide) ?_
                    exact sv_iret (pc := 84) dX4_findFault_84 rfl h hP
                · have h := sx_pos c32 h
                  refine sx_bipush (pc := 72) (v := 8) dX4_findFault_72 (by decide) ?_
                  exact sv_iret (pc := 74) dX4_findFault_74 rfl h hP
              · have h := sx_pos c28 h
                refine sx_bipush (pc := 62) (v := 7) dX4_findFault_62 (by decide) ?_
                exact sv_iret (pc := 64) dX4_findFault_64 rfl h hP
            · have h := sx_pos c24 h
              refine sx_bipush (pc := 52) (v := 6) dX4_findFault_52 (by decide) ?_
              exact sv_iret (pc := 54) dX4_findFault_54 rfl h hP
          · have h := sx_pos c20 h
            refine sx_iconst (pc := 43) (v := 5) dX4_findFault_43 (by decide) ?_
            exact sv_iret (pc := 44) dX4_findFault_44 rfl h hP
        · have h := sx_pos c16 h
          refine sx_iconst (pc := 34) (v := 4) dX4_findFault_34 (by decide) ?_
          exact sv_iret (pc := 35) dX4_findFault_35 rfl h hP
      · have h := sx_pos c12 h
        refine sx_iconst (pc := 25) (v := 3) dX4_findFault_25 (by decide) ?_
        exact sv_iret (pc := 26) dX4_findFault_26 rfl h hP
    · have h := sx_pos c8 h
      refine sx_iconst (pc := 16) (v := 2) dX4_findFault_16 (by decide) ?_
      exact sv_iret (pc := 17) dX4_findFault_17 rfl h hP
  · have h := sx_pos c4 h
    refine sx_iconst (pc := 7) (v := 1) dX4_findFault_7 (by decide) ?_
    exact sv_iret (pc := 8) dX4_findFault_8 rfl h hP
def ncX5_vectorCodes : Nat := 8698630148990220934858806321398272999977611101574248547755599196924304162576484271245093956284744547417127814017096024918063159399573865609462685859301429485413419959626630107097333757621423400025823792964747298864619400165509331466176494869050017082699629087588726285082608676071402598348887277588671073607426675938416962461804994199223202162587021857446678866755910071344721346100160738955606903813198905475234993482635054094771659539516203585813362440542256592228857721339536488120403055651611
theorem kcX5_vectorCodes : CK cX5_vectorCodes ncX5_vectorCodes 206 := ⟨by decide +kernel, by decide +kernel⟩
theorem dX5_vectorCodes_0 : decode cX5_vectorCodes 0 = .ok (.iload_n 1, 1) := dl_o27 kcX5_vectorCodes (by decide +kernel)
theorem dX5_vectorCodes_1 : decode cX5_vectorCodes 1 = .ok (.lookupswitch 196 #[(6, 99), (7, 99), (8, 99), (9, 99), (10, 105), (11, 105), (12, 111), (13, 136), (14, 161), (134, 190), (135, 190)], 99) := by decide +kernel
theorem dX5_vectorCodes_100 : decode cX5_vectorCodes 100 = .ok (.aload_n 0, 1) := dl_o42 kcX5_vectorCodes (by decide +kernel)
theorem dX5_vectorCodes_101 : decode cX5_vectorCodes 101 = .ok (.iload_n 1, 1) := dl_o27 kcX5_vectorCodes (by decide +kernel)
theorem dX5_vectorCodes_102 : decode cX5_vectorCodes 102 = .ok (.invokevirtual 226, 3) := dl_o182 kcX5_vectorCodes (by decide +kernel)
theorem dX5_vectorCodes_105 : decode cX5_vectorCodes 105 = .ok (.return_, 1) := dl_o177 kcX5_vectorCodes (by decide +kernel)
theorem dX5_vectorCodes_106 : decode cX5_vectorCodes 106 = .ok (.aload_n 0, 1) := dl_o42 kcX5_vectorCodes (by decide +kernel)
theorem dX5_vectorCodes_107 : decode cX5_vectorCodes 107 = .ok (.iload_n 1, 1) := dl_o27 kcX5_vectorCodes (by decide +kernel)
theorem dX5_vectorCodes_108 : decode cX5_vectorCodes 108 = .ok (.invokevirtual 229, 3) := dl_o182 kcX5_vectorCodes (by decide +kernel)
theorem dX5_vectorCodes_111 : decode cX5_vectorCodes 111 = .ok (.return_, 1) := dl_o177 kcX5_vectorCodes (by decide +kernel)
theorem dX5_vectorCodes_112 : decode cX5_vectorCodes 112 = .ok (.aload_n 0, 1) := dl_o42 kcX5_vectorCodes (by decide +kernel)
theorem dX5_vectorCodes_113 : decode cX5_vectorCodes 113 = .ok (.aload_n 0, 1) := dl_o42 kcX5_vectorCodes (by decide +kernel)
theorem dX5_vectorCodes_114 : decode cX5_vectorCodes 114 = .ok (.getfield 12, 3) := dl_o180 kcX5_vectorCodes (by decide +kernel)
theorem dX5_vectorCodes_117 : decode cX5_vectorCodes 117 = .ok (.getfield 184, 3) := dl_o180 kcX5_vectorCodes (by decide +kernel)
theorem dX5_vectorCodes_120 : decode cX5_vectorCodes 120 = .ok (.i2l, 1) := dl_o133 kcX5_vectorCodes (by decide +kernel)
theorem dX5_vectorCodes_121 : decode cX5_vectorCodes 121 = .ok (.invokevirtual 232, 3) := dl_o182 kcX5_vectorCodes (by decide +kernel)
theorem dX5_vectorCodes_124 : decode cX5_vectorCodes 124 = .ok (.aload_n 0, 1) := dl_o42 kcX5_vectorCodes (by decide +kernel)
theorem dX5_vectorCodes_125 : decode cX5_vectorCodes 125 = .ok (.aload_n 0, 1) := dl_o42 kcX5_vectorCodes (by decide +kernel)
theorem dX5_vectorCodes_126 : decode cX5_vectorCodes 126 = .ok (.getfield 12, 3) := dl_o180 kcX5_vectorCodes (by decide +kernel)
theorem dX5_vectorCodes_129 : decode cX5_vectorCodes 129 = .ok (.getfield 187, 3) := dl_o180 kcX5_vectorCodes (by decide +kernel)
theorem dX5_vectorCodes_132 : decode cX5_vectorCodes 132 = .ok (.i2l, 1) := dl_o133 kcX5_vectorCodes (by decide +kernel)
theorem dX5_vectorCodes_133 : decode cX5_vectorCodes 133 = .ok (.invokevirtual 232, 3) := dl_o182 kcX5_vectorCodes (by decide +kernel)
theorem dX5_vectorCodes_136 : decode cX5_vectorCodes 136 = .ok (.return_, 1) := dl_o177 kcX5_vectorCodes (by decide +kernel)
theorem dX5_vectorCodes_137 : decode cX5_vectorCodes 137 = .ok (.aload_n 0, 1) := dl_o42 kcX5_vectorCodes (by decide +kernel)
theorem dX5_vectorCodes_138 : decode cX5_vectorCodes 138 = .ok (.aload_n 0, 1) := dl_o42 kcX5_vectorCodes (by decide +kernel)
theorem dX5_vectorCodes_139 : decode cX5_vectorCodes 139 = .ok (.getfield 12, 3) := dl_o180 kcX5_vectorCodes (by decide +kernel)
theorem dX5_vectorCodes_142 : decode cX5_vectorCodes 142 = .ok (.getfield 210, 3) := dl_o180 kcX5_vectorCodes (by decide +kernel)
theorem dX5_vectorCodes_145 : decode cX5_vectorCodes 145 = .ok (.i2l, 1) := dl_o133 kcX5_vectorCodes (by decide +kernel)
theorem dX5_vectorCodes_146 : decode cX5_vectorCodes 146 = .ok (.invokevirtual 232, 3) := dl_o182 kcX5_vectorCodes (by decide +kernel)
theorem dX5_vectorCodes_149 : decode cX5_vectorCodes 149 = .ok (.aload_n 0, 1) := dl_o42 kcX5_vectorCodes (by decide +kernel)
theorem dX5_vectorCodes_150 : decode cX5_vectorCodes 150 = .ok (.aload_n 0, 1) := dl_o42 kcX5_vectorCodes (by decide +kernel)
theorem dX5_vectorCodes_151 : decode cX5_vectorCodes 151 = .ok (.getfield 12, 3) := dl_o180 kcX5_vectorCodes (by decide +kernel)
theorem dX5_vectorCodes_154 : decode cX5_vectorCodes 154 = .ok (.getfield 213, 3) := dl_o180 kcX5_vectorCodes (by decide +kernel)
theorem dX5_vectorCodes_157 : decode cX5_vectorCodes 157 = .ok (.i2l, 1) := dl_o133 kcX5_vectorCodes (by decide +kernel)
theorem dX5_vectorCodes_158 : decode cX5_vectorCodes 158 = .ok (.invokevirtual 232, 3) := dl_o182 kcX5_vectorCodes (by decide +kernel)
theorem dX5_vectorCodes_161 : decode cX5_vectorCodes 161 = .ok (.return_, 1) := dl_o177 kcX5_vectorCodes (by decide +kernel)
theorem dX5_vectorCodes_162 : decode cX5_vectorCodes 162 = .ok (.aload_n 0, 1) := dl_o42 kcX5_vectorCodes (by decide +kernel)
theorem dX5_vectorCodes_163 : decode cX5_vectorCodes 163 = .ok (.getfield 12, 3) := dl_o180 kcX5_vectorCodes (by decide +kernel)
theorem dX5_vectorCodes_166 : decode cX5_vectorCodes 166 = .ok (.aload_n 0, 1) := dl_o42 kcX5_vectorCodes (by decide +kernel)
theorem dX5_vectorCodes_167 : decode cX5_vectorCodes 167 = .ok (.getfield 12, 3) := dl_o180 kcX5_vectorCodes (by decide +kernel)
theorem dX5_vectorCodes_170 : decode cX5_vectorCodes 170 = .ok (.getfield 184, 3) := dl_o180 kcX5_vectorCodes (by decide +kernel)
theorem dX5_vectorCodes_173 : decode cX5_vectorCodes 173 = .ok (.putfield 210, 3) := dl_o181 kcX5_vectorCodes (by decide +kernel)
theorem dX5_vectorCodes_176 : decode cX5_vectorCodes 176 = .ok (.aload_n 0, 1) := dl_o42 kcX5_vectorCodes (by decide +kernel)
theorem dX5_vectorCodes_177 : decode cX5_vectorCodes 177 = .ok (.getfield 12, 3) := dl_o180 kcX5_vectorCodes (by decide +kernel)
theorem dX5_vectorCodes_180 : decode cX5_vectorCodes 180 = .ok (.aload_n 0, 1) := dl_o42 kcX5_vectorCodes (by decide +kernel)
theorem dX5_vectorCodes_181 : decode cX5_vectorCodes 181 = .ok (.getfield 12, 3) := dl_o180 kcX5_vectorCodes (by decide +kernel)
theorem dX5_vectorCodes_184 : decode cX5_vectorCodes 184 = .ok (.getfield 187, 3) := dl_o180 kcX5_vectorCodes (by decide +kernel)
theorem dX5_vectorCodes_187 : decode cX5_vectorCodes 187 = .ok (.putfield 213, 3) := dl_o181 kcX5_vectorCodes (by decide +kernel)
theorem dX5_vectorCodes_190 : decode cX5_vectorCodes 190 = .ok (.return_, 1) := dl_o177 kcX5_vectorCodes (by decide +kernel)
theorem dX5_vectorCodes_191 : decode cX5_vectorCodes 191 = .ok (.aload_n 0, 1) := dl_o42 kcX5_vectorCodes (by decide +kernel)
theorem dX5_vectorCodes_192 : decode cX5_vectorCodes 192 = .ok (.iload_n 1, 1) := dl_o27 kcX5_vectorCodes (by decide +kernel)
theorem dX5_vectorCodes_193 : decode cX5_vectorCodes 193 = .ok (.invokevirtual 236, 3) := dl_o182 kcX5_vectorCodes (by decide +kernel)
theorem dX5_vectorCodes_196 : decode cX5_vectorCodes 196 = .ok (.return_, 1) := dl_o177 kcX5_vectorCodes (by decide +kernel)
theorem dX5_vectorCodes_197 : decode cX5_vectorCodes 197 = .ok (.aload_n 0, 1) := dl_o42 kcX5_vectorCodes (by decide +kernel)
theorem dX5_vectorCodes_198 : decode cX5_vectorCodes 198 = .ok (.getfield 12, 3) := dl_o180 kcX5_vectorCodes (by decide +kernel)
theorem dX5_vectorCodes_201 : decode cX5_vectorCodes 201 = .ok (.iload_n 1, 1) := dl_o27 kcX5_vectorCodes (by decide +kernel)
theorem dX5_vectorCodes_202 : decode cX5_vectorCodes 202 = .ok (.invokevirtual 239, 3) := dl_o182 kcX5_vectorCodes (by decide +kernel)
theorem dX5_vectorCodes_205 : decode cX5_vectorCodes 205 = .ok (.return_, 1) := dl_o177 kcX5_vectorCodes (by decide +kernel)
def B_X5_vectorCodes_100 (N : Nat)  (l1 : Int32) (V : sv_V) : Option sv_V := (F_X5_goAlongLine N l1 V).bind (fun V1 => some V1)
set_option maxRecDepth 20000 in
theorem tB_X5_vectorCodes_100 {g : sx_G} (hG : sx_Go g) {P : Option Value → sv_V → Prop} {Vr : sv_V} (hP : P none Vr) {N : Nat}   {l1 : Int32} {V : sv_V} (h : B_X5_vectorCodes_100 N  l1 V = some Vr) : sv_N g qX5_vectorCodes 3 100 [(0, .ref 69), (1, .int l1)] [] V P := by
  unfold B_X5_vectorCodes_100 at h
  refine sx_aload_n (pc := 100) dX5_vectorCodes_100 sx_m0 ?_
  refine sx_iload_n (pc := 101) dX5_vectorCodes_101 sx_m1 ?_
  obtain ⟨V1, g2, h⟩ := sx_bnd h
  refine sv_cV (pc := 102) (y := qX5_goAlongLine) (o := none) (as := [.int l1]) (V1 := V1) hG dX5_vectorCodes_102 l_X5_226 y0X5_goAlongLine yvX5_goAlongLine rfl (Nat.le_of_ble_eq_true rfl) lay_69 kr_5 (by decide) (Nat.le_of_ble_eq_true rfl) rfl rfl rfl (t_X5_goAlongLine hG ⟨rfl, rfl⟩ g2) ?_
  exact sv_vret (pc := 105) dX5_vectorCodes_105 rfl h hP
def B_X5_vectorCodes_106 (N : Nat)  (l1 : Int32) (V : sv_V) : Option sv_V := (F_X5_goAlongNumbers N l1 V).bind (fun V3 => some V3)
set_option maxRecDepth 20000 in
theorem tB_X5_vectorCodes_106 {g : sx_G} (hG : sx_Go g) {P : Option Value → sv_V → Prop} {Vr : sv_V} (hP : P none Vr) {N : Nat}   {l1 : Int32} {V : sv_V} (h : B_X5_vectorCodes_106 N  l1 V = some Vr) : sv_N g qX5_vectorCodes 3 106 [(0, .ref 69), (1, .int l1)] [] V P := by
  unfold B_X5_vectorCodes_106 at h
  refine sx_aload_n (pc := 106) dX5_vectorCodes_106 sx_m0 ?_
  refine sx_iload_n (pc := 107) dX5_vectorCodes_107 sx_m1 ?_
  obtain ⟨V3, g4, h⟩ := sx_bnd h
  refine sv_cV (pc := 108) (y := qX5_goAlongNumbers) (o := none) (as := [.int l1]) (V1 := V3) hG dX5_vectorCodes_108 l_X5_229 y0X5_goAlongNumbers yvX5_goAlongNumbers rfl (Nat.le_of_ble_eq_true rfl) lay_69 kr_5 (by decide) (Nat.le_of_ble_eq_true rfl) rfl rfl rfl (t_X5_goAlongNumbers hG ⟨rfl, rfl⟩ g4) ?_
  exact sv_vret (pc := 111) dX5_vectorCodes_111 rfl h hP
def B_X5_vectorCodes_191 (N : Nat)  (l1 : Int32) (V : sv_V) : Option sv_V := (F_X5_goAlongBothLines N l1 V).bind (fun V5 => some V5)
set_option maxRecDepth 20000 in
theorem tB_X5_vectorCodes_191 {g : sx_G} (hG : sx_Go g) {P : Option Value → sv_V → Prop} {Vr : sv_V} (hP : P none Vr) {N : Nat}   {l1 : Int32} {V : sv_V} (h : B_X5_vectorCodes_191 N  l1 V = some Vr) : sv_N g qX5_vectorCodes 3 191 [(0, .ref 69), (1, .int l1)] [] V P := by
  unfold B_X5_vectorCodes_191 at h
  refine sx_aload_n (pc := 191) dX5_vectorCodes_191 sx_m0 ?_
  refine sx_iload_n (pc := 192) dX5_vectorCodes_192 sx_m1 ?_
  obtain ⟨V5, g6, h⟩ := sx_bnd h
  refine sv_cV (pc := 193) (y := qX5_goAlongBothLines) (o := none) (as := [.int l1]) (V1 := V5) hG dX5_vectorCodes_193 l_X5_236 y0X5_goAlongBothLines yvX5_goAlongBothLines rfl (Nat.le_of_ble_eq_true rfl) lay_69 kr_5 (by decide) (Nat.le_of_ble_eq_true rfl) rfl rfl rfl (t_X5_goAlongBothLines hG ⟨rfl, rfl⟩ g6) ?_
  exact sv_vret (pc := 196) dX5_vectorCodes_196 rfl h hP
def F_X5_vectorCodes (N : Nat) (l1 : Int32) (V : sv_V) : Option sv_V := if l1 = 6 then (B_X5_vectorCodes_100 N  l1 V) else (if l1 = 7 then (B_X5_vectorCodes_100 N  l1 V) else (if l1 = 8 then (B_X5_vectorCodes_100 N  l1 V) else (if l1 = 9 then (B_X5_vectorCodes_100 N  l1 V) else (if l1 = 10 then (B_X5_vectorCodes_106 N  l1 V) else (if l1 = 11 then (B_X5_vectorCodes_106 N  l1 V) else (if l1 = 12 then ((F_X5_push ((V.1 70 2).toInt64) V).bind (fun V14 => (F_X5_push ((V14.1 70 3).toInt64) V14).bind (fun V16 => some V16))) else (if l1 = 13 then ((F_X5_push ((V.1 70 0).toInt64) V).bind (fun V19 => (F_X5_push ((V19.1 70 1).toInt64) V19).bind (fun V21 => some V21))) else (if l1 = 14 then (sx_let (sv_I V 70 0 (V.1 70 2)) (fun V24 => sx_let (sv_I V24 70 1 (V24.1 70 3)) (fun V25 => some V25))) else (if l1 = 134 then (B_X5_vectorCodes_191 N  l1 V) else (if l1 = 135 then (B_X5_vectorCodes_191 N  l1 V) else ((F_X9_goAlong l1 V).bind (fun V28 => some V28))))))))))))
set_option maxRecDepth 20000 in
theorem t_X5_vectorCodes {g : sx_G} (hG : sx_Go g) {P : Option Value → sv_V → Prop} {Vr : sv_V} (hP : P none Vr) {N : Nat} {l1 : Int32} {V : sv_V} (h : F_X5_vectorCodes N l1 V = some Vr) : sv_N g qX5_vectorCodes 3 0 [(0, .ref 69), (1, .int l1)] [] V P := by
  unfold F_X5_vectorCodes at h
  refine sx_iload_n (pc := 0) dX5_vectorCodes_0 sx_m1 ?_
  by_cases c7 : l1 = 6
  · have h := sx_pos c7 h
    refine sx_look (pc := 1) (off := 99) (tgt := 100) dX5_vectorCodes_1 (by decide) (by rw [c7]; rfl) (by decide) ?_
    refine sx_wk (sx_s1 sx_m0 (sx_s1 sx_m1 sx_s0)) ?_
    exact tB_X5_vectorCodes_100 hG hP  h
  have h := sx_neg c7 h
  by_cases c8 : l1 = 7
  · have h := sx_pos c8 h
    refine sx_look (pc := 1) (off := 99) (tgt := 100) dX5_vectorCodes_1 (by decide) (by rw [c8]; rfl) (by decide) ?_
    refine sx_wk (sx_s1 sx_m0 (sx_s1 sx_m1 sx_s0)) ?_
    exact tB_X5_vectorCodes_100 hG hP  h
  have h := sx_neg c8 h
  by_cases c9 : l1 = 8
  · have h := sx_pos c9 h
    refine sx_look (pc := 1) (off := 99) (tgt := 100) dX5_vectorCodes_1 (by decide) (by rw [c9]; rfl) (by decide) ?_
    refine sx_wk (sx_s1 sx_m0 (sx_s1 sx_m1 sx_s0)) ?_
    exact tB_X5_vectorCodes_100 hG hP  h
  have h := sx_neg c9 h
  by_cases c10 : l1 = 9
  · have h := sx_pos c10 h
    refine sx_look (pc := 1) (off := 99) (tgt := 100) dX5_vectorCodes_1 (by decide) (by rw [c10]; rfl) (by decide) ?_
    refine sx_wk (sx_s1 sx_m0 (sx_s1 sx_m1 sx_s0)) ?_
    exact tB_X5_vectorCodes_100 hG hP  h
  have h := sx_neg c10 h
  by_cases c11 : l1 = 10
  · have h := sx_pos c11 h
    refine sx_look (pc := 1) (off := 105) (tgt := 106) dX5_vectorCodes_1 (by decide) (by rw [c11]; rfl) (by decide) ?_
    refine sx_wk (sx_s1 sx_m0 (sx_s1 sx_m1 sx_s0)) ?_
    exact tB_X5_vectorCodes_106 hG hP  h
  have h := sx_neg c11 h
  by_cases c12 : l1 = 11
  · have h := sx_pos c12 h
    refine sx_look (pc := 1) (off := 105) (tgt := 106) dX5_vectorCodes_1 (by decide) (by rw [c12]; rfl) (by decide) ?_
    refine sx_wk (sx_s1 sx_m0 (sx_s1 sx_m1 sx_s0)) ?_
    exact tB_X5_vectorCodes_106 hG hP  h
  have h := sx_neg c12 h
  by_cases c13 : l1 = 12
  · have h := sx_pos c13 h
    refine sx_look (pc := 1) (off := 111) (tgt := 112) dX5_vectorCodes_1 (by decide) (by rw [c13]; rfl) (by decide) ?_
    refine sx_aload_n (pc := 112) dX5_vectorCodes_112 sx_m0 ?_
    refine sx_aload_n (pc := 113) dX5_vectorCodes_113 sx_m0 ?_
    refine sv_getO (pc := 114) hG dX5_vectorCodes_114 f_5_12 lay_69 rfl cr_69_1 ?_
    refine sv_getI (pc := 117) hG dX5_vectorCodes_117 f_5_184 lay_70 rfl ?_
    refine sx_i2l (pc := 120) dX5_vectorCodes_120 ?_
    obtain ⟨V14, g15, h⟩ := sx_bnd h
    refine sv_cV (pc := 121) (y := qX5_push) (o := none) (as := [.long ((V.1 70 2).toInt64)]) (V1 := V14) hG dX5_vectorCodes_121 l_X5_232 y0X5_push yvX5_push rfl (Nat.le_of_ble_eq_true rfl) lay_69 kr_5 (by decide) (Nat.le_of_ble_eq_true rfl) rfl rfl rfl (t_X5_push hG ⟨rfl, rfl⟩ g15) ?_
    refine sx_aload_n (pc := 124) dX5_vectorCodes_124 sx_m0 ?_
    refine sx_aload_n (pc := 125) dX5_vectorCodes_125 sx_m0 ?_
    refine sv_getO (pc := 126) hG dX5_vectorCodes_126 f_5_12 lay_69 rfl cr_69_1 ?_
    refine sv_getI (pc := 129) hG dX5_vectorCodes_129 f_5_187 lay_70 rfl ?_
    refine sx_i2l (pc := 132) dX5_vectorCodes_132 ?_
    obtain ⟨V16, g17, h⟩ := sx_bnd h
    refine sv_cV (pc := 133) (y := qX5_push) (o := none) (as := [.long ((V14.1 70 3).toInt64)]) (V1 := V16) hG dX5_vectorCodes_133 l_X5_232 y0X5_push yvX5_push rfl (Nat.le_of_ble_eq_true rfl) lay_69 kr_5 (by decide) (Nat.le_of_ble_eq_true rfl) rfl rfl rfl (t_X5_push hG ⟨rfl, rfl⟩ g17) ?_
    exact sv_vret (pc := 136) dX5_vectorCodes_136 rfl h hP
  have h := sx_neg c13 h
  by_cases c18 : l1 = 13
  · have h := sx_pos c18 h
    refine sx_look (pc := 1) (off := 136) (tgt := 137) dX5_vectorCodes_1 (by decide) (by rw [c18]; rfl) (by decide) ?_
    refine sx_aload_n (pc := 137) dX5_vectorCodes_137 sx_m0 ?_
    refine sx_aload_n (pc := 138) dX5_vectorCodes_138 sx_m0 ?_
    refine sv_getO (pc := 139) hG dX5_vectorCodes_139 f_5_12 lay_69 rfl cr_69_1 ?_
    refine sv_getI (pc := 142) hG dX5_vectorCodes_142 f_5_210 lay_70 rfl ?_
    refine sx_i2l (pc := 145) dX5_vectorCodes_145 ?_
    obtain ⟨V19, g20, h⟩ := sx_bnd h
    refine sv_cV (pc := 146) (y := qX5_push) (o := none) (as := [.long ((V.1 70 0).toInt64)]) (V1 := V19) hG dX5_vectorCodes_146 l_X5_232 y0X5_push yvX5_push rfl (Nat.le_of_ble_eq_true rfl) lay_69 kr_5 (by decide) (Nat.le_of_ble_eq_true rfl) rfl rfl rfl (t_X5_push hG ⟨rfl, rfl⟩ g20) ?_
    refine sx_aload_n (pc := 149) dX5_vectorCodes_149 sx_m0 ?_
    refine sx_aload_n (pc := 150) dX5_vectorCodes_150 sx_m0 ?_
    refine sv_getO (pc := 151) hG dX5_vectorCodes_151 f_5_12 lay_69 rfl cr_69_1 ?_
    refine sv_getI (pc := 154) hG dX5_vectorCodes_154 f_5_213 lay_70 rfl ?_
    refine sx_i2l (pc := 157) dX5_vectorCodes_157 ?_
    obtain ⟨V21, g22, h⟩ := sx_bnd h
    refine sv_cV (pc := 158) (y := qX5_push) (o := none) (as := [.long ((V19.1 70 1).toInt64)]) (V1 := V21) hG dX5_vectorCodes_158 l_X5_232 y0X5_push yvX5_push rfl (Nat.le_of_ble_eq_true rfl) lay_69 kr_5 (by decide) (Nat.le_of_ble_eq_true rfl) rfl rfl rfl (t_X5_push hG ⟨rfl, rfl⟩ g22) ?_
    exact sv_vret (pc := 161) dX5_vectorCodes_161 rfl h hP
  have h := sx_neg c18 h
  by_cases c23 : l1 = 14
  · have h := sx_pos c23 h
    refine sx_look (pc := 1) (off := 161) (tgt := 162) dX5_vectorCodes_1 (by decide) (by rw [c23]; rfl) (by decide) ?_
    refine sx_aload_n (pc := 162) dX5_vectorCodes_162 sx_m0 ?_
    refine sv_getO (pc := 163) hG dX5_vectorCodes_163 f_5_12 lay_69 rfl cr_69_1 ?_
    refine sx_aload_n (pc := 166) dX5_vectorCodes_166 sx_m0 ?_
    refine sv_getO (pc := 167) hG dX5_vectorCodes_167 f_5_12 lay_69 rfl cr_69_1 ?_
    refine sv_getI (pc := 170) hG dX5_vectorCodes_170 f_5_184 lay_70 rfl ?_
    obtain ⟨V24, hV24⟩ : ∃ z : sv_V, z = sv_I V 70 0 (V.1 70 2) := ⟨_, rfl⟩
    have h := sx_letE hV24 h
    refine sv_putI (pc := 173) hG dX5_vectorCodes_173 f_5_210 lay_70 rfl hV24 ?_
    refine sx_aload_n (pc := 176) dX5_vectorCodes_176 sx_m0 ?_
    refine sv_getO (pc := 177) hG dX5_vectorCodes_177 f_5_12 lay_69 rfl cr_69_1 ?_
    refine sx_aload_n (pc := 180) dX5_vectorCodes_180 sx_m0 ?_
    refine sv_getO (pc := 181) hG dX5_vectorCodes_181 f_5_12 lay_69 rfl cr_69_1 ?_
    refine sv_getI (pc := 184) hG dX5_vectorCodes_184 f_5_187 lay_70 rfl ?_
    obtain ⟨V25, hV25⟩ : ∃ z : sv_V, z = sv_I V24 70 1 (V24.1 70 3) := ⟨_, rfl⟩
    have h := sx_letE hV25 h
    refine sv_putI (pc := 187) hG dX5_vectorCodes_187 f_5_213 lay_70 rfl hV25 ?_
    exact sv_vret (pc := 190) dX5_vectorCodes_190 rfl h hP
  have h := sx_neg c23 h
  by_cases c26 : l1 = 134
  · have h := sx_pos c26 h
    refine sx_look (pc := 1) (off := 190) (tgt := 191) dX5_vectorCodes_1 (by decide) (by rw [c26]; rfl) (by decide) ?_
    refine sx_wk (sx_s1 sx_m0 (sx_s1 sx_m1 sx_s0)) ?_
    exact tB_X5_vectorCodes_191 hG hP  h
  have h := sx_neg c26 h
  by_cases c27 : l1 = 135
  · have h := sx_pos c27 h
    refine sx_look (pc := 1) (off := 190) (tgt := 191) dX5_vectorCodes_1 (by decide) (by rw [c27]; rfl) (by decide) ?_
    refine sx_wk (sx_s1 sx_m0 (sx_s1 sx_m1 sx_s0)) ?_
    exact tB_X5_vectorCodes_191 hG hP  h
  have h := sx_neg c27 h
  refine sx_look (pc := 1) (off := 196) (tgt := 197) dX5_vectorCodes_1 (by decide) (by show Op.lookupswitch.offset [(6, 99), (7, 99), (8, 99), (9, 99), (10, 105), (11, 105), (12, 111), (13, 136), (14, 161), (134, 190), (135, 190)] 196 l1.toInt = 196; rw [lv_osw (a := 6) c7 rfl, lv_osw (a := 7) c8 rfl, lv_osw (a := 8) c9 rfl, lv_osw (a := 9) c10 rfl, lv_osw (a := 10) c11 rfl, lv_osw (a := 11) c12 rfl, lv_osw (a := 12) c13 rfl, lv_osw (a := 13) c18 rfl, lv_osw (a := 14) c23 rfl, lv_osw (a := 134) c26 rfl, lv_osw (a := 135) c27 rfl]; rfl) (by decide) ?_
  refine sx_aload_n (pc := 197) dX5_vectorCodes_197 sx_m0 ?_
  refine sv_getO (pc := 198) hG dX5_vectorCodes_198 f_5_12 lay_69 rfl cr_69_1 ?_
  refine sx_iload_n (pc := 201) dX5_vectorCodes_201 sx_m1 ?_
  obtain ⟨V28, g29, h⟩ := sx_bnd h
  refine sv_cV (pc := 202) (y := qX9_goAlong) (o := none) (as := [.int l1]) (V1 := V28) hG dX5_vectorCodes_202 l_X5_239 y0X9_goAlong yvX9_goAlong rfl (Nat.le_of_ble_eq_true rfl) lay_70 kr_9 (by decide) (Nat.le_of_ble_eq_true rfl) rfl rfl rfl (t_X9_goAlong hG ⟨rfl, rfl⟩ g29) ?_
  exact sv_vret (pc := 205) dX5_vectorCodes_205 rfl h hP
def ncX5_singlePointCodes : Nat := 257608146057516445862578025563984233144608658917205997693054943749560588583754811848853942622679729846170288065456077404855750310139885381130535284823737514267608664374924132237979725682886513822989380650608963134497316991831695751075652148544541957174725441813608057427589102099070490290253647287759947230371143366312296218333948108946093428514016215658725114996218099379905147912058856935061806571653040834862438767011425607041609473093107923613912876270259743349073680037752913580582310232520727409326247437434363006687832153469279999120041986380307000321793239941531085339
theorem kcX5_singlePointCodes : CK cX5_singlePointCodes ncX5_singlePointCodes 239 := ⟨by decide +kernel, by decide +kernel⟩
theorem dX5_singlePointCodes_0 : decode cX5_singlePointCodes 0 = .ok (.iload_n 1, 1) := dl_o27 kcX5_singlePointCodes (by decide +kernel)
theorem dX5_singlePointCodes_1 : decode cX5_singlePointCodes 1 = .ok (.tableswitch 232 39 74 #[159, 232, 164, 232, 232, 232, 232, 169, 169, 175, 195, 232, 232, 232, 232, 232, 232, 232, 232, 232, 232, 232, 232, 232, 232, 232, 232, 232, 232, 232, 232, 215, 215, 221, 226, 226], 159) := by decide +kernel
theorem dX5_singlePointCodes_160 : decode cX5_singlePointCodes 160 = .ok (.aload_n 0, 1) := dl_o42 kcX5_singlePointCodes (by decide +kernel)
theorem dX5_singlePointCodes_161 : decode cX5_singlePointCodes 161 = .ok (.invokevirtual 430, 3) := dl_o182 kcX5_singlePointCodes (by decide +kernel)
theorem dX5_singlePointCodes_164 : decode cX5_singlePointCodes 164 = .ok (.return_, 1) := dl_o177 kcX5_singlePointCodes (by decide +kernel)
theorem dX5_singlePointCodes_165 : decode cX5_singlePointCodes 165 = .ok (.aload_n 0, 1) := dl_o42 kcX5_singlePointCodes (by decide +kernel)
theorem dX5_singlePointCodes_166 : decode cX5_singlePointCodes 166 = .ok (.invokevirtual 433, 3) := dl_o182 kcX5_singlePointCodes (by decide +kernel)
theorem dX5_singlePointCodes_169 : decode cX5_singlePointCodes 169 = .ok (.return_, 1) := dl_o177 kcX5_singlePointCodes (by decide +kernel)
theorem dX5_singlePointCodes_170 : decode cX5_singlePointCodes 170 = .ok (.aload_n 0, 1) := dl_o42 kcX5_singlePointCodes (by decide +kernel)
theorem dX5_singlePointCodes_171 : decode cX5_singlePointCodes 171 = .ok (.iload_n 1, 1) := dl_o27 kcX5_singlePointCodes (by decide +kernel)
theorem dX5_singlePointCodes_172 : decode cX5_singlePointCodes 172 = .ok (.invokevirtual 436, 3) := dl_o182 kcX5_singlePointCodes (by decide +kernel)
theorem dX5_singlePointCodes_175 : decode cX5_singlePointCodes 175 = .ok (.return_, 1) := dl_o177 kcX5_singlePointCodes (by decide +kernel)
theorem dX5_singlePointCodes_176 : decode cX5_singlePointCodes 176 = .ok (.aload_n 0, 1) := dl_o42 kcX5_singlePointCodes (by decide +kernel)
theorem dX5_singlePointCodes_177 : decode cX5_singlePointCodes 177 = .ok (.aload_n 0, 1) := dl_o42 kcX5_singlePointCodes (by decide +kernel)
theorem dX5_singlePointCodes_178 : decode cX5_singlePointCodes 178 = .ok (.getfield 38, 3) := dl_o180 kcX5_singlePointCodes (by decide +kernel)
theorem dX5_singlePointCodes_181 : decode cX5_singlePointCodes 181 = .ok (.getfield 207, 3) := dl_o180 kcX5_singlePointCodes (by decide +kernel)
theorem dX5_singlePointCodes_184 : decode cX5_singlePointCodes 184 = .ok (.aload_n 0, 1) := dl_o42 kcX5_singlePointCodes (by decide +kernel)
theorem dX5_singlePointCodes_185 : decode cX5_singlePointCodes 185 = .ok (.getfield 38, 3) := dl_o180 kcX5_singlePointCodes (by decide +kernel)
theorem dX5_singlePointCodes_188 : decode cX5_singlePointCodes 188 = .ok (.getfield 201, 3) := dl_o180 kcX5_singlePointCodes (by decide +kernel)
theorem dX5_singlePointCodes_191 : decode cX5_singlePointCodes 191 = .ok (.iconst 2, 1) := dl_o5 kcX5_singlePointCodes (by decide +kernel)
theorem dX5_singlePointCodes_192 : decode cX5_singlePointCodes 192 = .ok (.invokevirtual 439, 3) := dl_o182 kcX5_singlePointCodes (by decide +kernel)
theorem dX5_singlePointCodes_195 : decode cX5_singlePointCodes 195 = .ok (.return_, 1) := dl_o177 kcX5_singlePointCodes (by decide +kernel)
theorem dX5_singlePointCodes_196 : decode cX5_singlePointCodes 196 = .ok (.aload_n 0, 1) := dl_o42 kcX5_singlePointCodes (by decide +kernel)
theorem dX5_singlePointCodes_197 : decode cX5_singlePointCodes 197 = .ok (.aload_n 0, 1) := dl_o42 kcX5_singlePointCodes (by decide +kernel)
theorem dX5_singlePointCodes_198 : decode cX5_singlePointCodes 198 = .ok (.getfield 38, 3) := dl_o180 kcX5_singlePointCodes (by decide +kernel)
theorem dX5_singlePointCodes_201 : decode cX5_singlePointCodes 201 = .ok (.getfield 204, 3) := dl_o180 kcX5_singlePointCodes (by decide +kernel)
theorem dX5_singlePointCodes_204 : decode cX5_singlePointCodes 204 = .ok (.aload_n 0, 1) := dl_o42 kcX5_singlePointCodes (by decide +kernel)
theorem dX5_singlePointCodes_205 : decode cX5_singlePointCodes 205 = .ok (.getfield 38, 3) := dl_o180 kcX5_singlePointCodes (by decide +kernel)
theorem dX5_singlePointCodes_208 : decode cX5_singlePointCodes 208 = .ok (.getfield 198, 3) := dl_o180 kcX5_singlePointCodes (by decide +kernel)
theorem dX5_singlePointCodes_211 : decode cX5_singlePointCodes 211 = .ok (.iconst 1, 1) := dl_o4 kcX5_singlePointCodes (by decide +kernel)
theorem dX5_singlePointCodes_212 : decode cX5_singlePointCodes 212 = .ok (.invokevirtual 439, 3) := dl_o182 kcX5_singlePointCodes (by decide +kernel)
theorem dX5_singlePointCodes_215 : decode cX5_singlePointCodes 215 = .ok (.return_, 1) := dl_o177 kcX5_singlePointCodes (by decide +kernel)
theorem dX5_singlePointCodes_216 : decode cX5_singlePointCodes 216 = .ok (.aload_n 0, 1) := dl_o42 kcX5_singlePointCodes (by decide +kernel)
theorem dX5_singlePointCodes_217 : decode cX5_singlePointCodes 217 = .ok (.iload_n 1, 1) := dl_o27 kcX5_singlePointCodes (by decide +kernel)
theorem dX5_singlePointCodes_218 : decode cX5_singlePointCodes 218 = .ok (.invokevirtual 443, 3) := dl_o182 kcX5_singlePointCodes (by decide +kernel)
theorem dX5_singlePointCodes_221 : decode cX5_singlePointCodes 221 = .ok (.return_, 1) := dl_o177 kcX5_singlePointCodes (by decide +kernel)
theorem dX5_singlePointCodes_222 : decode cX5_singlePointCodes 222 = .ok (.aload_n 0, 1) := dl_o42 kcX5_singlePointCodes (by decide +kernel)
theorem dX5_singlePointCodes_223 : decode cX5_singlePointCodes 223 = .ok (.invokevirtual 446, 3) := dl_o182 kcX5_singlePointCodes (by decide +kernel)
theorem dX5_singlePointCodes_226 : decode cX5_singlePointCodes 226 = .ok (.return_, 1) := dl_o177 kcX5_singlePointCodes (by decide +kernel)
theorem dX5_singlePointCodes_227 : decode cX5_singlePointCodes 227 = .ok (.aload_n 0, 1) := dl_o42 kcX5_singlePointCodes (by decide +kernel)
theorem dX5_singlePointCodes_228 : decode cX5_singlePointCodes 228 = .ok (.iload_n 1, 1) := dl_o27 kcX5_singlePointCodes (by decide +kernel)
theorem dX5_singlePointCodes_229 : decode cX5_singlePointCodes 229 = .ok (.invokevirtual 449, 3) := dl_o182 kcX5_singlePointCodes (by decide +kernel)
theorem dX5_singlePointCodes_232 : decode cX5_singlePointCodes 232 = .ok (.return_, 1) := dl_o177 kcX5_singlePointCodes (by decide +kernel)
theorem dX5_singlePointCodes_233 : decode cX5_singlePointCodes 233 = .ok (.aload_n 0, 1) := dl_o42 kcX5_singlePointCodes (by decide +kernel)
theorem dX5_singlePointCodes_234 : decode cX5_singlePointCodes 234 = .ok (.iload_n 1, 1) := dl_o27 kcX5_singlePointCodes (by decide +kernel)
theorem dX5_singlePointCodes_235 : decode cX5_singlePointCodes 235 = .ok (.invokevirtual 452, 3) := dl_o182 kcX5_singlePointCodes (by decide +kernel)
theorem dX5_singlePointCodes_238 : decode cX5_singlePointCodes 238 = .ok (.return_, 1) := dl_o177 kcX5_singlePointCodes (by decide +kernel)
def B_X5_singlePointCodes_170 (N : Nat)  (l1 : Int32) (V : sv_V) : Option sv_V := (F_X5_touchPoint l1 V).bind (fun V1 => some V1)
set_option maxRecDepth 20000 in
theorem tB_X5_singlePointCodes_170 {g : sx_G} (hG : sx_Go g) {P : Option Value → sv_V → Prop} {Vr : sv_V} (hP : P none Vr) {N : Nat}   {l1 : Int32} {V : sv_V} (h : B_X5_singlePointCodes_170 N  l1 V = some Vr) : sv_N g qX5_singlePointCodes 3 170 [(0, .ref 69), (1, .int l1)] [] V P := by
  unfold B_X5_singlePointCodes_170 at h
  refine sx_aload_n (pc := 170) dX5_singlePointCodes_170 sx_m0 ?_
  refine sx_iload_n (pc := 171) dX5_singlePointCodes_171 sx_m1 ?_
  obtain ⟨V1, g2, h⟩ := sx_bnd h
  refine sv_cV (pc := 172) (y := qX5_touchPoint) (o := none) (as := [.int l1]) (V1 := V1) hG dX5_singlePointCodes_172 l_X5_436 y0X5_touchPoint yvX5_touchPoint rfl (Nat.le_of_ble_eq_true rfl) lay_69 kr_5 (by decide) (Nat.le_of_ble_eq_true rfl) rfl rfl rfl (t_X5_touchPoint hG ⟨rfl, rfl⟩ g2) ?_
  exact sv_vret (pc := 175) dX5_singlePointCodes_175 rfl h hP
def B_X5_singlePointCodes_216 (N : Nat)  (l1 : Int32) (V : sv_V) : Option sv_V := (F_X5_tellLong l1 V).bind (fun V3 => some V3)
set_option maxRecDepth 20000 in
theorem tB_X5_singlePointCodes_216 {g : sx_G} (hG : sx_Go g) {P : Option Value → sv_V → Prop} {Vr : sv_V} (hP : P none Vr) {N : Nat}   {l1 : Int32} {V : sv_V} (h : B_X5_singlePointCodes_216 N  l1 V = some Vr) : sv_N g qX5_singlePointCodes 3 216 [(0, .ref 69), (1, .int l1)] [] V P := by
  unfold B_X5_singlePointCodes_216 at h
  refine sx_aload_n (pc := 216) dX5_singlePointCodes_216 sx_m0 ?_
  refine sx_iload_n (pc := 217) dX5_singlePointCodes_217 sx_m1 ?_
  obtain ⟨V3, g4, h⟩ := sx_bnd h
  refine sv_cV (pc := 218) (y := qX5_tellLong) (o := none) (as := [.int l1]) (V1 := V3) hG dX5_singlePointCodes_218 l_X5_443 y0X5_tellLong yvX5_tellLong rfl (Nat.le_of_ble_eq_true rfl) lay_69 kr_5 (by decide) (Nat.le_of_ble_eq_true rfl) rfl rfl rfl (t_X5_tellLong hG ⟨rfl, rfl⟩ g4) ?_
  exact sv_vret (pc := 221) dX5_singlePointCodes_221 rfl h hP
def B_X5_singlePointCodes_227 (N : Nat)  (l1 : Int32) (V : sv_V) : Option sv_V := (F_X5_tellDistance l1 V).bind (fun V5 => some V5)
set_option maxRecDepth 20000 in
theorem tB_X5_singlePointCodes_227 {g : sx_G} (hG : sx_Go g) {P : Option Value → sv_V → Prop} {Vr : sv_V} (hP : P none Vr) {N : Nat}   {l1 : Int32} {V : sv_V} (h : B_X5_singlePointCodes_227 N  l1 V = some Vr) : sv_N g qX5_singlePointCodes 3 227 [(0, .ref 69), (1, .int l1)] [] V P := by
  unfold B_X5_singlePointCodes_227 at h
  refine sx_aload_n (pc := 227) dX5_singlePointCodes_227 sx_m0 ?_
  refine sx_iload_n (pc := 228) dX5_singlePointCodes_228 sx_m1 ?_
  obtain ⟨V5, g6, h⟩ := sx_bnd h
  refine sv_cV (pc := 229) (y := qX5_tellDistance) (o := none) (as := [.int l1]) (V1 := V5) hG dX5_singlePointCodes_229 l_X5_449 y0X5_tellDistance yvX5_tellDistance rfl (Nat.le_of_ble_eq_true rfl) lay_69 kr_5 (by decide) (Nat.le_of_ble_eq_true rfl) rfl rfl rfl (t_X5_tellDistance hG ⟨rfl, rfl⟩ g6) ?_
  exact sv_vret (pc := 232) dX5_singlePointCodes_232 rfl h hP
def B_X5_singlePointCodes_233 (N : Nat)  (l1 : Int32) (V : sv_V) : Option sv_V := (F_X5_turnRange N l1 V).bind (fun V7 => some V7)
set_option maxRecDepth 20000 in
theorem tB_X5_singlePointCodes_233 {g : sx_G} (hG : sx_Go g) {P : Option Value → sv_V → Prop} {Vr : sv_V} (hP : P none Vr) {N : Nat}   {l1 : Int32} {V : sv_V} (h : B_X5_singlePointCodes_233 N  l1 V = some Vr) : sv_N g qX5_singlePointCodes 3 233 [(0, .ref 69), (1, .int l1)] [] V P := by
  unfold B_X5_singlePointCodes_233 at h
  refine sx_aload_n (pc := 233) dX5_singlePointCodes_233 sx_m0 ?_
  refine sx_iload_n (pc := 234) dX5_singlePointCodes_234 sx_m1 ?_
  obtain ⟨V7, g8, h⟩ := sx_bnd h
  refine sv_cV (pc := 235) (y := qX5_turnRange) (o := none) (as := [.int l1]) (V1 := V7) hG dX5_singlePointCodes_235 l_X5_452 y0X5_turnRange yvX5_turnRange rfl (Nat.le_of_ble_eq_true rfl) lay_69 kr_5 (by decide) (Nat.le_of_ble_eq_true rfl) rfl rfl rfl (t_X5_turnRange hG ⟨rfl, rfl⟩ g8) ?_
  exact sv_vret (pc := 238) dX5_singlePointCodes_238 rfl h hP
def F_X5_singlePointCodes (N : Nat) (l1 : Int32) (V : sv_V) : Option sv_V := if l1 = 39 then ((F_X5_alignPoints  V).bind (fun V10 => some V10)) else (if l1 = 40 then (B_X5_singlePointCodes_233 N  l1 V) else (if l1 = 41 then ((F_X5_untouchPoint  V).bind (fun V14 => some V14)) else (if l1 = 42 then (B_X5_singlePointCodes_233 N  l1 V) else (if l1 = 43 then (B_X5_singlePointCodes_233 N  l1 V) else (if l1 = 44 then (B_X5_singlePointCodes_233 N  l1 V) else (if l1 = 45 then (B_X5_singlePointCodes_233 N  l1 V) else (if l1 = 46 then (B_X5_singlePointCodes_170 N  l1 V) else (if l1 = 47 then (B_X5_singlePointCodes_170 N  l1 V) else (if l1 = 48 then ((V.2.2 69 7).bind (fun b23 => if lay b23 = .inl 8 then (cr b23 3).bind (fun b26 => (V.2.2 69 7).bind (fun b28 => if lay b28 = .inl 8 then (cr b28 1).bind (fun b31 => (F_X5_fillUntouched N b26 b31 (2 : Int32) V).bind (fun V33 => some V33)) else none)) else none)) else (if l1 = 49 then ((V.2.2 69 7).bind (fun b36 => if lay b36 = .inl 8 then (cr b36 2).bind (fun b39 => (V.2.2 69 7).bind (fun b41 => if lay b41 = .inl 8 then (cr b41 0).bind (fun b44 => (F_X5_fillUntouched N b39 b44 (1 : Int32) V).bind (fun V46 => some V46)) else none)) else none)) else (if l1 = 50 then (B_X5_singlePointCodes_233 N  l1 V) else (if l1 = 51 then (B_X5_singlePointCodes_233 N  l1 V) else (if l1 = 52 then (B_X5_singlePointCodes_233 N  l1 V) else (if l1 = 53 then (B_X5_singlePointCodes_233 N  l1 V) else (if l1 = 54 then (B_X5_singlePointCodes_233 N  l1 V) else (if l1 = 55 then (B_X5_singlePointCodes_233 N  l1 V) else (if l1 = 56 then (B_X5_singlePointCodes_233 N  l1 V) else (if l1 = 57 then (B_X5_singlePointCodes_233 N  l1 V) else (if l1 = 58 then (B_X5_singlePointCodes_233 N  l1 V) else (if l1 = 59 then (B_X5_singlePointCodes_233 N  l1 V) else (if l1 = 60 then (B_X5_singlePointCodes_233 N  l1 V) else (if l1 = 61 then (B_X5_singlePointCodes_233 N  l1 V) else (if l1 = 62 then (B_X5_singlePointCodes_233 N  l1 V) else (if l1 = 63 then (B_X5_singlePointCodes_233 N  l1 V) else (if l1 = 64 then (B_X5_singlePointCodes_233 N  l1 V) else (if l1 = 65 then (B_X5_singlePointCodes_233 N  l1 V) else (if l1 = 66 then (B_X5_singlePointCodes_233 N  l1 V) else (if l1 = 67 then (B_X5_singlePointCodes_233 N  l1 V) else (if l1 = 68 then (B_X5_singlePointCodes_233 N  l1 V) else (if l1 = 69 then (B_X5_singlePointCodes_233 N  l1 V) else (if l1 = 70 then (B_X5_singlePointCodes_216 N  l1 V) else (if l1 = 71 then (B_X5_singlePointCodes_216 N  l1 V) else (if l1 = 72 then ((F_X5_setLong  V).bind (fun V71 => some V71)) else (if l1 = 73 then (B_X5_singlePointCodes_227 N  l1 V) else (if l1 = 74 then (B_X5_singlePointCodes_227 N  l1 V) else (B_X5_singlePointCodes_233 N  l1 V))))))))))))))))))))))))))))))))))))
set_option maxRecDepth 20000 in
theorem t_X5_singlePointCodes {g : sx_G} (hG : sx_Go g) {P : Option Value → sv_V → Prop} {Vr : sv_V} (hP : P none Vr) {N : Nat} {l1 : Int32} {V : sv_V} (h : F_X5_singlePointCodes N l1 V = some Vr) : sv_N g qX5_singlePointCodes 3 0 [(0, .ref 69), (1, .int l1)] [] V P := by
  unfold F_X5_singlePointCodes at h
  refine sx_iload_n (pc := 0) dX5_singlePointCodes_0 sx_m1 ?_
  by_cases c9 : l1 = 39
  · have h := sx_pos c9 h
    refine sx_tabI (pc := 1) (off := 159) (tgt := 160) dX5_singlePointCodes_1 (by rw [c9]; decide) (by rw [c9]; decide) (by rw [c9]; rfl) (by decide) ?_
    refine sx_aload_n (pc := 160) dX5_singlePointCodes_160 sx_m0 ?_
    obtain ⟨V10, g11, h⟩ := sx_bnd h
    refine sv_cV (pc := 161) (y := qX5_alignPoints) (o := none) (as := []) (V1 := V10) hG dX5_singlePointCodes_161 l_X5_430 y0X5_alignPoints yvX5_alignPoints rfl (Nat.le_of_ble_eq_true rfl) lay_69 kr_5 (by decide) (Nat.le_of_ble_eq_true rfl) rfl rfl rfl (t_X5_alignPoints hG ⟨rfl, rfl⟩ g11) ?_
    exact sv_vret (pc := 164) dX5_singlePointCodes_164 rfl h hP
  have h := sx_neg c9 h
  by_cases c12 : l1 = 40
  · have h := sx_pos c12 h
    refine sx_tabI (pc := 1) (off := 232) (tgt := 233) dX5_singlePointCodes_1 (by rw [c12]; decide) (by rw [c12]; decide) (by rw [c12]; rfl) (by decide) ?_
    refine sx_wk (sx_s1 sx_m0 (sx_s1 sx_m1 sx_s0)) ?_
    exact tB_X5_singlePointCodes_233 hG hP  h
  have h := sx_neg c12 h
  by_cases c13 : l1 = 41
  · have h := sx_pos c13 h
    refine sx_tabI (pc := 1) (off := 164) (tgt := 165) dX5_singlePointCodes_1 (by rw [c13]; decide) (by rw [c13]; decide) (by rw [c13]; rfl) (by decide) ?_
    refine sx_aload_n (pc := 165) dX5_singlePointCodes_165 sx_m0 ?_
    obtain ⟨V14, g15, h⟩ := sx_bnd h
    refine sv_cV (pc := 166) (y := qX5_untouchPoint) (o := none) (as := []) (V1 := V14) hG dX5_singlePointCodes_166 l_X5_433 y0X5_untouchPoint yvX5_untouchPoint rfl (Nat.le_of_ble_eq_true rfl) lay_69 kr_5 (by decide) (Nat.le_of_ble_eq_true rfl) rfl rfl rfl (t_X5_untouchPoint hG ⟨rfl, rfl⟩ g15) ?_
    exact sv_vret (pc := 169) dX5_singlePointCodes_169 rfl h hP
  have h := sx_neg c13 h
  by_cases c16 : l1 = 42
  · have h := sx_pos c16 h
    refine sx_tabI (pc := 1) (off := 232) (tgt := 233) dX5_singlePointCodes_1 (by rw [c16]; decide) (by rw [c16]; decide) (by rw [c16]; rfl) (by decide) ?_
    refine sx_wk (sx_s1 sx_m0 (sx_s1 sx_m1 sx_s0)) ?_
    exact tB_X5_singlePointCodes_233 hG hP  h
  have h := sx_neg c16 h
  by_cases c17 : l1 = 43
  · have h := sx_pos c17 h
    refine sx_tabI (pc := 1) (off := 232) (tgt := 233) dX5_singlePointCodes_1 (by rw [c17]; decide) (by rw [c17]; decide) (by rw [c17]; rfl) (by decide) ?_
    refine sx_wk (sx_s1 sx_m0 (sx_s1 sx_m1 sx_s0)) ?_
    exact tB_X5_singlePointCodes_233 hG hP  h
  have h := sx_neg c17 h
  by_cases c18 : l1 = 44
  · have h := sx_pos c18 h
    refine sx_tabI (pc := 1) (off := 232) (tgt := 233) dX5_singlePointCodes_1 (by rw [c18]; decide) (by rw [c18]; decide) (by rw [c18]; rfl) (by decide) ?_
    refine sx_wk (sx_s1 sx_m0 (sx_s1 sx_m1 sx_s0)) ?_
    exact tB_X5_singlePointCodes_233 hG hP  h
  have h := sx_neg c18 h
  by_cases c19 : l1 = 45
  · have h := sx_pos c19 h
    refine sx_tabI (pc := 1) (off := 232) (tgt := 233) dX5_singlePointCodes_1 (by rw [c19]; decide) (by rw [c19]; decide) (by rw [c19]; rfl) (by decide) ?_
    refine sx_wk (sx_s1 sx_m0 (sx_s1 sx_m1 sx_s0)) ?_
    exact tB_X5_singlePointCodes_233 hG hP  h
  have h := sx_neg c19 h
  by_cases c20 : l1 = 46
  · have h := sx_pos c20 h
    refine sx_tabI (pc := 1) (off := 169) (tgt := 170) dX5_singlePointCodes_1 (by rw [c20]; decide) (by rw [c20]; decide) (by rw [c20]; rfl) (by decide) ?_
    refine sx_wk (sx_s1 sx_m0 (sx_s1 sx_m1 sx_s0)) ?_
    exact tB_X5_singlePointCodes_170 hG hP  h
  have h := sx_neg c20 h
  by_cases c21 : l1 = 47
  · have h := sx_pos c21 h
    refine sx_tabI (pc := 1) (off := 169) (tgt := 170) dX5_singlePointCodes_1 (by rw [c21]; decide) (by rw [c21]; decide) (by rw [c21]; rfl) (by decide) ?_
    refine sx_wk (sx_s1 sx_m0 (sx_s1 sx_m1 sx_s0)) ?_
    exact tB_X5_singlePointCodes_170 hG hP  h
  have h := sx_neg c21 h
  by_cases c22 : l1 = 48
  · have h := sx_pos c22 h
    refine sx_tabI (pc := 1) (off := 175) (tgt := 176) dX5_singlePointCodes_1 (by rw [c22]; decide) (by rw [c22]; decide) (by rw [c22]; rfl) (by decide) ?_
    refine sx_aload_n (pc := 176) dX5_singlePointCodes_176 sx_m0 ?_
    refine sx_aload_n (pc := 177) dX5_singlePointCodes_177 sx_m0 ?_
    obtain ⟨b23, g24, h⟩ := sx_bnd h
    refine sv_getV (pc := 178) hG dX5_singlePointCodes_178 f_5_38 lay_69 rfl rfl g24 ?_
    obtain ⟨g25, h⟩ := sx_grd h
    obtain ⟨b26, g27, h⟩ := sx_bnd h
    refine sv_getA (pc := 181) hG dX5_singlePointCodes_181 f_5_207 g25 rfl g27 ?_
    refine sx_aload_n (pc := 184) dX5_singlePointCodes_184 sx_m0 ?_
    obtain ⟨b28, g29, h⟩ := sx_bnd h
    refine sv_getV (pc := 185) hG dX5_singlePointCodes_185 f_5_38 lay_69 rfl rfl g29 ?_
    obtain ⟨g30, h⟩ := sx_grd h
    obtain ⟨b31, g32, h⟩ := sx_bnd h
    refine sv_getA (pc := 188) hG dX5_singlePointCodes_188 f_5_201 g30 rfl g32 ?_
    refine sx_iconst (pc := 191) (v := 2) dX5_singlePointCodes_191 (by decide) ?_
    obtain ⟨V33, g34, h⟩ := sx_bnd h
    refine sv_cV (pc := 192) (y := qX5_fillUntouched) (o := none) (as := [.ref b26, .ref b31, .int (2 : Int32)]) (V1 := V33) hG dX5_singlePointCodes_192 l_X5_439 y0X5_fillUntouched yvX5_fillUntouched rfl (Nat.le_of_ble_eq_true rfl) lay_69 kr_5 (by decide) (Nat.le_of_ble_eq_true rfl) rfl rfl rfl (t_X5_fillUntouched hG ⟨rfl, rfl⟩ g34) ?_
    exact sv_vret (pc := 195) dX5_singlePointCodes_195 rfl h hP
  have h := sx_neg c22 h
  by_cases c35 : l1 = 49
  · have h := sx_pos c35 h
    refine sx_tabI (pc := 1) (off := 195) (tgt := 196) dX5_singlePointCodes_1 (by rw [c35]; decide) (by rw [c35]; decide) (by rw [c35]; rfl) (by decide) ?_
    refine sx_aload_n (pc := 196) dX5_singlePointCodes_196 sx_m0 ?_
    refine sx_aload_n (pc := 197) dX5_singlePointCodes_197 sx_m0 ?_
    obtain ⟨b36, g37, h⟩ := sx_bnd h
    refine sv_getV (pc := 198) hG dX5_singlePointCodes_198 f_5_38 lay_69 rfl rfl g37 ?_
    obtain ⟨g38, h⟩ := sx_grd h
    obtain ⟨b39, g40, h⟩ := sx_bnd h
    refine sv_getA (pc := 201) hG dX5_singlePointCodes_201 f_5_204 g38 rfl g40 ?_
    refine sx_aload_n (pc := 204) dX5_singlePointCodes_204 sx_m0 ?_
    obtain ⟨b41, g42, h⟩ := sx_bnd h
    refine sv_getV (pc := 205) hG dX5_singlePointCodes_205 f_5_38 lay_69 rfl rfl g42 ?_
    obtain ⟨g43, h⟩ := sx_grd h
    obtain ⟨b44, g45, h⟩ := sx_bnd h
    refine sv_getA (pc := 208) hG dX5_singlePointCodes_208 f_5_198 g43 rfl g45 ?_
    refine sx_iconst (pc := 211) (v := 1) dX5_singlePointCodes_211 (by decide) ?_
    obtain ⟨V46, g47, h⟩ := sx_bnd h
    refine sv_cV (pc := 212) (y := qX5_fillUntouched) (o := none) (as := [.ref b39, .ref b44, .int (1 : Int32)]) (V1 := V46) hG dX5_singlePointCodes_212 l_X5_439 y0X5_fillUntouched yvX5_fillUntouched rfl (Nat.le_of_ble_eq_true rfl) lay_69 kr_5 (by decide) (Nat.le_of_ble_eq_true rfl) rfl rfl rfl (t_X5_fillUntouched hG ⟨rfl, rfl⟩ g47) ?_
    exact sv_vret (pc := 215) dX5_singlePointCodes_215 rfl h hP
  have h := sx_neg c35 h
  by_cases c48 : l1 = 50
  · have h := sx_pos c48 h
    refine sx_tabI (pc := 1) (off := 232) (tgt := 233) dX5_singlePointCodes_1 (by rw [c48]; decide) (by rw [c48]; decide) (by rw [c48]; rfl) (by decide) ?_
    refine sx_wk (sx_s1 sx_m0 (sx_s1 sx_m1 sx_s0)) ?_
    exact tB_X5_singlePointCodes_233 hG hP  h
  have h := sx_neg c48 h
  by_cases c49 : l1 = 51
  · have h := sx_pos c49 h
    refine sx_tabI (pc := 1) (off := 232) (tgt := 233) dX5_singlePointCodes_1 (by rw [c49]; decide) (by rw [c49]; decide) (by rw [c49]; rfl) (by decide) ?_
    refine sx_wk (sx_s1 sx_m0 (sx_s1 sx_m1 sx_s0)) ?_
    exact tB_X5_singlePointCodes_233 hG hP  h
  have h := sx_neg c49 h
  by_cases c50 : l1 = 52
  · have h := sx_pos c50 h
    refine sx_tabI (pc := 1) (off := 232) (tgt := 233) dX5_singlePointCodes_1 (by rw [c50]; decide) (by rw [c50]; decide) (by rw [c50]; rfl) (by decide) ?_
    refine sx_wk (sx_s1 sx_m0 (sx_s1 sx_m1 sx_s0)) ?_
    exact tB_X5_singlePointCodes_233 hG hP  h
  have h := sx_neg c50 h
  by_cases c51 : l1 = 53
  · have h := sx_pos c51 h
    refine sx_tabI (pc := 1) (off := 232) (tgt := 233) dX5_singlePointCodes_1 (by rw [c51]; decide) (by rw [c51]; decide) (by rw [c51]; rfl) (by decide) ?_
    refine sx_wk (sx_s1 sx_m0 (sx_s1 sx_m1 sx_s0)) ?_
    exact tB_X5_singlePointCodes_233 hG hP  h
  have h := sx_neg c51 h
  by_cases c52 : l1 = 54
  · have h := sx_pos c52 h
    refine sx_tabI (pc := 1) (off := 232) (tgt := 233) dX5_singlePointCodes_1 (by rw [c52]; decide) (by rw [c52]; decide) (by rw [c52]; rfl) (by decide) ?_
    refine sx_wk (sx_s1 sx_m0 (sx_s1 sx_m1 sx_s0)) ?_
    exact tB_X5_singlePointCodes_233 hG hP  h
  have h := sx_neg c52 h
  by_cases c53 : l1 = 55
  · have h := sx_pos c53 h
    refine sx_tabI (pc := 1) (off := 232) (tgt := 233) dX5_singlePointCodes_1 (by rw [c53]; decide) (by rw [c53]; decide) (by rw [c53]; rfl) (by decide) ?_
    refine sx_wk (sx_s1 sx_m0 (sx_s1 sx_m1 sx_s0)) ?_
    exact tB_X5_singlePointCodes_233 hG hP  h
  have h := sx_neg c53 h
  by_cases c54 : l1 = 56
  · have h := sx_pos c54 h
    refine sx_tabI (pc := 1) (off := 232) (tgt := 233) dX5_singlePointCodes_1 (by rw [c54]; decide) (by rw [c54]; decide) (by rw [c54]; rfl) (by decide) ?_
    refine sx_wk (sx_s1 sx_m0 (sx_s1 sx_m1 sx_s0)) ?_
    exact tB_X5_singlePointCodes_233 hG hP  h
  have h := sx_neg c54 h
  by_cases c55 : l1 = 57
  · have h := sx_pos c55 h
    refine sx_tabI (pc := 1) (off := 232) (tgt := 233) dX5_singlePointCodes_1 (by rw [c55]; decide) (by rw [c55]; decide) (by rw [c55]; rfl) (by decide) ?_
    refine sx_wk (sx_s1 sx_m0 (sx_s1 sx_m1 sx_s0)) ?_
    exact tB_X5_singlePointCodes_233 hG hP  h
  have h := sx_neg c55 h
  by_cases c56 : l1 = 58
  · have h := sx_pos c56 h
    refine sx_tabI (pc := 1) (off := 232) (tgt := 233) dX5_singlePointCodes_1 (by rw [c56]; decide) (by rw [c56]; decide) (by rw [c56]; rfl) (by decide) ?_
    refine sx_wk (sx_s1 sx_m0 (sx_s1 sx_m1 sx_s0)) ?_
    exact tB_X5_singlePointCodes_233 hG hP  h
  have h := sx_neg c56 h
  by_cases c57 : l1 = 59
  · have h := sx_pos c57 h
    refine sx_tabI (pc := 1) (off := 232) (tgt := 233) dX5_singlePointCodes_1 (by rw [c57]; decide) (by rw [c57]; decide) (by rw [c57]; rfl) (by decide) ?_
    refine sx_wk (sx_s1 sx_m0 (sx_s1 sx_m1 sx_s0)) ?_
    exact tB_X5_singlePointCodes_233 hG hP  h
  have h := sx_neg c57 h
  by_cases c58 : l1 = 60
  · have h := sx_pos c58 h
    refine sx_tabI (pc := 1) (off := 232) (tgt := 233) dX5_singlePointCodes_1 (by rw [c58]; decide) (by rw [c58]; decide) (by rw [c58]; rfl) (by decide) ?_
    refine sx_wk (sx_s1 sx_m0 (sx_s1 sx_m1 sx_s0)) ?_
    exact tB_X5_singlePointCodes_233 hG hP  h
  have h := sx_neg c58 h
  by_cases c59 : l1 = 61
  · have h := sx_pos c59 h
    refine sx_tabI (pc := 1) (off := 232) (tgt := 233) dX5_singlePointCodes_1 (by rw [c59]; decide) (by rw [c59]; decide) (by rw [c59]; rfl) (by decide) ?_
    refine sx_wk (sx_s1 sx_m0 (sx_s1 sx_m1 sx_s0)) ?_
    exact tB_X5_singlePointCodes_233 hG hP  h
  have h := sx_neg c59 h
  by_cases c60 : l1 = 62
  · have h := sx_pos c60 h
    refine sx_tabI (pc := 1) (off := 232) (tgt := 233) dX5_singlePointCodes_1 (by rw [c60]; decide) (by rw [c60]; decide) (by rw [c60]; rfl) (by decide) ?_
    refine sx_wk (sx_s1 sx_m0 (sx_s1 sx_m1 sx_s0)) ?_
    exact tB_X5_singlePointCodes_233 hG hP  h
  have h := sx_neg c60 h
  by_cases c61 : l1 = 63
  · have h := sx_pos c61 h
    refine sx_tabI (pc := 1) (off := 232) (tgt := 233) dX5_singlePointCodes_1 (by rw [c61]; decide) (by rw [c61]; decide) (by rw [c61]; rfl) (by decide) ?_
    refine sx_wk (sx_s1 sx_m0 (sx_s1 sx_m1 sx_s0)) ?_
    exact tB_X5_singlePointCodes_233 hG hP  h
  have h := sx_neg c61 h
  by_cases c62 : l1 = 64
  · have h := sx_pos c62 h
    refine sx_tabI (pc := 1) (off := 232) (tgt := 233) dX5_singlePointCodes_1 (by rw [c62]; decide) (by rw [c62]; decide) (by rw [c62]; rfl) (by decide) ?_
    refine sx_wk (sx_s1 sx_m0 (sx_s1 sx_m1 sx_s0)) ?_
    exact tB_X5_singlePointCodes_233 hG hP  h
  have h := sx_neg c62 h
  by_cases c63 : l1 = 65
  · have h := sx_pos c63 h
    refine sx_tabI (pc := 1) (off := 232) (tgt := 233) dX5_singlePointCodes_1 (by rw [c63]; decide) (by rw [c63]; decide) (by rw [c63]; rfl) (by decide) ?_
    refine sx_wk (sx_s1 sx_m0 (sx_s1 sx_m1 sx_s0)) ?_
    exact tB_X5_singlePointCodes_233 hG hP  h
  have h := sx_neg c63 h
  by_cases c64 : l1 = 66
  · have h := sx_pos c64 h
    refine sx_tabI (pc := 1) (off := 232) (tgt := 233) dX5_singlePointCodes_1 (by rw [c64]; decide) (by rw [c64]; decide) (by rw [c64]; rfl) (by decide) ?_
    refine sx_wk (sx_s1 sx_m0 (sx_s1 sx_m1 sx_s0)) ?_
    exact tB_X5_singlePointCodes_233 hG hP  h
  have h := sx_neg c64 h
  by_cases c65 : l1 = 67
  · have h := sx_pos c65 h
    refine sx_tabI (pc := 1) (off := 232) (tgt := 233) dX5_singlePointCodes_1 (by rw [c65]; decide) (by rw [c65]; decide) (by rw [c65]; rfl) (by decide) ?_
    refine sx_wk (sx_s1 sx_m0 (sx_s1 sx_m1 sx_s0)) ?_
    exact tB_X5_singlePointCodes_233 hG hP  h
  have h := sx_neg c65 h
  by_cases c66 : l1 = 68
  · have h := sx_pos c66 h
    refine sx_tabI (pc := 1) (off := 232) (tgt := 233) dX5_singlePointCodes_1 (by rw [c66]; decide) (by rw [c66]; decide) (by rw [c66]; rfl) (by decide) ?_
    refine sx_wk (sx_s1 sx_m0 (sx_s1 sx_m1 sx_s0)) ?_
    exact tB_X5_singlePointCodes_233 hG hP  h
  have h := sx_neg c66 h
  by_cases c67 : l1 = 69
  · have h := sx_pos c67 h
    refine sx_tabI (pc := 1) (off := 232) (tgt := 233) dX5_singlePointCodes_1 (by rw [c67]; decide) (by rw [c67]; decide) (by rw [c67]; rfl) (by decide) ?_
    refine sx_wk (sx_s1 sx_m0 (sx_s1 sx_m1 sx_s0)) ?_
    exact tB_X5_singlePointCodes_233 hG hP  h
  have h := sx_neg c67 h
  by_cases c68 : l1 = 70
  · have h := sx_pos c68 h
    refine sx_tabI (pc := 1) (off := 215) (tgt := 216) dX5_singlePointCodes_1 (by rw [c68]; decide) (by rw [c68]; decide) (by rw [c68]; rfl) (by decide) ?_
    refine sx_wk (sx_s1 sx_m0 (sx_s1 sx_m1 sx_s0)) ?_
    exact tB_X5_singlePointCodes_216 hG hP  h
  have h := sx_neg c68 h
  by_cases c69 : l1 = 71
  · have h := sx_pos c69 h
    refine sx_tabI (pc := 1) (off := 215) (tgt := 216) dX5_singlePointCodes_1 (by rw [c69]; decide) (by rw [c69]; decide) (by rw [c69]; rfl) (by decide) ?_
    refine sx_wk (sx_s1 sx_m0 (sx_s1 sx_m1 sx_s0)) ?_
    exact tB_X5_singlePointCodes_216 hG hP  h
  have h := sx_neg c69 h
  by_cases c70 : l1 = 72
  · have h := sx_pos c70 h
    refine sx_tabI (pc := 1) (off := 221) (tgt := 222) dX5_singlePointCodes_1 (by rw [c70]; decide) (by rw [c70]; decide) (by rw [c70]; rfl) (by decide) ?_
    refine sx_aload_n (pc := 222) dX5_singlePointCodes_222 sx_m0 ?_
    obtain ⟨V71, g72, h⟩ := sx_bnd h
    refine sv_cV (pc := 223) (y := qX5_setLong) (o := none) (as := []) (V1 := V71) hG dX5_singlePointCodes_223 l_X5_446 y0X5_setLong yvX5_setLong rfl (Nat.le_of_ble_eq_true rfl) lay_69 kr_5 (by decide) (Nat.le_of_ble_eq_true rfl) rfl rfl rfl (t_X5_setLong hG ⟨rfl, rfl⟩ g72) ?_
    exact sv_vret (pc := 226) dX5_singlePointCodes_226 rfl h hP
  have h := sx_neg c70 h
  by_cases c73 : l1 = 73
  · have h := sx_pos c73 h
    refine sx_tabI (pc := 1) (off := 226) (tgt := 227) dX5_singlePointCodes_1 (by rw [c73]; decide) (by rw [c73]; decide) (by rw [c73]; rfl) (by decide) ?_
    refine sx_wk (sx_s1 sx_m0 (sx_s1 sx_m1 sx_s0)) ?_
    exact tB_X5_singlePointCodes_227 hG hP  h
  have h := sx_neg c73 h
  by_cases c74 : l1 = 74
  · have h := sx_pos c74 h
    refine sx_tabI (pc := 1) (off := 226) (tgt := 227) dX5_singlePointCodes_1 (by rw [c74]; decide) (by rw [c74]; decide) (by rw [c74]; rfl) (by decide) ?_
    refine sx_wk (sx_s1 sx_m0 (sx_s1 sx_m1 sx_s0)) ?_
    exact tB_X5_singlePointCodes_227 hG hP  h
  have h := sx_neg c74 h
  refine sx_tabO (pc := 1) (tgt := 233) dX5_singlePointCodes_1 (by have ec9 := lv_neT (a := 39) c9 rfl; have ec12 := lv_neT (a := 40) c12 rfl; have ec13 := lv_neT (a := 41) c13 rfl; have ec16 := lv_neT (a := 42) c16 rfl; have ec17 := lv_neT (a := 43) c17 rfl; have ec18 := lv_neT (a := 44) c18 rfl; have ec19 := lv_neT (a := 45) c19 rfl; have ec20 := lv_neT (a := 46) c20 rfl; have ec21 := lv_neT (a := 47) c21 rfl; have ec22 := lv_neT (a := 48) c22 rfl; have ec35 := lv_neT (a := 49) c35 rfl; have ec48 := lv_neT (a := 50) c48 rfl; have ec49 := lv_neT (a := 51) c49 rfl; have ec50 := lv_neT (a := 52) c50 rfl; have ec51 := lv_neT (a := 53) c51 rfl; have ec52 := lv_neT (a := 54) c52 rfl; have ec53 := lv_neT (a := 55) c53 rfl; have ec54 := lv_neT (a := 56) c54 rfl; have ec55 := lv_neT (a := 57) c55 rfl; have ec56 := lv_neT (a := 58) c56 rfl; have ec57 := lv_neT (a := 59) c57 rfl; have ec58 := lv_neT (a := 60) c58 rfl; have ec59 := lv_neT (a := 61) c59 rfl; have ec60 := lv_neT (a := 62) c60 rfl; have ec61 := lv_neT (a := 63) c61 rfl; have ec62 := lv_neT (a := 64) c62 rfl; have ec63 := lv_neT (a := 65) c63 rfl; have ec64 := lv_neT (a := 66) c64 rfl; have ec65 := lv_neT (a := 67) c65 rfl; have ec66 := lv_neT (a := 68) c66 rfl; have ec67 := lv_neT (a := 69) c67 rfl; have ec68 := lv_neT (a := 70) c68 rfl; have ec69 := lv_neT (a := 71) c69 rfl; have ec70 := lv_neT (a := 72) c70 rfl; have ec73 := lv_neT (a := 73) c73 rfl; have ec74 := lv_neT (a := 74) c74 rfl; omega) (by decide) ?_
  refine sx_wk (sx_s1 sx_m0 (sx_s1 sx_m1 sx_s0)) ?_
  exact tB_X5_singlePointCodes_233 hG hP  h
end
