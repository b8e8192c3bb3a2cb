/-! methods: X12_followAll, X12_likeReference, X12_inBetween, X12_toDistance, X12_toCvt, X12_settle, X12_relative -/
theorem dX12_followAll_0 : decode cX12_followAll 0 = .ok (.iconst 0, 1) := by decide +kernel
theorem dX12_followAll_1 : decode cX12_followAll 1 = .ok (.istore 4, 2) := by decide +kernel
theorem dX12_followAll_3 : decode cX12_followAll 3 = .ok (.iconst 0, 1) := by decide +kernel
theorem dX12_followAll_4 : decode cX12_followAll 4 = .ok (.istore 5, 2) := by decide +kernel
theorem dX12_followAll_6 : decode cX12_followAll 6 = .ok (.iload 5, 2) := by decide +kernel
theorem dX12_followAll_8 : decode cX12_followAll 8 = .ok (.aload_n 0, 1) := by decide +kernel
theorem dX12_followAll_9 : decode cX12_followAll 9 = .ok (.getfield 706, 3) := by decide +kernel
theorem dX12_followAll_12 : decode cX12_followAll 12 = .ok (.if_icmp .ge 200, 3) := by decide +kernel
theorem dX12_followAll_15 : decode cX12_followAll 15 = .ok (.aload_n 0, 1) := by decide +kernel
theorem dX12_followAll_16 : decode cX12_followAll 16 = .ok (.getfield 88, 3) := by decide +kernel
theorem dX12_followAll_19 : decode cX12_followAll 19 = .ok (.iload 5, 2) := by decide +kernel
theorem dX12_followAll_21 : decode cX12_followAll 21 = .ok (.iaload, 1) := by decide +kernel
theorem dX12_followAll_22 : decode cX12_followAll 22 = .ok (.istore 6, 2) := by decide +kernel
theorem dX12_followAll_24 : decode cX12_followAll 24 = .ok (.iconst 0, 1) := by decide +kernel
theorem dX12_followAll_25 : decode cX12_followAll 25 = .ok (.istore 7, 2) := by decide +kernel
theorem dX12_followAll_27 : decode cX12_followAll 27 = .ok (.iload 4, 2) := by decide +kernel
theorem dX12_followAll_29 : decode cX12_followAll 29 = .ok (.istore 8, 2) := by decide +kernel
theorem dX12_followAll_31 : decode cX12_followAll 31 = .ok (.iload 8, 2) := by decide +kernel
theorem dX12_followAll_33 : decode cX12_followAll 33 = .ok (.iload 6, 2) := by decide +kernel
theorem dX12_followAll_35 : decode cX12_followAll 35 = .ok (.if_icmp .gt 34, 3) := by decide +kernel
theorem dX12_followAll_38 : decode cX12_followAll 38 = .ok (.iload 7, 2) := by decide +kernel
theorem dX12_followAll_40 : decode cX12_followAll 40 = .ok (.aload_n 0, 1) := by decide +kernel
theorem dX12_followAll_41 : decode cX12_followAll 41 = .ok (.getfield 82, 3) := by decide +kernel
theorem dX12_followAll_44 : decode cX12_followAll 44 = .ok (.bipush 102, 2) := by decide +kernel
theorem dX12_followAll_46 : decode cX12_followAll 46 = .ok (.iload 8, 2) := by decide +kernel
theorem dX12_followAll_48 : decode cX12_followAll 48 = .ok (.iadd, 1) := by decide +kernel
theorem dX12_followAll_49 : decode cX12_followAll 49 = .ok (.iaload, 1) := by decide +kernel
theorem dX12_followAll_50 : decode cX12_followAll 50 = .ok (.iload_n 3, 1) := by decide +kernel
theorem dX12_followAll_51 : decode cX12_followAll 51 = .ok (.iand, 1) := by decide +kernel
theorem dX12_followAll_52 : decode cX12_followAll 52 = .ok (.ifCond .eq 7, 3) := by decide +kernel
theorem dX12_followAll_55 : decode cX12_followAll 55 = .ok (.iconst 1, 1) := by decide +kernel
theorem dX12_followAll_56 : decode cX12_followAll 56 = .ok (.goto 4, 3) := by decide +kernel
theorem dX12_followAll_59 : decode cX12_followAll 59 = .ok (.iconst 0, 1) := by decide +kernel
theorem dX12_followAll_60 : decode cX12_followAll 60 = .ok (.iadd, 1) := by decide +kernel
theorem dX12_followAll_61 : decode cX12_followAll 61 = .ok (.istore 7, 2) := by decide +kernel
theorem dX12_followAll_63 : decode cX12_followAll 63 = .ok (.iinc 8 1, 3) := by decide +kernel
theorem dX12_followAll_66 : decode cX12_followAll 66 = .ok (.goto (-35), 3) := by decide +kernel
theorem dX12_followAll_69 : decode cX12_followAll 69 = .ok (.iload 4, 2) := by decide +kernel
theorem dX12_followAll_71 : decode cX12_followAll 71 = .ok (.istore 8, 2) := by decide +kernel
theorem dX12_followAll_73 : decode cX12_followAll 73 = .ok (.iload 8, 2) := by decide +kernel
theorem dX12_followAll_75 : decode cX12_followAll 75 = .ok (.iload 6, 2) := by decide +kernel
theorem dX12_followAll_77 : decode cX12_followAll 77 = .ok (.if_icmp .gt 123, 3) := by decide +kernel
theorem dX12_followAll_80 : decode cX12_followAll 80 = .ok (.iload 7, 2) := by decide +kernel
theorem dX12_followAll_82 : decode cX12_followAll 82 = .ok (.ifCond .le 118, 3) := by decide +kernel
theorem dX12_followAll_85 : decode cX12_followAll 85 = .ok (.aload_n 0, 1) := by decide +kernel
theorem dX12_followAll_86 : decode cX12_followAll 86 = .ok (.getfield 82, 3) := by decide +kernel
theorem dX12_followAll_89 : decode cX12_followAll 89 = .ok (.bipush 102, 2) := by decide +kernel
theorem dX12_followAll_91 : decode cX12_followAll 91 = .ok (.iload 8, 2) := by decide +kernel
theorem dX12_followAll_93 : decode cX12_followAll 93 = .ok (.iadd, 1) := by decide +kernel
theorem dX12_followAll_94 : decode cX12_followAll 94 = .ok (.iaload, 1) := by decide +kernel
theorem dX12_followAll_95 : decode cX12_followAll 95 = .ok (.iload_n 3, 1) := by decide +kernel
theorem dX12_followAll_96 : decode cX12_followAll 96 = .ok (.iand, 1) := by decide +kernel
theorem dX12_followAll_97 : decode cX12_followAll 97 = .ok (.ifCond .ne 97, 3) := by decide +kernel
theorem dX12_followAll_100 : decode cX12_followAll 100 = .ok (.iload 8, 2) := by decide +kernel
theorem dX12_followAll_102 : decode cX12_followAll 102 = .ok (.istore 9, 2) := by decide +kernel
theorem dX12_followAll_104 : decode cX12_followAll 104 = .ok (.iload 8, 2) := by decide +kernel
theorem dX12_followAll_106 : decode cX12_followAll 106 = .ok (.istore 10, 2) := by decide +kernel
theorem dX12_followAll_108 : decode cX12_followAll 108 = .ok (.iload 9, 2) := by decide +kernel
theorem dX12_followAll_110 : decode cX12_followAll 110 = .ok (.iload 4, 2) := by decide +kernel
theorem dX12_followAll_112 : decode cX12_followAll 112 = .ok (.if_icmp .ne 8, 3) := by decide +kernel
theorem dX12_followAll_115 : decode cX12_followAll 115 = .ok (.iload 6, 2) := by decide +kernel
theorem dX12_followAll_117 : decode cX12_followAll 117 = .ok (.goto 7, 3) := by decide +kernel
theorem dX12_followAll_120 : decode cX12_followAll 120 = .ok (.iload 9, 2) := by decide +kernel
theorem dX12_followAll_122 : decode cX12_followAll 122 = .ok (.iconst 1, 1) := by decide +kernel
theorem dX12_followAll_123 : decode cX12_followAll 123 = .ok (.isub, 1) := by decide +kernel
theorem dX12_followAll_124 : decode cX12_followAll 124 = .ok (.istore 9, 2) := by decide +kernel
theorem dX12_followAll_126 : decode cX12_followAll 126 = .ok (.aload_n 0, 1) := by decide +kernel
theorem dX12_followAll_127 : decode cX12_followAll 127 = .ok (.getfield 82, 3) := by decide +kernel
theorem dX12_followAll_130 : decode cX12_followAll 130 = .ok (.bipush 102, 2) := by decide +kernel
theorem dX12_followAll_132 : decode cX12_followAll 132 = .ok (.iload 9, 2) := by decide +kernel
theorem dX12_followAll_134 : decode cX12_followAll 134 = .ok (.iadd, 1) := by decide +kernel
theorem dX12_followAll_135 : decode cX12_followAll 135 = .ok (.iaload, 1) := by decide +kernel
theorem dX12_followAll_136 : decode cX12_followAll 136 = .ok (.iload_n 3, 1) := by decide +kernel
theorem dX12_followAll_137 : decode cX12_followAll 137 = .ok (.iand, 1) := by decide +kernel
theorem dX12_followAll_138 : decode cX12_followAll 138 = .ok (.ifCond .eq (-30), 3) := by decide +kernel
theorem dX12_followAll_141 : decode cX12_followAll 141 = .ok (.iload 10, 2) := by decide +kernel
theorem dX12_followAll_143 : decode cX12_followAll 143 = .ok (.iload 6, 2) := by decide +kernel
theorem dX12_followAll_145 : decode cX12_followAll 145 = .ok (.if_icmp .ne 8, 3) := by decide +kernel
theorem dX12_followAll_148 : decode cX12_followAll 148 = .ok (.iload 4, 2) := by decide +kernel
theorem dX12_followAll_150 : decode cX12_followAll 150 = .ok (.goto 7, 3) := by decide +kernel
theorem dX12_followAll_153 : decode cX12_followAll 153 = .ok (.iload 10, 2) := by decide +kernel
theorem dX12_followAll_155 : decode cX12_followAll 155 = .ok (.iconst 1, 1) := by decide +kernel
theorem dX12_followAll_156 : decode cX12_followAll 156 = .ok (.iadd, 1) := by decide +kernel
theorem dX12_followAll_157 : decode cX12_followAll 157 = .ok (.istore 10, 2) := by decide +kernel
theorem dX12_followAll_159 : decode cX12_followAll 159 = .ok (.aload_n 0, 1) := by decide +kernel
theorem dX12_followAll_160 : decode cX12_followAll 160 = .ok (.getfield 82, 3) := by decide +kernel
theorem dX12_followAll_163 : decode cX12_followAll 163 = .ok (.bipush 102, 2) := by decide +kernel
theorem dX12_followAll_165 : decode cX12_followAll 165 = .ok (.iload 10, 2) := by decide +kernel
theorem dX12_followAll_167 : decode cX12_followAll 167 = .ok (.iadd, 1) := by decide +kernel
theorem dX12_followAll_168 : decode cX12_followAll 168 = .ok (.iaload, 1) := by decide +kernel
theorem dX12_followAll_169 : decode cX12_followAll 169 = .ok (.iload_n 3, 1) := by decide +kernel
theorem dX12_followAll_170 : decode cX12_followAll 170 = .ok (.iand, 1) := by decide +kernel
theorem dX12_followAll_171 : decode cX12_followAll 171 = .ok (.ifCond .eq (-30), 3) := by decide +kernel
theorem dX12_followAll_174 : decode cX12_followAll 174 = .ok (.aload_n 1, 1) := by decide +kernel
theorem dX12_followAll_175 : decode cX12_followAll 175 = .ok (.aload_n 2, 1) := by decide +kernel
theorem dX12_followAll_176 : decode cX12_followAll 176 = .ok (.bipush 102, 2) := by decide +kernel
theorem dX12_followAll_178 : decode cX12_followAll 178 = .ok (.iload 8, 2) := by decide +kernel
theorem dX12_followAll_180 : decode cX12_followAll 180 = .ok (.iadd, 1) := by decide +kernel
theorem dX12_followAll_181 : decode cX12_followAll 181 = .ok (.bipush 102, 2) := by decide +kernel
theorem dX12_followAll_183 : decode cX12_followAll 183 = .ok (.iload 9, 2) := by decide +kernel
theorem dX12_followAll_185 : decode cX12_followAll 185 = .ok (.iadd, 1) := by decide +kernel
theorem dX12_followAll_186 : decode cX12_followAll 186 = .ok (.bipush 102, 2) := by decide +kernel
theorem dX12_followAll_188 : decode cX12_followAll 188 = .ok (.iload 10, 2) := by decide +kernel
theorem dX12_followAll_190 : decode cX12_followAll 190 = .ok (.iadd, 1) := by decide +kernel
theorem dX12_followAll_191 : decode cX12_followAll 191 = .ok (.invokestatic 709, 3) := by decide +kernel
theorem dX12_followAll_194 : decode cX12_followAll 194 = .ok (.iinc 8 1, 3) := by decide +kernel
theorem dX12_followAll_197 : decode cX12_followAll 197 = .ok (.goto (-124), 3) := by decide +kernel
theorem dX12_followAll_200 : decode cX12_followAll 200 = .ok (.iload 6, 2) := by decide +kernel
theorem dX12_followAll_202 : decode cX12_followAll 202 = .ok (.iconst 1, 1) := by decide +kernel
theorem dX12_followAll_203 : decode cX12_followAll 203 = .ok (.iadd, 1) := by decide +kernel
theorem dX12_followAll_204 : decode cX12_followAll 204 = .ok (.istore 4, 2) := by decide +kernel
theorem dX12_followAll_206 : decode cX12_followAll 206 = .ok (.iinc 5 1, 3) := by decide +kernel
theorem dX12_followAll_209 : decode cX12_followAll 209 = .ok (.goto (-203), 3) := by decide +kernel
theorem dX12_followAll_212 : decode cX12_followAll 212 = .ok (.return_, 1) := by decide +kernel
def B_X12_followAll_60 (N : Nat) (k6 : Nat → Nat → Int32 → Int32 → Int32 → sv_V → Option sv_V) (k31 : Nat → Nat → Int32 → Int32 → Int32 → Int32 → Int32 → Int32 → sv_V → Option sv_V) (l1 : Nat) (l2 : Nat) (l3 : Int32) (l4 : Int32) (l5 : Int32) (l6 : Int32) (l8 : Int32) (s0 : Int32) (s1 : Int32) (V : sv_V) : Option sv_V := sx_let (s0 + s1) (fun x1 => sx_let (l8 + 1) (fun x2 => k31 l1 l2 l3 l4 l5 l6 x1 x2 V))
set_option maxRecDepth 20000 in
theorem tB_X12_followAll_60 {g : sx_G} (hG : sx_Go g) {P : Option Value → sv_V → Prop} {Vr : sv_V} (hP : P none Vr) {N : Nat} {k6 : Nat → Nat → Int32 → Int32 → Int32 → sv_V → Option sv_V} {k31 : Nat → Nat → Int32 → Int32 → Int32 → Int32 → Int32 → Int32 → sv_V → Option sv_V} (hk6 : ∀ (l1 : Nat) (l2 : Nat) (l3 : Int32) (l4 : Int32) (l5 : Int32) (V : sv_V), k6 l1 l2 l3 l4 l5 V = some Vr → sv_N g qX12_followAll 3 6 [(0, .ref 146), (1, .ref l1), (2, .ref l2), (3, .int l3), (4, .int l4), (5, .int l5)] [] V P) (hk31 : ∀ (l1 : Nat) (l2 : Nat) (l3 : Int32) (l4 : Int32) (l5 : Int32) (l6 : Int32) (l7 : Int32) (l8 : Int32) (V : sv_V), k31 l1 l2 l3 l4 l5 l6 l7 l8 V = some Vr → sv_N g qX12_followAll 3 31 [(0, .ref 146), (1, .ref l1), (2, .ref l2), (3, .int l3), (4, .int l4), (5, .int l5), (6, .int l6), (7, .int l7), (8, .int l8)] [] V P) {l1 : Nat} {l2 : Nat} {l3 : Int32} {l4 : Int32} {l5 : Int32} {l6 : Int32} {l8 : Int32} {s0 : Int32} {s1 : Int32} {V : sv_V} (h : B_X12_followAll_60 N k6 k31 l1 l2 l3 l4 l5 l6 l8 s0 s1 V = some Vr) : sv_N g qX12_followAll 3 60 [(0, .ref 146), (1, .ref l1), (2, .ref l2), (3, .int l3), (4, .int l4), (5, .int l5), (6, .int l6), (8, .int l8)] [.int s1, .int s0] V P := by
  unfold B_X12_followAll_60 at h
  refine sx_iadd (pc := 60) dX12_followAll_60 ?_
  refine sv_tI (fun x1 hx1 => ?_)
  have h := sx_letE hx1 h
  refine sx_istore (pc := 61) (lo' := [(7, .int x1), (0, .ref 146), (1, .ref l1), (2, .ref l2), (3, .int l3), (4, .int l4), (5, .int l5), (6, .int l6), (8, .int l8)]) dX12_followAll_61 (by decide) rfl ?_
  obtain ⟨x2, hx2⟩ : ∃ z : Int32, z = l8 + 1 := ⟨_, rfl⟩
  have h := sx_letE hx2 h
  refine sx_iinc (pc := 63) (v := x2) (lo' := [(8, .int x2), (7, .int x1), (0, .ref 146), (1, .ref l1), (2, .ref l2), (3, .int l3), (4, .int l4), (5, .int l5), (6, .int l6)]) dX12_followAll_63 sx_m8 (by rw [hx2]; rfl) (by decide) rfl ?_
  refine sx_goto (pc := 66) (tgt := 31) dX12_followAll_66 (by decide) ?_
  refine sx_wk (sx_s1 sx_m2 (sx_s1 sx_m3 (sx_s1 sx_m4 (sx_s1 sx_m5 (sx_s1 sx_m6 (sx_s1 sx_m7 (sx_s1 sx_m8 (sx_s1 sx_m1 (sx_s1 sx_m0 sx_s0))))))))) ?_
  exact hk31 _ _ _ _ _ _ _ _ _ h
def B_X12_followAll_194 (N : Nat) (k6 : Nat → Nat → Int32 → Int32 → Int32 → sv_V → Option sv_V) (k73 : Nat → Nat → Int32 → Int32 → Int32 → Int32 → Int32 → Int32 → sv_V → Option sv_V) (l1 : Nat) (l2 : Nat) (l3 : Int32) (l4 : Int32) (l5 : Int32) (l6 : Int32) (l7 : Int32) (l8 : Int32) (V : sv_V) : Option sv_V := sx_let (l8 + 1) (fun x3 => k73 l1 l2 l3 l4 l5 l6 l7 x3 V)
set_option maxRecDepth 20000 in
theorem tB_X12_followAll_194 {g : sx_G} (hG : sx_Go g) {P : Option Value → sv_V → Prop} {Vr : sv_V} (hP : P none Vr) {N : Nat} {k6 : Nat → Nat → Int32 → Int32 → Int32 → sv_V → Option sv_V} {k73 : Nat → Nat → Int32 → Int32 → Int32 → Int32 → Int32 → Int32 → sv_V → Option sv_V} (hk6 : ∀ (l1 : Nat) (l2 : Nat) (l3 : Int32) (l4 : Int32) (l5 : Int32) (V : sv_V), k6 l1 l2 l3 l4 l5 V = some Vr → sv_N g qX12_followAll 3 6 [(0, .ref 146), (1, .ref l1), (2, .ref l2), (3, .int l3), (4, .int l4), (5, .int l5)] [] V P) (hk73 : ∀ (l1 : Nat) (l2 : Nat) (l3 : Int32) (l4 : Int32) (l5 : Int32) (l6 : Int32) (l7 : Int32) (l8 : Int32) (V : sv_V), k73 l1 l2 l3 l4 l5 l6 l7 l8 V = some Vr → sv_N g qX12_followAll 3 73 [(0, .ref 146), (1, .ref l1), (2, .ref l2), (3, .int l3), (4, .int l4), (5, .int l5), (6, .int l6), (7, .int l7), (8, .int l8)] [] V P) {l1 : Nat} {l2 : Nat} {l3 : Int32} {l4 : Int32} {l5 : Int32} {l6 : Int32} {l7 : Int32} {l8 : Int32} {V : sv_V} (h : B_X12_followAll_194 N k6 k73 l1 l2 l3 l4 l5 l6 l7 l8 V = some Vr) : sv_N g qX12_followAll 3 194 [(0, .ref 146), (1, .ref l1), (2, .ref l2), (3, .int l3), (4, .int l4), (5, .int l5), (6, .int l6), (7, .int l7), (8, .int l8)] [] V P := by
  unfold B_X12_followAll_194 at h
  obtain ⟨x3, hx3⟩ : ∃ z : Int32, z = l8 + 1 := ⟨_, rfl⟩
  have h := sx_letE hx3 h
  refine sx_iinc (pc := 194) (v := x3) (lo' := [(8, .int x3), (0, .ref 146), (1, .ref l1), (2, .ref l2), (3, .int l3), (4, .int l4), (5, .int l5), (6, .int l6), (7, .int l7)]) dX12_followAll_194 sx_m8 (by rw [hx3]; rfl) (by decide) rfl ?_
  refine sx_goto (pc := 197) (tgt := 73) dX12_followAll_197 (by decide) ?_
  refine sx_wk (sx_s1 sx_m1 (sx_s1 sx_m2 (sx_s1 sx_m3 (sx_s1 sx_m4 (sx_s1 sx_m5 (sx_s1 sx_m6 (sx_s1 sx_m7 (sx_s1 sx_m8 (sx_s1 sx_m0 sx_s0))))))))) ?_
  exact hk73 _ _ _ _ _ _ _ _ _ h
def B_X12_followAll_157 (N : Nat) (k6 : Nat → Nat → Int32 → Int32 → Int32 → sv_V → Option sv_V) (k73 : Nat → Nat → Int32 → Int32 → Int32 → Int32 → Int32 → Int32 → sv_V → Option sv_V) (k141 : Nat → Nat → Int32 → Int32 → Int32 → Int32 → Int32 → Int32 → Int32 → Int32 → sv_V → Option sv_V) (l1 : Nat) (l2 : Nat) (l3 : Int32) (l4 : Int32) (l5 : Int32) (l6 : Int32) (l7 : Int32) (l8 : Int32) (l9 : Int32) (s0 : Int32) (V : sv_V) : Option sv_V := if sx_in ((102 : Int32) + s0) 204 = true then if ((V.1 170 ((102 : Int32) + s0).toNatClampNeg) &&& l3) = 0 then (k141 l1 l2 l3 l4 l5 l6 l7 l8 l9 s0 V) else ((F_X12_follow l1 l2 ((102 : Int32) + l8) ((102 : Int32) + l9) ((102 : Int32) + s0) V).bind (fun V6 => B_X12_followAll_194 N k6 k73 l1 l2 l3 l4 l5 l6 l7 l8 V6)) else none
set_option maxRecDepth 20000 in
theorem tB_X12_followAll_157 {g : sx_G} (hG : sx_Go g) {P : Option Value → sv_V → Prop} {Vr : sv_V} (hP : P none Vr) {N : Nat} {k6 : Nat → Nat → Int32 → Int32 → Int32 → sv_V → Option sv_V} {k73 : Nat → Nat → Int32 → Int32 → Int32 → Int32 → Int32 → Int32 → sv_V → Option sv_V} {k141 : Nat → Nat → Int32 → Int32 → Int32 → Int32 → Int32 → Int32 → Int32 → Int32 → sv_V → Option sv_V} (hk6 : ∀ (l1 : Nat) (l2 : Nat) (l3 : Int32) (l4 : Int32) (l5 : Int32) (V : sv_V), k6 l1 l2 l3 l4 l5 V = some Vr → sv_N g qX12_followAll 3 6 [(0, .ref 146), (1, .ref l1), (2, .ref l2), (3, .int l3), (4, .int l4), (5, .int l5)] [] V P) (hk73 : ∀ (l1 : Nat) (l2 : Nat) (l3 : Int32) (l4 : Int32) (l5 : Int32) (l6 : Int32) (l7 : Int32) (l8 : Int32) (V : sv_V), k73 l1 l2 l3 l4 l5 l6 l7 l8 V = some Vr → sv_N g qX12_followAll 3 73 [(0, .ref 146), (1, .ref l1), (2, .ref l2), (3, .int l3), (4, .int l4), (5, .int l5), (6, .int l6), (7, .int l7), (8, .int l8)] [] V P) (hk141 : ∀ (l1 : Nat) (l2 : Nat) (l3 : Int32) (l4 : Int32) (l5 : Int32) (l6 : Int32) (l7 : Int32) (l8 : Int32) (l9 : Int32) (l10 : Int32) (V : sv_V), k141 l1 l2 l3 l4 l5 l6 l7 l8 l9 l10 V = some Vr → sv_N g qX12_followAll 3 141 [(0, .ref 146), (1, .ref l1), (2, .ref l2), (3, .int l3), (4, .int l4), (5, .int l5), (6, .int l6), (7, .int l7), (8, .int l8), (9, .int l9), (10, .int l10)] [] V P) {l1 : Nat} {l2 : Nat} {l3 : Int32} {l4 : Int32} {l5 : Int32} {l6 : Int32} {l7 : Int32} {l8 : Int32} {l9 : Int32} {s0 : Int32} {V : sv_V} (h : B_X12_followAll_157 N k6 k73 k141 l1 l2 l3 l4 l5 l6 l7 l8 l9 s0 V = some Vr) : sv_N g qX12_followAll 3 157 [(0, .ref 146), (1, .ref l1), (2, .ref l2), (3, .int l3), (4, .int l4), (5, .int l5), (6, .int l6), (7, .int l7), (8, .int l8), (9, .int l9)] [.int s0] V P := by
  unfold B_X12_followAll_157 at h
  refine sx_istore (pc := 157) (lo' := [(10, .int s0), (0, .ref 146), (1, .ref l1), (2, .ref l2), (3, .int l3), (4, .int l4), (5, .int l5), (6, .int l6), (7, .int l7), (8, .int l8), (9, .int l9)]) dX12_followAll_157 (by decide) rfl ?_
  refine sx_aload_n (pc := 159) dX12_followAll_159 sx_m1 ?_
  refine sv_getA (pc := 160) hG dX12_followAll_160 f_12_82 lay_146 rfl cr_146_50 ?_
  refine sx_bipush (pc := 163) (v := 102) dX12_followAll_163 (by decide) ?_
  refine sx_iload (pc := 165) dX12_followAll_165 sx_m0 ?_
  refine sx_iadd (pc := 167) dX12_followAll_167 ?_
  obtain ⟨g4, h⟩ := sx_grd h
  refine sv_iald (pc := 168) hG dX12_followAll_168 lay_170 g4 ?_
  refine sx_iload_n (pc := 169) dX12_followAll_169 sx_m4 ?_
  refine sx_iand (pc := 170) dX12_followAll_170 ?_
  refine sx_if_eq (pc := 171) (tgt := 141) dX12_followAll_171 (by decide) (fun c5 => ?_) (fun c5 => ?_)
  · have h := sx_pos c5 h
    refine sx_wk (sx_s1 sx_m1 (sx_s1 sx_m2 (sx_s1 sx_m3 (sx_s1 sx_m4 (sx_s1 sx_m5 (sx_s1 sx_m6 (sx_s1 sx_m7 (sx_s1 sx_m8 (sx_s1 sx_m9 (sx_s1 sx_m10 (sx_s1 sx_m0 sx_s0))))))))))) ?_
    exact hk141 _ _ _ _ _ _ _ _ _ _ _ h
  · have h := sx_neg c5 h
    refine sx_aload_n (pc := 174) dX12_followAll_174 sx_m2 ?_
    refine sx_aload_n (pc := 175) dX12_followAll_175 sx_m3 ?_
    refine sx_bipush (pc := 176) (v := 102) dX12_followAll_176 (by decide) ?_
    refine sx_iload (pc := 178) dX12_followAll_178 sx_m9 ?_
    refine sx_iadd (pc := 180) dX12_followAll_180 ?_
    refine sx_bipush (pc := 181) (v := 102) dX12_followAll_181 (by decide) ?_
    refine sx_iload (pc := 183) dX12_followAll_183 sx_m10 ?_
    refine sx_iadd (pc := 185) dX12_followAll_185 ?_
    refine sx_bipush (pc := 186) (v := 102) dX12_followAll_186 (by decide) ?_
    refine sx_iload (pc := 188) dX12_followAll_188 sx_m0 ?_
    refine sx_iadd (pc := 190) dX12_followAll_190 ?_
    obtain ⟨V6, g7, h⟩ := sx_bnd h
    refine sv_cS (pc := 191) (y := qX12_follow) (o := none) (as := [.ref l1, .ref l2, .int ((102 : Int32) + l8), .int ((102 : Int32) + l9), .int ((102 : Int32) + s0)]) (V1 := V6) dX12_followAll_191 l_X12_709 y0X12_follow ysX12_follow rfl (Nat.le_of_ble_eq_true rfl) (by decide) (Nat.le_of_ble_eq_true rfl) rfl rfl rfl (t_X12_follow hG ⟨rfl, rfl⟩ g7) ?_
    refine sx_wk (sx_s1 sx_m1 (sx_s1 sx_m2 (sx_s1 sx_m3 (sx_s1 sx_m4 (sx_s1 sx_m5 (sx_s1 sx_m6 (sx_s1 sx_m7 (sx_s1 sx_m8 (sx_s1 sx_m9 sx_s0))))))))) ?_
    exact tB_X12_followAll_194 hG hP hk6 hk73 h
def B_X12_followAll_141 (N : Nat) (k6 : Nat → Nat → Int32 → Int32 → Int32 → sv_V → Option sv_V) (k73 : Nat → Nat → Int32 → Int32 → Int32 → Int32 → Int32 → Int32 → sv_V → Option sv_V) (k141 : Nat → Nat → Int32 → Int32 → Int32 → Int32 → Int32 → Int32 → Int32 → Int32 → sv_V → Option sv_V) (l1 : Nat) (l2 : Nat) (l3 : Int32) (l4 : Int32) (l5 : Int32) (l6 : Int32) (l7 : Int32) (l8 : Int32) (l9 : Int32) (l10 : Int32) (V : sv_V) : Option sv_V := if l10 = l6 then (B_X12_followAll_157 N k6 k73 k141 l1 l2 l3 l4 l5 l6 l7 l8 l9 l4 V) else (B_X12_followAll_157 N k6 k73 k141 l1 l2 l3 l4 l5 l6 l7 l8 l9 (l10 + (1 : Int32)) V)
set_option maxRecDepth 20000 in
theorem tB_X12_followAll_141 {g : sx_G} (hG : sx_Go g) {P : Option Value → sv_V → Prop} {Vr : sv_V} (hP : P none Vr) {N : Nat} {k6 : Nat → Nat → Int32 → Int32 → Int32 → sv_V → Option sv_V} {k73 : Nat → Nat → Int32 → Int32 → Int32 → Int32 → Int32 → Int32 → sv_V → Option sv_V} {k141 : Nat → Nat → Int32 → Int32 → Int32 → Int32 → Int32 → Int32 → Int32 → Int32 → sv_V → Option sv_V} (hk6 : ∀ (l1 : Nat) (l2 : Nat) (l3 : Int32) (l4 : Int32) (l5 : Int32) (V : sv_V), k6 l1 l2 l3 l4 l5 V = some Vr → sv_N g qX12_followAll 3 6 [(0, .ref 146), (1, .ref l1), (2, .ref l2), (3, .int l3), (4, .int l4), (5, .int l5)] [] V P) (hk73 : ∀ (l1 : Nat) (l2 : Nat) (l3 : Int32) (l4 : Int32) (l5 : Int32) (l6 : Int32) (l7 : Int32) (l8 : Int32) (V : sv_V), k73 l1 l2 l3 l4 l5 l6 l7 l8 V = some Vr → sv_N g qX12_followAll 3 73 [(0, .ref 146), (1, .ref l1), (2, .ref l2), (3, .int l3), (4, .int l4), (5, .int l5), (6, .int l6), (7, .int l7), (8, .int l8)] [] V P) (hk141 : ∀ (l1 : Nat) (l2 : Nat) (l3 : Int32) (l4 : Int32) (l5 : Int32) (l6 : Int32) (l7 : Int32) (l8 : Int32) (l9 : Int32) (l10 : Int32) (V : sv_V), k141 l1 l2 l3 l4 l5 l6 l7 l8 l9 l10 V = some Vr → sv_N g qX12_followAll 3 141 [(0, .ref 146), (1, .ref l1), (2, .ref l2), (3, .int l3), (4, .int l4), (5, .int l5), (6, .int l6), (7, .int l7), (8, .int l8), (9, .int l9), (10, .int l10)] [] V P) {l1 : Nat} {l2 : Nat} {l3 : Int32} {l4 : Int32} {l5 : Int32} {l6 : Int32} {l7 : Int32} {l8 : Int32} {l9 : Int32} {l10 : Int32} {V : sv_V} (h : B_X12_followAll_141 N k6 k73 k141 l1 l2 l3 l4 l5 l6 l7 l8 l9 l10 V = some Vr) : sv_N g qX12_followAll 3 141 [(0, .ref 146), (1, .ref l1), (2, .ref l2), (3, .int l3), (4, .int l4), (5, .int l5), (6, .int l6), (7, .int l7), (8, .int l8), (9, .int l9), (10, .int l10)] [] V P := by
  unfold B_X12_followAll_141 at h
  refine sx_iload (pc := 141) dX12_followAll_141 sx_m10 ?_
  refine sx_iload (pc := 143) dX12_followAll_143 sx_m6 ?_
  refine sx_icmp_ne (pc := 145) (tgt := 153) dX12_followAll_145 (by decide) (fun c8 => ?_) (fun c8 => ?_)
  · have h := sx_neg c8 h
    refine sx_iload (pc := 153) dX12_followAll_153 sx_m10 ?_
    refine sx_iconst (pc := 155) (v := 1) dX12_followAll_155 (by decide) ?_
    refine sx_iadd (pc := 156) dX12_followAll_156 ?_
    refine sx_wk (sx_s1 sx_m0 (sx_s1 sx_m1 (sx_s1 sx_m2 (sx_s1 sx_m3 (sx_s1 sx_m4 (sx_s1 sx_m5 (sx_s1 sx_m6 (sx_s1 sx_m7 (sx_s1 sx_m8 (sx_s1 sx_m9 sx_s0)))))))))) ?_
    exact tB_X12_followAll_157 hG hP hk6 hk73 hk141 h
  · have h := sx_pos c8 h
    refine sx_iload (pc := 148) dX12_followAll_148 sx_m4 ?_
    refine sx_goto (pc := 150) (tgt := 157) dX12_followAll_150 (by decide) ?_
    refine sx_wk (sx_s1 sx_m0 (sx_s1 sx_m1 (sx_s1 sx_m2 (sx_s1 sx_m3 (sx_s1 sx_m4 (sx_s1 sx_m5 (sx_s1 sx_m6 (sx_s1 sx_m7 (sx_s1 sx_m8 (sx_s1 sx_m9 sx_s0)))))))))) ?_
    exact tB_X12_followAll_157 hG hP hk6 hk73 hk141 h
theorem tL_X12_followAll_141 {g : sx_G} (hG : sx_Go g) {P : Option Value → sv_V → Prop} {Vr : sv_V} (hP : P none Vr) {N : Nat} {k6 : Nat → Nat → Int32 → Int32 → Int32 → sv_V → Option sv_V} {k73 : Nat → Nat → Int32 → Int32 → Int32 → Int32 → Int32 → Int32 → sv_V → Option sv_V} (hk6 : ∀ (l1 : Nat) (l2 : Nat) (l3 : Int32) (l4 : Int32) (l5 : Int32) (V : sv_V), k6 l1 l2 l3 l4 l5 V = some Vr → sv_N g qX12_followAll 3 6 [(0, .ref 146), (1, .ref l1), (2, .ref l2), (3, .int l3), (4, .int l4), (5, .int l5)] [] V P) (hk73 : ∀ (l1 : Nat) (l2 : Nat) (l3 : Int32) (l4 : Int32) (l5 : Int32) (l6 : Int32) (l7 : Int32) (l8 : Int32) (V : sv_V), k73 l1 l2 l3 l4 l5 l6 l7 l8 V = some Vr → sv_N g qX12_followAll 3 73 [(0, .ref 146), (1, .ref l1), (2, .ref l2), (3, .int l3), (4, .int l4), (5, .int l5), (6, .int l6), (7, .int l7), (8, .int l8)] [] V P) : ∀ (n : Nat) (l1 : Nat) (l2 : Nat) (l3 : Int32) (l4 : Int32) (l5 : Int32) (l6 : Int32) (l7 : Int32) (l8 : Int32) (l9 : Int32) (l10 : Int32) (V : sv_V), sx_lp11 (B_X12_followAll_141 N k6 k73) n l1 l2 l3 l4 l5 l6 l7 l8 l9 l10 V = some Vr → sv_N g qX12_followAll 3 141 [(0, .ref 146), (1, .ref l1), (2, .ref l2), (3, .int l3), (4, .int l4), (5, .int l5), (6, .int l6), (7, .int l7), (8, .int l8), (9, .int l9), (10, .int l10)] [] V P :=
  sx_lp11_ind (fun k0 ih _ _ _ _ _ _ _ _ _ _ V h => tB_X12_followAll_141 hG hP hk6 hk73 ih h)
def B_X12_followAll_124 (N : Nat) (k6 : Nat → Nat → Int32 → Int32 → Int32 → sv_V → Option sv_V) (k73 : Nat → Nat → Int32 → Int32 → Int32 → Int32 → Int32 → Int32 → sv_V → Option sv_V) (k108 : Nat → Nat → Int32 → Int32 → Int32 → Int32 → Int32 → Int32 → Int32 → Int32 → sv_V → Option sv_V) (l1 : Nat) (l2 : Nat) (l3 : Int32) (l4 : Int32) (l5 : Int32) (l6 : Int32) (l7 : Int32) (l8 : Int32) (l10 : Int32) (s0 : Int32) (V : sv_V) : Option sv_V := if sx_in ((102 : Int32) + s0) 204 = true then if ((V.1 170 ((102 : Int32) + s0).toNatClampNeg) &&& l3) = 0 then (k108 l1 l2 l3 l4 l5 l6 l7 l8 s0 l10 V) else (sx_lp11 (B_X12_followAll_141 N k6 k73) N l1 l2 l3 l4 l5 l6 l7 l8 s0 l10 V) else none
set_option maxRecDepth 20000 in
theorem tB_X12_followAll_124 {g : sx_G} (hG : sx_Go g) {P : Option Value → sv_V → Prop} {Vr : sv_V} (hP : P none Vr) {N : Nat} {k6 : Nat → Nat → Int32 → Int32 → Int32 → sv_V → Option sv_V} {k73 : Nat → Nat → Int32 → Int32 → Int32 → Int32 → Int32 → Int32 → sv_V → Option sv_V} {k108 : Nat → Nat → Int32 → Int32 → Int32 → Int32 → Int32 → Int32 → Int32 → Int32 → sv_V → Option sv_V} (hk6 : ∀ (l1 : Nat) (l2 : Nat) (l3 : Int32) (l4 : Int32) (l5 : Int32) (V : sv_V), k6 l1 l2 l3 l4 l5 V = some Vr → sv_N g qX12_followAll 3 6 [(0, .ref 146), (1, .ref l1), (2, .ref l2), (3, .int l3), (4, .int l4), (5, .int l5)] [] V P) (hk73 : ∀ (l1 : Nat) (l2 : Nat) (l3 : Int32) (l4 : Int32) (l5 : Int32) (l6 : Int32) (l7 : Int32) (l8 : Int32) (V : sv_V), k73 l1 l2 l3 l4 l5 l6 l7 l8 V = some Vr → sv_N g qX12_followAll 3 73 [(0, .ref 146), (1, .ref l1), (2, .ref l2), (3, .int l3), (4, .int l4), (5, .int l5), (6, .int l6), (7, .int l7), (8, .int l8)] [] V P) (hk108 : ∀ (l1 : Nat) (l2 : Nat) (l3 : Int32) (l4 : Int32) (l5 : Int32) (l6 : Int32) (l7 : Int32) (l8 : Int32) (l9 : Int32) (l10 : Int32) (V : sv_V), k108 l1 l2 l3 l4 l5 l6 l7 l8 l9 l10 V = some Vr → sv_N g qX12_followAll 3 108 [(0, .ref 146), (1, .ref l1), (2, .ref l2), (3, .int l3), (4, .int l4), (5, .int l5), (6, .int l6), (7, .int l7), (8, .int l8), (9, .int l9), (10, .int l10)] [] V P) {l1 : Nat} {l2 : Nat} {l3 : Int32} {l4 : Int32} {l5 : Int32} {l6 : Int32} {l7 : Int32} {l8 : Int32} {l10 : Int32} {s0 : Int32} {V : sv_V} (h : B_X12_followAll_124 N k6 k73 k108 l1 l2 l3 l4 l5 l6 l7 l8 l10 s0 V = some Vr) : sv_N g qX12_followAll 3 124 [(0, .ref 146), (1, .ref l1), (2, .ref l2), (3, .int l3), (4, .int l4), (5, .int l5), (6, .int l6), (7, .int l7), (8, .int l8), (10, .int l10)] [.int s0] V P := by
  unfold B_X12_followAll_124 at h
  refine sx_istore (pc := 124) (lo' := [(9, .int s0), (0, .ref 146), (1, .ref l1), (2, .ref l2), (3, .int l3), (4, .int l4), (5, .int l5), (6, .int l6), (7, .int l7), (8, .int l8), (10, .int l10)]) dX12_followAll_124 (by decide) rfl ?_
  refine sx_aload_n (pc := 126) dX12_followAll_126 sx_m1 ?_
  refine sv_getA (pc := 127) hG dX12_followAll_127 f_12_82 lay_146 rfl cr_146_50 ?_
  refine sx_bipush (pc := 130) (v := 102) dX12_followAll_130 (by decide) ?_
  refine sx_iload (pc := 132) dX12_followAll_132 sx_m0 ?_
  refine sx_iadd (pc := 134) dX12_followAll_134 ?_
  obtain ⟨g9, h⟩ := sx_grd h
  refine sv_iald (pc := 135) hG dX12_followAll_135 lay_170 g9 ?_
  refine sx_iload_n (pc := 136) dX12_followAll_136 sx_m4 ?_
  refine sx_iand (pc := 137) dX12_followAll_137 ?_
  refine sx_if_eq (pc := 138) (tgt := 108) dX12_followAll_138 (by decide) (fun c10 => ?_) (fun c10 => ?_)
  · have h := sx_pos c10 h
    refine sx_wk (sx_s1 sx_m1 (sx_s1 sx_m2 (sx_s1 sx_m3 (sx_s1 sx_m4 (sx_s1 sx_m5 (sx_s1 sx_m6 (sx_s1 sx_m7 (sx_s1 sx_m8 (sx_s1 sx_m9 (sx_s1 sx_m0 (sx_s1 sx_m10 sx_s0))))))))))) ?_
    exact hk108 _ _ _ _ _ _ _ _ _ _ _ h
  · have h := sx_neg c10 h
    refine sx_wk (sx_s1 sx_m1 (sx_s1 sx_m2 (sx_s1 sx_m3 (sx_s1 sx_m4 (sx_s1 sx_m5 (sx_s1 sx_m6 (sx_s1 sx_m7 (sx_s1 sx_m8 (sx_s1 sx_m9 (sx_s1 sx_m0 (sx_s1 sx_m10 sx_s0))))))))))) ?_
    exact tL_X12_followAll_141 hG hP hk6 hk73 N _ _ _ _ _ _ _ _ _ _ _ h
def B_X12_followAll_108 (N : Nat) (k6 : Nat → Nat → Int32 → Int32 → Int32 → sv_V → Option sv_V) (k73 : Nat → Nat → Int32 → Int32 → Int32 → Int32 → Int32 → Int32 → sv_V → Option sv_V) (k108 : Nat → Nat → Int32 → Int32 → Int32 → Int32 → Int32 → Int32 → Int32 → Int32 → sv_V → Option sv_V) (l1 : Nat) (l2 : Nat) (l3 : Int32) (l4 : Int32) (l5 : Int32) (l6 : Int32) (l7 : Int32) (l8 : Int32) (l9 : Int32) (l10 : Int32) (V : sv_V) : Option sv_V := if l9 = l4 then (B_X12_followAll_124 N k6 k73 k108 l1 l2 l3 l4 l5 l6 l7 l8 l10 l6 V) else (B_X12_followAll_124 N k6 k73 k108 l1 l2 l3 l4 l5 l6 l7 l8 l10 (l9 - (1 : Int32)) V)
set_option maxRecDepth 20000 in
theorem tB_X12_followAll_108 {g : sx_G} (hG : sx_Go g) {P : Option Value → sv_V → Prop} {Vr : sv_V} (hP : P none Vr) {N : Nat} {k6 : Nat → Nat → Int32 → Int32 → Int32 → sv_V → Option sv_V} {k73 : Nat → Nat → Int32 → Int32 → Int32 → Int32 → Int32 → Int32 → sv_V → Option sv_V} {k108 : Nat → Nat → Int32 → Int32 → Int32 → Int32 → Int32 → Int32 → Int32 → Int32 → sv_V → Option sv_V} (hk6 : ∀ (l1 : Nat) (l2 : Nat) (l3 : Int32) (l4 : Int32) (l5 : Int32) (V : sv_V), k6 l1 l2 l3 l4 l5 V = some Vr → sv_N g qX12_followAll 3 6 [(0, .ref 146), (1, .ref l1), (2, .ref l2), (3, .int l3), (4, .int l4), (5, .int l5)] [] V P) (hk73 : ∀ (l1 : Nat) (l2 : Nat) (l3 : Int32) (l4 : Int32) (l5 : Int32) (l6 : Int32) (l7 : Int32) (l8 : Int32) (V : sv_V), k73 l1 l2 l3 l4 l5 l6 l7 l8 V = some Vr → sv_N g qX12_followAll 3 73 [(0, .ref 146), (1, .ref l1), (2, .ref l2), (3, .int l3), (4, .int l4), (5, .int l5), (6, .int l6), (7, .int l7), (8, .int l8)] [] V P) (hk108 : ∀ (l1 : Nat) (l2 : Nat) (l3 : Int32) (l4 : Int32) (l5 : Int32) (l6 : Int32) (l7 : Int32) (l8 : Int32) (l9 : Int32) (l10 : Int32) (V : sv_V), k108 l1 l2 l3 l4 l5 l6 l7 l8 l9 l10 V = some Vr → sv_N g qX12_followAll 3 108 [(0, .ref 146), (1, .ref l1), (2, .ref l2), (3, .int l3), (4, .int l4), (5, .int l5), (6, .int l6), (7, .int l7), (8, .int l8), (9, .int l9), (10, .int l10)] [] V P) {l1 : Nat} {l2 : Nat} {l3 : Int32} {l4 : Int32} {l5 : Int32} {l6 : Int32} {l7 : Int32} {l8 : Int32} {l9 : Int32} {l10 : Int32} {V : sv_V} (h : B_X12_followAll_108 N k6 k73 k108 l1 l2 l3 l4 l5 l6 l7 l8 l9 l10 V = some Vr) : sv_N g qX12_followAll 3 108 [(0, .ref 146), (1, .ref l1), (2, .ref l2), (3, .int l3), (4, .int l4), (5, .int l5), (6, .int l6), (7, .int l7), (8, .int l8), (9, .int l9), (10, .int l10)] [] V P := by
  unfold B_X12_followAll_108 at h
  refine sx_iload (pc := 108) dX12_followAll_108 sx_m9 ?_
  refine sx_iload (pc := 110) dX12_followAll_110 sx_m4 ?_
  refine sx_icmp_ne (pc := 112) (tgt := 120) dX12_followAll_112 (by decide) (fun c11 => ?_) (fun c11 => ?_)
  · have h := sx_neg c11 h
    refine sx_iload (pc := 120) dX12_followAll_120 sx_m9 ?_
    refine sx_iconst (pc := 122) (v := 1) dX12_followAll_122 (by decide) ?_
    refine sx_isub (pc := 123) dX12_followAll_123 ?_
    refine sx_wk (sx_s1 sx_m0 (sx_s1 sx_m1 (sx_s1 sx_m2 (sx_s1 sx_m3 (sx_s1 sx_m4 (sx_s1 sx_m5 (sx_s1 sx_m6 (sx_s1 sx_m7 (sx_s1 sx_m8 (sx_s1 sx_m10 sx_s0)))))))))) ?_
    exact tB_X12_followAll_124 hG hP hk6 hk73 hk108 h
  · have h := sx_pos c11 h
    refine sx_iload (pc := 115) dX12_followAll_115 sx_m6 ?_
    refine sx_goto (pc := 117) (tgt := 124) dX12_followAll_117 (by decide) ?_
    refine sx_wk (sx_s1 sx_m0 (sx_s1 sx_m1 (sx_s1 sx_m2 (sx_s1 sx_m3 (sx_s1 sx_m4 (sx_s1 sx_m5 (sx_s1 sx_m6 (sx_s1 sx_m7 (sx_s1 sx_m8 (sx_s1 sx_m10 sx_s0)))))))))) ?_
    exact tB_X12_followAll_124 hG hP hk6 hk73 hk108 h
theorem tL_X12_followAll_108 {g : sx_G} (hG : sx_Go g) {P : Option Value → sv_V → Prop} {Vr : sv_V} (hP : P none Vr) {N : Nat} {k6 : Nat → Nat → Int32 → Int32 → Int32 → sv_V → Option sv_V} {k73 : Nat → Nat → Int32 → Int32 → Int32 → Int32 → Int32 → Int32 → sv_V → Option sv_V} (hk6 : ∀ (l1 : Nat) (l2 : Nat) (l3 : Int32) (l4 : Int32) (l5 : Int32) (V : sv_V), k6 l1 l2 l3 l4 l5 V = some Vr → sv_N g qX12_followAll 3 6 [(0, .ref 146), (1, .ref l1), (2, .ref l2), (3, .int l3), (4, .int l4), (5, .int l5)] [] V P) (hk73 : ∀ (l1 : Nat) (l2 : Nat) (l3 : Int32) (l4 : Int32) (l5 : Int32) (l6 : Int32) (l7 : Int32) (l8 : Int32) (V : sv_V), k73 l1 l2 l3 l4 l5 l6 l7 l8 V = some Vr → sv_N g qX12_followAll 3 73 [(0, .ref 146), (1, .ref l1), (2, .ref l2), (3, .int l3), (4, .int l4), (5, .int l5), (6, .int l6), (7, .int l7), (8, .int l8)] [] V P) : ∀ (n : Nat) (l1 : Nat) (l2 : Nat) (l3 : Int32) (l4 : Int32) (l5 : Int32) (l6 : Int32) (l7 : Int32) (l8 : Int32) (l9 : Int32) (l10 : Int32) (V : sv_V), sx_lp11 (B_X12_followAll_108 N k6 k73) n l1 l2 l3 l4 l5 l6 l7 l8 l9 l10 V = some Vr → sv_N g qX12_followAll 3 108 [(0, .ref 146), (1, .ref l1), (2, .ref l2), (3, .int l3), (4, .int l4), (5, .int l5), (6, .int l6), (7, .int l7), (8, .int l8), (9, .int l9), (10, .int l10)] [] V P :=
  sx_lp11_ind (fun k0 ih _ _ _ _ _ _ _ _ _ _ V h => tB_X12_followAll_108 hG hP hk6 hk73 ih h)
def B_X12_followAll_200 (N : Nat) (k6 : Nat → Nat → Int32 → Int32 → Int32 → sv_V → Option sv_V) (l1 : Nat) (l2 : Nat) (l3 : Int32) (l5 : Int32) (l6 : Int32) (V : sv_V) : Option sv_V := sx_let (l6 + (1 : Int32)) (fun x12 => sx_let (l5 + 1) (fun x13 => k6 l1 l2 l3 x12 x13 V))
set_option maxRecDepth 20000 in
theorem tB_X12_followAll_200 {g : sx_G} (hG : sx_Go g) {P : Option Value → sv_V → Prop} {Vr : sv_V} (hP : P none Vr) {N : Nat} {k6 : Nat → Nat → Int32 → Int32 → Int32 → sv_V → Option sv_V} (hk6 : ∀ (l1 : Nat) (l2 : Nat) (l3 : Int32) (l4 : Int32) (l5 : Int32) (V : sv_V), k6 l1 l2 l3 l4 l5 V = some Vr → sv_N g qX12_followAll 3 6 [(0, .ref 146), (1, .ref l1), (2, .ref l2), (3, .int l3), (4, .int l4), (5, .int l5)] [] V P) {l1 : Nat} {l2 : Nat} {l3 : Int32} {l5 : Int32} {l6 : Int32} {V : sv_V} (h : B_X12_followAll_200 N k6 l1 l2 l3 l5 l6 V = some Vr) : sv_N g qX12_followAll 3 200 [(0, .ref 146), (1, .ref l1), (2, .ref l2), (3, .int l3), (5, .int l5), (6, .int l6)] [] V P := by
  unfold B_X12_followAll_200 at h
  refine sx_iload (pc := 200) dX12_followAll_200 sx_m5 ?_
  refine sx_iconst (pc := 202) (v := 1) dX12_followAll_202 (by decide) ?_
  refine sx_iadd (pc := 203) dX12_followAll_203 ?_
  refine sv_tI (fun x12 hx12 => ?_)
  have h := sx_letE hx12 h
  refine sx_istore (pc := 204) (lo' := [(4, .int x12), (0, .ref 146), (1, .ref l1), (2, .ref l2), (3, .int l3), (5, .int l5), (6, .int l6)]) dX12_followAll_204 (by decide) rfl ?_
  obtain ⟨x13, hx13⟩ : ∃ z : Int32, z = l5 + 1 := ⟨_, rfl⟩
  have h := sx_letE hx13 h
  refine sx_iinc (pc := 206) (v := x13) (lo' := [(5, .int x13), (4, .int x12), (0, .ref 146), (1, .ref l1), (2, .ref l2), (3, .int l3), (6, .int l6)]) dX12_followAll_206 sx_m5 (by rw [hx13]; rfl) (by decide) rfl ?_
  refine sx_goto (pc := 209) (tgt := 6) dX12_followAll_209 (by decide) ?_
  refine sx_wk (sx_s1 sx_m2 (sx_s1 sx_m3 (sx_s1 sx_m4 (sx_s1 sx_m5 (sx_s1 sx_m1 (sx_s1 sx_m0 sx_s0)))))) ?_
  exact hk6 _ _ _ _ _ _ h
def B_X12_followAll_73 (N : Nat) (k6 : Nat → Nat → Int32 → Int32 → Int32 → sv_V → Option sv_V) (k73 : Nat → Nat → Int32 → Int32 → Int32 → Int32 → Int32 → Int32 → sv_V → Option sv_V) (l1 : Nat) (l2 : Nat) (l3 : Int32) (l4 : Int32) (l5 : Int32) (l6 : Int32) (l7 : Int32) (l8 : Int32) (V : sv_V) : Option sv_V := if l6 < l8 then (B_X12_followAll_200 N k6 l1 l2 l3 l5 l6 V) else (if l7 ≤ 0 then (B_X12_followAll_200 N k6 l1 l2 l3 l5 l6 V) else (if sx_in ((102 : Int32) + l8) 204 = true then if ((V.1 170 ((102 : Int32) + l8).toNatClampNeg) &&& l3) = 0 then (sx_lp11 (B_X12_followAll_108 N k6 k73) N l1 l2 l3 l4 l5 l6 l7 l8 l8 l8 V) else (B_X12_followAll_194 N k6 k73 l1 l2 l3 l4 l5 l6 l7 l8 V) else none))
set_option maxRecDepth 20000 in
theorem tB_X12_followAll_73 {g : sx_G} (hG : sx_Go g) {P : Option Value → sv_V → Prop} {Vr : sv_V} (hP : P none Vr) {N : Nat} {k6 : Nat → Nat → Int32 → Int32 → Int32 → sv_V → Option sv_V} {k73 : Nat → Nat → Int32 → Int32 → Int32 → Int32 → Int32 → Int32 → sv_V → Option sv_V} (hk6 : ∀ (l1 : Nat) (l2 : Nat) (l3 : Int32) (l4 : Int32) (l5 : Int32) (V : sv_V), k6 l1 l2 l3 l4 l5 V = some Vr → sv_N g qX12_followAll 3 6 [(0, .ref 146), (1, .ref l1), (2, .ref l2), (3, .int l3), (4, .int l4), (5, .int l5)] [] V P) (hk73 : ∀ (l1 : Nat) (l2 : Nat) (l3 : Int32) (l4 : Int32) (l5 : Int32) (l6 : Int32) (l7 : Int32) (l8 : Int32) (V : sv_V), k73 l1 l2 l3 l4 l5 l6 l7 l8 V = some Vr → sv_N g qX12_followAll 3 73 [(0, .ref 146), (1, .ref l1), (2, .ref l2), (3, .int l3), (4, .int l4), (5, .int l5), (6, .int l6), (7, .int l7), (8, .int l8)] [] V P) {l1 : Nat} {l2 : Nat} {l3 : Int32} {l4 : Int32} {l5 : Int32} {l6 : Int32} {l7 : Int32} {l8 : Int32} {V : sv_V} (h : B_X12_followAll_73 N k6 k73 l1 l2 l3 l4 l5 l6 l7 l8 V = some Vr) : sv_N g qX12_followAll 3 73 [(0, .ref 146), (1, .ref l1), (2, .ref l2), (3, .int l3), (4, .int l4), (5, .int l5), (6, .int l6), (7, .int l7), (8, .int l8)] [] V P := by
  unfold B_X12_followAll_73 at h
  refine sx_iload (pc := 73) dX12_followAll_73 sx_m8 ?_
  refine sx_iload (pc := 75) dX12_followAll_75 sx_m6 ?_
  refine sx_icmp_gt (pc := 77) (tgt := 200) dX12_followAll_77 (by decide) (fun c14 => ?_) (fun c14 => ?_)
  · have h := sx_pos c14 h
    refine sx_wk (sx_s1 sx_m0 (sx_s1 sx_m1 (sx_s1 sx_m2 (sx_s1 sx_m3 (sx_s1 sx_m5 (sx_s1 sx_m6 sx_s0)))))) ?_
    exact tB_X12_followAll_200 hG hP hk6 h
  · have h := sx_neg c14 h
    refine sx_iload (pc := 80) dX12_followAll_80 sx_m7 ?_
    refine sx_if_le (pc := 82) (tgt := 200) dX12_followAll_82 (by decide) (fun c15 => ?_) (fun c15 => ?_)
    · have h := sx_pos c15 h
      refine sx_wk (sx_s1 sx_m0 (sx_s1 sx_m1 (sx_s1 sx_m2 (sx_s1 sx_m3 (sx_s1 sx_m5 (sx_s1 sx_m6 sx_s0)))))) ?_
      exact tB_X12_followAll_200 hG hP hk6 h
    · have h := sx_neg c15 h
      refine sx_aload_n (pc := 85) dX12_followAll_85 sx_m0 ?_
      refine sv_getA (pc := 86) hG dX12_followAll_86 f_12_82 lay_146 rfl cr_146_50 ?_
      refine sx_bipush (pc := 89) (v := 102) dX12_followAll_89 (by decide) ?_
      refine sx_iload (pc := 91) dX12_followAll_91 sx_m8 ?_
      refine sx_iadd (pc := 93) dX12_followAll_93 ?_
      obtain ⟨g16, h⟩ := sx_grd h
      refine sv_iald (pc := 94) hG dX12_followAll_94 lay_170 g16 ?_
      refine sx_iload_n (pc := 95) dX12_followAll_95 sx_m3 ?_
      refine sx_iand (pc := 96) dX12_followAll_96 ?_
      refine sx_if_ne (pc := 97) (tgt := 194) dX12_followAll_97 (by decide) (fun c17 => ?_) (fun c17 => ?_)
      · have h := sx_neg c17 h
        refine sx_wk (sx_s1 sx_m0 (sx_s1 sx_m1 (sx_s1 sx_m2 (sx_s1 sx_m3 (sx_s1 sx_m4 (sx_s1 sx_m5 (sx_s1 sx_m6 (sx_s1 sx_m7 (sx_s1 sx_m8 sx_s0))))))))) ?_
        exact tB_X12_followAll_194 hG hP hk6 hk73 h
      · have h := sx_pos c17 h
        refine sx_iload (pc := 100) dX12_followAll_100 sx_m8 ?_
        refine sx_istore (pc := 102) (lo' := [(9, .int l8), (0, .ref 146), (1, .ref l1), (2, .ref l2), (3, .int l3), (4, .int l4), (5, .int l5), (6, .int l6), (7, .int l7), (8, .int l8)]) dX12_followAll_102 (by decide) rfl ?_
        refine sx_iload (pc := 104) dX12_followAll_104 sx_m9 ?_
        refine sx_istore (pc := 106) (lo' := [(10, .int l8), (9, .int l8), (0, .ref 146), (1, .ref l1), (2, .ref l2), (3, .int l3), (4, .int l4), (5, .int l5), (6, .int l6), (7, .int l7), (8, .int l8)]) dX12_followAll_106 (by decide) rfl ?_
        refine sx_wk (sx_s1 sx_m2 (sx_s1 sx_m3 (sx_s1 sx_m4 (sx_s1 sx_m5 (sx_s1 sx_m6 (sx_s1 sx_m7 (sx_s1 sx_m8 (sx_s1 sx_m9 (sx_s1 sx_m10 (sx_s1 sx_m1 (sx_s1 sx_m0 sx_s0))))))))))) ?_
        exact tL_X12_followAll_108 hG hP hk6 hk73 N _ _ _ _ _ _ _ _ _ _ _ h
theorem tL_X12_followAll_73 {g : sx_G} (hG : sx_Go g) {P : Option Value → sv_V → Prop} {Vr : sv_V} (hP : P none Vr) {N : Nat} {k6 : Nat → Nat → Int32 → Int32 → Int32 → sv_V → Option sv_V} (hk6 : ∀ (l1 : Nat) (l2 : Nat) (l3 : Int32) (l4 : Int32) (l5 : Int32) (V : sv_V), k6 l1 l2 l3 l4 l5 V = some Vr → sv_N g qX12_followAll 3 6 [(0, .ref 146), (1, .ref l1), (2, .ref l2), (3, .int l3), (4, .int l4), (5, .int l5)] [] V P) : ∀ (n : Nat) (l1 : Nat) (l2 : Nat) (l3 : Int32) (l4 : Int32) (l5 : Int32) (l6 : Int32) (l7 : Int32) (l8 : Int32) (V : sv_V), sx_lp9 (B_X12_followAll_73 N k6) n l1 l2 l3 l4 l5 l6 l7 l8 V = some Vr → sv_N g qX12_followAll 3 73 [(0, .ref 146), (1, .ref l1), (2, .ref l2), (3, .int l3), (4, .int l4), (5, .int l5), (6, .int l6), (7, .int l7), (8, .int l8)] [] V P :=
  sx_lp9_ind (fun k0 ih _ _ _ _ _ _ _ _ V h => tB_X12_followAll_73 hG hP hk6 ih h)
def B_X12_followAll_31 (N : Nat) (k6 : Nat → Nat → Int32 → Int32 → Int32 → sv_V → Option sv_V) (k31 : Nat → Nat → Int32 → Int32 → Int32 → Int32 → Int32 → Int32 → sv_V → Option sv_V) (l1 : Nat) (l2 : Nat) (l3 : Int32) (l4 : Int32) (l5 : Int32) (l6 : Int32) (l7 : Int32) (l8 : Int32) (V : sv_V) : Option sv_V := if l6 < l8 then (sx_lp9 (B_X12_followAll_73 N k6) N l1 l2 l3 l4 l5 l6 l7 l4 V) else (if sx_in ((102 : Int32) + l8) 204 = true then if ((V.1 170 ((102 : Int32) + l8).toNatClampNeg) &&& l3) = 0 then (B_X12_followAll_60 N k6 k31 l1 l2 l3 l4 l5 l6 l8 l7 (0 : Int32) V) else (B_X12_followAll_60 N k6 k31 l1 l2 l3 l4 l5 l6 l8 l7 (1 : Int32) V) else none)
set_option maxRecDepth 20000 in
theorem tB_X12_followAll_31 {g : sx_G} (hG : sx_Go g) {P : Option Value → sv_V → Prop} {Vr : sv_V} (hP : P none Vr) {N : Nat} {k6 : Nat → Nat → Int32 → Int32 → Int32 → sv_V → Option sv_V} {k31 : Nat → Nat → Int32 → Int32 → Int32 → Int32 → Int32 → Int32 → sv_V → Option sv_V} (hk6 : ∀ (l1 : Nat) (l2 : Nat) (l3 : Int32) (l4 : Int32) (l5 : Int32) (V : sv_V), k6 l1 l2 l3 l4 l5 V = some Vr → sv_N g qX12_followAll 3 6 [(0, .ref 146), (1, .ref l1), (2, .ref l2), (3, .int l3), (4, .int l4), (5, .int l5)] [] V P) (hk31 : ∀ (l1 : Nat) (l2 : Nat) (l3 : Int32) (l4 : Int32) (l5 : Int32) (l6 : Int32) (l7 : Int32) (l8 : Int32) (V : sv_V), k31 l1 l2 l3 l4 l5 l6 l7 l8 V = some Vr → sv_N g qX12_followAll 3 31 [(0, .ref 146), (1, .ref l1), (2, .ref l2), (3, .int l3), (4, .int l4), (5, .int l5), (6, .int l6), (7, .int l7), (8, .int l8)] [] V P) {l1 : Nat} {l2 : Nat} {l3 : Int32} {l4 : Int32} {l5 : Int32} {l6 : Int32} {l7 : Int32} {l8 : Int32} {V : sv_V} (h : B_X12_followAll_31 N k6 k31 l1 l2 l3 l4 l5 l6 l7 l8 V = some Vr) : sv_N g qX12_followAll 3 31 [(0, .ref 146), (1, .ref l1), (2, .ref l2), (3, .int l3), (4, .int l4), (5, .int l5), (6, .int l6), (7, .int l7), (8, .int l8)] [] V P := by
  unfold B_X12_followAll_31 at h
  refine sx_iload (pc := 31) dX12_followAll_31 sx_m8 ?_
  refine sx_iload (pc := 33) dX12_followAll_33 sx_m6 ?_
  refine sx_icmp_gt (pc := 35) (tgt := 69) dX12_followAll_35 (by decide) (fun c18 => ?_) (fun c18 => ?_)
  · have h := sx_pos c18 h
    refine sx_iload (pc := 69) dX12_followAll_69 sx_m4 ?_
    refine sx_istore (pc := 71) (lo' := [(8, .int l4), (0, .ref 146), (1, .ref l1), (2, .ref l2), (3, .int l3), (4, .int l4), (5, .int l5), (6, .int l6), (7, .int l7)]) dX12_followAll_71 (by decide) rfl ?_
    refine sx_wk (sx_s1 sx_m1 (sx_s1 sx_m2 (sx_s1 sx_m3 (sx_s1 sx_m4 (sx_s1 sx_m5 (sx_s1 sx_m6 (sx_s1 sx_m7 (sx_s1 sx_m8 (sx_s1 sx_m0 sx_s0))))))))) ?_
    exact tL_X12_followAll_73 hG hP hk6 N _ _ _ _ _ _ _ _ _ h
  · have h := sx_neg c18 h
    refine sx_iload (pc := 38) dX12_followAll_38 sx_m7 ?_
    refine sx_aload_n (pc := 40) dX12_followAll_40 sx_m0 ?_
    refine sv_getA (pc := 41) hG dX12_followAll_41 f_12_82 lay_146 rfl cr_146_50 ?_
    refine sx_bipush (pc := 44) (v := 102) dX12_followAll_44 (by decide) ?_
    refine sx_iload (pc := 46) dX12_followAll_46 sx_m8 ?_
    refine sx_iadd (pc := 48) dX12_followAll_48 ?_
    obtain ⟨g19, h⟩ := sx_grd h
    refine sv_iald (pc := 49) hG dX12_followAll_49 lay_170 g19 ?_
    refine sx_iload_n (pc := 50) dX12_followAll_50 sx_m3 ?_
    refine sx_iand (pc := 51) dX12_followAll_51 ?_
    refine sx_if_eq (pc := 52) (tgt := 59) dX12_followAll_52 (by decide) (fun c20 => ?_) (fun c20 => ?_)
    · have h := sx_pos c20 h
      refine sx_iconst (pc := 59) (v := 0) dX12_followAll_59 (by decide) ?_
      refine sx_wk (sx_s1 sx_m0 (sx_s1 sx_m1 (sx_s1 sx_m2 (sx_s1 sx_m3 (sx_s1 sx_m4 (sx_s1 sx_m5 (sx_s1 sx_m6 (sx_s1 sx_m8 sx_s0)))))))) ?_
      exact tB_X12_followAll_60 hG hP hk6 hk31 h
    · have h := sx_neg c20 h
      refine sx_iconst (pc := 55) (v := 1) dX12_followAll_55 (by decide) ?_
      refine sx_goto (pc := 56) (tgt := 60) dX12_followAll_56 (by decide) ?_
      refine sx_wk (sx_s1 sx_m0 (sx_s1 sx_m1 (sx_s1 sx_m2 (sx_s1 sx_m3 (sx_s1 sx_m4 (sx_s1 sx_m5 (sx_s1 sx_m6 (sx_s1 sx_m8 sx_s0)))))))) ?_
      exact tB_X12_followAll_60 hG hP hk6 hk31 h
theorem tL_X12_followAll_31 {g : sx_G} (hG : sx_Go g) {P : Option Value → sv_V → Prop} {Vr : sv_V} (hP : P none Vr) {N : Nat} {k6 : Nat → Nat → Int32 → Int32 → Int32 → sv_V → Option sv_V} (hk6 : ∀ (l1 : Nat) (l2 : Nat) (l3 : Int32) (l4 : Int32) (l5 : Int32) (V : sv_V), k6 l1 l2 l3 l4 l5 V = some Vr → sv_N g qX12_followAll 3 6 [(0, .ref 146), (1, .ref l1), (2, .ref l2), (3, .int l3), (4, .int l4), (5, .int l5)] [] V P) : ∀ (n : Nat) (l1 : Nat) (l2 : Nat) (l3 : Int32) (l4 : Int32) (l5 : Int32) (l6 : Int32) (l7 : Int32) (l8 : Int32) (V : sv_V), sx_lp9 (B_X12_followAll_31 N k6) n l1 l2 l3 l4 l5 l6 l7 l8 V = some Vr → sv_N g qX12_followAll 3 31 [(0, .ref 146), (1, .ref l1), (2, .ref l2), (3, .int l3), (4, .int l4), (5, .int l5), (6, .int l6), (7, .int l7), (8, .int l8)] [] V P :=
  sx_lp9_ind (fun k0 ih _ _ _ _ _ _ _ _ V h => tB_X12_followAll_31 hG hP hk6 ih h)
def B_X12_followAll_6 (N : Nat) (k6 : Nat → Nat → Int32 → Int32 → Int32 → sv_V → Option sv_V) (l1 : Nat) (l2 : Nat) (l3 : Int32) (l4 : Int32) (l5 : Int32) (V : sv_V) : Option sv_V := if (V.1 146 53) ≤ l5 then (some V) else (if sx_in l5 20 = true then sx_let (V.1 172 l5.toNatClampNeg) (fun x23 => sx_lp9 (B_X12_followAll_31 N k6) N l1 l2 l3 l4 l5 x23 (0 : Int32) l4 V) else none)
set_option maxRecDepth 20000 in
theorem tB_X12_followAll_6 {g : sx_G} (hG : sx_Go g) {P : Option Value → sv_V → Prop} {Vr : sv_V} (hP : P none Vr) {N : Nat} {k6 : Nat → Nat → Int32 → Int32 → Int32 → sv_V → Option sv_V} (hk6 : ∀ (l1 : Nat) (l2 : Nat) (l3 : Int32) (l4 : Int32) (l5 : Int32) (V : sv_V), k6 l1 l2 l3 l4 l5 V = some Vr → sv_N g qX12_followAll 3 6 [(0, .ref 146), (1, .ref l1), (2, .ref l2), (3, .int l3), (4, .int l4), (5, .int l5)] [] V P) {l1 : Nat} {l2 : Nat} {l3 : Int32} {l4 : Int32} {l5 : Int32} {V : sv_V} (h : B_X12_followAll_6 N k6 l1 l2 l3 l4 l5 V = some Vr) : sv_N g qX12_followAll 3 6 [(0, .ref 146), (1, .ref l1), (2, .ref l2), (3, .int l3), (4, .int l4), (5, .int l5)] [] V P := by
  unfold B_X12_followAll_6 at h
  refine sx_iload (pc := 6) dX12_followAll_6 sx_m5 ?_
  refine sx_aload_n (pc := 8) dX12_followAll_8 sx_m0 ?_
  refine sv_getI (pc := 9) hG dX12_followAll_9 f_12_706 lay_146 rfl ?_
  refine sx_icmp_ge (pc := 12) (tgt := 212) dX12_followAll_12 (by decide) (fun c21 => ?_) (fun c21 => ?_)
  · have h := sx_pos c21 h
    exact sv_vret (pc := 212) dX12_followAll_212 rfl h hP
  · have h := sx_neg c21 h
    refine sx_aload_n (pc := 15) dX12_followAll_15 sx_m0 ?_
    refine sv_getA (pc := 16) hG dX12_followAll_16 f_12_88 lay_146 rfl cr_146_54 ?_
    refine sx_iload (pc := 19) dX12_followAll_19 sx_m5 ?_
    obtain ⟨g22, h⟩ := sx_grd h
    refine sv_iald (pc := 21) hG dX12_followAll_21 lay_172 g22 ?_
    refine sv_tI (fun x23 hx23 => ?_)
    have h := sx_letE hx23 h
    refine sx_istore (pc := 22) (lo' := [(6, .int x23), (0, .ref 146), (1, .ref l1), (2, .ref l2), (3, .int l3), (4, .int l4), (5, .int l5)]) dX12_followAll_22 (by decide) rfl ?_
    refine sx_iconst (pc := 24) (v := 0) dX12_followAll_24 (by decide) ?_
    refine sx_istore (pc := 25) (lo' := [(7, .int (0 : Int32)), (6, .int x23), (0, .ref 146), (1, .ref l1), (2, .ref l2), (3, .int l3), (4, .int l4), (5, .int l5)]) dX12_followAll_25 (by decide) rfl ?_
    refine sx_iload (pc := 27) dX12_followAll_27 sx_m6 ?_
    refine sx_istore (pc := 29) (lo' := [(8, .int l4), (7, .int (0 : Int32)), (6, .int x23), (0, .ref 146), (1, .ref l1), (2, .ref l2), (3, .int l3), (4, .int l4), (5, .int l5)]) dX12_followAll_29 (by decide) rfl ?_
    refine sx_wk (sx_s1 sx_m3 (sx_s1 sx_m4 (sx_s1 sx_m5 (sx_s1 sx_m6 (sx_s1 sx_m7 (sx_s1 sx_m8 (sx_s1 sx_m2 (sx_s1 sx_m1 (sx_s1 sx_m0 sx_s0))))))))) ?_
    exact tL_X12_followAll_31 hG hP hk6 N _ _ _ _ _ _ _ _ _ h
theorem tL_X12_followAll_6 {g : sx_G} (hG : sx_Go g) {P : Option Value → sv_V → Prop} {Vr : sv_V} (hP : P none Vr) {N : Nat}   : ∀ (n : Nat) (l1 : Nat) (l2 : Nat) (l3 : Int32) (l4 : Int32) (l5 : Int32) (V : sv_V), sx_lp6 (B_X12_followAll_6 N ) n l1 l2 l3 l4 l5 V = some Vr → sv_N g qX12_followAll 3 6 [(0, .ref 146), (1, .ref l1), (2, .ref l2), (3, .int l3), (4, .int l4), (5, .int l5)] [] V P :=
  sx_lp6_ind (fun k0 ih _ _ _ _ _ V h => tB_X12_followAll_6 hG hP ih h)
def F_X12_followAll (N : Nat) (l1 : Nat) (l2 : Nat) (l3 : Int32) (V : sv_V) : Option sv_V := sx_lp6 (B_X12_followAll_6 N ) N l1 l2 l3 (0 : Int32) (0 : Int32) V
set_option maxRecDepth 20000 in
theorem t_X12_followAll {g : sx_G} (hG : sx_Go g) {P : Option Value → sv_V → Prop} {Vr : sv_V} (hP : P none Vr) {N : Nat} {l1 : Nat} {l2 : Nat} {l3 : Int32} {V : sv_V} (h : F_X12_followAll N l1 l2 l3 V = some Vr) : sv_N g qX12_followAll 3 0 [(0, .ref 146), (1, .ref l1), (2, .ref l2), (3, .int l3)] [] V P := by
  unfold F_X12_followAll at h
  refine sx_iconst (pc := 0) (v := 0) dX12_followAll_0 (by decide) ?_
  refine sx_istore (pc := 1) (lo' := [(4, .int (0 : Int32)), (0, .ref 146), (1, .ref l1), (2, .ref l2), (3, .int l3)]) dX12_followAll_1 (by decide) rfl ?_
  refine sx_iconst (pc := 3) (v := 0) dX12_followAll_3 (by decide) ?_
  refine sx_istore (pc := 4) (lo' := [(5, .int (0 : Int32)), (4, .int (0 : Int32)), (0, .ref 146), (1, .ref l1), (2, .ref l2), (3, .int l3)]) dX12_followAll_4 (by decide) rfl ?_
  refine sx_wk (sx_s1 sx_m2 (sx_s1 sx_m3 (sx_s1 sx_m4 (sx_s1 sx_m5 (sx_s1 sx_m1 (sx_s1 sx_m0 sx_s0)))))) ?_
  exact tL_X12_followAll_6 hG hP  N _ _ _ _ _ _ h
theorem dX12_likeReference_0 : decode cX12_likeReference 0 = .ok (.iload_n 1, 1) := by decide +kernel
theorem dX12_likeReference_1 : decode cX12_likeReference 1 = .ok (.bipush 52, 2) := by decide +kernel
theorem dX12_likeReference_3 : decode cX12_likeReference 3 = .ok (.if_icmp .ge 10, 3) := by decide +kernel
theorem dX12_likeReference_6 : decode cX12_likeReference 6 = .ok (.aload_n 0, 1) := by decide +kernel
theorem dX12_likeReference_7 : decode cX12_likeReference 7 = .ok (.getfield 469, 3) := by decide +kernel
theorem dX12_likeReference_10 : decode cX12_likeReference 10 = .ok (.goto 4, 3) := by decide +kernel
theorem dX12_likeReference_13 : decode cX12_likeReference 13 = .ok (.iconst 1, 1) := by decide +kernel
theorem dX12_likeReference_14 : decode cX12_likeReference 14 = .ok (.istore_n 2, 1) := by decide +kernel
theorem dX12_likeReference_15 : decode cX12_likeReference 15 = .ok (.aload_n 0, 1) := by decide +kernel
theorem dX12_likeReference_16 : decode cX12_likeReference 16 = .ok (.iload_n 2, 1) := by decide +kernel
theorem dX12_likeReference_17 : decode cX12_likeReference 17 = .ok (.invokevirtual 576, 3) := by decide +kernel
theorem dX12_likeReference_20 : decode cX12_likeReference 20 = .ok (.ifCond .ne 4, 3) := by decide +kernel
theorem dX12_likeReference_23 : decode cX12_likeReference 23 = .ok (.return_, 1) := by decide +kernel
theorem dX12_likeReference_24 : decode cX12_likeReference 24 = .ok (.iload_n 1, 1) := by decide +kernel
theorem dX12_likeReference_25 : decode cX12_likeReference 25 = .ok (.iconst 2, 1) := by decide +kernel
theorem dX12_likeReference_26 : decode cX12_likeReference 26 = .ok (.irem, 1) := by decide +kernel
theorem dX12_likeReference_27 : decode cX12_likeReference 27 = .ok (.iconst 1, 1) := by decide +kernel
theorem dX12_likeReference_28 : decode cX12_likeReference 28 = .ok (.if_icmp .ne 7, 3) := by decide +kernel
theorem dX12_likeReference_31 : decode cX12_likeReference 31 = .ok (.iconst 1, 1) := by decide +kernel
theorem dX12_likeReference_32 : decode cX12_likeReference 32 = .ok (.goto 4, 3) := by decide +kernel
theorem dX12_likeReference_35 : decode cX12_likeReference 35 = .ok (.iconst 0, 1) := by decide +kernel
theorem dX12_likeReference_36 : decode cX12_likeReference 36 = .ok (.istore_n 3, 1) := by decide +kernel
theorem dX12_likeReference_37 : decode cX12_likeReference 37 = .ok (.iload_n 3, 1) := by decide +kernel
theorem dX12_likeReference_38 : decode cX12_likeReference 38 = .ok (.ifCond .eq 10, 3) := by decide +kernel
theorem dX12_likeReference_41 : decode cX12_likeReference 41 = .ok (.aload_n 0, 1) := by decide +kernel
theorem dX12_likeReference_42 : decode cX12_likeReference 42 = .ok (.getfield 460, 3) := by decide +kernel
theorem dX12_likeReference_45 : decode cX12_likeReference 45 = .ok (.goto 7, 3) := by decide +kernel
theorem dX12_likeReference_48 : decode cX12_likeReference 48 = .ok (.aload_n 0, 1) := by decide +kernel
theorem dX12_likeReference_49 : decode cX12_likeReference 49 = .ok (.getfield 463, 3) := by decide +kernel
theorem dX12_likeReference_52 : decode cX12_likeReference 52 = .ok (.istore 4, 2) := by decide +kernel
theorem dX12_likeReference_54 : decode cX12_likeReference 54 = .ok (.aload_n 0, 1) := by decide +kernel
theorem dX12_likeReference_55 : decode cX12_likeReference 55 = .ok (.iload 4, 2) := by decide +kernel
theorem dX12_likeReference_57 : decode cX12_likeReference 57 = .ok (.iload_n 3, 1) := by decide +kernel
theorem dX12_likeReference_58 : decode cX12_likeReference 58 = .ok (.ifCond .eq 10, 3) := by decide +kernel
theorem dX12_likeReference_61 : decode cX12_likeReference 61 = .ok (.aload_n 0, 1) := by decide +kernel
theorem dX12_likeReference_62 : decode cX12_likeReference 62 = .ok (.getfield 454, 3) := by decide +kernel
theorem dX12_likeReference_65 : decode cX12_likeReference 65 = .ok (.goto 7, 3) := by decide +kernel
theorem dX12_likeReference_68 : decode cX12_likeReference 68 = .ok (.aload_n 0, 1) := by decide +kernel
theorem dX12_likeReference_69 : decode cX12_likeReference 69 = .ok (.getfield 457, 3) := by decide +kernel
theorem dX12_likeReference_72 : decode cX12_likeReference 72 = .ok (.invokevirtual 582, 3) := by decide +kernel
theorem dX12_likeReference_75 : decode cX12_likeReference 75 = .ok (.istore 5, 2) := by decide +kernel
theorem dX12_likeReference_77 : decode cX12_likeReference 77 = .ok (.aload_n 0, 1) := by decide +kernel
theorem dX12_likeReference_78 : decode cX12_likeReference 78 = .ok (.getfield 409, 3) := by decide +kernel
theorem dX12_likeReference_81 : decode cX12_likeReference 81 = .ok (.ifCond .le 4, 3) := by decide +kernel
theorem dX12_likeReference_84 : decode cX12_likeReference 84 = .ok (.return_, 1) := by decide +kernel
theorem dX12_likeReference_85 : decode cX12_likeReference 85 = .ok (.aload_n 0, 1) := by decide +kernel
theorem dX12_likeReference_86 : decode cX12_likeReference 86 = .ok (.getfield 76, 3) := by decide +kernel
theorem dX12_likeReference_89 : decode cX12_likeReference 89 = .ok (.iload 5, 2) := by decide +kernel
theorem dX12_likeReference_91 : decode cX12_likeReference 91 = .ok (.iaload, 1) := by decide +kernel
theorem dX12_likeReference_92 : decode cX12_likeReference 92 = .ok (.aload_n 0, 1) := by decide +kernel
theorem dX12_likeReference_93 : decode cX12_likeReference 93 = .ok (.getfield 70, 3) := by decide +kernel
theorem dX12_likeReference_96 : decode cX12_likeReference 96 = .ok (.iload 5, 2) := by decide +kernel
theorem dX12_likeReference_98 : decode cX12_likeReference 98 = .ok (.iaload, 1) := by decide +kernel
theorem dX12_likeReference_99 : decode cX12_likeReference 99 = .ok (.isub, 1) := by decide +kernel
theorem dX12_likeReference_100 : decode cX12_likeReference 100 = .ok (.aload_n 0, 1) := by decide +kernel
theorem dX12_likeReference_101 : decode cX12_likeReference 101 = .ok (.getfield 79, 3) := by decide +kernel
theorem dX12_likeReference_104 : decode cX12_likeReference 104 = .ok (.iload 5, 2) := by decide +kernel
theorem dX12_likeReference_106 : decode cX12_likeReference 106 = .ok (.iaload, 1) := by decide +kernel
theorem dX12_likeReference_107 : decode cX12_likeReference 107 = .ok (.aload_n 0, 1) := by decide +kernel
theorem dX12_likeReference_108 : decode cX12_likeReference 108 = .ok (.getfield 73, 3) := by decide +kernel
theorem dX12_likeReference_111 : decode cX12_likeReference 111 = .ok (.iload 5, 2) := by decide +kernel
theorem dX12_likeReference_113 : decode cX12_likeReference 113 = .ok (.iaload, 1) := by decide +kernel
theorem dX12_likeReference_114 : decode cX12_likeReference 114 = .ok (.isub, 1) := by decide +kernel
theorem dX12_likeReference_115 : decode cX12_likeReference 115 = .ok (.aload_n 0, 1) := by decide +kernel
theorem dX12_likeReference_116 : decode cX12_likeReference 116 = .ok (.getfield 439, 3) := by decide +kernel
theorem dX12_likeReference_119 : decode cX12_likeReference 119 = .ok (.aload_n 0, 1) := by decide +kernel
theorem dX12_likeReference_120 : decode cX12_likeReference 120 = .ok (.getfield 442, 3) := by decide +kernel
theorem dX12_likeReference_123 : decode cX12_likeReference 123 = .ok (.invokestatic 520, 3) := by decide +kernel
theorem dX12_likeReference_126 : decode cX12_likeReference 126 = .ok (.istore 6, 2) := by decide +kernel
theorem dX12_likeReference_128 : decode cX12_likeReference 128 = .ok (.iload_n 1, 1) := by decide +kernel
theorem dX12_likeReference_129 : decode cX12_likeReference 129 = .ok (.bipush 52, 2) := by decide +kernel
theorem dX12_likeReference_131 : decode cX12_likeReference 131 = .ok (.if_icmp .ge 61, 3) := by decide +kernel
theorem dX12_likeReference_134 : decode cX12_likeReference 134 = .ok (.iconst 0, 1) := by decide +kernel
theorem dX12_likeReference_135 : decode cX12_likeReference 135 = .ok (.istore 7, 2) := by decide +kernel
theorem dX12_likeReference_137 : decode cX12_likeReference 137 = .ok (.iload 7, 2) := by decide +kernel
theorem dX12_likeReference_139 : decode cX12_likeReference 139 = .ok (.iload_n 2, 1) := by decide +kernel
theorem dX12_likeReference_140 : decode cX12_likeReference 140 = .ok (.if_icmp .ge 46, 3) := by decide +kernel
theorem dX12_likeReference_143 : decode cX12_likeReference 143 = .ok (.aload_n 0, 1) := by decide +kernel
theorem dX12_likeReference_144 : decode cX12_likeReference 144 = .ok (.getfield 409, 3) := by decide +kernel
theorem dX12_likeReference_147 : decode cX12_likeReference 147 = .ok (.ifCond .ne 39, 3) := by decide +kernel
theorem dX12_likeReference_150 : decode cX12_likeReference 150 = .ok (.aload_n 0, 1) := by decide +kernel
theorem dX12_likeReference_151 : decode cX12_likeReference 151 = .ok (.aload_n 0, 1) := by decide +kernel
theorem dX12_likeReference_152 : decode cX12_likeReference 152 = .ok (.getfield 466, 3) := by decide +kernel
theorem dX12_likeReference_155 : decode cX12_likeReference 155 = .ok (.aload_n 0, 1) := by decide +kernel
theorem dX12_likeReference_156 : decode cX12_likeReference 156 = .ok (.invokevirtual 579, 3) := by decide +kernel
theorem dX12_likeReference_159 : decode cX12_likeReference 159 = .ok (.invokevirtual 582, 3) := by decide +kernel
theorem dX12_likeReference_162 : decode cX12_likeReference 162 = .ok (.istore 8, 2) := by decide +kernel
theorem dX12_likeReference_164 : decode cX12_likeReference 164 = .ok (.aload_n 0, 1) := by decide +kernel
theorem dX12_likeReference_165 : decode cX12_likeReference 165 = .ok (.getfield 409, 3) := by decide +kernel
theorem dX12_likeReference_168 : decode cX12_likeReference 168 = .ok (.ifCond .ne 12, 3) := by decide +kernel
theorem dX12_likeReference_171 : decode cX12_likeReference 171 = .ok (.aload_n 0, 1) := by decide +kernel
theorem dX12_likeReference_172 : decode cX12_likeReference 172 = .ok (.iload 8, 2) := by decide +kernel
theorem dX12_likeReference_174 : decode cX12_likeReference 174 = .ok (.iload 6, 2) := by decide +kernel
theorem dX12_likeReference_176 : decode cX12_likeReference 176 = .ok (.i2l, 1) := by decide +kernel
theorem dX12_likeReference_177 : decode cX12_likeReference 177 = .ok (.invokevirtual 630, 3) := by decide +kernel
theorem dX12_likeReference_180 : decode cX12_likeReference 180 = .ok (.iinc 7 1, 3) := by decide +kernel
theorem dX12_likeReference_183 : decode cX12_likeReference 183 = .ok (.goto (-46), 3) := by decide +kernel
theorem dX12_likeReference_186 : decode cX12_likeReference 186 = .ok (.aload_n 0, 1) := by decide +kernel
theorem dX12_likeReference_187 : decode cX12_likeReference 187 = .ok (.iconst 1, 1) := by decide +kernel
theorem dX12_likeReference_188 : decode cX12_likeReference 188 = .ok (.putfield 469, 3) := by decide +kernel
theorem dX12_likeReference_191 : decode cX12_likeReference 191 = .ok (.return_, 1) := by decide +kernel
theorem dX12_likeReference_192 : decode cX12_likeReference 192 = .ok (.aload_n 0, 1) := by decide +kernel
theorem dX12_likeReference_193 : decode cX12_likeReference 193 = .ok (.invokevirtual 579, 3) := by decide +kernel
theorem dX12_likeReference_196 : decode cX12_likeReference 196 = .ok (.istore 7, 2) := by decide +kernel
theorem dX12_likeReference_198 : decode cX12_likeReference 198 = .ok (.iload_n 1, 1) := by decide +kernel
theorem dX12_likeReference_199 : decode cX12_likeReference 199 = .ok (.bipush 54, 2) := by decide +kernel
theorem dX12_likeReference_201 : decode cX12_likeReference 201 = .ok (.if_icmp .ge 94, 3) := by decide +kernel
theorem dX12_likeReference_204 : decode cX12_likeReference 204 = .ok (.aload_n 0, 1) := by decide +kernel
theorem dX12_likeReference_205 : decode cX12_likeReference 205 = .ok (.getfield 466, 3) := by decide +kernel
theorem dX12_likeReference_208 : decode cX12_likeReference 208 = .ok (.iconst 1, 1) := by decide +kernel
theorem dX12_likeReference_209 : decode cX12_likeReference 209 = .ok (.if_icmp .ne 17, 3) := by decide +kernel
theorem dX12_likeReference_212 : decode cX12_likeReference 212 = .ok (.iload 7, 2) := by decide +kernel
theorem dX12_likeReference_214 : decode cX12_likeReference 214 = .ok (.ifCond .lt 12, 3) := by decide +kernel
theorem dX12_likeReference_217 : decode cX12_likeReference 217 = .ok (.iload 7, 2) := by decide +kernel
theorem dX12_likeReference_219 : decode cX12_likeReference 219 = .ok (.aload_n 0, 1) := by decide +kernel
theorem dX12_likeReference_220 : decode cX12_likeReference 220 = .ok (.getfield 706, 3) := by decide +kernel
theorem dX12_likeReference_223 : decode cX12_likeReference 223 = .ok (.if_icmp .lt 9, 3) := by decide +kernel
theorem dX12_likeReference_226 : decode cX12_likeReference 226 = .ok (.aload_n 0, 1) := by decide +kernel
theorem dX12_likeReference_227 : decode cX12_likeReference 227 = .ok (.iconst 5, 1) := by decide +kernel
theorem dX12_likeReference_228 : decode cX12_likeReference 228 = .ok (.invokevirtual 421, 3) := by decide +kernel
theorem dX12_likeReference_231 : decode cX12_likeReference 231 = .ok (.return_, 1) := by decide +kernel
theorem dX12_likeReference_232 : decode cX12_likeReference 232 = .ok (.iload 7, 2) := by decide +kernel
theorem dX12_likeReference_234 : decode cX12_likeReference 234 = .ok (.ifCond .ne 7, 3) := by decide +kernel
theorem dX12_likeReference_237 : decode cX12_likeReference 237 = .ok (.iconst 0, 1) := by decide +kernel
theorem dX12_likeReference_238 : decode cX12_likeReference 238 = .ok (.goto 14, 3) := by decide +kernel
theorem dX12_likeReference_241 : decode cX12_likeReference 241 = .ok (.aload_n 0, 1) := by decide +kernel
theorem dX12_likeReference_242 : decode cX12_likeReference 242 = .ok (.getfield 88, 3) := by decide +kernel
theorem dX12_likeReference_245 : decode cX12_likeReference 245 = .ok (.iload 7, 2) := by decide +kernel
theorem dX12_likeReference_247 : decode cX12_likeReference 247 = .ok (.iconst 1, 1) := by decide +kernel
theorem dX12_likeReference_248 : decode cX12_likeReference 248 = .ok (.isub, 1) := by decide +kernel
theorem dX12_likeReference_249 : decode cX12_likeReference 249 = .ok (.iaload, 1) := by decide +kernel
theorem dX12_likeReference_250 : decode cX12_likeReference 250 = .ok (.iconst 1, 1) := by decide +kernel
theorem dX12_likeReference_251 : decode cX12_likeReference 251 = .ok (.iadd, 1) := by decide +kernel
theorem dX12_likeReference_252 : decode cX12_likeReference 252 = .ok (.istore 8, 2) := by decide +kernel
theorem dX12_likeReference_254 : decode cX12_likeReference 254 = .ok (.iload 8, 2) := by decide +kernel
theorem dX12_likeReference_256 : decode cX12_likeReference 256 = .ok (.aload_n 0, 1) := by decide +kernel
theorem dX12_likeReference_257 : decode cX12_likeReference 257 = .ok (.getfield 88, 3) := by decide +kernel
theorem dX12_likeReference_260 : decode cX12_likeReference 260 = .ok (.iload 7, 2) := by decide +kernel
theorem dX12_likeReference_262 : decode cX12_likeReference 262 = .ok (.iaload, 1) := by decide +kernel
theorem dX12_likeReference_263 : decode cX12_likeReference 263 = .ok (.if_icmp .gt 31, 3) := by decide +kernel
theorem dX12_likeReference_266 : decode cX12_likeReference 266 = .ok (.bipush 102, 2) := by decide +kernel
theorem dX12_likeReference_268 : decode cX12_likeReference 268 = .ok (.iload 8, 2) := by decide +kernel
theorem dX12_likeReference_270 : decode cX12_likeReference 270 = .ok (.iadd, 1) := by decide +kernel
theorem dX12_likeReference_271 : decode cX12_likeReference 271 = .ok (.iload 5, 2) := by decide +kernel
theorem dX12_likeReference_273 : decode cX12_likeReference 273 = .ok (.if_icmp .eq 15, 3) := by decide +kernel
theorem dX12_likeReference_276 : decode cX12_likeReference 276 = .ok (.aload_n 0, 1) := by decide +kernel
theorem dX12_likeReference_277 : decode cX12_likeReference 277 = .ok (.bipush 102, 2) := by decide +kernel
theorem dX12_likeReference_279 : decode cX12_likeReference 279 = .ok (.iload 8, 2) := by decide +kernel
theorem dX12_likeReference_281 : decode cX12_likeReference 281 = .ok (.iadd, 1) := by decide +kernel
theorem dX12_likeReference_282 : decode cX12_likeReference 282 = .ok (.iload 6, 2) := by decide +kernel
theorem dX12_likeReference_284 : decode cX12_likeReference 284 = .ok (.i2l, 1) := by decide +kernel
theorem dX12_likeReference_285 : decode cX12_likeReference 285 = .ok (.invokevirtual 630, 3) := by decide +kernel
theorem dX12_likeReference_288 : decode cX12_likeReference 288 = .ok (.iinc 8 1, 3) := by decide +kernel
theorem dX12_likeReference_291 : decode cX12_likeReference 291 = .ok (.goto (-37), 3) := by decide +kernel
theorem dX12_likeReference_294 : decode cX12_likeReference 294 = .ok (.return_, 1) := by decide +kernel
theorem dX12_likeReference_295 : decode cX12_likeReference 295 = .ok (.aload_n 0, 1) := by decide +kernel
theorem dX12_likeReference_296 : decode cX12_likeReference 296 = .ok (.iload 7, 2) := by decide +kernel
theorem dX12_likeReference_298 : decode cX12_likeReference 298 = .ok (.invokevirtual 624, 3) := by decide +kernel
theorem dX12_likeReference_301 : decode cX12_likeReference 301 = .ok (.ifCond .ne 9, 3) := by decide +kernel
theorem dX12_likeReference_304 : decode cX12_likeReference 304 = .ok (.aload_n 0, 1) := by decide +kernel
theorem dX12_likeReference_305 : decode cX12_likeReference 305 = .ok (.iconst 5, 1) := by decide +kernel
theorem dX12_likeReference_306 : decode cX12_likeReference 306 = .ok (.invokevirtual 421, 3) := by decide +kernel
theorem dX12_likeReference_309 : decode cX12_likeReference 309 = .ok (.return_, 1) := by decide +kernel
theorem dX12_likeReference_310 : decode cX12_likeReference 310 = .ok (.iload 7, 2) := by decide +kernel
theorem dX12_likeReference_312 : decode cX12_likeReference 312 = .ok (.ifCond .ne 10, 3) := by decide +kernel
theorem dX12_likeReference_315 : decode cX12_likeReference 315 = .ok (.aload_n 0, 1) := by decide +kernel
theorem dX12_likeReference_316 : decode cX12_likeReference 316 = .ok (.getfield 316, 3) := by decide +kernel
theorem dX12_likeReference_319 : decode cX12_likeReference 319 = .ok (.goto 27, 3) := by decide +kernel
theorem dX12_likeReference_322 : decode cX12_likeReference 322 = .ok (.aload_n 0, 1) := by decide +kernel
theorem dX12_likeReference_323 : decode cX12_likeReference 323 = .ok (.getfield 706, 3) := by decide +kernel
theorem dX12_likeReference_326 : decode cX12_likeReference 326 = .ok (.ifCond .ne 7, 3) := by decide +kernel
theorem dX12_likeReference_329 : decode cX12_likeReference 329 = .ok (.iconst 0, 1) := by decide +kernel
theorem dX12_likeReference_330 : decode cX12_likeReference 330 = .ok (.goto 16, 3) := by decide +kernel
theorem dX12_likeReference_333 : decode cX12_likeReference 333 = .ok (.aload_n 0, 1) := by decide +kernel
theorem dX12_likeReference_334 : decode cX12_likeReference 334 = .ok (.getfield 88, 3) := by decide +kernel
theorem dX12_likeReference_337 : decode cX12_likeReference 337 = .ok (.aload_n 0, 1) := by decide +kernel
theorem dX12_likeReference_338 : decode cX12_likeReference 338 = .ok (.getfield 706, 3) := by decide +kernel
theorem dX12_likeReference_341 : decode cX12_likeReference 341 = .ok (.iconst 1, 1) := by decide +kernel
theorem dX12_likeReference_342 : decode cX12_likeReference 342 = .ok (.isub, 1) := by decide +kernel
theorem dX12_likeReference_343 : decode cX12_likeReference 343 = .ok (.iaload, 1) := by decide +kernel
theorem dX12_likeReference_344 : decode cX12_likeReference 344 = .ok (.iconst 1, 1) := by decide +kernel
theorem dX12_likeReference_345 : decode cX12_likeReference 345 = .ok (.iadd, 1) := by decide +kernel
theorem dX12_likeReference_346 : decode cX12_likeReference 346 = .ok (.istore 8, 2) := by decide +kernel
theorem dX12_likeReference_348 : decode cX12_likeReference 348 = .ok (.bipush 102, 2) := by decide +kernel
theorem dX12_likeReference_350 : decode cX12_likeReference 350 = .ok (.iload 7, 2) := by decide +kernel
theorem dX12_likeReference_352 : decode cX12_likeReference 352 = .ok (.imul, 1) := by decide +kernel
theorem dX12_likeReference_353 : decode cX12_likeReference 353 = .ok (.istore 9, 2) := by decide +kernel
theorem dX12_likeReference_355 : decode cX12_likeReference 355 = .ok (.iload 9, 2) := by decide +kernel
theorem dX12_likeReference_357 : decode cX12_likeReference 357 = .ok (.bipush 102, 2) := by decide +kernel
theorem dX12_likeReference_359 : decode cX12_likeReference 359 = .ok (.iload 7, 2) := by decide +kernel
theorem dX12_likeReference_361 : decode cX12_likeReference 361 = .ok (.imul, 1) := by decide +kernel
theorem dX12_likeReference_362 : decode cX12_likeReference 362 = .ok (.iload 8, 2) := by decide +kernel
theorem dX12_likeReference_364 : decode cX12_likeReference 364 = .ok (.iadd, 1) := by decide +kernel
theorem dX12_likeReference_365 : decode cX12_likeReference 365 = .ok (.if_icmp .ge 26, 3) := by decide +kernel
theorem dX12_likeReference_368 : decode cX12_likeReference 368 = .ok (.iload 9, 2) := by decide +kernel
theorem dX12_likeReference_370 : decode cX12_likeReference 370 = .ok (.iload 5, 2) := by decide +kernel
theorem dX12_likeReference_372 : decode cX12_likeReference 372 = .ok (.if_icmp .eq 13, 3) := by decide +kernel
theorem dX12_likeReference_375 : decode cX12_likeReference 375 = .ok (.aload_n 0, 1) := by decide +kernel
theorem dX12_likeReference_376 : decode cX12_likeReference 376 = .ok (.iload 9, 2) := by decide +kernel
theorem dX12_likeReference_378 : decode cX12_likeReference 378 = .ok (.iload 6, 2) := by decide +kernel
theorem dX12_likeReference_380 : decode cX12_likeReference 380 = .ok (.i2l, 1) := by decide +kernel
theorem dX12_likeReference_381 : decode cX12_likeReference 381 = .ok (.iconst 0, 1) := by decide +kernel
theorem dX12_likeReference_382 : decode cX12_likeReference 382 = .ok (.invokevirtual 529, 3) := by decide +kernel
theorem dX12_likeReference_385 : decode cX12_likeReference 385 = .ok (.iinc 9 1, 3) := by decide +kernel
theorem dX12_likeReference_388 : decode cX12_likeReference 388 = .ok (.goto (-33), 3) := by decide +kernel
theorem dX12_likeReference_391 : decode cX12_likeReference 391 = .ok (.return_, 1) := by decide +kernel
def B_X12_likeReference_180 (N : Nat) (k137 : Int32 → Int32 → Int32 → sv_V → Option sv_V) (l2 : Int32) (l6 : Int32) (l7 : Int32) (V : sv_V) : Option sv_V := sx_let (l7 + 1) (fun x1 => k137 l2 l6 x1 V)
set_option maxRecDepth 20000 in
theorem tB_X12_likeReference_180 {g : sx_G} (hG : sx_Go g) {P : Option Value → sv_V → Prop} {Vr : sv_V} (hP : P none Vr) {N : Nat} {k137 : Int32 → Int32 → Int32 → sv_V → Option sv_V} (hk137 : ∀ (l2 : Int32) (l6 : Int32) (l7 : Int32) (V : sv_V), k137 l2 l6 l7 V = some Vr → sv_N g qX12_likeReference 5 137 [(0, .ref 146), (2, .int l2), (6, .int l6), (7, .int l7)] [] V P) {l2 : Int32} {l6 : Int32} {l7 : Int32} {V : sv_V} (h : B_X12_likeReference_180 N k137 l2 l6 l7 V = some Vr) : sv_N g qX12_likeReference 5 180 [(0, .ref 146), (2, .int l2), (6, .int l6), (7, .int l7)] [] V P := by
  unfold B_X12_likeReference_180 at h
  obtain ⟨x1, hx1⟩ : ∃ z : Int32, z = l7 + 1 := ⟨_, rfl⟩
  have h := sx_letE hx1 h
  refine sx_iinc (pc := 180) (v := x1) (lo' := [(7, .int x1), (0, .ref 146), (2, .int l2), (6, .int l6)]) dX12_likeReference_180 sx_m3 (by rw [hx1]; rfl) (by decide) rfl ?_
  refine sx_goto (pc := 183) (tgt := 137) dX12_likeReference_183 (by decide) ?_
  refine sx_wk (sx_s1 sx_m1 (sx_s1 sx_m2 (sx_s1 sx_m3 (sx_s1 sx_m0 sx_s0)))) ?_
  exact hk137 _ _ _ _ h
def B_X12_likeReference_137 (N : Nat) (k137 : Int32 → Int32 → Int32 → sv_V → Option sv_V) (l2 : Int32) (l6 : Int32) (l7 : Int32) (V : sv_V) : Option sv_V := if l2 ≤ l7 then (sx_let (sv_I V 146 75 (1 : Int32)) (fun V3 => some V3)) else (if (V.1 146 59) = 0 then ((F_X12_pop  V).bind (fun (x8, V6) => (F_X12_pointOf (V.1 146 74) x8 V6).bind (fun (x11, V9) => if (V9.1 146 59) = 0 then ((F_X12_move x11 l6.toInt64 V9).bind (fun V13 => B_X12_likeReference_180 N k137 l2 l6 l7 V13)) else (B_X12_likeReference_180 N k137 l2 l6 l7 V9)))) else (sx_let (sv_I V 146 75 (1 : Int32)) (fun V5 => some V5)))
set_option maxRecDepth 20000 in
theorem tB_X12_likeReference_137 {g : sx_G} (hG : sx_Go g) {P : Option Value → sv_V → Prop} {Vr : sv_V} (hP : P none Vr) {N : Nat} {k137 : Int32 → Int32 → Int32 → sv_V → Option sv_V} (hk137 : ∀ (l2 : Int32) (l6 : Int32) (l7 : Int32) (V : sv_V), k137 l2 l6 l7 V = some Vr → sv_N g qX12_likeReference 5 137 [(0, .ref 146), (2, .int l2), (6, .int l6), (7, .int l7)] [] V P) {l2 : Int32} {l6 : Int32} {l7 : Int32} {V : sv_V} (h : B_X12_likeReference_137 N k137 l2 l6 l7 V = some Vr) : sv_N g qX12_likeReference 5 137 [(0, .ref 146), (2, .int l2), (6, .int l6), (7, .int l7)] [] V P := by
  unfold B_X12_likeReference_137 at h
  refine sx_iload (pc := 137) dX12_likeReference_137 sx_m3 ?_
  refine sx_iload_n (pc := 139) dX12_likeReference_139 sx_m1 ?_
  refine sx_icmp_ge (pc := 140) (tgt := 186) dX12_likeReference_140 (by decide) (fun c2 => ?_) (fun c2 => ?_)
  · have h := sx_pos c2 h
    refine sx_aload_n (pc := 186) dX12_likeReference_186 sx_m0 ?_
    refine sx_iconst (pc := 187) (v := 1) dX12_likeReference_187 (by decide) ?_
    obtain ⟨V3, hV3⟩ : ∃ z : sv_V, z = sv_I V 146 75 (1 : Int32) := ⟨_, rfl⟩
    have h := sx_letE hV3 h
    refine sv_putI (pc := 188) hG dX12_likeReference_188 f_12_469 lay_146 rfl hV3 ?_
    exact sv_vret (pc := 191) dX12_likeReference_191 rfl h hP
  · have h := sx_neg c2 h
    refine sx_aload_n (pc := 143) dX12_likeReference_143 sx_m0 ?_
    refine sv_getI (pc := 144) hG dX12_likeReference_144 f_12_409 lay_146 rfl ?_
    refine sx_if_ne (pc := 147) (tgt := 186) dX12_likeReference_147 (by decide) (fun c4 => ?_) (fun c4 => ?_)
    · have h := sx_neg c4 h
      refine sx_aload_n (pc := 186) dX12_likeReference_186 sx_m0 ?_
      refine sx_iconst (pc := 187) (v := 1) dX12_likeReference_187 (by decide) ?_
      obtain ⟨V5, hV5⟩ : ∃ z : sv_V, z = sv_I V 146 75 (1 : Int32) := ⟨_, rfl⟩
      have h := sx_letE hV5 h
      refine sv_putI (pc := 188) hG dX12_likeReference_188 f_12_469 lay_146 rfl hV5 ?_
      exact sv_vret (pc := 191) dX12_likeReference_191 rfl h hP
    · have h := sx_pos c4 h
      refine sx_aload_n (pc := 150) dX12_likeReference_150 sx_m0 ?_
      refine sx_aload_n (pc := 151) dX12_likeReference_151 sx_m0 ?_
      refine sv_getI (pc := 152) hG dX12_likeReference_152 f_12_466 lay_146 rfl ?_
      refine sx_aload_n (pc := 155) dX12_likeReference_155 sx_m0 ?_
      obtain ⟨⟨x8, V6⟩, g7, h⟩ := sx_bnd h
      refine sv_cV (pc := 156) (y := qX12_pop) (o := (some (.int x8))) (as := []) (V1 := V6) hG dX12_likeReference_156 l_X12_579 y0X12_pop yvX12_pop rfl (Nat.le_of_ble_eq_true rfl) lay_146 kr_12 (by decide) (Nat.le_of_ble_eq_true rfl) rfl rfl rfl (t_X12_pop hG ⟨rfl, rfl⟩ g7) ?_
      obtain ⟨⟨x11, V9⟩, g10, h⟩ := sx_bnd h
      refine sv_cV (pc := 159) (y := qX12_pointOf) (o := (some (.int x11))) (as := [.int (V.1 146 74), .int x8]) (V1 := V9) hG dX12_likeReference_159 l_X12_582 y0X12_pointOf yvX12_pointOf rfl (Nat.le_of_ble_eq_true rfl) lay_146 kr_12 (by decide) (Nat.le_of_ble_eq_true rfl) rfl rfl rfl (t_X12_pointOf hG ⟨rfl, rfl⟩ g10) ?_
      refine sx_istore (pc := 162) (lo' := [(8, .int x11), (0, .ref 146), (2, .int l2), (6, .int l6), (7, .int l7)]) dX12_likeReference_162 (by decide) rfl ?_
      refine sx_aload_n (pc := 164) dX12_likeReference_164 sx_m1 ?_
      refine sv_getI (pc := 165) hG dX12_likeReference_165 f_12_409 lay_146 rfl ?_
      refine sx_if_ne (pc := 168) (tgt := 180) dX12_likeReference_168 (by decide) (fun c12 => ?_) (fun c12 => ?_)
      · have h := sx_neg c12 h
        refine sx_wk (sx_s1 sx_m1 (sx_s1 sx_m2 (sx_s1 sx_m3 (sx_s1 sx_m4 sx_s0)))) ?_
        exact tB_X12_likeReference_180 hG hP hk137 h
      · have h := sx_pos c12 h
        refine sx_aload_n (pc := 171) dX12_likeReference_171 sx_m1 ?_
        refine sx_iload (pc := 172) dX12_likeReference_172 sx_m0 ?_
        refine sx_iload (pc := 174) dX12_likeReference_174 sx_m3 ?_
        refine sx_i2l (pc := 176) dX12_likeReference_176 ?_
        obtain ⟨V13, g14, h⟩ := sx_bnd h
        refine sv_cV (pc := 177) (y := qX12_move) (o := none) (as := [.int x11, .long l6.toInt64]) (V1 := V13) hG dX12_likeReference_177 l_X12_630 y0X12_move yvX12_move rfl (Nat.le_of_ble_eq_true rfl) lay_146 kr_12 (by decide) (Nat.le_of_ble_eq_true rfl) rfl rfl rfl (t_X12_move hG ⟨rfl, rfl⟩ g14) ?_
        refine sx_wk (sx_s1 sx_m1 (sx_s1 sx_m2 (sx_s1 sx_m3 (sx_s1 sx_m4 sx_s0)))) ?_
        exact tB_X12_likeReference_180 hG hP hk137 h
theorem tL_X12_likeReference_137 {g : sx_G} (hG : sx_Go g) {P : Option Value → sv_V → Prop} {Vr : sv_V} (hP : P none Vr) {N : Nat}   : ∀ (n : Nat) (l2 : Int32) (l6 : Int32) (l7 : Int32) (V : sv_V), sx_lp4 (B_X12_likeReference_137 N ) n l2 l6 l7 V = some Vr → sv_N g qX12_likeReference 5 137 [(0, .ref 146), (2, .int l2), (6, .int l6), (7, .int l7)] [] V P :=
  sx_lp4_ind (fun k0 ih _ _ _ V h => tB_X12_likeReference_137 hG hP ih h)
def B_X12_likeReference_226 (N : Nat)   (V : sv_V) : Option sv_V := (F_X12_fail (5 : Int32) V).bind (fun V15 => some V15)
set_option maxRecDepth 20000 in
theorem tB_X12_likeReference_226 {g : sx_G} (hG : sx_Go g) {P : Option Value → sv_V → Prop} {Vr : sv_V} (hP : P none Vr) {N : Nat}    {V : sv_V} (h : B_X12_likeReference_226 N   V = some Vr) : sv_N g qX12_likeReference 5 226 [(0, .ref 146)] [] V P := by
  unfold B_X12_likeReference_226 at h
  refine sx_aload_n (pc := 226) dX12_likeReference_226 sx_m0 ?_
  refine sx_iconst (pc := 227) (v := 5) dX12_likeReference_227 (by decide) ?_
  obtain ⟨V15, g16, h⟩ := sx_bnd h
  refine sv_cV (pc := 228) (y := qX12_fail) (o := none) (as := [.int (5 : Int32)]) (V1 := V15) hG dX12_likeReference_228 l_X12_421 y0X12_fail yvX12_fail rfl (Nat.le_of_ble_eq_true rfl) lay_146 kr_12 (by decide) (Nat.le_of_ble_eq_true rfl) rfl rfl rfl (t_X12_fail hG ⟨rfl, rfl⟩ g16) ?_
  exact sv_vret (pc := 231) dX12_likeReference_231 rfl h hP
def B_X12_likeReference_288 (N : Nat) (k254 : Int32 → Int32 → Int32 → Int32 → sv_V → Option sv_V) (l5 : Int32) (l6 : Int32) (l7 : Int32) (l8 : Int32) (V : sv_V) : Option sv_V := sx_let (l8 + 1) (fun x17 => k254 l5 l6 l7 x17 V)
set_option maxRecDepth 20000 in
theorem tB_X12_likeReference_288 {g : sx_G} (hG : sx_Go g) {P : Option Value → sv_V → Prop} {Vr : sv_V} (hP : P none Vr) {N : Nat} {k254 : Int32 → Int32 → Int32 → Int32 → sv_V → Option sv_V} (hk254 : ∀ (l5 : Int32) (l6 : Int32) (l7 : Int32) (l8 : Int32) (V : sv_V), k254 l5 l6 l7 l8 V = some Vr → sv_N g qX12_likeReference 5 254 [(0, .ref 146), (5, .int l5), (6, .int l6), (7, .int l7), (8, .int l8)] [] V P) {l5 : Int32} {l6 : Int32} {l7 : Int32} {l8 : Int32} {V : sv_V} (h : B_X12_likeReference_288 N k254 l5 l6 l7 l8 V = some Vr) : sv_N g qX12_likeReference 5 288 [(0, .ref 146), (5, .int l5), (6, .int l6), (7, .int l7), (8, .int l8)] [] V P := by
  unfold B_X12_likeReference_288 at h
  obtain ⟨x17, hx17⟩ : ∃ z : Int32, z = l8 + 1 := ⟨_, rfl⟩
  have h := sx_letE hx17 h
  refine sx_iinc (pc := 288) (v := x17) (lo' := [(8, .int x17), (0, .ref 146), (5, .int l5), (6, .int l6), (7, .int l7)]) dX12_likeReference_288 sx_m4 (by rw [hx17]; rfl) (by decide) rfl ?_
  refine sx_goto (pc := 291) (tgt := 254) dX12_likeReference_291 (by decide) ?_
  refine sx_wk (sx_s1 sx_m1 (sx_s1 sx_m2 (sx_s1 sx_m3 (sx_s1 sx_m4 (sx_s1 sx_m0 sx_s0))))) ?_
  exact hk254 _ _ _ _ _ h
def B_X12_likeReference_254 (N : Nat) (k254 : Int32 → Int32 → Int32 → Int32 → sv_V → Option sv_V) (l5 : Int32) (l6 : Int32) (l7 : Int32) (l8 : Int32) (V : sv_V) : Option sv_V := if sx_in l7 20 = true then if (V.1 172 l7.toNatClampNeg) < l8 then (some V) else (if ((102 : Int32) + l8) = l5 then (B_X12_likeReference_288 N k254 l5 l6 l7 l8 V) else ((F_X12_move ((102 : Int32) + l8) l6.toInt64 V).bind (fun V21 => B_X12_likeReference_288 N k254 l5 l6 l7 l8 V21))) else none
set_option maxRecDepth 20000 in
theorem tB_X12_likeReference_254 {g : sx_G} (hG : sx_Go g) {P : Option Value → sv_V → Prop} {Vr : sv_V} (hP : P none Vr) {N : Nat} {k254 : Int32 → Int32 → Int32 → Int32 → sv_V → Option sv_V} (hk254 : ∀ (l5 : Int32) (l6 : Int32) (l7 : Int32) (l8 : Int32) (V : sv_V), k254 l5 l6 l7 l8 V = some Vr → sv_N g qX12_likeReference 5 254 [(0, .ref 146), (5, .int l5), (6, .int l6), (7, .int l7), (8, .int l8)] [] V P) {l5 : Int32} {l6 : Int32} {l7 : Int32} {l8 : Int32} {V : sv_V} (h : B_X12_likeReference_254 N k254 l5 l6 l7 l8 V = some Vr) : sv_N g qX12_likeReference 5 254 [(0, .ref 146), (5, .int l5), (6, .int l6), (7, .int l7), (8, .int l8)] [] V P := by
  unfold B_X12_likeReference_254 at h
  refine sx_iload (pc := 254) dX12_likeReference_254 sx_m4 ?_
  refine sx_aload_n (pc := 256) dX12_likeReference_256 sx_m0 ?_
  refine sv_getA (pc := 257) hG dX12_likeReference_257 f_12_88 lay_146 rfl cr_146_54 ?_
  refine sx_iload (pc := 260) dX12_likeReference_260 sx_m3 ?_
  obtain ⟨g18, h⟩ := sx_grd h
  refine sv_iald (pc := 262) hG dX12_likeReference_262 lay_172 g18 ?_
  refine sx_icmp_gt (pc := 263) (tgt := 294) dX12_likeReference_263 (by decide) (fun c19 => ?_) (fun c19 => ?_)
  · have h := sx_pos c19 h
    exact sv_vret (pc := 294) dX12_likeReference_294 rfl h hP
  · have h := sx_neg c19 h
    refine sx_bipush (pc := 266) (v := 102) dX12_likeReference_266 (by decide) ?_
    refine sx_iload (pc := 268) dX12_likeReference_268 sx_m4 ?_
    refine sx_iadd (pc := 270) dX12_likeReference_270 ?_
    refine sx_iload (pc := 271) dX12_likeReference_271 sx_m1 ?_
    refine sx_icmp_eq (pc := 273) (tgt := 288) dX12_likeReference_273 (by decide) (fun c20 => ?_) (fun c20 => ?_)
    · have h := sx_pos c20 h
      refine sx_wk (sx_s1 sx_m0 (sx_s1 sx_m1 (sx_s1 sx_m2 (sx_s1 sx_m3 (sx_s1 sx_m4 sx_s0))))) ?_
      exact tB_X12_likeReference_288 hG hP hk254 h
    · have h := sx_neg c20 h
      refine sx_aload_n (pc := 276) dX12_likeReference_276 sx_m0 ?_
      refine sx_bipush (pc := 277) (v := 102) dX12_likeReference_277 (by decide) ?_
      refine sx_iload (pc := 279) dX12_likeReference_279 sx_m4 ?_
      refine sx_iadd (pc := 281) dX12_likeReference_281 ?_
      refine sx_iload (pc := 282) dX12_likeReference_282 sx_m2 ?_
      refine sx_i2l (pc := 284) dX12_likeReference_284 ?_
      obtain ⟨V21, g22, h⟩ := sx_bnd h
      refine sv_cV (pc := 285) (y := qX12_move) (o := none) (as := [.int ((102 : Int32) + l8), .long l6.toInt64]) (V1 := V21) hG dX12_likeReference_285 l_X12_630 y0X12_move yvX12_move rfl (Nat.le_of_ble_eq_true rfl) lay_146 kr_12 (by decide) (Nat.le_of_ble_eq_true rfl) rfl rfl rfl (t_X12_move hG ⟨rfl, rfl⟩ g22) ?_
      refine sx_wk (sx_s1 sx_m0 (sx_s1 sx_m1 (sx_s1 sx_m2 (sx_s1 sx_m3 (sx_s1 sx_m4 sx_s0))))) ?_
      exact tB_X12_likeReference_288 hG hP hk254 h
theorem tL_X12_likeReference_254 {g : sx_G} (hG : sx_Go g) {P : Option Value → sv_V → Prop} {Vr : sv_V} (hP : P none Vr) {N : Nat}   : ∀ (n : Nat) (l5 : Int32) (l6 : Int32) (l7 : Int32) (l8 : Int32) (V : sv_V), sx_lp5 (B_X12_likeReference_254 N ) n l5 l6 l7 l8 V = some Vr → sv_N g qX12_likeReference 5 254 [(0, .ref 146), (5, .int l5), (6, .int l6), (7, .int l7), (8, .int l8)] [] V P :=
  sx_lp5_ind (fun k0 ih _ _ _ _ V h => tB_X12_likeReference_254 hG hP ih h)
def B_X12_likeReference_252 (N : Nat)  (l5 : Int32) (l6 : Int32) (l7 : Int32) (s0 : Int32) (V : sv_V) : Option sv_V := sx_lp5 (B_X12_likeReference_254 N ) N l5 l6 l7 s0 V
set_option maxRecDepth 20000 in
theorem tB_X12_likeReference_252 {g : sx_G} (hG : sx_Go g) {P : Option Value → sv_V → Prop} {Vr : sv_V} (hP : P none Vr) {N : Nat}   {l5 : Int32} {l6 : Int32} {l7 : Int32} {s0 : Int32} {V : sv_V} (h : B_X12_likeReference_252 N  l5 l6 l7 s0 V = some Vr) : sv_N g qX12_likeReference 5 252 [(0, .ref 146), (5, .int l5), (6, .int l6), (7, .int l7)] [.int s0] V P := by
  unfold B_X12_likeReference_252 at h
  refine sx_istore (pc := 252) (lo' := [(8, .int s0), (0, .ref 146), (5, .int l5), (6, .int l6), (7, .int l7)]) dX12_likeReference_252 (by decide) rfl ?_
  refine sx_wk (sx_s1 sx_m1 (sx_s1 sx_m2 (sx_s1 sx_m3 (sx_s1 sx_m4 (sx_s1 sx_m0 sx_s0))))) ?_
  exact tL_X12_likeReference_254 hG hP  N _ _ _ _ _ h
def B_X12_likeReference_385 (N : Nat) (k355 : Int32 → Int32 → Int32 → Int32 → Int32 → sv_V → Option sv_V) (l5 : Int32) (l6 : Int32) (l7 : Int32) (l8 : Int32) (l9 : Int32) (V : sv_V) : Option sv_V := sx_let (l9 + 1) (fun x23 => k355 l5 l6 l7 l8 x23 V)
set_option maxRecDepth 20000 in
theorem tB_X12_likeReference_385 {g : sx_G} (hG : sx_Go g) {P : Option Value → sv_V → Prop} {Vr : sv_V} (hP : P none Vr) {N : Nat} {k355 : Int32 → Int32 → Int32 → Int32 → Int32 → sv_V → Option sv_V} (hk355 : ∀ (l5 : Int32) (l6 : Int32) (l7 : Int32) (l8 : Int32) (l9 : Int32) (V : sv_V), k355 l5 l6 l7 l8 l9 V = some Vr → sv_N g qX12_likeReference 5 355 [(0, .ref 146), (5, .int l5), (6, .int l6), (7, .int l7), (8, .int l8), (9, .int l9)] [] V P) {l5 : Int32} {l6 : Int32} {l7 : Int32} {l8 : Int32} {l9 : Int32} {V : sv_V} (h : B_X12_likeReference_385 N k355 l5 l6 l7 l8 l9 V = some Vr) : sv_N g qX12_likeReference 5 385 [(0, .ref 146), (5, .int l5), (6, .int l6), (7, .int l7), (8, .int l8), (9, .int l9)] [] V P := by
  unfold B_X12_likeReference_385 at h
  obtain ⟨x23, hx23⟩ : ∃ z : Int32, z = l9 + 1 := ⟨_, rfl⟩
  have h := sx_letE hx23 h
  refine sx_iinc (pc := 385) (v := x23) (lo' := [(9, .int x23), (0, .ref 146), (5, .int l5), (6, .int l6), (7, .int l7), (8, .int l8)]) dX12_likeReference_385 sx_m5 (by rw [hx23]; rfl) (by decide) rfl ?_
  refine sx_goto (pc := 388) (tgt := 355) dX12_likeReference_388 (by decide) ?_
  refine sx_wk (sx_s1 sx_m1 (sx_s1 sx_m2 (sx_s1 sx_m3 (sx_s1 sx_m4 (sx_s1 sx_m5 (sx_s1 sx_m0 sx_s0)))))) ?_
  exact hk355 _ _ _ _ _ _ h
def B_X12_likeReference_355 (N : Nat) (k355 : Int32 → Int32 → Int32 → Int32 → Int32 → sv_V → Option sv_V) (l5 : Int32) (l6 : Int32) (l7 : Int32) (l8 : Int32) (l9 : Int32) (V : sv_V) : Option sv_V := if (((102 : Int32) * l7) + l8) ≤ l9 then (some V) else (if l9 = l5 then (B_X12_likeReference_385 N k355 l5 l6 l7 l8 l9 V) else ((F_X12_shiftBy l9 l6.toInt64 (0 : Int32) V).bind (fun V26 => B_X12_likeReference_385 N k355 l5 l6 l7 l8 l9 V26)))
set_option maxRecDepth 20000 in
theorem tB_X12_likeReference_355 {g : sx_G} (hG : sx_Go g) {P : Option Value → sv_V → Prop} {Vr : sv_V} (hP : P none Vr) {N : Nat} {k355 : Int32 → Int32 → Int32 → Int32 → Int32 → sv_V → Option sv_V} (hk355 : ∀ (l5 : Int32) (l6 : Int32) (l7 : Int32) (l8 : Int32) (l9 : Int32) (V : sv_V), k355 l5 l6 l7 l8 l9 V = some Vr → sv_N g qX12_likeReference 5 355 [(0, .ref 146), (5, .int l5), (6, .int l6), (7, .int l7), (8, .int l8), (9, .int l9)] [] V P) {l5 : Int32} {l6 : Int32} {l7 : Int32} {l8 : Int32} {l9 : Int32} {V : sv_V} (h : B_X12_likeReference_355 N k355 l5 l6 l7 l8 l9 V = some Vr) : sv_N g qX12_likeReference 5 355 [(0, .ref 146), (5, .int l5), (6, .int l6), (7, .int l7), (8, .int l8), (9, .int l9)] [] V P := by
  unfold B_X12_likeReference_355 at h
  refine sx_iload (pc := 355) dX12_likeReference_355 sx_m5 ?_
  refine sx_bipush (pc := 357) (v := 102) dX12_likeReference_357 (by decide) ?_
  refine sx_iload (pc := 359) dX12_likeReference_359 sx_m3 ?_
  refine sx_imul (pc := 361) dX12_likeReference_361 ?_
  refine sx_iload (pc := 362) dX12_likeReference_362 sx_m4 ?_
  refine sx_iadd (pc := 364) dX12_likeReference_364 ?_
  refine sx_icmp_ge (pc := 365) (tgt := 391) dX12_likeReference_365 (by decide) (fun c24 => ?_) (fun c24 => ?_)
  · have h := sx_pos c24 h
    exact sv_vret (pc := 391) dX12_likeReference_391 rfl h hP
  · have h := sx_neg c24 h
    refine sx_iload (pc := 368) dX12_likeReference_368 sx_m5 ?_
    refine sx_iload (pc := 370) dX12_likeReference_370 sx_m1 ?_
    refine sx_icmp_eq (pc := 372) (tgt := 385) dX12_likeReference_372 (by decide) (fun c25 => ?_) (fun c25 => ?_)
    · have h := sx_pos c25 h
      refine sx_wk (sx_s1 sx_m0 (sx_s1 sx_m1 (sx_s1 sx_m2 (sx_s1 sx_m3 (sx_s1 sx_m4 (sx_s1 sx_m5 sx_s0)))))) ?_
      exact tB_X12_likeReference_385 hG hP hk355 h
    · have h := sx_neg c25 h
      refine sx_aload_n (pc := 375) dX12_likeReference_375 sx_m0 ?_
      refine sx_iload (pc := 376) dX12_likeReference_376 sx_m5 ?_
      refine sx_iload (pc := 378) dX12_likeReference_378 sx_m2 ?_
      refine sx_i2l (pc := 380) dX12_likeReference_380 ?_
      refine sx_iconst (pc := 381) (v := 0) dX12_likeReference_381 (by decide) ?_
      obtain ⟨V26, g27, h⟩ := sx_bnd h
      refine sv_cV (pc := 382) (y := qX12_shiftBy) (o := none) (as := [.int l9, .long l6.toInt64, .int (0 : Int32)]) (V1 := V26) hG dX12_likeReference_382 l_X12_529 y0X12_shiftBy yvX12_shiftBy rfl (Nat.le_of_ble_eq_true rfl) lay_146 kr_12 (by decide) (Nat.le_of_ble_eq_true rfl) rfl rfl rfl (t_X12_shiftBy hG ⟨rfl, rfl⟩ g27) ?_
      refine sx_wk (sx_s1 sx_m0 (sx_s1 sx_m1 (sx_s1 sx_m2 (sx_s1 sx_m3 (sx_s1 sx_m4 (sx_s1 sx_m5 sx_s0)))))) ?_
      exact tB_X12_likeReference_385 hG hP hk355 h
theorem tL_X12_likeReference_355 {g : sx_G} (hG : sx_Go g) {P : Option Value → sv_V → Prop} {Vr : sv_V} (hP : P none Vr) {N : Nat}   : ∀ (n : Nat) (l5 : Int32) (l6 : Int32) (l7 : Int32) (l8 : Int32) (l9 : Int32) (V : sv_V), sx_lp6 (B_X12_likeReference_355 N ) n l5 l6 l7 l8 l9 V = some Vr → sv_N g qX12_likeReference 5 355 [(0, .ref 146), (5, .int l5), (6, .int l6), (7, .int l7), (8, .int l8), (9, .int l9)] [] V P :=
  sx_lp6_ind (fun k0 ih _ _ _ _ _ V h => tB_X12_likeReference_355 hG hP ih h)
def B_X12_likeReference_346 (N : Nat)  (l5 : Int32) (l6 : Int32) (l7 : Int32) (s0 : Int32) (V : sv_V) : Option sv_V := sx_let ((102 : Int32) * l7) (fun x28 => sx_lp6 (B_X12_likeReference_355 N ) N l5 l6 l7 s0 x28 V)
set_option maxRecDepth 20000 in
theorem tB_X12_likeReference_346 {g : sx_G} (hG : sx_Go g) {P : Option Value → sv_V → Prop} {Vr : sv_V} (hP : P none Vr) {N : Nat}   {l5 : Int32} {l6 : Int32} {l7 : Int32} {s0 : Int32} {V : sv_V} (h : B_X12_likeReference_346 N  l5 l6 l7 s0 V = some Vr) : sv_N g qX12_likeReference 5 346 [(0, .ref 146), (5, .int l5), (6, .int l6), (7, .int l7)] [.int s0] V P := by
  unfold B_X12_likeReference_346 at h
  refine sx_istore (pc := 346) (lo' := [(8, .int s0), (0, .ref 146), (5, .int l5), (6, .int l6), (7, .int l7)]) dX12_likeReference_346 (by decide) rfl ?_
  refine sx_bipush (pc := 348) (v := 102) dX12_likeReference_348 (by decide) ?_
  refine sx_iload (pc := 350) dX12_likeReference_350 sx_m4 ?_
  refine sx_imul (pc := 352) dX12_likeReference_352 ?_
  refine sv_tI (fun x28 hx28 => ?_)
  have h := sx_letE hx28 h
  refine sx_istore (pc := 353) (lo' := [(9, .int x28), (8, .int s0), (0, .ref 146), (5, .int l5), (6, .int l6), (7, .int l7)]) dX12_likeReference_353 (by decide) rfl ?_
  refine sx_wk (sx_s1 sx_m2 (sx_s1 sx_m3 (sx_s1 sx_m4 (sx_s1 sx_m5 (sx_s1 sx_m1 (sx_s1 sx_m0 sx_s0)))))) ?_
  exact tL_X12_likeReference_355 hG hP  N _ _ _ _ _ _ h
def B_X12_likeReference_72 (N : Nat)  (l1 : Int32) (l2 : Int32) (s1 : Int32) (s2 : Int32) (V : sv_V) : Option sv_V := (F_X12_pointOf s1 s2 V).bind (fun (x31, V29) => if (V29.1 146 59) ≤ 0 then (if sx_in x31 204 = true then if sx_in x31 204 = true then if sx_in x31 204 = true then if sx_in x31 204 = true then (F_X12_by ((V29.1 168 x31.toNatClampNeg) - (V29.1 166 x31.toNatClampNeg)) ((V29.1 169 x31.toNatClampNeg) - (V29.1 167 x31.toNatClampNeg)) (V29.1 146 65) (V29.1 146 66) V29).bind (fun (x39, V37) => if (52 : Int32) ≤ l1 then ((F_X12_pop  V37).bind (fun (x43, V41) => if (54 : Int32) ≤ l1 then ((F_X12_isZone x43 V41).bind (fun (x47, V45) => if x47 = 0 then ((F_X12_fail (5 : Int32) V45).bind (fun V52 => some V52)) else (if x43 = 0 then (B_X12_likeReference_346 N  x31 x39 x43 (V45.1 146 14) V45) else (if (V45.1 146 53) = 0 then (B_X12_likeReference_346 N  x31 x39 x43 (0 : Int32) V45) else (if sx_in ((V45.1 146 53) - (1 : Int32)) 20 = true then B_X12_likeReference_346 N  x31 x39 x43 ((V45.1 172 ((V45.1 146 53) - (1 : Int32)).toNatClampNeg) + (1 : Int32)) V45 else none))))) else (if (V41.1 146 74) = (1 : Int32) then (if x43 < 0 then (B_X12_likeReference_226 N   V41) else (if x43 < (V41.1 146 53) then (if x43 = 0 then (B_X12_likeReference_252 N  x31 x39 x43 (0 : Int32) V41) else (if sx_in (x43 - (1 : Int32)) 20 = true then B_X12_likeReference_252 N  x31 x39 x43 ((V41.1 172 (x43 - (1 : Int32)).toNatClampNeg) + (1 : Int32)) V41 else none)) else (B_X12_likeReference_226 N   V41))) else (B_X12_likeReference_226 N   V41)))) else (sx_lp4 (B_X12_likeReference_137 N ) N l2 x39 (0 : Int32) V37)) else none else none else none else none) else (some V29))
set_option maxRecDepth 20000 in
theorem tB_X12_likeReference_72 {g : sx_G} (hG : sx_Go g) {P : Option Value → sv_V → Prop} {Vr : sv_V} (hP : P none Vr) {N : Nat}   {l1 : Int32} {l2 : Int32} {s1 : Int32} {s2 : Int32} {V : sv_V} (h : B_X12_likeReference_72 N  l1 l2 s1 s2 V = some Vr) : sv_N g qX12_likeReference 5 72 [(0, .ref 146), (1, .int l1), (2, .int l2)] [.int s2, .int s1, .ref 146] V P := by
  unfold B_X12_likeReference_72 at h
  obtain ⟨⟨x31, V29⟩, g30, h⟩ := sx_bnd h
  refine sv_cV (pc := 72) (y := qX12_pointOf) (o := (some (.int x31))) (as := [.int s1, .int s2]) (V1 := V29) hG dX12_likeReference_72 l_X12_582 y0X12_pointOf yvX12_pointOf rfl (Nat.le_of_ble_eq_true rfl) lay_146 kr_12 (by decide) (Nat.le_of_ble_eq_true rfl) rfl rfl rfl (t_X12_pointOf hG ⟨rfl, rfl⟩ g30) ?_
  refine sx_istore (pc := 75) (lo' := [(5, .int x31), (0, .ref 146), (1, .int l1), (2, .int l2)]) dX12_likeReference_75 (by decide) rfl ?_
  refine sx_aload_n (pc := 77) dX12_likeReference_77 sx_m1 ?_
  refine sv_getI (pc := 78) hG dX12_likeReference_78 f_12_409 lay_146 rfl ?_
  refine sx_if_le (pc := 81) (tgt := 85) dX12_likeReference_81 (by decide) (fun c32 => ?_) (fun c32 => ?_)
  · have h := sx_pos c32 h
    refine sx_aload_n (pc := 85) dX12_likeReference_85 sx_m1 ?_
    refine sv_getA (pc := 86) hG dX12_likeReference_86 f_12_76 lay_146 rfl cr_146_48 ?_
    refine sx_iload (pc := 89) dX12_likeReference_89 sx_m0 ?_
    obtain ⟨g33, h⟩ := sx_grd h
    refine sv_iald (pc := 91) hG dX12_likeReference_91 lay_168 g33 ?_
    refine sx_aload_n (pc := 92) dX12_likeReference_92 sx_m1 ?_
    refine sv_getA (pc := 93) hG dX12_likeReference_93 f_12_70 lay_146 rfl cr_146_46 ?_
    refine sx_iload (pc := 96) dX12_likeReference_96 sx_m0 ?_
    obtain ⟨g34, h⟩ := sx_grd h
    refine sv_iald (pc := 98) hG dX12_likeReference_98 lay_166 g34 ?_
    refine sx_isub (pc := 99) dX12_likeReference_99 ?_
    refine sx_aload_n (pc := 100) dX12_likeReference_100 sx_m1 ?_
    refine sv_getA (pc := 101) hG dX12_likeReference_101 f_12_79 lay_146 rfl cr_146_49 ?_
    refine sx_iload (pc := 104) dX12_likeReference_104 sx_m0 ?_
    obtain ⟨g35, h⟩ := sx_grd h
    refine sv_iald (pc := 106) hG dX12_likeReference_106 lay_169 g35 ?_
    refine sx_aload_n (pc := 107) dX12_likeReference_107 sx_m1 ?_
    refine sv_getA (pc := 108) hG dX12_likeReference_108 f_12_73 lay_146 rfl cr_146_47 ?_
    refine sx_iload (pc := 111) dX12_likeReference_111 sx_m0 ?_
    obtain ⟨g36, h⟩ := sx_grd h
    refine sv_iald (pc := 113) hG dX12_likeReference_113 lay_167 g36 ?_
    refine sx_isub (pc := 114) dX12_likeReference_114 ?_
    refine sx_aload_n (pc := 115) dX12_likeReference_115 sx_m1 ?_
    refine sv_getI (pc := 116) hG dX12_likeReference_116 f_12_439 lay_146 rfl ?_
    refine sx_aload_n (pc := 119) dX12_likeReference_119 sx_m1 ?_
    refine sv_getI (pc := 120) hG dX12_likeReference_120 f_12_442 lay_146 rfl ?_
    obtain ⟨⟨x39, V37⟩, g38, h⟩ := sx_bnd h
    refine sv_cS (pc := 123) (y := qX12_by) (o := (some (.int x39))) (as := [.int ((V29.1 168 x31.toNatClampNeg) - (V29.1 166 x31.toNatClampNeg)), .int ((V29.1 169 x31.toNatClampNeg) - (V29.1 167 x31.toNatClampNeg)), .int (V29.1 146 65), .int (V29.1 146 66)]) (V1 := V37) dX12_likeReference_123 l_X12_520 y0X12_by ysX12_by rfl (Nat.le_of_ble_eq_true rfl) (by decide) (Nat.le_of_ble_eq_true rfl) rfl rfl rfl (t_X12_by hG ⟨rfl, rfl⟩ g38) ?_
    refine sx_istore (pc := 126) (lo' := [(6, .int x39), (5, .int x31), (0, .ref 146), (1, .int l1), (2, .int l2)]) dX12_likeReference_126 (by decide) rfl ?_
    refine sx_iload_n (pc := 128) dX12_likeReference_128 sx_m3 ?_
    refine sx_bipush (pc := 129) (v := 52) dX12_likeReference_129 (by decide) ?_
    refine sx_icmp_ge (pc := 131) (tgt := 192) dX12_likeReference_131 (by decide) (fun c40 => ?_) (fun c40 => ?_)
    · have h := sx_pos c40 h
      refine sx_aload_n (pc := 192) dX12_likeReference_192 sx_m2 ?_
      obtain ⟨⟨x43, V41⟩, g42, h⟩ := sx_bnd h
      refine sv_cV (pc := 193) (y := qX12_pop) (o := (some (.int x43))) (as := []) (V1 := V41) hG dX12_likeReference_193 l_X12_579 y0X12_pop yvX12_pop rfl (Nat.le_of_ble_eq_true rfl) lay_146 kr_12 (by decide) (Nat.le_of_ble_eq_true rfl) rfl rfl rfl (t_X12_pop hG ⟨rfl, rfl⟩ g42) ?_
      refine sx_istore (pc := 196) (lo' := [(7, .int x43), (6, .int x39), (5, .int x31), (0, .ref 146), (1, .int l1), (2, .int l2)]) dX12_likeReference_196 (by decide) rfl ?_
      refine sx_iload_n (pc := 198) dX12_likeReference_198 sx_m4 ?_
      refine sx_bipush (pc := 199) (v := 54) dX12_likeReference_199 (by decide) ?_
      refine sx_icmp_ge (pc := 201) (tgt := 295) dX12_likeReference_201 (by decide) (fun c44 => ?_) (fun c44 => ?_)
      · have h := sx_pos c44 h
        refine sx_aload_n (pc := 295) dX12_likeReference_295 sx_m3 ?_
        refine sx_iload (pc := 296) dX12_likeReference_296 sx_m0 ?_
        obtain ⟨⟨x47, V45⟩, g46, h⟩ := sx_bnd h
        refine sv_cV (pc := 298) (y := qX12_isZone) (o := (some (.int x47))) (as := [.int x43]) (V1 := V45) hG dX12_likeReference_298 l_X12_624 y0X12_isZone yvX12_isZone rfl (Nat.le_of_ble_eq_true rfl) lay_146 kr_12 (by decide) (Nat.le_of_ble_eq_true rfl) rfl rfl rfl (t_X12_isZone hG ⟨rfl, rfl⟩ g46) ?_
        refine sx_if_ne (pc := 301) (tgt := 310) dX12_likeReference_301 (by decide) (fun c48 => ?_) (fun c48 => ?_)
        · have h := sx_neg c48 h
          refine sx_iload (pc := 310) dX12_likeReference_310 sx_m0 ?_
          refine sx_if_ne (pc := 312) (tgt := 322) dX12_likeReference_312 (by decide) (fun c49 => ?_) (fun c49 => ?_)
          · have h := sx_neg c49 h
            refine sx_aload_n (pc := 322) dX12_likeReference_322 sx_m3 ?_
            refine sv_getI (pc := 323) hG dX12_likeReference_323 f_12_706 lay_146 rfl ?_
            refine sx_if_ne (pc := 326) (tgt := 333) dX12_likeReference_326 (by decide) (fun c50 => ?_) (fun c50 => ?_)
            · have h := sx_neg c50 h
              refine sx_aload_n (pc := 333) dX12_likeReference_333 sx_m3 ?_
              refine sv_getA (pc := 334) hG dX12_likeReference_334 f_12_88 lay_146 rfl cr_146_54 ?_
              refine sx_aload_n (pc := 337) dX12_likeReference_337 sx_m3 ?_
              refine sv_getI (pc := 338) hG dX12_likeReference_338 f_12_706 lay_146 rfl ?_
              refine sx_iconst (pc := 341) (v := 1) dX12_likeReference_341 (by decide) ?_
              refine sx_isub (pc := 342) dX12_likeReference_342 ?_
              obtain ⟨g51, h⟩ := sx_grd h
              refine sv_iald (pc := 343) hG dX12_likeReference_343 lay_172 g51 ?_
              refine sx_iconst (pc := 344) (v := 1) dX12_likeReference_344 (by decide) ?_
              refine sx_iadd (pc := 345) dX12_likeReference_345 ?_
              refine sx_wk (sx_s1 sx_m3 (sx_s1 sx_m2 (sx_s1 sx_m1 (sx_s1 sx_m0 sx_s0)))) ?_
              exact tB_X12_likeReference_346 hG hP  h
            · have h := sx_pos c50 h
              refine sx_iconst (pc := 329) (v := 0) dX12_likeReference_329 (by decide) ?_
              refine sx_goto (pc := 330) (tgt := 346) dX12_likeReference_330 (by decide) ?_
              refine sx_wk (sx_s1 sx_m3 (sx_s1 sx_m2 (sx_s1 sx_m1 (sx_s1 sx_m0 sx_s0)))) ?_
              exact tB_X12_likeReference_346 hG hP  h
          · have h := sx_pos c49 h
            refine sx_aload_n (pc := 315) dX12_likeReference_315 sx_m3 ?_
            refine sv_getI (pc := 316) hG dX12_likeReference_316 f_12_316 lay_146 rfl ?_
            refine sx_goto (pc := 319) (tgt := 346) dX12_likeReference_319 (by decide) ?_
            refine sx_wk (sx_s1 sx_m3 (sx_s1 sx_m2 (sx_s1 sx_m1 (sx_s1 sx_m0 sx_s0)))) ?_
            exact tB_X12_likeReference_346 hG hP  h
        · have h := sx_pos c48 h
          refine sx_aload_n (pc := 304) dX12_likeReference_304 sx_m3 ?_
          refine sx_iconst (pc := 305) (v := 5) dX12_likeReference_305 (by decide) ?_
          obtain ⟨V52, g53, h⟩ := sx_bnd h
          refine sv_cV (pc := 306) (y := qX12_fail) (o := none) (as := [.int (5 : Int32)]) (V1 := V52) hG dX12_likeReference_306 l_X12_421 y0X12_fail yvX12_fail rfl (Nat.le_of_ble_eq_true rfl) lay_146 kr_12 (by decide) (Nat.le_of_ble_eq_true rfl) rfl rfl rfl (t_X12_fail hG ⟨rfl, rfl⟩ g53) ?_
          exact sv_vret (pc := 309) dX12_likeReference_309 rfl h hP
      · have h := sx_neg c44 h
        refine sx_aload_n (pc := 204) dX12_likeReference_204 sx_m3 ?_
        refine sv_getI (pc := 205) hG dX12_likeReference_205 f_12_466 lay_146 rfl ?_
        refine sx_iconst (pc := 208) (v := 1) dX12_likeReference_208 (by decide) ?_
        refine sx_icmp_ne (pc := 209) (tgt := 226) dX12_likeReference_209 (by decide) (fun c54 => ?_) (fun c54 => ?_)
        · have h := sx_neg c54 h
          refine sx_wk (sx_s1 sx_m3 sx_s0) ?_
          exact tB_X12_likeReference_226 hG hP  h
        · have h := sx_pos c54 h
          refine sx_iload (pc := 212) dX12_likeReference_212 sx_m0 ?_
          refine sx_if_lt (pc := 214) (tgt := 226) dX12_likeReference_214 (by decide) (fun c55 => ?_) (fun c55 => ?_)
          · have h := sx_pos c55 h
            refine sx_wk (sx_s1 sx_m3 sx_s0) ?_
            exact tB_X12_likeReference_226 hG hP  h
          · have h := sx_neg c55 h
            refine sx_iload (pc := 217) dX12_likeReference_217 sx_m0 ?_
            refine sx_aload_n (pc := 219) dX12_likeReference_219 sx_m3 ?_
            refine sv_getI (pc := 220) hG dX12_likeReference_220 f_12_706 lay_146 rfl ?_
            refine sx_icmp_lt (pc := 223) (tgt := 232) dX12_likeReference_223 (by decide) (fun c56 => ?_) (fun c56 => ?_)
            · have h := sx_pos c56 h
              refine sx_iload (pc := 232) dX12_likeReference_232 sx_m0 ?_
              refine sx_if_ne (pc := 234) (tgt := 241) dX12_likeReference_234 (by decide) (fun c57 => ?_) (fun c57 => ?_)
              · have h := sx_neg c57 h
                refine sx_aload_n (pc := 241) dX12_likeReference_241 sx_m3 ?_
                refine sv_getA (pc := 242) hG dX12_likeReference_242 f_12_88 lay_146 rfl cr_146_54 ?_
                refine sx_iload (pc := 245) dX12_likeReference_245 sx_m0 ?_
                refine sx_iconst (pc := 247) (v := 1) dX12_likeReference_247 (by decide) ?_
                refine sx_isub (pc := 248) dX12_likeReference_248 ?_
                obtain ⟨g58, h⟩ := sx_grd h
                refine sv_iald (pc := 249) hG dX12_likeReference_249 lay_172 g58 ?_
                refine sx_iconst (pc := 250) (v := 1) dX12_likeReference_250 (by decide) ?_
                refine sx_iadd (pc := 251) dX12_likeReference_251 ?_
                refine sx_wk (sx_s1 sx_m3 (sx_s1 sx_m2 (sx_s1 sx_m1 (sx_s1 sx_m0 sx_s0)))) ?_
                exact tB_X12_likeReference_252 hG hP  h
              · have h := sx_pos c57 h
                refine sx_iconst (pc := 237) (v := 0) dX12_likeReference_237 (by decide) ?_
                refine sx_goto (pc := 238) (tgt := 252) dX12_likeReference_238 (by decide) ?_
                refine sx_wk (sx_s1 sx_m3 (sx_s1 sx_m2 (sx_s1 sx_m1 (sx_s1 sx_m0 sx_s0)))) ?_
                exact tB_X12_likeReference_252 hG hP  h
            · have h := sx_neg c56 h
              refine sx_wk (sx_s1 sx_m3 sx_s0) ?_
              exact tB_X12_likeReference_226 hG hP  h
    · have h := sx_neg c40 h
      refine sx_iconst (pc := 134) (v := 0) dX12_likeReference_134 (by decide) ?_
      refine sx_istore (pc := 135) (lo' := [(7, .int (0 : Int32)), (6, .int x39), (5, .int x31), (0, .ref 146), (1, .int l1), (2, .int l2)]) dX12_likeReference_135 (by decide) rfl ?_
      refine sx_wk (sx_s1 sx_m3 (sx_s1 sx_m5 (sx_s1 sx_m1 (sx_s1 sx_m0 sx_s0)))) ?_
      exact tL_X12_likeReference_137 hG hP  N _ _ _ _ h
  · have h := sx_neg c32 h
    exact sv_vret (pc := 84) dX12_likeReference_84 rfl h hP
def B_X12_likeReference_52 (N : Nat)  (l1 : Int32) (l2 : Int32) (l3 : Int32) (s0 : Int32) (V : sv_V) : Option sv_V := if l3 = 0 then (B_X12_likeReference_72 N  l1 l2 s0 (V.1 146 71) V) else (B_X12_likeReference_72 N  l1 l2 s0 (V.1 146 70) V)
set_option maxRecDepth 20000 in
theorem tB_X12_likeReference_52 {g : sx_G} (hG : sx_Go g) {P : Option Value → sv_V → Prop} {Vr : sv_V} (hP : P none Vr) {N : Nat}   {l1 : Int32} {l2 : Int32} {l3 : Int32} {s0 : Int32} {V : sv_V} (h : B_X12_likeReference_52 N  l1 l2 l3 s0 V = some Vr) : sv_N g qX12_likeReference 5 52 [(0, .ref 146), (1, .int l1), (2, .int l2), (3, .int l3)] [.int s0] V P := by
  unfold B_X12_likeReference_52 at h
  refine sx_istore (pc := 52) (lo' := [(4, .int s0), (0, .ref 146), (1, .int l1), (2, .int l2), (3, .int l3)]) dX12_likeReference_52 (by decide) rfl ?_
  refine sx_aload_n (pc := 54) dX12_likeReference_54 sx_m1 ?_
  refine sx_iload (pc := 55) dX12_likeReference_55 sx_m0 ?_
  refine sx_iload_n (pc := 57) dX12_likeReference_57 sx_m4 ?_
  refine sx_if_eq (pc := 58) (tgt := 68) dX12_likeReference_58 (by decide) (fun c59 => ?_) (fun c59 => ?_)
  · have h := sx_pos c59 h
    refine sx_aload_n (pc := 68) dX12_likeReference_68 sx_m1 ?_
    refine sv_getI (pc := 69) hG dX12_likeReference_69 f_12_457 lay_146 rfl ?_
    refine sx_wk (sx_s1 sx_m1 (sx_s1 sx_m2 (sx_s1 sx_m3 sx_s0))) ?_
    exact tB_X12_likeReference_72 hG hP  h
  · have h := sx_neg c59 h
    refine sx_aload_n (pc := 61) dX12_likeReference_61 sx_m1 ?_
    refine sv_getI (pc := 62) hG dX12_likeReference_62 f_12_454 lay_146 rfl ?_
    refine sx_goto (pc := 65) (tgt := 72) dX12_likeReference_65 (by decide) ?_
    refine sx_wk (sx_s1 sx_m1 (sx_s1 sx_m2 (sx_s1 sx_m3 sx_s0))) ?_
    exact tB_X12_likeReference_72 hG hP  h
def B_X12_likeReference_36 (N : Nat)  (l1 : Int32) (l2 : Int32) (s0 : Int32) (V : sv_V) : Option sv_V := if s0 = 0 then (B_X12_likeReference_52 N  l1 l2 s0 (V.1 146 73) V) else (B_X12_likeReference_52 N  l1 l2 s0 (V.1 146 72) V)
set_option maxRecDepth 20000 in
theorem tB_X12_likeReference_36 {g : sx_G} (hG : sx_Go g) {P : Option Value → sv_V → Prop} {Vr : sv_V} (hP : P none Vr) {N : Nat}   {l1 : Int32} {l2 : Int32} {s0 : Int32} {V : sv_V} (h : B_X12_likeReference_36 N  l1 l2 s0 V = some Vr) : sv_N g qX12_likeReference 5 36 [(0, .ref 146), (1, .int l1), (2, .int l2)] [.int s0] V P := by
  unfold B_X12_likeReference_36 at h
  refine sx_istore_n (pc := 36) (lo' := [(3, .int s0), (0, .ref 146), (1, .int l1), (2, .int l2)]) dX12_likeReference_36 (by decide) rfl ?_
  refine sx_iload_n (pc := 37) dX12_likeReference_37 sx_m0 ?_
  refine sx_if_eq (pc := 38) (tgt := 48) dX12_likeReference_38 (by decide) (fun c60 => ?_) (fun c60 => ?_)
  · have h := sx_pos c60 h
    refine sx_aload_n (pc := 48) dX12_likeReference_48 sx_m1 ?_
    refine sv_getI (pc := 49) hG dX12_likeReference_49 f_12_463 lay_146 rfl ?_
    refine sx_wk (sx_s1 sx_m1 (sx_s1 sx_m2 (sx_s1 sx_m3 (sx_s1 sx_m0 sx_s0)))) ?_
    exact tB_X12_likeReference_52 hG hP  h
  · have h := sx_neg c60 h
    refine sx_aload_n (pc := 41) dX12_likeReference_41 sx_m1 ?_
    refine sv_getI (pc := 42) hG dX12_likeReference_42 f_12_460 lay_146 rfl ?_
    refine sx_goto (pc := 45) (tgt := 52) dX12_likeReference_45 (by decide) ?_
    refine sx_wk (sx_s1 sx_m1 (sx_s1 sx_m2 (sx_s1 sx_m3 (sx_s1 sx_m0 sx_s0)))) ?_
    exact tB_X12_likeReference_52 hG hP  h
def B_X12_likeReference_14 (N : Nat)  (l1 : Int32) (s0 : Int32) (V : sv_V) : Option sv_V := (F_X12_has s0 V).bind (fun (x63, V61) => if x63 = 0 then (some V61) else (if (l1 - l1 / (2 : Int32) * (2 : Int32)) = (1 : Int32) then (B_X12_likeReference_36 N  l1 s0 (1 : Int32) V61) else (B_X12_likeReference_36 N  l1 s0 (0 : Int32) V61)))
set_option maxRecDepth 20000 in
theorem tB_X12_likeReference_14 {g : sx_G} (hG : sx_Go g) {P : Option Value → sv_V → Prop} {Vr : sv_V} (hP : P none Vr) {N : Nat}   {l1 : Int32} {s0 : Int32} {V : sv_V} (h : B_X12_likeReference_14 N  l1 s0 V = some Vr) : sv_N g qX12_likeReference 5 14 [(0, .ref 146), (1, .int l1)] [.int s0] V P := by
  unfold B_X12_likeReference_14 at h
  refine sx_istore_n (pc := 14) (lo' := [(2, .int s0), (0, .ref 146), (1, .int l1)]) dX12_likeReference_14 (by decide) rfl ?_
  refine sx_aload_n (pc := 15) dX12_likeReference_15 sx_m1 ?_
  refine sx_iload_n (pc := 16) dX12_likeReference_16 sx_m0 ?_
  obtain ⟨⟨x63, V61⟩, g62, h⟩ := sx_bnd h
  refine sv_cV (pc := 17) (y := qX12_has) (o := (some (.int x63))) (as := [.int s0]) (V1 := V61) hG dX12_likeReference_17 l_X12_576 y0X12_has yvX12_has rfl (Nat.le_of_ble_eq_true rfl) lay_146 kr_12 (by decide) (Nat.le_of_ble_eq_true rfl) rfl rfl rfl (t_X12_has hG ⟨rfl, rfl⟩ g62) ?_
  refine sx_if_ne (pc := 20) (tgt := 24) dX12_likeReference_20 (by decide) (fun c64 => ?_) (fun c64 => ?_)
  · have h := sx_neg c64 h
    refine sx_iload_n (pc := 24) dX12_likeReference_24 sx_m2 ?_
    refine sx_iconst (pc := 25) (v := 2) dX12_likeReference_25 (by decide) ?_
    refine sx_irem (pc := 26) dX12_likeReference_26 (by decide) ?_
    refine sx_iconst (pc := 27) (v := 1) dX12_likeReference_27 (by decide) ?_
    refine sx_icmp_ne (pc := 28) (tgt := 35) dX12_likeReference_28 (by decide) (fun c65 => ?_) (fun c65 => ?_)
    · have h := sx_neg c65 h
      refine sx_iconst (pc := 35) (v := 0) dX12_likeReference_35 (by decide) ?_
      refine sx_wk (sx_s1 sx_m1 (sx_s1 sx_m2 (sx_s1 sx_m0 sx_s0))) ?_
      exact tB_X12_likeReference_36 hG hP  h
    · have h := sx_pos c65 h
      refine sx_iconst (pc := 31) (v := 1) dX12_likeReference_31 (by decide) ?_
      refine sx_goto (pc := 32) (tgt := 36) dX12_likeReference_32 (by decide) ?_
      refine sx_wk (sx_s1 sx_m1 (sx_s1 sx_m2 (sx_s1 sx_m0 sx_s0))) ?_
      exact tB_X12_likeReference_36 hG hP  h
  · have h := sx_pos c64 h
    exact sv_vret (pc := 23) dX12_likeReference_23 rfl h hP
def F_X12_likeReference (N : Nat) (l1 : Int32) (V : sv_V) : Option sv_V := if (52 : Int32) ≤ l1 then (B_X12_likeReference_14 N  l1 (1 : Int32) V) else (B_X12_likeReference_14 N  l1 (V.1 146 75) V)
set_option maxRecDepth 20000 in
theorem t_X12_likeReference {g : sx_G} (hG : sx_Go g) {P : Option Value → sv_V → Prop} {Vr : sv_V} (hP : P none Vr) {N : Nat} {l1 : Int32} {V : sv_V} (h : F_X12_likeReference N l1 V = some Vr) : sv_N g qX12_likeReference 5 0 [(0, .ref 146), (1, .int l1)] [] V P := by
  unfold F_X12_likeReference at h
  refine sx_iload_n (pc := 0) dX12_likeReference_0 sx_m1 ?_
  refine sx_bipush (pc := 1) (v := 52) dX12_likeReference_1 (by decide) ?_
  refine sx_icmp_ge (pc := 3) (tgt := 13) dX12_likeReference_3 (by decide) (fun c66 => ?_) (fun c66 => ?_)
  · have h := sx_pos c66 h
    refine sx_iconst (pc := 13) (v := 1) dX12_likeReference_13 (by decide) ?_
    refine sx_wk (sx_s1 sx_m0 (sx_s1 sx_m1 sx_s0)) ?_
    exact tB_X12_likeReference_14 hG hP  h
  · have h := sx_neg c66 h
    refine sx_aload_n (pc := 6) dX12_likeReference_6 sx_m0 ?_
    refine sv_getI (pc := 7) hG dX12_likeReference_7 f_12_469 lay_146 rfl ?_
    refine sx_goto (pc := 10) (tgt := 14) dX12_likeReference_10 (by decide) ?_
    refine sx_wk (sx_s1 sx_m0 (sx_s1 sx_m1 sx_s0)) ?_
    exact tB_X12_likeReference_14 hG hP  h
theorem dX12_inBetween_0 : decode cX12_inBetween 0 = .ok (.aload_n 0, 1) := by decide +kernel
theorem dX12_inBetween_1 : decode cX12_inBetween 1 = .ok (.aload_n 0, 1) := by decide +kernel
theorem dX12_inBetween_2 : decode cX12_inBetween 2 = .ok (.getfield 460, 3) := by decide +kernel
theorem dX12_inBetween_5 : decode cX12_inBetween 5 = .ok (.aload_n 0, 1) := by decide +kernel
theorem dX12_inBetween_6 : decode cX12_inBetween 6 = .ok (.getfield 454, 3) := by decide +kernel
theorem dX12_inBetween_9 : decode cX12_inBetween 9 = .ok (.invokevirtual 582, 3) := by decide +kernel
theorem dX12_inBetween_12 : decode cX12_inBetween 12 = .ok (.istore_n 2, 1) := by decide +kernel
theorem dX12_inBetween_13 : decode cX12_inBetween 13 = .ok (.aload_n 0, 1) := by decide +kernel
theorem dX12_inBetween_14 : decode cX12_inBetween 14 = .ok (.aload_n 0, 1) := by decide +kernel
theorem dX12_inBetween_15 : decode cX12_inBetween 15 = .ok (.getfield 463, 3) := by decide +kernel
theorem dX12_inBetween_18 : decode cX12_inBetween 18 = .ok (.aload_n 0, 1) := by decide +kernel
theorem dX12_inBetween_19 : decode cX12_inBetween 19 = .ok (.getfield 457, 3) := by decide +kernel
theorem dX12_inBetween_22 : decode cX12_inBetween 22 = .ok (.invokevirtual 582, 3) := by decide +kernel
theorem dX12_inBetween_25 : decode cX12_inBetween 25 = .ok (.istore_n 3, 1) := by decide +kernel
theorem dX12_inBetween_26 : decode cX12_inBetween 26 = .ok (.aload_n 0, 1) := by decide +kernel
theorem dX12_inBetween_27 : decode cX12_inBetween 27 = .ok (.getfield 409, 3) := by decide +kernel
theorem dX12_inBetween_30 : decode cX12_inBetween 30 = .ok (.ifCond .le 4, 3) := by decide +kernel
theorem dX12_inBetween_33 : decode cX12_inBetween 33 = .ok (.return_, 1) := by decide +kernel
theorem dX12_inBetween_34 : decode cX12_inBetween 34 = .ok (.aload_n 0, 1) := by decide +kernel
theorem dX12_inBetween_35 : decode cX12_inBetween 35 = .ok (.iload_n 1, 1) := by decide +kernel
theorem dX12_inBetween_36 : decode cX12_inBetween 36 = .ok (.iload_n 2, 1) := by decide +kernel
theorem dX12_inBetween_37 : decode cX12_inBetween 37 = .ok (.invokevirtual 680, 3) := by decide +kernel
theorem dX12_inBetween_40 : decode cX12_inBetween 40 = .ok (.istore 4, 2) := by decide +kernel
theorem dX12_inBetween_42 : decode cX12_inBetween 42 = .ok (.aload_n 0, 1) := by decide +kernel
theorem dX12_inBetween_43 : decode cX12_inBetween 43 = .ok (.iload_n 3, 1) := by decide +kernel
theorem dX12_inBetween_44 : decode cX12_inBetween 44 = .ok (.iload_n 2, 1) := by decide +kernel
theorem dX12_inBetween_45 : decode cX12_inBetween 45 = .ok (.invokevirtual 680, 3) := by decide +kernel
theorem dX12_inBetween_48 : decode cX12_inBetween 48 = .ok (.istore 5, 2) := by decide +kernel
theorem dX12_inBetween_50 : decode cX12_inBetween 50 = .ok (.aload_n 0, 1) := by decide +kernel
theorem dX12_inBetween_51 : decode cX12_inBetween 51 = .ok (.iload_n 3, 1) := by decide +kernel
theorem dX12_inBetween_52 : decode cX12_inBetween 52 = .ok (.iload_n 2, 1) := by decide +kernel
theorem dX12_inBetween_53 : decode cX12_inBetween 53 = .ok (.invokevirtual 627, 3) := by decide +kernel
theorem dX12_inBetween_56 : decode cX12_inBetween 56 = .ok (.istore 6, 2) := by decide +kernel
theorem dX12_inBetween_58 : decode cX12_inBetween 58 = .ok (.iload 5, 2) := by decide +kernel
theorem dX12_inBetween_60 : decode cX12_inBetween 60 = .ok (.ifCond .ne 9, 3) := by decide +kernel
theorem dX12_inBetween_63 : decode cX12_inBetween 63 = .ok (.iload 4, 2) := by decide +kernel
theorem dX12_inBetween_65 : decode cX12_inBetween 65 = .ok (.i2l, 1) := by decide +kernel
theorem dX12_inBetween_66 : decode cX12_inBetween 66 = .ok (.goto 16, 3) := by decide +kernel
theorem dX12_inBetween_69 : decode cX12_inBetween 69 = .ok (.iload 4, 2) := by decide +kernel
theorem dX12_inBetween_71 : decode cX12_inBetween 71 = .ok (.i2l, 1) := by decide +kernel
theorem dX12_inBetween_72 : decode cX12_inBetween 72 = .ok (.iload 6, 2) := by decide +kernel
theorem dX12_inBetween_74 : decode cX12_inBetween 74 = .ok (.i2l, 1) := by decide +kernel
theorem dX12_inBetween_75 : decode cX12_inBetween 75 = .ok (.lmul, 1) := by decide +kernel
theorem dX12_inBetween_76 : decode cX12_inBetween 76 = .ok (.iload 5, 2) := by decide +kernel
theorem dX12_inBetween_78 : decode cX12_inBetween 78 = .ok (.i2l, 1) := by decide +kernel
theorem dX12_inBetween_79 : decode cX12_inBetween 79 = .ok (.invokestatic 194, 3) := by decide +kernel
theorem dX12_inBetween_82 : decode cX12_inBetween 82 = .ok (.lstore 7, 2) := by decide +kernel
theorem dX12_inBetween_84 : decode cX12_inBetween 84 = .ok (.aload_n 0, 1) := by decide +kernel
theorem dX12_inBetween_85 : decode cX12_inBetween 85 = .ok (.iload_n 1, 1) := by decide +kernel
theorem dX12_inBetween_86 : decode cX12_inBetween 86 = .ok (.lload 7, 2) := by decide +kernel
theorem dX12_inBetween_88 : decode cX12_inBetween 88 = .ok (.aload_n 0, 1) := by decide +kernel
theorem dX12_inBetween_89 : decode cX12_inBetween 89 = .ok (.iload_n 1, 1) := by decide +kernel
theorem dX12_inBetween_90 : decode cX12_inBetween 90 = .ok (.iload_n 2, 1) := by decide +kernel
theorem dX12_inBetween_91 : decode cX12_inBetween 91 = .ok (.invokevirtual 627, 3) := by decide +kernel
theorem dX12_inBetween_94 : decode cX12_inBetween 94 = .ok (.i2l, 1) := by decide +kernel
theorem dX12_inBetween_95 : decode cX12_inBetween 95 = .ok (.lsub, 1) := by decide +kernel
theorem dX12_inBetween_96 : decode cX12_inBetween 96 = .ok (.invokevirtual 630, 3) := by decide +kernel
theorem dX12_inBetween_99 : decode cX12_inBetween 99 = .ok (.return_, 1) := by decide +kernel
def B_X12_inBetween_82  (l1 : Int32) (l2 : Int32) (s0 : Int64) (V : sv_V) : Option sv_V := (F_X12_between l1 l2 V).bind (fun (x3, V1) => (F_X12_move l1 (s0 - x3.toInt64) V1).bind (fun V4 => some V4))
set_option maxRecDepth 20000 in
theorem tB_X12_inBetween_82 {g : sx_G} (hG : sx_Go g) {P : Option Value → sv_V → Prop} {Vr : sv_V} (hP : P none Vr)   {l1 : Int32} {l2 : Int32} {s0 : Int64} {V : sv_V} (h : B_X12_inBetween_82  l1 l2 s0 V = some Vr) : sv_N g qX12_inBetween 5 82 [(0, .ref 146), (1, .int l1), (2, .int l2)] [.long s0] V P := by
  unfold B_X12_inBetween_82 at h
  refine sx_lstore (pc := 82) (lo' := [(7, .long s0), (0, .ref 146), (1, .int l1), (2, .int l2)]) dX12_inBetween_82 (by decide) rfl ?_
  refine sx_aload_n (pc := 84) dX12_inBetween_84 sx_m1 ?_
  refine sx_iload_n (pc := 85) dX12_inBetween_85 sx_m2 ?_
  refine sx_lload (pc := 86) dX12_inBetween_86 sx_m0 ?_
  refine sx_aload_n (pc := 88) dX12_inBetween_88 sx_m1 ?_
  refine sx_iload_n (pc := 89) dX12_inBetween_89 sx_m2 ?_
  refine sx_iload_n (pc := 90) dX12_inBetween_90 sx_m3 ?_
  obtain ⟨⟨x3, V1⟩, g2, h⟩ := sx_bnd h
  refine sv_cV (pc := 91) (y := qX12_between) (o := (some (.int x3))) (as := [.int l1, .int l2]) (V1 := V1) hG dX12_inBetween_91 l_X12_627 y0X12_between yvX12_between rfl (Nat.le_of_ble_eq_true rfl) lay_146 kr_12 (by decide) (Nat.le_of_ble_eq_true rfl) rfl rfl rfl (t_X12_between hG ⟨rfl, rfl⟩ g2) ?_
  refine sx_i2l (pc := 94) dX12_inBetween_94 ?_
  refine sx_lsub (pc := 95) dX12_inBetween_95 ?_
  obtain ⟨V4, g5, h⟩ := sx_bnd h
  refine sv_cV (pc := 96) (y := qX12_move) (o := none) (as := [.int l1, .long (s0 - x3.toInt64)]) (V1 := V4) hG dX12_inBetween_96 l_X12_630 y0X12_move yvX12_move rfl (Nat.le_of_ble_eq_true rfl) lay_146 kr_12 (by decide) (Nat.le_of_ble_eq_true rfl) rfl rfl rfl (t_X12_move hG ⟨rfl, rfl⟩ g5) ?_
  exact sv_vret (pc := 99) dX12_inBetween_99 rfl h hP
def F_X12_inBetween (l1 : Int32) (V : sv_V) : Option sv_V := (F_X12_pointOf (V.1 146 72) (V.1 146 70) V).bind (fun (x8, V6) => (F_X12_pointOf (V6.1 146 73) (V6.1 146 71) V6).bind (fun (x11, V9) => if (V9.1 146 59) ≤ 0 then ((F_X12_originally l1 x8 V9).bind (fun (x15, V13) => (F_X12_originally x11 x8 V13).bind (fun (x18, V16) => (F_X12_between x11 x8 V16).bind (fun (x21, V19) => if x18 = 0 then (B_X12_inBetween_82  l1 x8 x15.toInt64 V19) else ((F_X12_nearest (x15.toInt64 * x21.toInt64) x18.toInt64 V19).bind (fun (x25, V23) => B_X12_inBetween_82  l1 x8 x25 V23)))))) else (some V9)))
set_option maxRecDepth 20000 in
theorem t_X12_inBetween {g : sx_G} (hG : sx_Go g) {P : Option Value → sv_V → Prop} {Vr : sv_V} (hP : P none Vr) {l1 : Int32} {V : sv_V} (h : F_X12_inBetween l1 V = some Vr) : sv_N g qX12_inBetween 5 0 [(0, .ref 146), (1, .int l1)] [] V P := by
  unfold F_X12_inBetween at h
  refine sx_aload_n (pc := 0) dX12_inBetween_0 sx_m0 ?_
  refine sx_aload_n (pc := 1) dX12_inBetween_1 sx_m0 ?_
  refine sv_getI (pc := 2) hG dX12_inBetween_2 f_12_460 lay_146 rfl ?_
  refine sx_aload_n (pc := 5) dX12_inBetween_5 sx_m0 ?_
  refine sv_getI (pc := 6) hG dX12_inBetween_6 f_12_454 lay_146 rfl ?_
  obtain ⟨⟨x8, V6⟩, g7, h⟩ := sx_bnd h
  refine sv_cV (pc := 9) (y := qX12_pointOf) (o := (some (.int x8))) (as := [.int (V.1 146 72), .int (V.1 146 70)]) (V1 := V6) hG dX12_inBetween_9 l_X12_582 y0X12_pointOf yvX12_pointOf rfl (Nat.le_of_ble_eq_true rfl) lay_146 kr_12 (by decide) (Nat.le_of_ble_eq_true rfl) rfl rfl rfl (t_X12_pointOf hG ⟨rfl, rfl⟩ g7) ?_
  refine sx_istore_n (pc := 12) (lo' := [(2, .int x8), (0, .ref 146), (1, .int l1)]) dX12_inBetween_12 (by decide) rfl ?_
  refine sx_aload_n (pc := 13) dX12_inBetween_13 sx_m1 ?_
  refine sx_aload_n (pc := 14) dX12_inBetween_14 sx_m1 ?_
  refine sv_getI (pc := 15) hG dX12_inBetween_15 f_12_463 lay_146 rfl ?_
  refine sx_aload_n (pc := 18) dX12_inBetween_18 sx_m1 ?_
  refine sv_getI (pc := 19) hG dX12_inBetween_19 f_12_457 lay_146 rfl ?_
  obtain ⟨⟨x11, V9⟩, g10, h⟩ := sx_bnd h
  refine sv_cV (pc := 22) (y := qX12_pointOf) (o := (some (.int x11))) (as := [.int (V6.1 146 73), .int (V6.1 146 71)]) (V1 := V9) hG dX12_inBetween_22 l_X12_582 y0X12_pointOf yvX12_pointOf rfl (Nat.le_of_ble_eq_true rfl) lay_146 kr_12 (by decide) (Nat.le_of_ble_eq_true rfl) rfl rfl rfl (t_X12_pointOf hG ⟨rfl, rfl⟩ g10) ?_
  refine sx_istore_n (pc := 25) (lo' := [(3, .int x11), (2, .int x8), (0, .ref 146), (1, .int l1)]) dX12_inBetween_25 (by decide) rfl ?_
  refine sx_aload_n (pc := 26) dX12_inBetween_26 sx_m2 ?_
  refine sv_getI (pc := 27) hG dX12_inBetween_27 f_12_409 lay_146 rfl ?_
  refine sx_if_le (pc := 30) (tgt := 34) dX12_inBetween_30 (by decide) (fun c12 => ?_) (fun c12 => ?_)
  · have h := sx_pos c12 h
    refine sx_aload_n (pc := 34) dX12_inBetween_34 sx_m2 ?_
    refine sx_iload_n (pc := 35) dX12_inBetween_35 sx_m3 ?_
    refine sx_iload_n (pc := 36) dX12_inBetween_36 sx_m1 ?_
    obtain ⟨⟨x15, V13⟩, g14, h⟩ := sx_bnd h
    refine sv_cV (pc := 37) (y := qX12_originally) (o := (some (.int x15))) (as := [.int l1, .int x8]) (V1 := V13) hG dX12_inBetween_37 l_X12_680 y0X12_originally yvX12_originally rfl (Nat.le_of_ble_eq_true rfl) lay_146 kr_12 (by decide) (Nat.le_of_ble_eq_true rfl) rfl rfl rfl (t_X12_originally hG ⟨rfl, rfl⟩ g14) ?_
    refine sx_istore (pc := 40) (lo' := [(4, .int x15), (3, .int x11), (2, .int x8), (0, .ref 146), (1, .int l1)]) dX12_inBetween_40 (by decide) rfl ?_
    refine sx_aload_n (pc := 42) dX12_inBetween_42 sx_m3 ?_
    refine sx_iload_n (pc := 43) dX12_inBetween_43 sx_m1 ?_
    refine sx_iload_n (pc := 44) dX12_inBetween_44 sx_m2 ?_
    obtain ⟨⟨x18, V16⟩, g17, h⟩ := sx_bnd h
    refine sv_cV (pc := 45) (y := qX12_originally) (o := (some (.int x18))) (as := [.int x11, .int x8]) (V1 := V16) hG dX12_inBetween_45 l_X12_680 y0X12_originally yvX12_originally rfl (Nat.le_of_ble_eq_true rfl) lay_146 kr_12 (by decide) (Nat.le_of_ble_eq_true rfl) rfl rfl rfl (t_X12_originally hG ⟨rfl, rfl⟩ g17) ?_
    refine sx_istore (pc := 48) (lo' := [(5, .int x18), (4, .int x15), (3, .int x11), (2, .int x8), (0, .ref 146), (1, .int l1)]) dX12_inBetween_48 (by decide) rfl ?_
    refine sx_aload_n (pc := 50) dX12_inBetween_50 sx_m4 ?_
    refine sx_iload_n (pc := 51) dX12_inBetween_51 sx_m2 ?_
    refine sx_iload_n (pc := 52) dX12_inBetween_52 sx_m3 ?_
    obtain ⟨⟨x21, V19⟩, g20, h⟩ := sx_bnd h
    refine sv_cV (pc := 53) (y := qX12_between) (o := (some (.int x21))) (as := [.int x11, .int x8]) (V1 := V19) hG dX12_inBetween_53 l_X12_627 y0X12_between yvX12_between rfl (Nat.le_of_ble_eq_true rfl) lay_146 kr_12 (by decide) (Nat.le_of_ble_eq_true rfl) rfl rfl rfl (t_X12_between hG ⟨rfl, rfl⟩ g20) ?_
    refine sx_istore (pc := 56) (lo' := [(6, .int x21), (5, .int x18), (4, .int x15), (3, .int x11), (2, .int x8), (0, .ref 146), (1, .int l1)]) dX12_inBetween_56 (by decide) rfl ?_
    refine sx_iload (pc := 58) dX12_inBetween_58 sx_m1 ?_
    refine sx_if_ne (pc := 60) (tgt := 69) dX12_inBetween_60 (by decide) (fun c22 => ?_) (fun c22 => ?_)
    · have h := sx_neg c22 h
      refine sx_iload (pc := 69) dX12_inBetween_69 sx_m2 ?_
      refine sx_i2l (pc := 71) dX12_inBetween_71 ?_
      refine sx_iload (pc := 72) dX12_inBetween_72 sx_m0 ?_
      refine sx_i2l (pc := 74) dX12_inBetween_74 ?_
      refine sx_lmul (pc := 75) dX12_inBetween_75 ?_
      refine sx_iload (pc := 76) dX12_inBetween_76 sx_m1 ?_
      refine sx_i2l (pc := 78) dX12_inBetween_78 ?_
      obtain ⟨⟨x25, V23⟩, g24, h⟩ := sx_bnd h
      refine sv_cS (pc := 79) (y := qX12_nearest) (o := (some (.long x25))) (as := [.long (x15.toInt64 * x21.toInt64), .long x18.toInt64]) (V1 := V23) dX12_inBetween_79 l_X12_194 y0X12_nearest ysX12_nearest rfl (Nat.le_of_ble_eq_true rfl) (by decide) (Nat.le_of_ble_eq_true rfl) rfl rfl rfl (t_X12_nearest hG ⟨rfl, rfl⟩ g24) ?_
      refine sx_wk (sx_s1 sx_m5 (sx_s1 sx_m6 (sx_s1 sx_m4 sx_s0))) ?_
      exact tB_X12_inBetween_82 hG hP  h
    · have h := sx_pos c22 h
      refine sx_iload (pc := 63) dX12_inBetween_63 sx_m2 ?_
      refine sx_i2l (pc := 65) dX12_inBetween_65 ?_
      refine sx_goto (pc := 66) (tgt := 82) dX12_inBetween_66 (by decide) ?_
      refine sx_wk (sx_s1 sx_m5 (sx_s1 sx_m6 (sx_s1 sx_m4 sx_s0))) ?_
      exact tB_X12_inBetween_82 hG hP  h
  · have h := sx_neg c12 h
    exact sv_vret (pc := 33) dX12_inBetween_33 rfl h hP
theorem dX12_toDistance_0 : decode cX12_toDistance 0 = .ok (.aload_n 0, 1) := by decide +kernel
theorem dX12_toDistance_1 : decode cX12_toDistance 1 = .ok (.iconst 2, 1) := by decide +kernel
theorem dX12_toDistance_2 : decode cX12_toDistance 2 = .ok (.invokevirtual 576, 3) := by decide +kernel
theorem dX12_toDistance_5 : decode cX12_toDistance 5 = .ok (.ifCond .ne 4, 3) := by decide +kernel
theorem dX12_toDistance_8 : decode cX12_toDistance 8 = .ok (.return_, 1) := by decide +kernel
theorem dX12_toDistance_9 : decode cX12_toDistance 9 = .ok (.aload_n 0, 1) := by decide +kernel
theorem dX12_toDistance_10 : decode cX12_toDistance 10 = .ok (.invokevirtual 579, 3) := by decide +kernel
theorem dX12_toDistance_13 : decode cX12_toDistance 13 = .ok (.istore_n 2, 1) := by decide +kernel
theorem dX12_toDistance_14 : decode cX12_toDistance 14 = .ok (.aload_n 0, 1) := by decide +kernel
theorem dX12_toDistance_15 : decode cX12_toDistance 15 = .ok (.invokevirtual 579, 3) := by decide +kernel
theorem dX12_toDistance_18 : decode cX12_toDistance 18 = .ok (.istore_n 3, 1) := by decide +kernel
theorem dX12_toDistance_19 : decode cX12_toDistance 19 = .ok (.aload_n 0, 1) := by decide +kernel
theorem dX12_toDistance_20 : decode cX12_toDistance 20 = .ok (.aload_n 0, 1) := by decide +kernel
theorem dX12_toDistance_21 : decode cX12_toDistance 21 = .ok (.getfield 463, 3) := by decide +kernel
theorem dX12_toDistance_24 : decode cX12_toDistance 24 = .ok (.iload_n 3, 1) := by decide +kernel
theorem dX12_toDistance_25 : decode cX12_toDistance 25 = .ok (.invokevirtual 582, 3) := by decide +kernel
theorem dX12_toDistance_28 : decode cX12_toDistance 28 = .ok (.istore 4, 2) := by decide +kernel
theorem dX12_toDistance_30 : decode cX12_toDistance 30 = .ok (.aload_n 0, 1) := by decide +kernel
theorem dX12_toDistance_31 : decode cX12_toDistance 31 = .ok (.aload_n 0, 1) := by decide +kernel
theorem dX12_toDistance_32 : decode cX12_toDistance 32 = .ok (.getfield 460, 3) := by decide +kernel
theorem dX12_toDistance_35 : decode cX12_toDistance 35 = .ok (.aload_n 0, 1) := by decide +kernel
theorem dX12_toDistance_36 : decode cX12_toDistance 36 = .ok (.getfield 451, 3) := by decide +kernel
theorem dX12_toDistance_39 : decode cX12_toDistance 39 = .ok (.invokevirtual 582, 3) := by decide +kernel
theorem dX12_toDistance_42 : decode cX12_toDistance 42 = .ok (.istore 5, 2) := by decide +kernel
theorem dX12_toDistance_44 : decode cX12_toDistance 44 = .ok (.aload_n 0, 1) := by decide +kernel
theorem dX12_toDistance_45 : decode cX12_toDistance 45 = .ok (.getfield 409, 3) := by decide +kernel
theorem dX12_toDistance_48 : decode cX12_toDistance 48 = .ok (.ifCond .le 4, 3) := by decide +kernel
theorem dX12_toDistance_51 : decode cX12_toDistance 51 = .ok (.return_, 1) := by decide +kernel
theorem dX12_toDistance_52 : decode cX12_toDistance 52 = .ok (.aload_n 0, 1) := by decide +kernel
theorem dX12_toDistance_53 : decode cX12_toDistance 53 = .ok (.getfield 463, 3) := by decide +kernel
theorem dX12_toDistance_56 : decode cX12_toDistance 56 = .ok (.ifCond .ne 55, 3) := by decide +kernel
theorem dX12_toDistance_59 : decode cX12_toDistance 59 = .ok (.aload_n 0, 1) := by decide +kernel
theorem dX12_toDistance_60 : decode cX12_toDistance 60 = .ok (.iload 4, 2) := by decide +kernel
theorem dX12_toDistance_62 : decode cX12_toDistance 62 = .ok (.aload_n 0, 1) := by decide +kernel
theorem dX12_toDistance_63 : decode cX12_toDistance 63 = .ok (.getfield 70, 3) := by decide +kernel
theorem dX12_toDistance_66 : decode cX12_toDistance 66 = .ok (.iload 5, 2) := by decide +kernel
theorem dX12_toDistance_68 : decode cX12_toDistance 68 = .ok (.iaload, 1) := by decide +kernel
theorem dX12_toDistance_69 : decode cX12_toDistance 69 = .ok (.i2l, 1) := by decide +kernel
theorem dX12_toDistance_70 : decode cX12_toDistance 70 = .ok (.iload_n 2, 1) := by decide +kernel
theorem dX12_toDistance_71 : decode cX12_toDistance 71 = .ok (.i2l, 1) := by decide +kernel
theorem dX12_toDistance_72 : decode cX12_toDistance 72 = .ok (.aload_n 0, 1) := by decide +kernel
theorem dX12_toDistance_73 : decode cX12_toDistance 73 = .ok (.getfield 433, 3) := by decide +kernel
theorem dX12_toDistance_76 : decode cX12_toDistance 76 = .ok (.i2l, 1) := by decide +kernel
theorem dX12_toDistance_77 : decode cX12_toDistance 77 = .ok (.lmul, 1) := by decide +kernel
theorem dX12_toDistance_78 : decode cX12_toDistance 78 = .ok (.ldc2_w 310, 3) := by decide +kernel
theorem dX12_toDistance_81 : decode cX12_toDistance 81 = .ok (.invokestatic 517, 3) := by decide +kernel
theorem dX12_toDistance_84 : decode cX12_toDistance 84 = .ok (.ladd, 1) := by decide +kernel
theorem dX12_toDistance_85 : decode cX12_toDistance 85 = .ok (.aload_n 0, 1) := by decide +kernel
theorem dX12_toDistance_86 : decode cX12_toDistance 86 = .ok (.getfield 73, 3) := by decide +kernel
theorem dX12_toDistance_89 : decode cX12_toDistance 89 = .ok (.iload 5, 2) := by decide +kernel
theorem dX12_toDistance_91 : decode cX12_toDistance 91 = .ok (.iaload, 1) := by decide +kernel
theorem dX12_toDistance_92 : decode cX12_toDistance 92 = .ok (.i2l, 1) := by decide +kernel
theorem dX12_toDistance_93 : decode cX12_toDistance 93 = .ok (.iload_n 2, 1) := by decide +kernel
theorem dX12_toDistance_94 : decode cX12_toDistance 94 = .ok (.i2l, 1) := by decide +kernel
theorem dX12_toDistance_95 : decode cX12_toDistance 95 = .ok (.aload_n 0, 1) := by decide +kernel
theorem dX12_toDistance_96 : decode cX12_toDistance 96 = .ok (.getfield 436, 3) := by decide +kernel
theorem dX12_toDistance_99 : decode cX12_toDistance 99 = .ok (.i2l, 1) := by decide +kernel
theorem dX12_toDistance_100 : decode cX12_toDistance 100 = .ok (.lmul, 1) := by decide +kernel
theorem dX12_toDistance_101 : decode cX12_toDistance 101 = .ok (.ldc2_w 310, 3) := by decide +kernel
theorem dX12_toDistance_104 : decode cX12_toDistance 104 = .ok (.invokestatic 517, 3) := by decide +kernel
theorem dX12_toDistance_107 : decode cX12_toDistance 107 = .ok (.ladd, 1) := by decide +kernel
theorem dX12_toDistance_108 : decode cX12_toDistance 108 = .ok (.invokevirtual 716, 3) := by decide +kernel
theorem dX12_toDistance_111 : decode cX12_toDistance 111 = .ok (.aload_n 0, 1) := by decide +kernel
theorem dX12_toDistance_112 : decode cX12_toDistance 112 = .ok (.iload 4, 2) := by decide +kernel
theorem dX12_toDistance_114 : decode cX12_toDistance 114 = .ok (.iload_n 2, 1) := by decide +kernel
theorem dX12_toDistance_115 : decode cX12_toDistance 115 = .ok (.i2l, 1) := by decide +kernel
theorem dX12_toDistance_116 : decode cX12_toDistance 116 = .ok (.aload_n 0, 1) := by decide +kernel
theorem dX12_toDistance_117 : decode cX12_toDistance 117 = .ok (.iload 4, 2) := by decide +kernel
theorem dX12_toDistance_119 : decode cX12_toDistance 119 = .ok (.iload 5, 2) := by decide +kernel
theorem dX12_toDistance_121 : decode cX12_toDistance 121 = .ok (.invokevirtual 627, 3) := by decide +kernel
theorem dX12_toDistance_124 : decode cX12_toDistance 124 = .ok (.i2l, 1) := by decide +kernel
theorem dX12_toDistance_125 : decode cX12_toDistance 125 = .ok (.lsub, 1) := by decide +kernel
theorem dX12_toDistance_126 : decode cX12_toDistance 126 = .ok (.invokevirtual 630, 3) := by decide +kernel
theorem dX12_toDistance_129 : decode cX12_toDistance 129 = .ok (.aload_n 0, 1) := by decide +kernel
theorem dX12_toDistance_130 : decode cX12_toDistance 130 = .ok (.aload_n 0, 1) := by decide +kernel
theorem dX12_toDistance_131 : decode cX12_toDistance 131 = .ok (.getfield 451, 3) := by decide +kernel
theorem dX12_toDistance_134 : decode cX12_toDistance 134 = .ok (.putfield 454, 3) := by decide +kernel
theorem dX12_toDistance_137 : decode cX12_toDistance 137 = .ok (.aload_n 0, 1) := by decide +kernel
theorem dX12_toDistance_138 : decode cX12_toDistance 138 = .ok (.iload_n 3, 1) := by decide +kernel
theorem dX12_toDistance_139 : decode cX12_toDistance 139 = .ok (.putfield 457, 3) := by decide +kernel
theorem dX12_toDistance_142 : decode cX12_toDistance 142 = .ok (.aload_n 0, 1) := by decide +kernel
theorem dX12_toDistance_143 : decode cX12_toDistance 143 = .ok (.iload_n 1, 1) := by decide +kernel
theorem dX12_toDistance_144 : decode cX12_toDistance 144 = .ok (.bipush 59, 2) := by decide +kernel
theorem dX12_toDistance_146 : decode cX12_toDistance 146 = .ok (.if_icmp .ne 7, 3) := by decide +kernel
theorem dX12_toDistance_149 : decode cX12_toDistance 149 = .ok (.iload_n 3, 1) := by decide +kernel
theorem dX12_toDistance_150 : decode cX12_toDistance 150 = .ok (.goto 7, 3) := by decide +kernel
theorem dX12_toDistance_153 : decode cX12_toDistance 153 = .ok (.aload_n 0, 1) := by decide +kernel
theorem dX12_toDistance_154 : decode cX12_toDistance 154 = .ok (.getfield 451, 3) := by decide +kernel
theorem dX12_toDistance_157 : decode cX12_toDistance 157 = .ok (.putfield 451, 3) := by decide +kernel
theorem dX12_toDistance_160 : decode cX12_toDistance 160 = .ok (.return_, 1) := by decide +kernel
def B_X12_toDistance_111  (l1 : Int32) (l2 : Int32) (l3 : Int32) (l4 : Int32) (l5 : Int32) (V : sv_V) : Option sv_V := (F_X12_between l4 l5 V).bind (fun (x3, V1) => (F_X12_move l4 (l2.toInt64 - x3.toInt64) V1).bind (fun V4 => sx_let (sv_I V4 146 70 (V4.1 146 69)) (fun V6 => sx_let (sv_I V6 146 71 l3) (fun V7 => if l1 = (59 : Int32) then (sx_let (sv_I V7 146 69 l3) (fun V10 => some V10)) else (sx_let (sv_I V7 146 69 (V7.1 146 69)) (fun V9 => some V9))))))
set_option maxRecDepth 20000 in
theorem tB_X12_toDistance_111 {g : sx_G} (hG : sx_Go g) {P : Option Value → sv_V → Prop} {Vr : sv_V} (hP : P none Vr)   {l1 : Int32} {l2 : Int32} {l3 : Int32} {l4 : Int32} {l5 : Int32} {V : sv_V} (h : B_X12_toDistance_111  l1 l2 l3 l4 l5 V = some Vr) : sv_N g qX12_toDistance 5 111 [(0, .ref 146), (1, .int l1), (2, .int l2), (3, .int l3), (4, .int l4), (5, .int l5)] [] V P := by
  unfold B_X12_toDistance_111 at h
  refine sx_aload_n (pc := 111) dX12_toDistance_111 sx_m0 ?_
  refine sx_iload (pc := 112) dX12_toDistance_112 sx_m4 ?_
  refine sx_iload_n (pc := 114) dX12_toDistance_114 sx_m2 ?_
  refine sx_i2l (pc := 115) dX12_toDistance_115 ?_
  refine sx_aload_n (pc := 116) dX12_toDistance_116 sx_m0 ?_
  refine sx_iload (pc := 117) dX12_toDistance_117 sx_m4 ?_
  refine sx_iload (pc := 119) dX12_toDistance_119 sx_m5 ?_
  obtain ⟨⟨x3, V1⟩, g2, h⟩ := sx_bnd h
  refine sv_cV (pc := 121) (y := qX12_between) (o := (some (.int x3))) (as := [.int l4, .int l5]) (V1 := V1) hG dX12_toDistance_121 l_X12_627 y0X12_between yvX12_between rfl (Nat.le_of_ble_eq_true rfl) lay_146 kr_12 (by decide) (Nat.le_of_ble_eq_true rfl) rfl rfl rfl (t_X12_between hG ⟨rfl, rfl⟩ g2) ?_
  refine sx_i2l (pc := 124) dX12_toDistance_124 ?_
  refine sx_lsub (pc := 125) dX12_toDistance_125 ?_
  obtain ⟨V4, g5, h⟩ := sx_bnd h
  refine sv_cV (pc := 126) (y := qX12_move) (o := none) (as := [.int l4, .long (l2.toInt64 - x3.toInt64)]) (V1 := V4) hG dX12_toDistance_126 l_X12_630 y0X12_move yvX12_move rfl (Nat.le_of_ble_eq_true rfl) lay_146 kr_12 (by decide) (Nat.le_of_ble_eq_true rfl) rfl rfl rfl (t_X12_move hG ⟨rfl, rfl⟩ g5) ?_
  refine sx_aload_n (pc := 129) dX12_toDistance_129 sx_m0 ?_
  refine sx_aload_n (pc := 130) dX12_toDistance_130 sx_m0 ?_
  refine sv_getI (pc := 131) hG dX12_toDistance_131 f_12_451 lay_146 rfl ?_
  obtain ⟨V6, hV6⟩ : ∃ z : sv_V, z = sv_I V4 146 70 (V4.1 146 69) := ⟨_, rfl⟩
  have h := sx_letE hV6 h
  refine sv_putI (pc := 134) hG dX12_toDistance_134 f_12_454 lay_146 rfl hV6 ?_
  refine sx_aload_n (pc := 137) dX12_toDistance_137 sx_m0 ?_
  refine sx_iload_n (pc := 138) dX12_toDistance_138 sx_m3 ?_
  obtain ⟨V7, hV7⟩ : ∃ z : sv_V, z = sv_I V6 146 71 l3 := ⟨_, rfl⟩
  have h := sx_letE hV7 h
  refine sv_putI (pc := 139) hG dX12_toDistance_139 f_12_457 lay_146 rfl hV7 ?_
  refine sx_aload_n (pc := 142) dX12_toDistance_142 sx_m0 ?_
  refine sx_iload_n (pc := 143) dX12_toDistance_143 sx_m1 ?_
  refine sx_bipush (pc := 144) (v := 59) dX12_toDistance_144 (by decide) ?_
  refine sx_icmp_ne (pc := 146) (tgt := 153) dX12_toDistance_146 (by decide) (fun c8 => ?_) (fun c8 => ?_)
  · have h := sx_neg c8 h
    refine sx_aload_n (pc := 153) dX12_toDistance_153 sx_m0 ?_
    refine sv_getI (pc := 154) hG dX12_toDistance_154 f_12_451 lay_146 rfl ?_
    obtain ⟨V9, hV9⟩ : ∃ z : sv_V, z = sv_I V7 146 69 (V7.1 146 69) := ⟨_, rfl⟩
    have h := sx_letE hV9 h
    refine sv_putI (pc := 157) hG dX12_toDistance_157 f_12_451 lay_146 rfl hV9 ?_
    exact sv_vret (pc := 160) dX12_toDistance_160 rfl h hP
  · have h := sx_pos c8 h
    refine sx_iload_n (pc := 149) dX12_toDistance_149 sx_m3 ?_
    refine sx_goto (pc := 150) (tgt := 157) dX12_toDistance_150 (by decide) ?_
    obtain ⟨V10, hV10⟩ : ∃ z : sv_V, z = sv_I V7 146 69 l3 := ⟨_, rfl⟩
    have h := sx_letE hV10 h
    refine sv_putI (pc := 157) hG dX12_toDistance_157 f_12_451 lay_146 rfl hV10 ?_
    exact sv_vret (pc := 160) dX12_toDistance_160 rfl h hP
def F_X12_toDistance (l1 : Int32) (V : sv_V) : Option sv_V := (F_X12_has (2 : Int32) V).bind (fun (x13, V11) => if x13 = 0 then (some V11) else ((F_X12_pop  V11).bind (fun (x17, V15) => (F_X12_pop  V15).bind (fun (x20, V18) => (F_X12_pointOf (V18.1 146 73) x20 V18).bind (fun (x23, V21) => (F_X12_pointOf (V21.1 146 72) (V21.1 146 69) V21).bind (fun (x26, V24) => if (V24.1 146 59) ≤ 0 then (if (V24.1 146 73) = 0 then (if sx_in x26 204 = true then (F_X12_over (x17.toInt64 * ((V24.1 146 63).toInt64)) (16384 : Int64) V24).bind (fun (x32, V30) => if sx_in x26 204 = true then (F_X12_over (x17.toInt64 * ((V30.1 146 64).toInt64)) (16384 : Int64) V30).bind (fun (x36, V34) => (F_X12_put x23 (((V24.1 166 x26.toNatClampNeg).toInt64) + x32) (((V30.1 167 x26.toNatClampNeg).toInt64) + x36) V34).bind (fun V37 => B_X12_toDistance_111  l1 x17 x20 x23 x26 V37)) else none) else none) else (B_X12_toDistance_111  l1 x17 x20 x23 x26 V24)) else (some V24)))))))
set_option maxRecDepth 20000 in
theorem t_X12_toDistance {g : sx_G} (hG : sx_Go g) {P : Option Value → sv_V → Prop} {Vr : sv_V} (hP : P none Vr) {l1 : Int32} {V : sv_V} (h : F_X12_toDistance l1 V = some Vr) : sv_N g qX12_toDistance 5 0 [(0, .ref 146), (1, .int l1)] [] V P := by
  unfold F_X12_toDistance at h
  refine sx_aload_n (pc := 0) dX12_toDistance_0 sx_m0 ?_
  refine sx_iconst (pc := 1) (v := 2) dX12_toDistance_1 (by decide) ?_
  obtain ⟨⟨x13, V11⟩, g12, h⟩ := sx_bnd h
  refine sv_cV (pc := 2) (y := qX12_has) (o := (some (.int x13))) (as := [.int (2 : Int32)]) (V1 := V11) hG dX12_toDistance_2 l_X12_576 y0X12_has yvX12_has rfl (Nat.le_of_ble_eq_true rfl) lay_146 kr_12 (by decide) (Nat.le_of_ble_eq_true rfl) rfl rfl rfl (t_X12_has hG ⟨rfl, rfl⟩ g12) ?_
  refine sx_if_ne (pc := 5) (tgt := 9) dX12_toDistance_5 (by decide) (fun c14 => ?_) (fun c14 => ?_)
  · have h := sx_neg c14 h
    refine sx_aload_n (pc := 9) dX12_toDistance_9 sx_m0 ?_
    obtain ⟨⟨x17, V15⟩, g16, h⟩ := sx_bnd h
    refine sv_cV (pc := 10) (y := qX12_pop) (o := (some (.int x17))) (as := []) (V1 := V15) hG dX12_toDistance_10 l_X12_579 y0X12_pop yvX12_pop rfl (Nat.le_of_ble_eq_true rfl) lay_146 kr_12 (by decide) (Nat.le_of_ble_eq_true rfl) rfl rfl rfl (t_X12_pop hG ⟨rfl, rfl⟩ g16) ?_
    refine sx_istore_n (pc := 13) (lo' := [(2, .int x17), (0, .ref 146), (1, .int l1)]) dX12_toDistance_13 (by decide) rfl ?_
    refine sx_aload_n (pc := 14) dX12_toDistance_14 sx_m1 ?_
    obtain ⟨⟨x20, V18⟩, g19, h⟩ := sx_bnd h
    refine sv_cV (pc := 15) (y := qX12_pop) (o := (some (.int x20))) (as := []) (V1 := V18) hG dX12_toDistance_15 l_X12_579 y0X12_pop yvX12_pop rfl (Nat.le_of_ble_eq_true rfl) lay_146 kr_12 (by decide) (Nat.le_of_ble_eq_true rfl) rfl rfl rfl (t_X12_pop hG ⟨rfl, rfl⟩ g19) ?_
    refine sx_istore_n (pc := 18) (lo' := [(3, .int x20), (2, .int x17), (0, .ref 146), (1, .int l1)]) dX12_toDistance_18 (by decide) rfl ?_
    refine sx_aload_n (pc := 19) dX12_toDistance_19 sx_m2 ?_
    refine sx_aload_n (pc := 20) dX12_toDistance_20 sx_m2 ?_
    refine sv_getI (pc := 21) hG dX12_toDistance_21 f_12_463 lay_146 rfl ?_
    refine sx_iload_n (pc := 24) dX12_toDistance_24 sx_m0 ?_
    obtain ⟨⟨x23, V21⟩, g22, h⟩ := sx_bnd h
    refine sv_cV (pc := 25) (y := qX12_pointOf) (o := (some (.int x23))) (as := [.int (V18.1 146 73), .int x20]) (V1 := V21) hG dX12_toDistance_25 l_X12_582 y0X12_pointOf yvX12_pointOf rfl (Nat.le_of_ble_eq_true rfl) lay_146 kr_12 (by decide) (Nat.le_of_ble_eq_true rfl) rfl rfl rfl (t_X12_pointOf hG ⟨rfl, rfl⟩ g22) ?_
    refine sx_istore (pc := 28) (lo' := [(4, .int x23), (3, .int x20), (2, .int x17), (0, .ref 146), (1, .int l1)]) dX12_toDistance_28 (by decide) rfl ?_
    refine sx_aload_n (pc := 30) dX12_toDistance_30 sx_m3 ?_
    refine sx_aload_n (pc := 31) dX12_toDistance_31 sx_m3 ?_
    refine sv_getI (pc := 32) hG dX12_toDistance_32 f_12_460 lay_146 rfl ?_
    refine sx_aload_n (pc := 35) dX12_toDistance_35 sx_m3 ?_
    refine sv_getI (pc := 36) hG dX12_toDistance_36 f_12_451 lay_146 rfl ?_
    obtain ⟨⟨x26, V24⟩, g25, h⟩ := sx_bnd h
    refine sv_cV (pc := 39) (y := qX12_pointOf) (o := (some (.int x26))) (as := [.int (V21.1 146 72), .int (V21.1 146 69)]) (V1 := V24) hG dX12_toDistance_39 l_X12_582 y0X12_pointOf yvX12_pointOf rfl (Nat.le_of_ble_eq_true rfl) lay_146 kr_12 (by decide) (Nat.le_of_ble_eq_true rfl) rfl rfl rfl (t_X12_pointOf hG ⟨rfl, rfl⟩ g25) ?_
    refine sx_istore (pc := 42) (lo' := [(5, .int x26), (4, .int x23), (3, .int x20), (2, .int x17), (0, .ref 146), (1, .int l1)]) dX12_toDistance_42 (by decide) rfl ?_
    refine sx_aload_n (pc := 44) dX12_toDistance_44 sx_m4 ?_
    refine sv_getI (pc := 45) hG dX12_toDistance_45 f_12_409 lay_146 rfl ?_
    refine sx_if_le (pc := 48) (tgt := 52) dX12_toDistance_48 (by decide) (fun c27 => ?_) (fun c27 => ?_)
    · have h := sx_pos c27 h
      refine sx_aload_n (pc := 52) dX12_toDistance_52 sx_m4 ?_
      refine sv_getI (pc := 53) hG dX12_toDistance_53 f_12_463 lay_146 rfl ?_
      refine sx_if_ne (pc := 56) (tgt := 111) dX12_toDistance_56 (by decide) (fun c28 => ?_) (fun c28 => ?_)
      · have h := sx_neg c28 h
        refine sx_wk (sx_s1 sx_m4 (sx_s1 sx_m5 (sx_s1 sx_m3 (sx_s1 sx_m2 (sx_s1 sx_m1 (sx_s1 sx_m0 sx_s0)))))) ?_
        exact tB_X12_toDistance_111 hG hP  h
      · have h := sx_pos c28 h
        refine sx_aload_n (pc := 59) dX12_toDistance_59 sx_m4 ?_
        refine sx_iload (pc := 60) dX12_toDistance_60 sx_m1 ?_
        refine sx_aload_n (pc := 62) dX12_toDistance_62 sx_m4 ?_
        refine sv_getA (pc := 63) hG dX12_toDistance_63 f_12_70 lay_146 rfl cr_146_46 ?_
        refine sx_iload (pc := 66) dX12_toDistance_66 sx_m0 ?_
        obtain ⟨g29, h⟩ := sx_grd h
        refine sv_iald (pc := 68) hG dX12_toDistance_68 lay_166 g29 ?_
        refine sx_i2l (pc := 69) dX12_toDistance_69 ?_
        refine sx_iload_n (pc := 70) dX12_toDistance_70 sx_m3 ?_
        refine sx_i2l (pc := 71) dX12_toDistance_71 ?_
        refine sx_aload_n (pc := 72) dX12_toDistance_72 sx_m4 ?_
        refine sv_getI (pc := 73) hG dX12_toDistance_73 f_12_433 lay_146 rfl ?_
        refine sx_i2l (pc := 76) dX12_toDistance_76 ?_
        refine sx_lmul (pc := 77) dX12_toDistance_77 ?_
        refine sx_ldc2 (pc := 78) dX12_toDistance_78 k_X12_310 ?_
        obtain ⟨⟨x32, V30⟩, g31, h⟩ := sx_bnd h
        refine sv_cS (pc := 81) (y := qX12_over) (o := (some (.long x32))) (as := [.long (x17.toInt64 * ((V24.1 146 63).toInt64)), .long (16384 : Int64)]) (V1 := V30) dX12_toDistance_81 l_X12_517 y0X12_over ysX12_over rfl (Nat.le_of_ble_eq_true rfl) (by decide) (Nat.le_of_ble_eq_true rfl) rfl rfl rfl (t_X12_over hG ⟨rfl, rfl⟩ g31) ?_
        refine sx_ladd (pc := 84) dX12_toDistance_84 ?_
        refine sx_aload_n (pc := 85) dX12_toDistance_85 sx_m4 ?_
        refine sv_getA (pc := 86) hG dX12_toDistance_86 f_12_73 lay_146 rfl cr_146_47 ?_
        refine sx_iload (pc := 89) dX12_toDistance_89 sx_m0 ?_
        obtain ⟨g33, h⟩ := sx_grd h
        refine sv_iald (pc := 91) hG dX12_toDistance_91 lay_167 g33 ?_
        refine sx_i2l (pc := 92) dX12_toDistance_92 ?_
        refine sx_iload_n (pc := 93) dX12_toDistance_93 sx_m3 ?_
        refine sx_i2l (pc := 94) dX12_toDistance_94 ?_
        refine sx_aload_n (pc := 95) dX12_toDistance_95 sx_m4 ?_
        refine sv_getI (pc := 96) hG dX12_toDistance_96 f_12_436 lay_146 rfl ?_
        refine sx_i2l (pc := 99) dX12_toDistance_99 ?_
        refine sx_lmul (pc := 100) dX12_toDistance_100 ?_
        refine sx_ldc2 (pc := 101) dX12_toDistance_101 k_X12_310 ?_
        obtain ⟨⟨x36, V34⟩, g35, h⟩ := sx_bnd h
        refine sv_cS (pc := 104) (y := qX12_over) (o := (some (.long x36))) (as := [.long (x17.toInt64 * ((V30.1 146 64).toInt64)), .long (16384 : Int64)]) (V1 := V34) dX12_toDistance_104 l_X12_517 y0X12_over ysX12_over rfl (Nat.le_of_ble_eq_true rfl) (by decide) (Nat.le_of_ble_eq_true rfl) rfl rfl rfl (t_X12_over hG ⟨rfl, rfl⟩ g35) ?_
        refine sx_ladd (pc := 107) dX12_toDistance_107 ?_
        obtain ⟨V37, g38, h⟩ := sx_bnd h
        refine sv_cV (pc := 108) (y := qX12_put) (o := none) (as := [.int x23, .long (((V24.1 166 x26.toNatClampNeg).toInt64) + x32), .long (((V30.1 167 x26.toNatClampNeg).toInt64) + x36)]) (V1 := V37) hG dX12_toDistance_108 l_X12_716 y0X12_put yvX12_put rfl (Nat.le_of_ble_eq_true rfl) lay_146 kr_12 (by decide) (Nat.le_of_ble_eq_true rfl) rfl rfl rfl (t_X12_put hG ⟨rfl, rfl⟩ g38) ?_
        refine sx_wk (sx_s1 sx_m4 (sx_s1 sx_m5 (sx_s1 sx_m3 (sx_s1 sx_m2 (sx_s1 sx_m1 (sx_s1 sx_m0 sx_s0)))))) ?_
        exact tB_X12_toDistance_111 hG hP  h
    · have h := sx_neg c27 h
      exact sv_vret (pc := 51) dX12_toDistance_51 rfl h hP
  · have h := sx_pos c14 h
    exact sv_vret (pc := 8) dX12_toDistance_8 rfl h hP
theorem dX12_toCvt_0 : decode cX12_toCvt 0 = .ok (.aload_n 0, 1) := by decide +kernel
theorem dX12_toCvt_1 : decode cX12_toCvt 1 = .ok (.iconst 2, 1) := by decide +kernel
theorem dX12_toCvt_2 : decode cX12_toCvt 2 = .ok (.invokevirtual 576, 3) := by decide +kernel
theorem dX12_toCvt_5 : decode cX12_toCvt 5 = .ok (.ifCond .ne 4, 3) := by decide +kernel
theorem dX12_toCvt_8 : decode cX12_toCvt 8 = .ok (.return_, 1) := by decide +kernel
theorem dX12_toCvt_9 : decode cX12_toCvt 9 = .ok (.aload_n 0, 1) := by decide +kernel
theorem dX12_toCvt_10 : decode cX12_toCvt 10 = .ok (.invokevirtual 579, 3) := by decide +kernel
theorem dX12_toCvt_13 : decode cX12_toCvt 13 = .ok (.istore_n 2, 1) := by decide +kernel
theorem dX12_toCvt_14 : decode cX12_toCvt 14 = .ok (.aload_n 0, 1) := by decide +kernel
theorem dX12_toCvt_15 : decode cX12_toCvt 15 = .ok (.invokevirtual 579, 3) := by decide +kernel
theorem dX12_toCvt_18 : decode cX12_toCvt 18 = .ok (.istore_n 3, 1) := by decide +kernel
theorem dX12_toCvt_19 : decode cX12_toCvt 19 = .ok (.aload_n 0, 1) := by decide +kernel
theorem dX12_toCvt_20 : decode cX12_toCvt 20 = .ok (.aload_n 0, 1) := by decide +kernel
theorem dX12_toCvt_21 : decode cX12_toCvt 21 = .ok (.getfield 460, 3) := by decide +kernel
theorem dX12_toCvt_24 : decode cX12_toCvt 24 = .ok (.iload_n 3, 1) := by decide +kernel
theorem dX12_toCvt_25 : decode cX12_toCvt 25 = .ok (.invokevirtual 582, 3) := by decide +kernel
theorem dX12_toCvt_28 : decode cX12_toCvt 28 = .ok (.istore 4, 2) := by decide +kernel
theorem dX12_toCvt_30 : decode cX12_toCvt 30 = .ok (.aload_n 0, 1) := by decide +kernel
theorem dX12_toCvt_31 : decode cX12_toCvt 31 = .ok (.iload_n 2, 1) := by decide +kernel
theorem dX12_toCvt_32 : decode cX12_toCvt 32 = .ok (.invokevirtual 677, 3) := by decide +kernel
theorem dX12_toCvt_35 : decode cX12_toCvt 35 = .ok (.i2l, 1) := by decide +kernel
theorem dX12_toCvt_36 : decode cX12_toCvt 36 = .ok (.lstore 5, 2) := by decide +kernel
theorem dX12_toCvt_38 : decode cX12_toCvt 38 = .ok (.aload_n 0, 1) := by decide +kernel
theorem dX12_toCvt_39 : decode cX12_toCvt 39 = .ok (.getfield 409, 3) := by decide +kernel
theorem dX12_toCvt_42 : decode cX12_toCvt 42 = .ok (.ifCond .le 4, 3) := by decide +kernel
theorem dX12_toCvt_45 : decode cX12_toCvt 45 = .ok (.return_, 1) := by decide +kernel
theorem dX12_toCvt_46 : decode cX12_toCvt 46 = .ok (.aload_n 0, 1) := by decide +kernel
theorem dX12_toCvt_47 : decode cX12_toCvt 47 = .ok (.getfield 460, 3) := by decide +kernel
theorem dX12_toCvt_50 : decode cX12_toCvt 50 = .ok (.ifCond .ne 37, 3) := by decide +kernel
theorem dX12_toCvt_53 : decode cX12_toCvt 53 = .ok (.aload_n 0, 1) := by decide +kernel
theorem dX12_toCvt_54 : decode cX12_toCvt 54 = .ok (.iload 4, 2) := by decide +kernel
theorem dX12_toCvt_56 : decode cX12_toCvt 56 = .ok (.lload 5, 2) := by decide +kernel
theorem dX12_toCvt_58 : decode cX12_toCvt 58 = .ok (.aload_n 0, 1) := by decide +kernel
theorem dX12_toCvt_59 : decode cX12_toCvt 59 = .ok (.getfield 433, 3) := by decide +kernel
theorem dX12_toCvt_62 : decode cX12_toCvt 62 = .ok (.i2l, 1) := by decide +kernel
theorem dX12_toCvt_63 : decode cX12_toCvt 63 = .ok (.lmul, 1) := by decide +kernel
theorem dX12_toCvt_64 : decode cX12_toCvt 64 = .ok (.ldc2_w 310, 3) := by decide +kernel
theorem dX12_toCvt_67 : decode cX12_toCvt 67 = .ok (.invokestatic 517, 3) := by decide +kernel
theorem dX12_toCvt_70 : decode cX12_toCvt 70 = .ok (.lload 5, 2) := by decide +kernel
theorem dX12_toCvt_72 : decode cX12_toCvt 72 = .ok (.aload_n 0, 1) := by decide +kernel
theorem dX12_toCvt_73 : decode cX12_toCvt 73 = .ok (.getfield 436, 3) := by decide +kernel
theorem dX12_toCvt_76 : decode cX12_toCvt 76 = .ok (.i2l, 1) := by decide +kernel
theorem dX12_toCvt_77 : decode cX12_toCvt 77 = .ok (.lmul, 1) := by decide +kernel
theorem dX12_toCvt_78 : decode cX12_toCvt 78 = .ok (.ldc2_w 310, 3) := by decide +kernel
theorem dX12_toCvt_81 : decode cX12_toCvt 81 = .ok (.invokestatic 517, 3) := by decide +kernel
theorem dX12_toCvt_84 : decode cX12_toCvt 84 = .ok (.invokevirtual 716, 3) := by decide +kernel
theorem dX12_toCvt_87 : decode cX12_toCvt 87 = .ok (.aload_n 0, 1) := by decide +kernel
theorem dX12_toCvt_88 : decode cX12_toCvt 88 = .ok (.iload 4, 2) := by decide +kernel
theorem dX12_toCvt_90 : decode cX12_toCvt 90 = .ok (.invokevirtual 644, 3) := by decide +kernel
theorem dX12_toCvt_93 : decode cX12_toCvt 93 = .ok (.istore 7, 2) := by decide +kernel
theorem dX12_toCvt_95 : decode cX12_toCvt 95 = .ok (.iload_n 1, 1) := by decide +kernel
theorem dX12_toCvt_96 : decode cX12_toCvt 96 = .ok (.bipush 63, 2) := by decide +kernel
theorem dX12_toCvt_98 : decode cX12_toCvt 98 = .ok (.if_icmp .ne 39, 3) := by decide +kernel
theorem dX12_toCvt_101 : decode cX12_toCvt 101 = .ok (.lload 5, 2) := by decide +kernel
theorem dX12_toCvt_103 : decode cX12_toCvt 103 = .ok (.iload 7, 2) := by decide +kernel
theorem dX12_toCvt_105 : decode cX12_toCvt 105 = .ok (.i2l, 1) := by decide +kernel
theorem dX12_toCvt_106 : decode cX12_toCvt 106 = .ok (.lsub, 1) := by decide +kernel
theorem dX12_toCvt_107 : decode cX12_toCvt 107 = .ok (.invokestatic 198, 3) := by decide +kernel
theorem dX12_toCvt_110 : decode cX12_toCvt 110 = .ok (.aload_n 0, 1) := by decide +kernel
theorem dX12_toCvt_111 : decode cX12_toCvt 111 = .ok (.getfield 605, 3) := by decide +kernel
theorem dX12_toCvt_114 : decode cX12_toCvt 114 = .ok (.i2l, 1) := by decide +kernel
theorem dX12_toCvt_115 : decode cX12_toCvt 115 = .ok (.lcmp, 1) := by decide +kernel
theorem dX12_toCvt_116 : decode cX12_toCvt 116 = .ok (.ifCond .le 9, 3) := by decide +kernel
theorem dX12_toCvt_119 : decode cX12_toCvt 119 = .ok (.iload 7, 2) := by decide +kernel
theorem dX12_toCvt_121 : decode cX12_toCvt 121 = .ok (.i2l, 1) := by decide +kernel
theorem dX12_toCvt_122 : decode cX12_toCvt 122 = .ok (.goto 5, 3) := by decide +kernel
theorem dX12_toCvt_125 : decode cX12_toCvt 125 = .ok (.lload 5, 2) := by decide +kernel
theorem dX12_toCvt_127 : decode cX12_toCvt 127 = .ok (.lstore 5, 2) := by decide +kernel
theorem dX12_toCvt_129 : decode cX12_toCvt 129 = .ok (.aload_n 0, 1) := by decide +kernel
theorem dX12_toCvt_130 : decode cX12_toCvt 130 = .ok (.lload 5, 2) := by decide +kernel
theorem dX12_toCvt_132 : decode cX12_toCvt 132 = .ok (.invokevirtual 647, 3) := by decide +kernel
theorem dX12_toCvt_135 : decode cX12_toCvt 135 = .ok (.lstore 5, 2) := by decide +kernel
theorem dX12_toCvt_137 : decode cX12_toCvt 137 = .ok (.aload_n 0, 1) := by decide +kernel
theorem dX12_toCvt_138 : decode cX12_toCvt 138 = .ok (.iload 4, 2) := by decide +kernel
theorem dX12_toCvt_140 : decode cX12_toCvt 140 = .ok (.lload 5, 2) := by decide +kernel
theorem dX12_toCvt_142 : decode cX12_toCvt 142 = .ok (.iload 7, 2) := by decide +kernel
theorem dX12_toCvt_144 : decode cX12_toCvt 144 = .ok (.i2l, 1) := by decide +kernel
theorem dX12_toCvt_145 : decode cX12_toCvt 145 = .ok (.lsub, 1) := by decide +kernel
theorem dX12_toCvt_146 : decode cX12_toCvt 146 = .ok (.invokevirtual 630, 3) := by decide +kernel
theorem dX12_toCvt_149 : decode cX12_toCvt 149 = .ok (.aload_n 0, 1) := by decide +kernel
theorem dX12_toCvt_150 : decode cX12_toCvt 150 = .ok (.iload_n 3, 1) := by decide +kernel
theorem dX12_toCvt_151 : decode cX12_toCvt 151 = .ok (.putfield 451, 3) := by decide +kernel
theorem dX12_toCvt_154 : decode cX12_toCvt 154 = .ok (.aload_n 0, 1) := by decide +kernel
theorem dX12_toCvt_155 : decode cX12_toCvt 155 = .ok (.iload_n 3, 1) := by decide +kernel
theorem dX12_toCvt_156 : decode cX12_toCvt 156 = .ok (.putfield 454, 3) := by decide +kernel
theorem dX12_toCvt_159 : decode cX12_toCvt 159 = .ok (.return_, 1) := by decide +kernel
def B_X12_toCvt_137  (l3 : Int32) (l4 : Int32) (l5 : Int64) (l7 : Int32) (V : sv_V) : Option sv_V := (F_X12_move l4 (l5 - l7.toInt64) V).bind (fun V1 => sx_let (sv_I V1 146 69 l3) (fun V3 => sx_let (sv_I V3 146 70 l3) (fun V4 => some V4)))
set_option maxRecDepth 20000 in
theorem tB_X12_toCvt_137 {g : sx_G} (hG : sx_Go g) {P : Option Value → sv_V → Prop} {Vr : sv_V} (hP : P none Vr)   {l3 : Int32} {l4 : Int32} {l5 : Int64} {l7 : Int32} {V : sv_V} (h : B_X12_toCvt_137  l3 l4 l5 l7 V = some Vr) : sv_N g qX12_toCvt 5 137 [(0, .ref 146), (3, .int l3), (4, .int l4), (5, .long l5), (7, .int l7)] [] V P := by
  unfold B_X12_toCvt_137 at h
  refine sx_aload_n (pc := 137) dX12_toCvt_137 sx_m0 ?_
  refine sx_iload (pc := 138) dX12_toCvt_138 sx_m2 ?_
  refine sx_lload (pc := 140) dX12_toCvt_140 sx_m3 ?_
  refine sx_iload (pc := 142) dX12_toCvt_142 sx_m4 ?_
  refine sx_i2l (pc := 144) dX12_toCvt_144 ?_
  refine sx_lsub (pc := 145) dX12_toCvt_145 ?_
  obtain ⟨V1, g2, h⟩ := sx_bnd h
  refine sv_cV (pc := 146) (y := qX12_move) (o := none) (as := [.int l4, .long (l5 - l7.toInt64)]) (V1 := V1) hG dX12_toCvt_146 l_X12_630 y0X12_move yvX12_move rfl (Nat.le_of_ble_eq_true rfl) lay_146 kr_12 (by decide) (Nat.le_of_ble_eq_true rfl) rfl rfl rfl (t_X12_move hG ⟨rfl, rfl⟩ g2) ?_
  refine sx_aload_n (pc := 149) dX12_toCvt_149 sx_m0 ?_
  refine sx_iload_n (pc := 150) dX12_toCvt_150 sx_m1 ?_
  obtain ⟨V3, hV3⟩ : ∃ z : sv_V, z = sv_I V1 146 69 l3 := ⟨_, rfl⟩
  have h := sx_letE hV3 h
  refine sv_putI (pc := 151) hG dX12_toCvt_151 f_12_451 lay_146 rfl hV3 ?_
  refine sx_aload_n (pc := 154) dX12_toCvt_154 sx_m0 ?_
  refine sx_iload_n (pc := 155) dX12_toCvt_155 sx_m1 ?_
  obtain ⟨V4, hV4⟩ : ∃ z : sv_V, z = sv_I V3 146 70 l3 := ⟨_, rfl⟩
  have h := sx_letE hV4 h
  refine sv_putI (pc := 156) hG dX12_toCvt_156 f_12_454 lay_146 rfl hV4 ?_
  exact sv_vret (pc := 159) dX12_toCvt_159 rfl h hP
def B_X12_toCvt_127  (l3 : Int32) (l4 : Int32) (l7 : Int32) (s0 : Int64) (V : sv_V) : Option sv_V := (F_X12_rounded s0 V).bind (fun (x7, V5) => B_X12_toCvt_137  l3 l4 x7 l7 V5)
set_option maxRecDepth 20000 in
theorem tB_X12_toCvt_127 {g : sx_G} (hG : sx_Go g) {P : Option Value → sv_V → Prop} {Vr : sv_V} (hP : P none Vr)   {l3 : Int32} {l4 : Int32} {l7 : Int32} {s0 : Int64} {V : sv_V} (h : B_X12_toCvt_127  l3 l4 l7 s0 V = some Vr) : sv_N g qX12_toCvt 5 127 [(0, .ref 146), (3, .int l3), (4, .int l4), (7, .int l7)] [.long s0] V P := by
  unfold B_X12_toCvt_127 at h
  refine sx_lstore (pc := 127) (lo' := [(5, .long s0), (0, .ref 146), (3, .int l3), (4, .int l4), (7, .int l7)]) dX12_toCvt_127 (by decide) rfl ?_
  refine sx_aload_n (pc := 129) dX12_toCvt_129 sx_m1 ?_
  refine sx_lload (pc := 130) dX12_toCvt_130 sx_m0 ?_
  obtain ⟨⟨x7, V5⟩, g6, h⟩ := sx_bnd h
  refine sv_cV (pc := 132) (y := qX12_rounded) (o := (some (.long x7))) (as := [.long s0]) (V1 := V5) hG dX12_toCvt_132 l_X12_647 y0X12_rounded yvX12_rounded rfl (Nat.le_of_ble_eq_true rfl) lay_146 kr_12 (by decide) (Nat.le_of_ble_eq_true rfl) rfl rfl rfl (t_X12_rounded hG ⟨rfl, rfl⟩ g6) ?_
  refine sx_lstore (pc := 135) (lo' := [(5, .long x7), (0, .ref 146), (3, .int l3), (4, .int l4), (7, .int l7)]) dX12_toCvt_135 (by decide) rfl ?_
  refine sx_wk (sx_s1 sx_m1 (sx_s1 sx_m2 (sx_s1 sx_m3 (sx_s1 sx_m0 (sx_s1 sx_m4 sx_s0))))) ?_
  exact tB_X12_toCvt_137 hG hP  h
def B_X12_toCvt_87  (l1 : Int32) (l3 : Int32) (l4 : Int32) (l5 : Int64) (V : sv_V) : Option sv_V := (F_X12_longOf l4 V).bind (fun (x10, V8) => if l1 = (63 : Int32) then ((F_X12_sizeOf (l5 - x10.toInt64) V8).bind (fun (x14, V12) => if (lg_cmp x14 ((V12.1 146 80).toInt64)) ≤ 0 then (B_X12_toCvt_127  l3 l4 x10 l5 V12) else (B_X12_toCvt_127  l3 l4 x10 x10.toInt64 V12))) else (B_X12_toCvt_137  l3 l4 l5 x10 V8))
set_option maxRecDepth 20000 in
theorem tB_X12_toCvt_87 {g : sx_G} (hG : sx_Go g) {P : Option Value → sv_V → Prop} {Vr : sv_V} (hP : P none Vr)   {l1 : Int32} {l3 : Int32} {l4 : Int32} {l5 : Int64} {V : sv_V} (h : B_X12_toCvt_87  l1 l3 l4 l5 V = some Vr) : sv_N g qX12_toCvt 5 87 [(0, .ref 146), (1, .int l1), (3, .int l3), (4, .int l4), (5, .long l5)] [] V P := by
  unfold B_X12_toCvt_87 at h
  refine sx_aload_n (pc := 87) dX12_toCvt_87 sx_m0 ?_
  refine sx_iload (pc := 88) dX12_toCvt_88 sx_m3 ?_
  obtain ⟨⟨x10, V8⟩, g9, h⟩ := sx_bnd h
  refine sv_cV (pc := 90) (y := qX12_longOf) (o := (some (.int x10))) (as := [.int l4]) (V1 := V8) hG dX12_toCvt_90 l_X12_644 y0X12_longOf yvX12_longOf rfl (Nat.le_of_ble_eq_true rfl) lay_146 kr_12 (by decide) (Nat.le_of_ble_eq_true rfl) rfl rfl rfl (t_X12_longOf hG ⟨rfl, rfl⟩ g9) ?_
  refine sx_istore (pc := 93) (lo' := [(7, .int x10), (0, .ref 146), (1, .int l1), (3, .int l3), (4, .int l4), (5, .long l5)]) dX12_toCvt_93 (by decide) rfl ?_
  refine sx_iload_n (pc := 95) dX12_toCvt_95 sx_m2 ?_
  refine sx_bipush (pc := 96) (v := 63) dX12_toCvt_96 (by decide) ?_
  refine sx_icmp_ne (pc := 98) (tgt := 137) dX12_toCvt_98 (by decide) (fun c11 => ?_) (fun c11 => ?_)
  · have h := sx_neg c11 h
    refine sx_wk (sx_s1 sx_m1 (sx_s1 sx_m3 (sx_s1 sx_m4 (sx_s1 sx_m5 (sx_s1 sx_m0 sx_s0))))) ?_
    exact tB_X12_toCvt_137 hG hP  h
  · have h := sx_pos c11 h
    refine sx_lload (pc := 101) dX12_toCvt_101 sx_m5 ?_
    refine sx_iload (pc := 103) dX12_toCvt_103 sx_m0 ?_
    refine sx_i2l (pc := 105) dX12_toCvt_105 ?_
    refine sx_lsub (pc := 106) dX12_toCvt_106 ?_
    obtain ⟨⟨x14, V12⟩, g13, h⟩ := sx_bnd h
    refine sv_cS (pc := 107) (y := qX12_sizeOf) (o := (some (.long x14))) (as := [.long (l5 - x10.toInt64)]) (V1 := V12) dX12_toCvt_107 l_X12_198 y0X12_sizeOf ysX12_sizeOf rfl (Nat.le_of_ble_eq_true rfl) (by decide) (Nat.le_of_ble_eq_true rfl) rfl rfl rfl (t_X12_sizeOf hG ⟨rfl, rfl⟩ g13) ?_
    refine sx_aload_n (pc := 110) dX12_toCvt_110 sx_m1 ?_
    refine sv_getI (pc := 111) hG dX12_toCvt_111 f_12_605 lay_146 rfl ?_
    refine sx_i2l (pc := 114) dX12_toCvt_114 ?_
    refine sx_lcmp (pc := 115) dX12_toCvt_115 ?_
    refine sx_if_le (pc := 116) (tgt := 125) dX12_toCvt_116 (by decide) (fun c15 => ?_) (fun c15 => ?_)
    · have h := sx_pos c15 h
      refine sx_lload (pc := 125) dX12_toCvt_125 sx_m5 ?_
      refine sx_wk (sx_s1 sx_m1 (sx_s1 sx_m3 (sx_s1 sx_m4 (sx_s1 sx_m0 sx_s0)))) ?_
      exact tB_X12_toCvt_127 hG hP  h
    · have h := sx_neg c15 h
      refine sx_iload (pc := 119) dX12_toCvt_119 sx_m0 ?_
      refine sx_i2l (pc := 121) dX12_toCvt_121 ?_
      refine sx_goto (pc := 122) (tgt := 127) dX12_toCvt_122 (by decide) ?_
      refine sx_wk (sx_s1 sx_m1 (sx_s1 sx_m3 (sx_s1 sx_m4 (sx_s1 sx_m0 sx_s0)))) ?_
      exact tB_X12_toCvt_127 hG hP  h
def F_X12_toCvt (l1 : Int32) (V : sv_V) : Option sv_V := (F_X12_has (2 : Int32) V).bind (fun (x18, V16) => if x18 = 0 then (some V16) else ((F_X12_pop  V16).bind (fun (x22, V20) => (F_X12_pop  V20).bind (fun (x25, V23) => (F_X12_pointOf (V23.1 146 72) x25 V23).bind (fun (x28, V26) => (F_X12_cvtOf x22 V26).bind (fun (x31, V29) => sx_let (x31.toInt64) (fun x32 => if (V29.1 146 59) ≤ 0 then (if (V29.1 146 72) = 0 then ((F_X12_over (x32 * ((V29.1 146 63).toInt64)) (16384 : Int64) V29).bind (fun (x37, V35) => (F_X12_over (x32 * ((V35.1 146 64).toInt64)) (16384 : Int64) V35).bind (fun (x40, V38) => (F_X12_put x28 x37 x40 V38).bind (fun V41 => B_X12_toCvt_87  l1 x25 x28 x32 V41)))) else (B_X12_toCvt_87  l1 x25 x28 x32 V29)) else (some V29))))))))
set_option maxRecDepth 20000 in
theorem t_X12_toCvt {g : sx_G} (hG : sx_Go g) {P : Option Value → sv_V → Prop} {Vr : sv_V} (hP : P none Vr) {l1 : Int32} {V : sv_V} (h : F_X12_toCvt l1 V = some Vr) : sv_N g qX12_toCvt 5 0 [(0, .ref 146), (1, .int l1)] [] V P := by
  unfold F_X12_toCvt at h
  refine sx_aload_n (pc := 0) dX12_toCvt_0 sx_m0 ?_
  refine sx_iconst (pc := 1) (v := 2) dX12_toCvt_1 (by decide) ?_
  obtain ⟨⟨x18, V16⟩, g17, h⟩ := sx_bnd h
  refine sv_cV (pc := 2) (y := qX12_has) (o := (some (.int x18))) (as := [.int (2 : Int32)]) (V1 := V16) hG dX12_toCvt_2 l_X12_576 y0X12_has yvX12_has rfl (Nat.le_of_ble_eq_true rfl) lay_146 kr_12 (by decide) (Nat.le_of_ble_eq_true rfl) rfl rfl rfl (t_X12_has hG ⟨rfl, rfl⟩ g17) ?_
  refine sx_if_ne (pc := 5) (tgt := 9) dX12_toCvt_5 (by decide) (fun c19 => ?_) (fun c19 => ?_)
  · have h := sx_neg c19 h
    refine sx_aload_n (pc := 9) dX12_toCvt_9 sx_m0 ?_
    obtain ⟨⟨x22, V20⟩, g21, h⟩ := sx_bnd h
    refine sv_cV (pc := 10) (y := qX12_pop) (o := (some (.int x22))) (as := []) (V1 := V20) hG dX12_toCvt_10 l_X12_579 y0X12_pop yvX12_pop rfl (Nat.le_of_ble_eq_true rfl) lay_146 kr_12 (by decide) (Nat.le_of_ble_eq_true rfl) rfl rfl rfl (t_X12_pop hG ⟨rfl, rfl⟩ g21) ?_
    refine sx_istore_n (pc := 13) (lo' := [(2, .int x22), (0, .ref 146), (1, .int l1)]) dX12_toCvt_13 (by decide) rfl ?_
    refine sx_aload_n (pc := 14) dX12_toCvt_14 sx_m1 ?_
    obtain ⟨⟨x25, V23⟩, g24, h⟩ := sx_bnd h
    refine sv_cV (pc := 15) (y := qX12_pop) (o := (some (.int x25))) (as := []) (V1 := V23) hG dX12_toCvt_15 l_X12_579 y0X12_pop yvX12_pop rfl (Nat.le_of_ble_eq_true rfl) lay_146 kr_12 (by decide) (Nat.le_of_ble_eq_true rfl) rfl rfl rfl (t_X12_pop hG ⟨rfl, rfl⟩ g24) ?_
    refine sx_istore_n (pc := 18) (lo' := [(3, .int x25), (2, .int x22), (0, .ref 146), (1, .int l1)]) dX12_toCvt_18 (by decide) rfl ?_
    refine sx_aload_n (pc := 19) dX12_toCvt_19 sx_m2 ?_
    refine sx_aload_n (pc := 20) dX12_toCvt_20 sx_m2 ?_
    refine sv_getI (pc := 21) hG dX12_toCvt_21 f_12_460 lay_146 rfl ?_
    refine sx_iload_n (pc := 24) dX12_toCvt_24 sx_m0 ?_
    obtain ⟨⟨x28, V26⟩, g27, h⟩ := sx_bnd h
    refine sv_cV (pc := 25) (y := qX12_pointOf) (o := (some (.int x28))) (as := [.int (V23.1 146 72), .int x25]) (V1 := V26) hG dX12_toCvt_25 l_X12_582 y0X12_pointOf yvX12_pointOf rfl (Nat.le_of_ble_eq_true rfl) lay_146 kr_12 (by decide) (Nat.le_of_ble_eq_true rfl) rfl rfl rfl (t_X12_pointOf hG ⟨rfl, rfl⟩ g27) ?_
    refine sx_istore (pc := 28) (lo' := [(4, .int x28), (3, .int x25), (2, .int x22), (0, .ref 146), (1, .int l1)]) dX12_toCvt_28 (by decide) rfl ?_
    refine sx_aload_n (pc := 30) dX12_toCvt_30 sx_m3 ?_
    refine sx_iload_n (pc := 31) dX12_toCvt_31 sx_m2 ?_
    obtain ⟨⟨x31, V29⟩, g30, h⟩ := sx_bnd h
    refine sv_cV (pc := 32) (y := qX12_cvtOf) (o := (some (.int x31))) (as := [.int x22]) (V1 := V29) hG dX12_toCvt_32 l_X12_677 y0X12_cvtOf yvX12_cvtOf rfl (Nat.le_of_ble_eq_true rfl) lay_146 kr_12 (by decide) (Nat.le_of_ble_eq_true rfl) rfl rfl rfl (t_X12_cvtOf hG ⟨rfl, rfl⟩ g30) ?_
    refine sx_i2l (pc := 35) dX12_toCvt_35 ?_
    refine sv_tJ (fun x32 hx32 => ?_)
    have h := sx_letE hx32 h
    refine sx_lstore (pc := 36) (lo' := [(5, .long x32), (4, .int x28), (3, .int x25), (2, .int x22), (0, .ref 146), (1, .int l1)]) dX12_toCvt_36 (by decide) rfl ?_
    refine sx_aload_n (pc := 38) dX12_toCvt_38 sx_m4 ?_
    refine sv_getI (pc := 39) hG dX12_toCvt_39 f_12_409 lay_146 rfl ?_
    refine sx_if_le (pc := 42) (tgt := 46) dX12_toCvt_42 (by decide) (fun c33 => ?_) (fun c33 => ?_)
    · have h := sx_pos c33 h
      refine sx_aload_n (pc := 46) dX12_toCvt_46 sx_m4 ?_
      refine sv_getI (pc := 47) hG dX12_toCvt_47 f_12_460 lay_146 rfl ?_
      refine sx_if_ne (pc := 50) (tgt := 87) dX12_toCvt_50 (by decide) (fun c34 => ?_) (fun c34 => ?_)
      · have h := sx_neg c34 h
        refine sx_wk (sx_s1 sx_m4 (sx_s1 sx_m5 (sx_s1 sx_m2 (sx_s1 sx_m1 (sx_s1 sx_m0 sx_s0))))) ?_
        exact tB_X12_toCvt_87 hG hP  h
      · have h := sx_pos c34 h
        refine sx_aload_n (pc := 53) dX12_toCvt_53 sx_m4 ?_
        refine sx_iload (pc := 54) dX12_toCvt_54 sx_m1 ?_
        refine sx_lload (pc := 56) dX12_toCvt_56 sx_m0 ?_
        refine sx_aload_n (pc := 58) dX12_toCvt_58 sx_m4 ?_
        refine sv_getI (pc := 59) hG dX12_toCvt_59 f_12_433 lay_146 rfl ?_
        refine sx_i2l (pc := 62) dX12_toCvt_62 ?_
        refine sx_lmul (pc := 63) dX12_toCvt_63 ?_
        refine sx_ldc2 (pc := 64) dX12_toCvt_64 k_X12_310 ?_
        obtain ⟨⟨x37, V35⟩, g36, h⟩ := sx_bnd h
        refine sv_cS (pc := 67) (y := qX12_over) (o := (some (.long x37))) (as := [.long (x32 * ((V29.1 146 63).toInt64)), .long (16384 : Int64)]) (V1 := V35) dX12_toCvt_67 l_X12_517 y0X12_over ysX12_over rfl (Nat.le_of_ble_eq_true rfl) (by decide) (Nat.le_of_ble_eq_true rfl) rfl rfl rfl (t_X12_over hG ⟨rfl, rfl⟩ g36) ?_
        refine sx_lload (pc := 70) dX12_toCvt_70 sx_m0 ?_
        refine sx_aload_n (pc := 72) dX12_toCvt_72 sx_m4 ?_
        refine sv_getI (pc := 73) hG dX12_toCvt_73 f_12_436 lay_146 rfl ?_
        refine sx_i2l (pc := 76) dX12_toCvt_76 ?_
        refine sx_lmul (pc := 77) dX12_toCvt_77 ?_
        refine sx_ldc2 (pc := 78) dX12_toCvt_78 k_X12_310 ?_
        obtain ⟨⟨x40, V38⟩, g39, h⟩ := sx_bnd h
        refine sv_cS (pc := 81) (y := qX12_over) (o := (some (.long x40))) (as := [.long (x32 * ((V35.1 146 64).toInt64)), .long (16384 : Int64)]) (V1 := V38) dX12_toCvt_81 l_X12_517 y0X12_over ysX12_over rfl (Nat.le_of_ble_eq_true rfl) (by decide) (Nat.le_of_ble_eq_true rfl) rfl rfl rfl (t_X12_over hG ⟨rfl, rfl⟩ g39) ?_
        obtain ⟨V41, g42, h⟩ := sx_bnd h
        refine sv_cV (pc := 84) (y := qX12_put) (o := none) (as := [.int x28, .long x37, .long x40]) (V1 := V41) hG dX12_toCvt_84 l_X12_716 y0X12_put yvX12_put rfl (Nat.le_of_ble_eq_true rfl) lay_146 kr_12 (by decide) (Nat.le_of_ble_eq_true rfl) rfl rfl rfl (t_X12_put hG ⟨rfl, rfl⟩ g42) ?_
        refine sx_wk (sx_s1 sx_m4 (sx_s1 sx_m5 (sx_s1 sx_m2 (sx_s1 sx_m1 (sx_s1 sx_m0 sx_s0))))) ?_
        exact tB_X12_toCvt_87 hG hP  h
    · have h := sx_neg c33 h
      exact sv_vret (pc := 45) dX12_toCvt_45 rfl h hP
  · have h := sx_pos c19 h
    exact sv_vret (pc := 8) dX12_toCvt_8 rfl h hP
theorem dX12_settle_0 : decode cX12_settle 0 = .ok (.aload_n 0, 1) := by decide +kernel
theorem dX12_settle_1 : decode cX12_settle 1 = .ok (.iload_n 2, 1) := by decide +kernel
theorem dX12_settle_2 : decode cX12_settle 2 = .ok (.lload 5, 2) := by decide +kernel
theorem dX12_settle_4 : decode cX12_settle 4 = .ok (.aload_n 0, 1) := by decide +kernel
theorem dX12_settle_5 : decode cX12_settle 5 = .ok (.iload_n 2, 1) := by decide +kernel
theorem dX12_settle_6 : decode cX12_settle 6 = .ok (.iload 4, 2) := by decide +kernel
theorem dX12_settle_8 : decode cX12_settle 8 = .ok (.invokevirtual 627, 3) := by decide +kernel
theorem dX12_settle_11 : decode cX12_settle 11 = .ok (.i2l, 1) := by decide +kernel
theorem dX12_settle_12 : decode cX12_settle 12 = .ok (.lsub, 1) := by decide +kernel
theorem dX12_settle_13 : decode cX12_settle 13 = .ok (.invokevirtual 630, 3) := by decide +kernel
theorem dX12_settle_16 : decode cX12_settle 16 = .ok (.aload_n 0, 1) := by decide +kernel
theorem dX12_settle_17 : decode cX12_settle 17 = .ok (.aload_n 0, 1) := by decide +kernel
theorem dX12_settle_18 : decode cX12_settle 18 = .ok (.getfield 451, 3) := by decide +kernel
theorem dX12_settle_21 : decode cX12_settle 21 = .ok (.putfield 454, 3) := by decide +kernel
theorem dX12_settle_24 : decode cX12_settle 24 = .ok (.aload_n 0, 1) := by decide +kernel
theorem dX12_settle_25 : decode cX12_settle 25 = .ok (.iload_n 3, 1) := by decide +kernel
theorem dX12_settle_26 : decode cX12_settle 26 = .ok (.putfield 457, 3) := by decide +kernel
theorem dX12_settle_29 : decode cX12_settle 29 = .ok (.aload_n 0, 1) := by decide +kernel
theorem dX12_settle_30 : decode cX12_settle 30 = .ok (.iload_n 1, 1) := by decide +kernel
theorem dX12_settle_31 : decode cX12_settle 31 = .ok (.bipush 16, 2) := by decide +kernel
theorem dX12_settle_33 : decode cX12_settle 33 = .ok (.iand, 1) := by decide +kernel
theorem dX12_settle_34 : decode cX12_settle 34 = .ok (.ifCond .eq 7, 3) := by decide +kernel
theorem dX12_settle_37 : decode cX12_settle 37 = .ok (.iload_n 3, 1) := by decide +kernel
theorem dX12_settle_38 : decode cX12_settle 38 = .ok (.goto 7, 3) := by decide +kernel
theorem dX12_settle_41 : decode cX12_settle 41 = .ok (.aload_n 0, 1) := by decide +kernel
theorem dX12_settle_42 : decode cX12_settle 42 = .ok (.getfield 451, 3) := by decide +kernel
theorem dX12_settle_45 : decode cX12_settle 45 = .ok (.putfield 451, 3) := by decide +kernel
theorem dX12_settle_48 : decode cX12_settle 48 = .ok (.return_, 1) := by decide +kernel
def F_X12_settle (l1 : Int32) (l2 : Int32) (l3 : Int32) (l4 : Int32) (l5 : Int64) (V : sv_V) : Option sv_V := (F_X12_between l2 l4 V).bind (fun (x3, V1) => (F_X12_move l2 (l5 - x3.toInt64) V1).bind (fun V4 => sx_let (sv_I V4 146 70 (V4.1 146 69)) (fun V6 => sx_let (sv_I V6 146 71 l3) (fun V7 => if (l1 &&& (16 : Int32)) = 0 then (sx_let (sv_I V7 146 69 (V7.1 146 69)) (fun V9 => some V9)) else (sx_let (sv_I V7 146 69 l3) (fun V10 => some V10))))))
set_option maxRecDepth 20000 in
theorem t_X12_settle {g : sx_G} (hG : sx_Go g) {P : Option Value → sv_V → Prop} {Vr : sv_V} (hP : P none Vr) {l1 : Int32} {l2 : Int32} {l3 : Int32} {l4 : Int32} {l5 : Int64} {V : sv_V} (h : F_X12_settle l1 l2 l3 l4 l5 V = some Vr) : sv_N g qX12_settle 5 0 [(0, .ref 146), (1, .int l1), (2, .int l2), (3, .int l3), (4, .int l4), (5, .long l5)] [] V P := by
  unfold F_X12_settle at h
  refine sx_aload_n (pc := 0) dX12_settle_0 sx_m0 ?_
  refine sx_iload_n (pc := 1) dX12_settle_1 sx_m2 ?_
  refine sx_lload (pc := 2) dX12_settle_2 sx_m5 ?_
  refine sx_aload_n (pc := 4) dX12_settle_4 sx_m0 ?_
  refine sx_iload_n (pc := 5) dX12_settle_5 sx_m2 ?_
  refine sx_iload (pc := 6) dX12_settle_6 sx_m4 ?_
  obtain ⟨⟨x3, V1⟩, g2, h⟩ := sx_bnd h
  refine sv_cV (pc := 8) (y := qX12_between) (o := (some (.int x3))) (as := [.int l2, .int l4]) (V1 := V1) hG dX12_settle_8 l_X12_627 y0X12_between yvX12_between rfl (Nat.le_of_ble_eq_true rfl) lay_146 kr_12 (by decide) (Nat.le_of_ble_eq_true rfl) rfl rfl rfl (t_X12_between hG ⟨rfl, rfl⟩ g2) ?_
  refine sx_i2l (pc := 11) dX12_settle_11 ?_
  refine sx_lsub (pc := 12) dX12_settle_12 ?_
  obtain ⟨V4, g5, h⟩ := sx_bnd h
  refine sv_cV (pc := 13) (y := qX12_move) (o := none) (as := [.int l2, .long (l5 - x3.toInt64)]) (V1 := V4) hG dX12_settle_13 l_X12_630 y0X12_move yvX12_move rfl (Nat.le_of_ble_eq_true rfl) lay_146 kr_12 (by decide) (Nat.le_of_ble_eq_true rfl) rfl rfl rfl (t_X12_move hG ⟨rfl, rfl⟩ g5) ?_
  refine sx_aload_n (pc := 16) dX12_settle_16 sx_m0 ?_
  refine sx_aload_n (pc := 17) dX12_settle_17 sx_m0 ?_
  refine sv_getI (pc := 18) hG dX12_settle_18 f_12_451 lay_146 rfl ?_
  obtain ⟨V6, hV6⟩ : ∃ z : sv_V, z = sv_I V4 146 70 (V4.1 146 69) := ⟨_, rfl⟩
  have h := sx_letE hV6 h
  refine sv_putI (pc := 21) hG dX12_settle_21 f_12_454 lay_146 rfl hV6 ?_
  refine sx_aload_n (pc := 24) dX12_settle_24 sx_m0 ?_
  refine sx_iload_n (pc := 25) dX12_settle_25 sx_m3 ?_
  obtain ⟨V7, hV7⟩ : ∃ z : sv_V, z = sv_I V6 146 71 l3 := ⟨_, rfl⟩
  have h := sx_letE hV7 h
  refine sv_putI (pc := 26) hG dX12_settle_26 f_12_457 lay_146 rfl hV7 ?_
  refine sx_aload_n (pc := 29) dX12_settle_29 sx_m0 ?_
  refine sx_iload_n (pc := 30) dX12_settle_30 sx_m1 ?_
  refine sx_bipush (pc := 31) (v := 16) dX12_settle_31 (by decide) ?_
  refine sx_iand (pc := 33) dX12_settle_33 ?_
  refine sx_if_eq (pc := 34) (tgt := 41) dX12_settle_34 (by decide) (fun c8 => ?_) (fun c8 => ?_)
  · have h := sx_pos c8 h
    refine sx_aload_n (pc := 41) dX12_settle_41 sx_m0 ?_
    refine sv_getI (pc := 42) hG dX12_settle_42 f_12_451 lay_146 rfl ?_
    obtain ⟨V9, hV9⟩ : ∃ z : sv_V, z = sv_I V7 146 69 (V7.1 146 69) := ⟨_, rfl⟩
    have h := sx_letE hV9 h
    refine sv_putI (pc := 45) hG dX12_settle_45 f_12_451 lay_146 rfl hV9 ?_
    exact sv_vret (pc := 48) dX12_settle_48 rfl h hP
  · have h := sx_neg c8 h
    refine sx_iload_n (pc := 37) dX12_settle_37 sx_m3 ?_
    refine sx_goto (pc := 38) (tgt := 45) dX12_settle_38 (by decide) ?_
    obtain ⟨V10, hV10⟩ : ∃ z : sv_V, z = sv_I V7 146 69 l3 := ⟨_, rfl⟩
    have h := sx_letE hV10 h
    refine sv_putI (pc := 45) hG dX12_settle_45 f_12_451 lay_146 rfl hV10 ?_
    exact sv_vret (pc := 48) dX12_settle_48 rfl h hP
theorem dX12_relative_0 : decode cX12_relative 0 = .ok (.aload_n 0, 1) := by decide +kernel
theorem dX12_relative_1 : decode cX12_relative 1 = .ok (.iconst 1, 1) := by decide +kernel
theorem dX12_relative_2 : decode cX12_relative 2 = .ok (.invokevirtual 576, 3) := by decide +kernel
theorem dX12_relative_5 : decode cX12_relative 5 = .ok (.ifCond .ne 4, 3) := by decide +kernel
theorem dX12_relative_8 : decode cX12_relative 8 = .ok (.return_, 1) := by decide +kernel
theorem dX12_relative_9 : decode cX12_relative 9 = .ok (.aload_n 0, 1) := by decide +kernel
theorem dX12_relative_10 : decode cX12_relative 10 = .ok (.invokevirtual 579, 3) := by decide +kernel
theorem dX12_relative_13 : decode cX12_relative 13 = .ok (.istore_n 2, 1) := by decide +kernel
theorem dX12_relative_14 : decode cX12_relative 14 = .ok (.aload_n 0, 1) := by decide +kernel
theorem dX12_relative_15 : decode cX12_relative 15 = .ok (.aload_n 0, 1) := by decide +kernel
theorem dX12_relative_16 : decode cX12_relative 16 = .ok (.getfield 463, 3) := by decide +kernel
theorem dX12_relative_19 : decode cX12_relative 19 = .ok (.iload_n 2, 1) := by decide +kernel
theorem dX12_relative_20 : decode cX12_relative 20 = .ok (.invokevirtual 582, 3) := by decide +kernel
theorem dX12_relative_23 : decode cX12_relative 23 = .ok (.istore_n 3, 1) := by decide +kernel
theorem dX12_relative_24 : decode cX12_relative 24 = .ok (.aload_n 0, 1) := by decide +kernel
theorem dX12_relative_25 : decode cX12_relative 25 = .ok (.aload_n 0, 1) := by decide +kernel
theorem dX12_relative_26 : decode cX12_relative 26 = .ok (.getfield 460, 3) := by decide +kernel
theorem dX12_relative_29 : decode cX12_relative 29 = .ok (.aload_n 0, 1) := by decide +kernel
theorem dX12_relative_30 : decode cX12_relative 30 = .ok (.getfield 451, 3) := by decide +kernel
theorem dX12_relative_33 : decode cX12_relative 33 = .ok (.invokevirtual 582, 3) := by decide +kernel
theorem dX12_relative_36 : decode cX12_relative 36 = .ok (.istore 4, 2) := by decide +kernel
theorem dX12_relative_38 : decode cX12_relative 38 = .ok (.aload_n 0, 1) := by decide +kernel
theorem dX12_relative_39 : decode cX12_relative 39 = .ok (.getfield 409, 3) := by decide +kernel
theorem dX12_relative_42 : decode cX12_relative 42 = .ok (.ifCond .le 4, 3) := by decide +kernel
theorem dX12_relative_45 : decode cX12_relative 45 = .ok (.return_, 1) := by decide +kernel
theorem dX12_relative_46 : decode cX12_relative 46 = .ok (.aload_n 0, 1) := by decide +kernel
theorem dX12_relative_47 : decode cX12_relative 47 = .ok (.aload_n 0, 1) := by decide +kernel
theorem dX12_relative_48 : decode cX12_relative 48 = .ok (.iload_n 3, 1) := by decide +kernel
theorem dX12_relative_49 : decode cX12_relative 49 = .ok (.iload 4, 2) := by decide +kernel
theorem dX12_relative_51 : decode cX12_relative 51 = .ok (.invokevirtual 680, 3) := by decide +kernel
theorem dX12_relative_54 : decode cX12_relative 54 = .ok (.i2l, 1) := by decide +kernel
theorem dX12_relative_55 : decode cX12_relative 55 = .ok (.invokevirtual 720, 3) := by decide +kernel
theorem dX12_relative_58 : decode cX12_relative 58 = .ok (.lstore 5, 2) := by decide +kernel
theorem dX12_relative_60 : decode cX12_relative 60 = .ok (.iload_n 1, 1) := by decide +kernel
theorem dX12_relative_61 : decode cX12_relative 61 = .ok (.iconst 4, 1) := by decide +kernel
theorem dX12_relative_62 : decode cX12_relative 62 = .ok (.iand, 1) := by decide +kernel
theorem dX12_relative_63 : decode cX12_relative 63 = .ok (.ifCond .eq 12, 3) := by decide +kernel
theorem dX12_relative_66 : decode cX12_relative 66 = .ok (.aload_n 0, 1) := by decide +kernel
theorem dX12_relative_67 : decode cX12_relative 67 = .ok (.lload 5, 2) := by decide +kernel
theorem dX12_relative_69 : decode cX12_relative 69 = .ok (.invokevirtual 647, 3) := by decide +kernel
theorem dX12_relative_72 : decode cX12_relative 72 = .ok (.goto 5, 3) := by decide +kernel
theorem dX12_relative_75 : decode cX12_relative 75 = .ok (.lload 5, 2) := by decide +kernel
theorem dX12_relative_77 : decode cX12_relative 77 = .ok (.lstore 7, 2) := by decide +kernel
theorem dX12_relative_79 : decode cX12_relative 79 = .ok (.aload_n 0, 1) := by decide +kernel
theorem dX12_relative_80 : decode cX12_relative 80 = .ok (.iload_n 1, 1) := by decide +kernel
theorem dX12_relative_81 : decode cX12_relative 81 = .ok (.iload_n 3, 1) := by decide +kernel
theorem dX12_relative_82 : decode cX12_relative 82 = .ok (.iload_n 2, 1) := by decide +kernel
theorem dX12_relative_83 : decode cX12_relative 83 = .ok (.iload 4, 2) := by decide +kernel
theorem dX12_relative_85 : decode cX12_relative 85 = .ok (.aload_n 0, 1) := by decide +kernel
theorem dX12_relative_86 : decode cX12_relative 86 = .ok (.iload_n 1, 1) := by decide +kernel
theorem dX12_relative_87 : decode cX12_relative 87 = .ok (.lload 5, 2) := by decide +kernel
theorem dX12_relative_89 : decode cX12_relative 89 = .ok (.lload 7, 2) := by decide +kernel
theorem dX12_relative_91 : decode cX12_relative 91 = .ok (.invokevirtual 723, 3) := by decide +kernel
theorem dX12_relative_94 : decode cX12_relative 94 = .ok (.invokevirtual 727, 3) := by decide +kernel
theorem dX12_relative_97 : decode cX12_relative 97 = .ok (.return_, 1) := by decide +kernel
def B_X12_relative_77  (l1 : Int32) (l2 : Int32) (l3 : Int32) (l4 : Int32) (l5 : Int64) (s0 : Int64) (V : sv_V) : Option sv_V := (F_X12_atLeast l1 l5 s0 V).bind (fun (x3, V1) => (F_X12_settle l1 l3 l2 l4 x3 V1).bind (fun V4 => some V4))
set_option maxRecDepth 20000 in
theorem tB_X12_relative_77 {g : sx_G} (hG : sx_Go g) {P : Option Value → sv_V → Prop} {Vr : sv_V} (hP : P none Vr)   {l1 : Int32} {l2 : Int32} {l3 : Int32} {l4 : Int32} {l5 : Int64} {s0 : Int64} {V : sv_V} (h : B_X12_relative_77  l1 l2 l3 l4 l5 s0 V = some Vr) : sv_N g qX12_relative 6 77 [(0, .ref 146), (1, .int l1), (2, .int l2), (3, .int l3), (4, .int l4), (5, .long l5)] [.long s0] V P := by
  unfold B_X12_relative_77 at h
  refine sx_lstore (pc := 77) (lo' := [(7, .long s0), (0, .ref 146), (1, .int l1), (2, .int l2), (3, .int l3), (4, .int l4), (5, .long l5)]) dX12_relative_77 (by decide) rfl ?_
  refine sx_aload_n (pc := 79) dX12_relative_79 sx_m1 ?_
  refine sx_iload_n (pc := 80) dX12_relative_80 sx_m2 ?_
  refine sx_iload_n (pc := 81) dX12_relative_81 sx_m4 ?_
  refine sx_iload_n (pc := 82) dX12_relative_82 sx_m3 ?_
  refine sx_iload (pc := 83) dX12_relative_83 sx_m5 ?_
  refine sx_aload_n (pc := 85) dX12_relative_85 sx_m1 ?_
  refine sx_iload_n (pc := 86) dX12_relative_86 sx_m2 ?_
  refine sx_lload (pc := 87) dX12_relative_87 sx_m6 ?_
  refine sx_lload (pc := 89) dX12_relative_89 sx_m0 ?_
  obtain ⟨⟨x3, V1⟩, g2, h⟩ := sx_bnd h
  refine sv_cV (pc := 91) (y := qX12_atLeast) (o := (some (.long x3))) (as := [.int l1, .long l5, .long s0]) (V1 := V1) hG dX12_relative_91 l_X12_723 y0X12_atLeast yvX12_atLeast rfl (Nat.le_of_ble_eq_true rfl) lay_146 kr_12 (by decide) (Nat.le_of_ble_eq_true rfl) rfl rfl rfl (t_X12_atLeast hG ⟨rfl, rfl⟩ g2) ?_
  obtain ⟨V4, g5, h⟩ := sx_bnd h
  refine sv_cV (pc := 94) (y := qX12_settle) (o := none) (as := [.int l1, .int l3, .int l2, .int l4, .long x3]) (V1 := V4) hG dX12_relative_94 l_X12_727 y0X12_settle yvX12_settle rfl (Nat.le_of_ble_eq_true rfl) lay_146 kr_12 (by decide) (Nat.le_of_ble_eq_true rfl) rfl rfl rfl (t_X12_settle hG ⟨rfl, rfl⟩ g5) ?_
  exact sv_vret (pc := 97) dX12_relative_97 rfl h hP
def F_X12_relative (l1 : Int32) (V : sv_V) : Option sv_V := (F_X12_has (1 : Int32) V).bind (fun (x8, V6) => if x8 = 0 then (some V6) else ((F_X12_pop  V6).bind (fun (x12, V10) => (F_X12_pointOf (V10.1 146 73) x12 V10).bind (fun (x15, V13) => (F_X12_pointOf (V13.1 146 72) (V13.1 146 69) V13).bind (fun (x18, V16) => if (V16.1 146 59) ≤ 0 then ((F_X12_originally x15 x18 V16).bind (fun (x22, V20) => (F_X12_singled x22.toInt64 V20).bind (fun (x25, V23) => if (l1 &&& (4 : Int32)) = 0 then (B_X12_relative_77  l1 x12 x15 x18 x25 x25 V23) else ((F_X12_rounded x25 V23).bind (fun (x29, V27) => B_X12_relative_77  l1 x12 x15 x18 x25 x29 V27))))) else (some V16))))))
set_option maxRecDepth 20000 in
theorem t_X12_relative {g : sx_G} (hG : sx_Go g) {P : Option Value → sv_V → Prop} {Vr : sv_V} (hP : P none Vr) {l1 : Int32} {V : sv_V} (h : F_X12_relative l1 V = some Vr) : sv_N g qX12_relative 6 0 [(0, .ref 146), (1, .int l1)] [] V P := by
  unfold F_X12_relative at h
  refine sx_aload_n (pc := 0) dX12_relative_0 sx_m0 ?_
  refine sx_iconst (pc := 1) (v := 1) dX12_relative_1 (by decide) ?_
  obtain ⟨⟨x8, V6⟩, g7, h⟩ := sx_bnd h
  refine sv_cV (pc := 2) (y := qX12_has) (o := (some (.int x8))) (as := [.int (1 : Int32)]) (V1 := V6) hG dX12_relative_2 l_X12_576 y0X12_has yvX12_has rfl (Nat.le_of_ble_eq_true rfl) lay_146 kr_12 (by decide) (Nat.le_of_ble_eq_true rfl) rfl rfl rfl (t_X12_has hG ⟨rfl, rfl⟩ g7) ?_
  refine sx_if_ne (pc := 5) (tgt := 9) dX12_relative_5 (by decide) (fun c9 => ?_) (fun c9 => ?_)
  · have h := sx_neg c9 h
    refine sx_aload_n (pc := 9) dX12_relative_9 sx_m0 ?_
    obtain ⟨⟨x12, V10⟩, g11, h⟩ := sx_bnd h
    refine sv_cV (pc := 10) (y := qX12_pop) (o := (some (.int x12))) (as := []) (V1 := V10) hG dX12_relative_10 l_X12_579 y0X12_pop yvX12_pop rfl (Nat.le_of_ble_eq_true rfl) lay_146 kr_12 (by decide) (Nat.le_of_ble_eq_true rfl) rfl rfl rfl (t_X12_pop hG ⟨rfl, rfl⟩ g11) ?_
    refine sx_istore_n (pc := 13) (lo' := [(2, .int x12), (0, .ref 146), (1, .int l1)]) dX12_relative_13 (by decide) rfl ?_
    refine sx_aload_n (pc := 14) dX12_relative_14 sx_m1 ?_
    refine sx_aload_n (pc := 15) dX12_relative_15 sx_m1 ?_
    refine sv_getI (pc := 16) hG dX12_relative_16 f_12_463 lay_146 rfl ?_
    refine sx_iload_n (pc := 19) dX12_relative_19 sx_m0 ?_
    obtain ⟨⟨x15, V13⟩, g14, h⟩ := sx_bnd h
    refine sv_cV (pc := 20) (y := qX12_pointOf) (o := (some (.int x15))) (as := [.int (V10.1 146 73), .int x12]) (V1 := V13) hG dX12_relative_20 l_X12_582 y0X12_pointOf yvX12_pointOf rfl (Nat.le_of_ble_eq_true rfl) lay_146 kr_12 (by decide) (Nat.le_of_ble_eq_true rfl) rfl rfl rfl (t_X12_pointOf hG ⟨rfl, rfl⟩ g14) ?_
    refine sx_istore_n (pc := 23) (lo' := [(3, .int x15), (2, .int x12), (0, .ref 146), (1, .int l1)]) dX12_relative_23 (by decide) rfl ?_
    refine sx_aload_n (pc := 24) dX12_relative_24 sx_m2 ?_
    refine sx_aload_n (pc := 25) dX12_relative_25 sx_m2 ?_
    refine sv_getI (pc := 26) hG dX12_relative_26 f_12_460 lay_146 rfl ?_
    refine sx_aload_n (pc := 29) dX12_relative_29 sx_m2 ?_
    refine sv_getI (pc := 30) hG dX12_relative_30 f_12_451 lay_146 rfl ?_
    obtain ⟨⟨x18, V16⟩, g17, h⟩ := sx_bnd h
    refine sv_cV (pc := 33) (y := qX12_pointOf) (o := (some (.int x18))) (as := [.int (V13.1 146 72), .int (V13.1 146 69)]) (V1 := V16) hG dX12_relative_33 l_X12_582 y0X12_pointOf yvX12_pointOf rfl (Nat.le_of_ble_eq_true rfl) lay_146 kr_12 (by decide) (Nat.le_of_ble_eq_true rfl) rfl rfl rfl (t_X12_pointOf hG ⟨rfl, rfl⟩ g17) ?_
    refine sx_istore (pc := 36) (lo' := [(4, .int x18), (3, .int x15), (2, .int x12), (0, .ref 146), (1, .int l1)]) dX12_relative_36 (by decide) rfl ?_
    refine sx_aload_n (pc := 38) dX12_relative_38 sx_m3 ?_
    refine sv_getI (pc := 39) hG dX12_relative_39 f_12_409 lay_146 rfl ?_
    refine sx_if_le (pc := 42) (tgt := 46) dX12_relative_42 (by decide) (fun c19 => ?_) (fun c19 => ?_)
    · have h := sx_pos c19 h
      refine sx_aload_n (pc := 46) dX12_relative_46 sx_m3 ?_
      refine sx_aload_n (pc := 47) dX12_relative_47 sx_m3 ?_
      refine sx_iload_n (pc := 48) dX12_relative_48 sx_m1 ?_
      refine sx_iload (pc := 49) dX12_relative_49 sx_m0 ?_
      obtain ⟨⟨x22, V20⟩, g21, h⟩ := sx_bnd h
      refine sv_cV (pc := 51) (y := qX12_originally) (o := (some (.int x22))) (as := [.int x15, .int x18]) (V1 := V20) hG dX12_relative_51 l_X12_680 y0X12_originally yvX12_originally rfl (Nat.le_of_ble_eq_true rfl) lay_146 kr_12 (by decide) (Nat.le_of_ble_eq_true rfl) rfl rfl rfl (t_X12_originally hG ⟨rfl, rfl⟩ g21) ?_
      refine sx_i2l (pc := 54) dX12_relative_54 ?_
      obtain ⟨⟨x25, V23⟩, g24, h⟩ := sx_bnd h
      refine sv_cV (pc := 55) (y := qX12_singled) (o := (some (.long x25))) (as := [.long x22.toInt64]) (V1 := V23) hG dX12_relative_55 l_X12_720 y0X12_singled yvX12_singled rfl (Nat.le_of_ble_eq_true rfl) lay_146 kr_12 (by decide) (Nat.le_of_ble_eq_true rfl) rfl rfl rfl (t_X12_singled hG ⟨rfl, rfl⟩ g24) ?_
      refine sx_lstore (pc := 58) (lo' := [(5, .long x25), (4, .int x18), (3, .int x15), (2, .int x12), (0, .ref 146), (1, .int l1)]) dX12_relative_58 (by decide) rfl ?_
      refine sx_iload_n (pc := 60) dX12_relative_60 sx_m5 ?_
      refine sx_iconst (pc := 61) (v := 4) dX12_relative_61 (by decide) ?_
      refine sx_iand (pc := 62) dX12_relative_62 ?_
      refine sx_if_eq (pc := 63) (tgt := 75) dX12_relative_63 (by decide) (fun c26 => ?_) (fun c26 => ?_)
      · have h := sx_pos c26 h
        refine sx_lload (pc := 75) dX12_relative_75 sx_m0 ?_
        refine sx_wk (sx_s1 sx_m4 (sx_s1 sx_m5 (sx_s1 sx_m3 (sx_s1 sx_m2 (sx_s1 sx_m1 (sx_s1 sx_m0 sx_s0)))))) ?_
        exact tB_X12_relative_77 hG hP  h
      · have h := sx_neg c26 h
        refine sx_aload_n (pc := 66) dX12_relative_66 sx_m4 ?_
        refine sx_lload (pc := 67) dX12_relative_67 sx_m0 ?_
        obtain ⟨⟨x29, V27⟩, g28, h⟩ := sx_bnd h
        refine sv_cV (pc := 69) (y := qX12_rounded) (o := (some (.long x29))) (as := [.long x25]) (V1 := V27) hG dX12_relative_69 l_X12_647 y0X12_rounded yvX12_rounded rfl (Nat.le_of_ble_eq_true rfl) lay_146 kr_12 (by decide) (Nat.le_of_ble_eq_true rfl) rfl rfl rfl (t_X12_rounded hG ⟨rfl, rfl⟩ g28) ?_
        refine sx_goto (pc := 72) (tgt := 77) dX12_relative_72 (by decide) ?_
        refine sx_wk (sx_s1 sx_m4 (sx_s1 sx_m5 (sx_s1 sx_m3 (sx_s1 sx_m2 (sx_s1 sx_m1 (sx_s1 sx_m0 sx_s0)))))) ?_
        exact tB_X12_relative_77 hG hP  h
    · have h := sx_neg c19 h
      exact sv_vret (pc := 45) dX12_relative_45 rfl h hP
  · have h := sx_pos c9 h
    exact sv_vret (pc := 8) dX12_relative_8 rfl h hP
