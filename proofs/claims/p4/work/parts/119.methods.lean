/-! methods: X12_indirect, X12_deltas, X12_high -/
theorem dX12_indirect_0 : decode cX12_indirect 0 = .ok (.aload_n 0, 1) := by decide +kernel
theorem dX12_indirect_1 : decode cX12_indirect 1 = .ok (.iconst 2, 1) := by decide +kernel
theorem dX12_indirect_2 : decode cX12_indirect 2 = .ok (.invokevirtual 576, 3) := by decide +kernel
theorem dX12_indirect_5 : decode cX12_indirect 5 = .ok (.ifCond .ne 4, 3) := by decide +kernel
theorem dX12_indirect_8 : decode cX12_indirect 8 = .ok (.return_, 1) := by decide +kernel
theorem dX12_indirect_9 : decode cX12_indirect 9 = .ok (.aload_n 0, 1) := by decide +kernel
theorem dX12_indirect_10 : decode cX12_indirect 10 = .ok (.invokevirtual 579, 3) := by decide +kernel
theorem dX12_indirect_13 : decode cX12_indirect 13 = .ok (.istore_n 2, 1) := by decide +kernel
theorem dX12_indirect_14 : decode cX12_indirect 14 = .ok (.aload_n 0, 1) := by decide +kernel
theorem dX12_indirect_15 : decode cX12_indirect 15 = .ok (.invokevirtual 579, 3) := by decide +kernel
theorem dX12_indirect_18 : decode cX12_indirect 18 = .ok (.istore_n 3, 1) := by decide +kernel
theorem dX12_indirect_19 : decode cX12_indirect 19 = .ok (.aload_n 0, 1) := by decide +kernel
theorem dX12_indirect_20 : decode cX12_indirect 20 = .ok (.aload_n 0, 1) := by decide +kernel
theorem dX12_indirect_21 : decode cX12_indirect 21 = .ok (.getfield 463, 3) := by decide +kernel
theorem dX12_indirect_24 : decode cX12_indirect 24 = .ok (.iload_n 3, 1) := by decide +kernel
theorem dX12_indirect_25 : decode cX12_indirect 25 = .ok (.invokevirtual 582, 3) := by decide +kernel
theorem dX12_indirect_28 : decode cX12_indirect 28 = .ok (.istore 4, 2) := by decide +kernel
theorem dX12_indirect_30 : decode cX12_indirect 30 = .ok (.aload_n 0, 1) := by decide +kernel
theorem dX12_indirect_31 : decode cX12_indirect 31 = .ok (.aload_n 0, 1) := by decide +kernel
theorem dX12_indirect_32 : decode cX12_indirect 32 = .ok (.getfield 460, 3) := by decide +kernel
theorem dX12_indirect_35 : decode cX12_indirect 35 = .ok (.aload_n 0, 1) := by decide +kernel
theorem dX12_indirect_36 : decode cX12_indirect 36 = .ok (.getfield 451, 3) := by decide +kernel
theorem dX12_indirect_39 : decode cX12_indirect 39 = .ok (.invokevirtual 582, 3) := by decide +kernel
theorem dX12_indirect_42 : decode cX12_indirect 42 = .ok (.istore 5, 2) := by decide +kernel
theorem dX12_indirect_44 : decode cX12_indirect 44 = .ok (.aload_n 0, 1) := by decide +kernel
theorem dX12_indirect_45 : decode cX12_indirect 45 = .ok (.iload_n 2, 1) := by decide +kernel
theorem dX12_indirect_46 : decode cX12_indirect 46 = .ok (.invokevirtual 677, 3) := by decide +kernel
theorem dX12_indirect_49 : decode cX12_indirect 49 = .ok (.i2l, 1) := by decide +kernel
theorem dX12_indirect_50 : decode cX12_indirect 50 = .ok (.lstore 6, 2) := by decide +kernel
theorem dX12_indirect_52 : decode cX12_indirect 52 = .ok (.aload_n 0, 1) := by decide +kernel
theorem dX12_indirect_53 : decode cX12_indirect 53 = .ok (.getfield 409, 3) := by decide +kernel
theorem dX12_indirect_56 : decode cX12_indirect 56 = .ok (.ifCond .le 4, 3) := by decide +kernel
theorem dX12_indirect_59 : decode cX12_indirect 59 = .ok (.return_, 1) := by decide +kernel
theorem dX12_indirect_60 : decode cX12_indirect 60 = .ok (.aload_n 0, 1) := by decide +kernel
theorem dX12_indirect_61 : decode cX12_indirect 61 = .ok (.lload 6, 2) := by decide +kernel
theorem dX12_indirect_63 : decode cX12_indirect 63 = .ok (.invokevirtual 720, 3) := by decide +kernel
theorem dX12_indirect_66 : decode cX12_indirect 66 = .ok (.lstore 6, 2) := by decide +kernel
theorem dX12_indirect_68 : decode cX12_indirect 68 = .ok (.aload_n 0, 1) := by decide +kernel
theorem dX12_indirect_69 : decode cX12_indirect 69 = .ok (.getfield 463, 3) := by decide +kernel
theorem dX12_indirect_72 : decode cX12_indirect 72 = .ok (.ifCond .ne 55, 3) := by decide +kernel
theorem dX12_indirect_75 : decode cX12_indirect 75 = .ok (.aload_n 0, 1) := by decide +kernel
theorem dX12_indirect_76 : decode cX12_indirect 76 = .ok (.iload 4, 2) := by decide +kernel
theorem dX12_indirect_78 : decode cX12_indirect 78 = .ok (.aload_n 0, 1) := by decide +kernel
theorem dX12_indirect_79 : decode cX12_indirect 79 = .ok (.getfield 70, 3) := by decide +kernel
theorem dX12_indirect_82 : decode cX12_indirect 82 = .ok (.iload 5, 2) := by decide +kernel
theorem dX12_indirect_84 : decode cX12_indirect 84 = .ok (.iaload, 1) := by decide +kernel
theorem dX12_indirect_85 : decode cX12_indirect 85 = .ok (.i2l, 1) := by decide +kernel
theorem dX12_indirect_86 : decode cX12_indirect 86 = .ok (.lload 6, 2) := by decide +kernel
theorem dX12_indirect_88 : decode cX12_indirect 88 = .ok (.aload_n 0, 1) := by decide +kernel
theorem dX12_indirect_89 : decode cX12_indirect 89 = .ok (.getfield 433, 3) := by decide +kernel
theorem dX12_indirect_92 : decode cX12_indirect 92 = .ok (.i2l, 1) := by decide +kernel
theorem dX12_indirect_93 : decode cX12_indirect 93 = .ok (.lmul, 1) := by decide +kernel
theorem dX12_indirect_94 : decode cX12_indirect 94 = .ok (.ldc2_w 310, 3) := by decide +kernel
theorem dX12_indirect_97 : decode cX12_indirect 97 = .ok (.invokestatic 517, 3) := by decide +kernel
theorem dX12_indirect_100 : decode cX12_indirect 100 = .ok (.ladd, 1) := by decide +kernel
theorem dX12_indirect_101 : decode cX12_indirect 101 = .ok (.aload_n 0, 1) := by decide +kernel
theorem dX12_indirect_102 : decode cX12_indirect 102 = .ok (.getfield 73, 3) := by decide +kernel
theorem dX12_indirect_105 : decode cX12_indirect 105 = .ok (.iload 5, 2) := by decide +kernel
theorem dX12_indirect_107 : decode cX12_indirect 107 = .ok (.iaload, 1) := by decide +kernel
theorem dX12_indirect_108 : decode cX12_indirect 108 = .ok (.i2l, 1) := by decide +kernel
theorem dX12_indirect_109 : decode cX12_indirect 109 = .ok (.lload 6, 2) := by decide +kernel
theorem dX12_indirect_111 : decode cX12_indirect 111 = .ok (.aload_n 0, 1) := by decide +kernel
theorem dX12_indirect_112 : decode cX12_indirect 112 = .ok (.getfield 436, 3) := by decide +kernel
theorem dX12_indirect_115 : decode cX12_indirect 115 = .ok (.i2l, 1) := by decide +kernel
theorem dX12_indirect_116 : decode cX12_indirect 116 = .ok (.lmul, 1) := by decide +kernel
theorem dX12_indirect_117 : decode cX12_indirect 117 = .ok (.ldc2_w 310, 3) := by decide +kernel
theorem dX12_indirect_120 : decode cX12_indirect 120 = .ok (.invokestatic 517, 3) := by decide +kernel
theorem dX12_indirect_123 : decode cX12_indirect 123 = .ok (.ladd, 1) := by decide +kernel
theorem dX12_indirect_124 : decode cX12_indirect 124 = .ok (.invokevirtual 716, 3) := by decide +kernel
theorem dX12_indirect_127 : decode cX12_indirect 127 = .ok (.aload_n 0, 1) := by decide +kernel
theorem dX12_indirect_128 : decode cX12_indirect 128 = .ok (.iload 4, 2) := by decide +kernel
theorem dX12_indirect_130 : decode cX12_indirect 130 = .ok (.iload 5, 2) := by decide +kernel
theorem dX12_indirect_132 : decode cX12_indirect 132 = .ok (.invokevirtual 680, 3) := by decide +kernel
theorem dX12_indirect_135 : decode cX12_indirect 135 = .ok (.i2l, 1) := by decide +kernel
theorem dX12_indirect_136 : decode cX12_indirect 136 = .ok (.lstore 8, 2) := by decide +kernel
theorem dX12_indirect_138 : decode cX12_indirect 138 = .ok (.aload_n 0, 1) := by decide +kernel
theorem dX12_indirect_139 : decode cX12_indirect 139 = .ok (.getfield 683, 3) := by decide +kernel
theorem dX12_indirect_142 : decode cX12_indirect 142 = .ok (.ifCond .eq 35, 3) := by decide +kernel
theorem dX12_indirect_145 : decode cX12_indirect 145 = .ok (.lload 8, 2) := by decide +kernel
theorem dX12_indirect_147 : decode cX12_indirect 147 = .ok (.lconst 0, 1) := by decide +kernel
theorem dX12_indirect_148 : decode cX12_indirect 148 = .ok (.lcmp, 1) := by decide +kernel
theorem dX12_indirect_149 : decode cX12_indirect 149 = .ok (.ifCond .ge 7, 3) := by decide +kernel
theorem dX12_indirect_152 : decode cX12_indirect 152 = .ok (.iconst 1, 1) := by decide +kernel
theorem dX12_indirect_153 : decode cX12_indirect 153 = .ok (.goto 4, 3) := by decide +kernel
theorem dX12_indirect_156 : decode cX12_indirect 156 = .ok (.iconst 0, 1) := by decide +kernel
theorem dX12_indirect_157 : decode cX12_indirect 157 = .ok (.lload 6, 2) := by decide +kernel
theorem dX12_indirect_159 : decode cX12_indirect 159 = .ok (.lconst 0, 1) := by decide +kernel
theorem dX12_indirect_160 : decode cX12_indirect 160 = .ok (.lcmp, 1) := by decide +kernel
theorem dX12_indirect_161 : decode cX12_indirect 161 = .ok (.ifCond .ge 7, 3) := by decide +kernel
theorem dX12_indirect_164 : decode cX12_indirect 164 = .ok (.iconst 1, 1) := by decide +kernel
theorem dX12_indirect_165 : decode cX12_indirect 165 = .ok (.goto 4, 3) := by decide +kernel
theorem dX12_indirect_168 : decode cX12_indirect 168 = .ok (.iconst 0, 1) := by decide +kernel
theorem dX12_indirect_169 : decode cX12_indirect 169 = .ok (.if_icmp .eq 8, 3) := by decide +kernel
theorem dX12_indirect_172 : decode cX12_indirect 172 = .ok (.lload 6, 2) := by decide +kernel
theorem dX12_indirect_174 : decode cX12_indirect 174 = .ok (.lneg, 1) := by decide +kernel
theorem dX12_indirect_175 : decode cX12_indirect 175 = .ok (.lstore 6, 2) := by decide +kernel
theorem dX12_indirect_177 : decode cX12_indirect 177 = .ok (.iload_n 1, 1) := by decide +kernel
theorem dX12_indirect_178 : decode cX12_indirect 178 = .ok (.iconst 4, 1) := by decide +kernel
theorem dX12_indirect_179 : decode cX12_indirect 179 = .ok (.iand, 1) := by decide +kernel
theorem dX12_indirect_180 : decode cX12_indirect 180 = .ok (.ifCond .eq 48, 3) := by decide +kernel
theorem dX12_indirect_183 : decode cX12_indirect 183 = .ok (.aload_n 0, 1) := by decide +kernel
theorem dX12_indirect_184 : decode cX12_indirect 184 = .ok (.getfield 460, 3) := by decide +kernel
theorem dX12_indirect_187 : decode cX12_indirect 187 = .ok (.aload_n 0, 1) := by decide +kernel
theorem dX12_indirect_188 : decode cX12_indirect 188 = .ok (.getfield 463, 3) := by decide +kernel
theorem dX12_indirect_191 : decode cX12_indirect 191 = .ok (.if_icmp .ne 25, 3) := by decide +kernel
theorem dX12_indirect_194 : decode cX12_indirect 194 = .ok (.lload 6, 2) := by decide +kernel
theorem dX12_indirect_196 : decode cX12_indirect 196 = .ok (.lload 8, 2) := by decide +kernel
theorem dX12_indirect_198 : decode cX12_indirect 198 = .ok (.lsub, 1) := by decide +kernel
theorem dX12_indirect_199 : decode cX12_indirect 199 = .ok (.invokestatic 198, 3) := by decide +kernel
theorem dX12_indirect_202 : decode cX12_indirect 202 = .ok (.aload_n 0, 1) := by decide +kernel
theorem dX12_indirect_203 : decode cX12_indirect 203 = .ok (.getfield 605, 3) := by decide +kernel
theorem dX12_indirect_206 : decode cX12_indirect 206 = .ok (.i2l, 1) := by decide +kernel
theorem dX12_indirect_207 : decode cX12_indirect 207 = .ok (.lcmp, 1) := by decide +kernel
theorem dX12_indirect_208 : decode cX12_indirect 208 = .ok (.ifCond .le 8, 3) := by decide +kernel
theorem dX12_indirect_211 : decode cX12_indirect 211 = .ok (.lload 8, 2) := by decide +kernel
theorem dX12_indirect_213 : decode cX12_indirect 213 = .ok (.goto 5, 3) := by decide +kernel
theorem dX12_indirect_216 : decode cX12_indirect 216 = .ok (.lload 6, 2) := by decide +kernel
theorem dX12_indirect_218 : decode cX12_indirect 218 = .ok (.lstore 6, 2) := by decide +kernel
theorem dX12_indirect_220 : decode cX12_indirect 220 = .ok (.aload_n 0, 1) := by decide +kernel
theorem dX12_indirect_221 : decode cX12_indirect 221 = .ok (.lload 6, 2) := by decide +kernel
theorem dX12_indirect_223 : decode cX12_indirect 223 = .ok (.invokevirtual 647, 3) := by decide +kernel
theorem dX12_indirect_226 : decode cX12_indirect 226 = .ok (.lstore 6, 2) := by decide +kernel
theorem dX12_indirect_228 : decode cX12_indirect 228 = .ok (.aload_n 0, 1) := by decide +kernel
theorem dX12_indirect_229 : decode cX12_indirect 229 = .ok (.iload_n 1, 1) := by decide +kernel
theorem dX12_indirect_230 : decode cX12_indirect 230 = .ok (.iload 4, 2) := by decide +kernel
theorem dX12_indirect_232 : decode cX12_indirect 232 = .ok (.iload_n 3, 1) := by decide +kernel
theorem dX12_indirect_233 : decode cX12_indirect 233 = .ok (.iload 5, 2) := by decide +kernel
theorem dX12_indirect_235 : decode cX12_indirect 235 = .ok (.aload_n 0, 1) := by decide +kernel
theorem dX12_indirect_236 : decode cX12_indirect 236 = .ok (.iload_n 1, 1) := by decide +kernel
theorem dX12_indirect_237 : decode cX12_indirect 237 = .ok (.lload 8, 2) := by decide +kernel
theorem dX12_indirect_239 : decode cX12_indirect 239 = .ok (.lload 6, 2) := by decide +kernel
theorem dX12_indirect_241 : decode cX12_indirect 241 = .ok (.invokevirtual 723, 3) := by decide +kernel
theorem dX12_indirect_244 : decode cX12_indirect 244 = .ok (.invokevirtual 727, 3) := by decide +kernel
theorem dX12_indirect_247 : decode cX12_indirect 247 = .ok (.return_, 1) := by decide +kernel
def B_X12_indirect_228  (l1 : Int32) (l3 : Int32) (l4 : Int32) (l5 : Int32) (l6 : Int64) (l8 : Int64) (V : sv_V) : Option sv_V := (F_X12_atLeast l1 l8 l6 V).bind (fun (x3, V1) => (F_X12_settle l1 l4 l3 l5 x3 V1).bind (fun V4 => some V4))
set_option maxRecDepth 20000 in
theorem tB_X12_indirect_228 {g : sx_G} (hG : sx_Go g) {P : Option Value → sv_V → Prop} {Vr : sv_V} (hP : P none Vr)   {l1 : Int32} {l3 : Int32} {l4 : Int32} {l5 : Int32} {l6 : Int64} {l8 : Int64} {V : sv_V} (h : B_X12_indirect_228  l1 l3 l4 l5 l6 l8 V = some Vr) : sv_N g qX12_indirect 6 228 [(0, .ref 146), (1, .int l1), (3, .int l3), (4, .int l4), (5, .int l5), (6, .long l6), (8, .long l8)] [] V P := by
  unfold B_X12_indirect_228 at h
  refine sx_aload_n (pc := 228) dX12_indirect_228 sx_m0 ?_
  refine sx_iload_n (pc := 229) dX12_indirect_229 sx_m1 ?_
  refine sx_iload (pc := 230) dX12_indirect_230 sx_m3 ?_
  refine sx_iload_n (pc := 232) dX12_indirect_232 sx_m2 ?_
  refine sx_iload (pc := 233) dX12_indirect_233 sx_m4 ?_
  refine sx_aload_n (pc := 235) dX12_indirect_235 sx_m0 ?_
  refine sx_iload_n (pc := 236) dX12_indirect_236 sx_m1 ?_
  refine sx_lload (pc := 237) dX12_indirect_237 sx_m6 ?_
  refine sx_lload (pc := 239) dX12_indirect_239 sx_m5 ?_
  obtain ⟨⟨x3, V1⟩, g2, h⟩ := sx_bnd h
  refine sv_cV (pc := 241) (y := qX12_atLeast) (o := (some (.long x3))) (as := [.int l1, .long l8, .long l6]) (V1 := V1) hG dX12_indirect_241 l_X12_723 y0X12_atLeast yvX12_atLeast rfl (Nat.le_of_ble_eq_true rfl) lay_146 kr_12 (by decide) (Nat.le_of_ble_eq_true rfl) rfl rfl rfl (t_X12_atLeast hG ⟨rfl, rfl⟩ g2) ?_
  obtain ⟨V4, g5, h⟩ := sx_bnd h
  refine sv_cV (pc := 244) (y := qX12_settle) (o := none) (as := [.int l1, .int l4, .int l3, .int l5, .long x3]) (V1 := V4) hG dX12_indirect_244 l_X12_727 y0X12_settle yvX12_settle rfl (Nat.le_of_ble_eq_true rfl) lay_146 kr_12 (by decide) (Nat.le_of_ble_eq_true rfl) rfl rfl rfl (t_X12_settle hG ⟨rfl, rfl⟩ g5) ?_
  exact sv_vret (pc := 247) dX12_indirect_247 rfl h hP
def B_X12_indirect_218  (l1 : Int32) (l3 : Int32) (l4 : Int32) (l5 : Int32) (l8 : Int64) (s0 : Int64) (V : sv_V) : Option sv_V := (F_X12_rounded s0 V).bind (fun (x8, V6) => B_X12_indirect_228  l1 l3 l4 l5 x8 l8 V6)
set_option maxRecDepth 20000 in
theorem tB_X12_indirect_218 {g : sx_G} (hG : sx_Go g) {P : Option Value → sv_V → Prop} {Vr : sv_V} (hP : P none Vr)   {l1 : Int32} {l3 : Int32} {l4 : Int32} {l5 : Int32} {l8 : Int64} {s0 : Int64} {V : sv_V} (h : B_X12_indirect_218  l1 l3 l4 l5 l8 s0 V = some Vr) : sv_N g qX12_indirect 6 218 [(0, .ref 146), (1, .int l1), (3, .int l3), (4, .int l4), (5, .int l5), (8, .long l8)] [.long s0] V P := by
  unfold B_X12_indirect_218 at h
  refine sx_lstore (pc := 218) (lo' := [(6, .long s0), (0, .ref 146), (1, .int l1), (3, .int l3), (4, .int l4), (5, .int l5), (8, .long l8)]) dX12_indirect_218 (by decide) rfl ?_
  refine sx_aload_n (pc := 220) dX12_indirect_220 sx_m1 ?_
  refine sx_lload (pc := 221) dX12_indirect_221 sx_m0 ?_
  obtain ⟨⟨x8, V6⟩, g7, h⟩ := sx_bnd h
  refine sv_cV (pc := 223) (y := qX12_rounded) (o := (some (.long x8))) (as := [.long s0]) (V1 := V6) hG dX12_indirect_223 l_X12_647 y0X12_rounded yvX12_rounded rfl (Nat.le_of_ble_eq_true rfl) lay_146 kr_12 (by decide) (Nat.le_of_ble_eq_true rfl) rfl rfl rfl (t_X12_rounded hG ⟨rfl, rfl⟩ g7) ?_
  refine sx_lstore (pc := 226) (lo' := [(6, .long x8), (0, .ref 146), (1, .int l1), (3, .int l3), (4, .int l4), (5, .int l5), (8, .long l8)]) dX12_indirect_226 (by decide) rfl ?_
  refine sx_wk (sx_s1 sx_m1 (sx_s1 sx_m2 (sx_s1 sx_m3 (sx_s1 sx_m4 (sx_s1 sx_m5 (sx_s1 sx_m0 (sx_s1 sx_m6 sx_s0))))))) ?_
  exact tB_X12_indirect_228 hG hP  h
def B_X12_indirect_216  (l1 : Int32) (l3 : Int32) (l4 : Int32) (l5 : Int32) (l6 : Int64) (l8 : Int64) (V : sv_V) : Option sv_V := B_X12_indirect_218  l1 l3 l4 l5 l8 l6 V
set_option maxRecDepth 20000 in
theorem tB_X12_indirect_216 {g : sx_G} (hG : sx_Go g) {P : Option Value → sv_V → Prop} {Vr : sv_V} (hP : P none Vr)   {l1 : Int32} {l3 : Int32} {l4 : Int32} {l5 : Int32} {l6 : Int64} {l8 : Int64} {V : sv_V} (h : B_X12_indirect_216  l1 l3 l4 l5 l6 l8 V = some Vr) : sv_N g qX12_indirect 6 216 [(0, .ref 146), (1, .int l1), (3, .int l3), (4, .int l4), (5, .int l5), (6, .long l6), (8, .long l8)] [] V P := by
  unfold B_X12_indirect_216 at h
  refine sx_lload (pc := 216) dX12_indirect_216 sx_m5 ?_
  refine sx_wk (sx_s1 sx_m0 (sx_s1 sx_m1 (sx_s1 sx_m2 (sx_s1 sx_m3 (sx_s1 sx_m4 (sx_s1 sx_m6 sx_s0)))))) ?_
  exact tB_X12_indirect_218 hG hP  h
def B_X12_indirect_177  (l1 : Int32) (l3 : Int32) (l4 : Int32) (l5 : Int32) (l6 : Int64) (l8 : Int64) (V : sv_V) : Option sv_V := if (l1 &&& (4 : Int32)) = 0 then (B_X12_indirect_228  l1 l3 l4 l5 l6 l8 V) else (if (V.1 146 72) = (V.1 146 73) then ((F_X12_sizeOf (l6 - l8) V).bind (fun (x13, V11) => if (lg_cmp x13 ((V11.1 146 80).toInt64)) ≤ 0 then (B_X12_indirect_216  l1 l3 l4 l5 l6 l8 V11) else (B_X12_indirect_218  l1 l3 l4 l5 l8 l8 V11))) else (B_X12_indirect_216  l1 l3 l4 l5 l6 l8 V))
set_option maxRecDepth 20000 in
theorem tB_X12_indirect_177 {g : sx_G} (hG : sx_Go g) {P : Option Value → sv_V → Prop} {Vr : sv_V} (hP : P none Vr)   {l1 : Int32} {l3 : Int32} {l4 : Int32} {l5 : Int32} {l6 : Int64} {l8 : Int64} {V : sv_V} (h : B_X12_indirect_177  l1 l3 l4 l5 l6 l8 V = some Vr) : sv_N g qX12_indirect 6 177 [(0, .ref 146), (1, .int l1), (3, .int l3), (4, .int l4), (5, .int l5), (6, .long l6), (8, .long l8)] [] V P := by
  unfold B_X12_indirect_177 at h
  refine sx_iload_n (pc := 177) dX12_indirect_177 sx_m1 ?_
  refine sx_iconst (pc := 178) (v := 4) dX12_indirect_178 (by decide) ?_
  refine sx_iand (pc := 179) dX12_indirect_179 ?_
  refine sx_if_eq (pc := 180) (tgt := 228) dX12_indirect_180 (by decide) (fun c9 => ?_) (fun c9 => ?_)
  · have h := sx_pos c9 h
    refine sx_wk (sx_s1 sx_m0 (sx_s1 sx_m1 (sx_s1 sx_m2 (sx_s1 sx_m3 (sx_s1 sx_m4 (sx_s1 sx_m5 (sx_s1 sx_m6 sx_s0))))))) ?_
    exact tB_X12_indirect_228 hG hP  h
  · have h := sx_neg c9 h
    refine sx_aload_n (pc := 183) dX12_indirect_183 sx_m0 ?_
    refine sv_getI (pc := 184) hG dX12_indirect_184 f_12_460 lay_146 rfl ?_
    refine sx_aload_n (pc := 187) dX12_indirect_187 sx_m0 ?_
    refine sv_getI (pc := 188) hG dX12_indirect_188 f_12_463 lay_146 rfl ?_
    refine sx_icmp_ne (pc := 191) (tgt := 216) dX12_indirect_191 (by decide) (fun c10 => ?_) (fun c10 => ?_)
    · have h := sx_neg c10 h
      refine sx_wk (sx_s1 sx_m0 (sx_s1 sx_m1 (sx_s1 sx_m2 (sx_s1 sx_m3 (sx_s1 sx_m4 (sx_s1 sx_m5 (sx_s1 sx_m6 sx_s0))))))) ?_
      exact tB_X12_indirect_216 hG hP  h
    · have h := sx_pos c10 h
      refine sx_lload (pc := 194) dX12_indirect_194 sx_m5 ?_
      refine sx_lload (pc := 196) dX12_indirect_196 sx_m6 ?_
      refine sx_lsub (pc := 198) dX12_indirect_198 ?_
      obtain ⟨⟨x13, V11⟩, g12, h⟩ := sx_bnd h
      refine sv_cS (pc := 199) (y := qX12_sizeOf) (o := (some (.long x13))) (as := [.long (l6 - l8)]) (V1 := V11) dX12_indirect_199 l_X12_198 y0X12_sizeOf ysX12_sizeOf rfl (Nat.le_of_ble_eq_true rfl) (by decide) (Nat.le_of_ble_eq_true rfl) rfl rfl rfl (t_X12_sizeOf hG ⟨rfl, rfl⟩ g12) ?_
      refine sx_aload_n (pc := 202) dX12_indirect_202 sx_m0 ?_
      refine sv_getI (pc := 203) hG dX12_indirect_203 f_12_605 lay_146 rfl ?_
      refine sx_i2l (pc := 206) dX12_indirect_206 ?_
      refine sx_lcmp (pc := 207) dX12_indirect_207 ?_
      refine sx_if_le (pc := 208) (tgt := 216) dX12_indirect_208 (by decide) (fun c14 => ?_) (fun c14 => ?_)
      · have h := sx_pos c14 h
        refine sx_wk (sx_s1 sx_m0 (sx_s1 sx_m1 (sx_s1 sx_m2 (sx_s1 sx_m3 (sx_s1 sx_m4 (sx_s1 sx_m5 (sx_s1 sx_m6 sx_s0))))))) ?_
        exact tB_X12_indirect_216 hG hP  h
      · have h := sx_neg c14 h
        refine sx_lload (pc := 211) dX12_indirect_211 sx_m6 ?_
        refine sx_goto (pc := 213) (tgt := 218) dX12_indirect_213 (by decide) ?_
        refine sx_wk (sx_s1 sx_m0 (sx_s1 sx_m1 (sx_s1 sx_m2 (sx_s1 sx_m3 (sx_s1 sx_m4 (sx_s1 sx_m6 sx_s0)))))) ?_
        exact tB_X12_indirect_218 hG hP  h
def B_X12_indirect_169  (l1 : Int32) (l3 : Int32) (l4 : Int32) (l5 : Int32) (l6 : Int64) (l8 : Int64) (s0 : Int32) (s1 : Int32) (V : sv_V) : Option sv_V := if s0 = s1 then (B_X12_indirect_177  l1 l3 l4 l5 l6 l8 V) else (sx_let (-l6) (fun x16 => B_X12_indirect_177  l1 l3 l4 l5 x16 l8 V))
set_option maxRecDepth 20000 in
theorem tB_X12_indirect_169 {g : sx_G} (hG : sx_Go g) {P : Option Value → sv_V → Prop} {Vr : sv_V} (hP : P none Vr)   {l1 : Int32} {l3 : Int32} {l4 : Int32} {l5 : Int32} {l6 : Int64} {l8 : Int64} {s0 : Int32} {s1 : Int32} {V : sv_V} (h : B_X12_indirect_169  l1 l3 l4 l5 l6 l8 s0 s1 V = some Vr) : sv_N g qX12_indirect 6 169 [(0, .ref 146), (1, .int l1), (3, .int l3), (4, .int l4), (5, .int l5), (6, .long l6), (8, .long l8)] [.int s1, .int s0] V P := by
  unfold B_X12_indirect_169 at h
  refine sx_icmp_eq (pc := 169) (tgt := 177) dX12_indirect_169 (by decide) (fun c15 => ?_) (fun c15 => ?_)
  · have h := sx_pos c15 h
    refine sx_wk (sx_s1 sx_m0 (sx_s1 sx_m1 (sx_s1 sx_m2 (sx_s1 sx_m3 (sx_s1 sx_m4 (sx_s1 sx_m5 (sx_s1 sx_m6 sx_s0))))))) ?_
    exact tB_X12_indirect_177 hG hP  h
  · have h := sx_neg c15 h
    refine sx_lload (pc := 172) dX12_indirect_172 sx_m5 ?_
    refine sx_lneg (pc := 174) dX12_indirect_174 ?_
    refine sv_tJ (fun x16 hx16 => ?_)
    have h := sx_letE hx16 h
    refine sx_lstore (pc := 175) (lo' := [(6, .long x16), (0, .ref 146), (1, .int l1), (3, .int l3), (4, .int l4), (5, .int l5), (8, .long l8)]) dX12_indirect_175 (by decide) rfl ?_
    refine sx_wk (sx_s1 sx_m1 (sx_s1 sx_m2 (sx_s1 sx_m3 (sx_s1 sx_m4 (sx_s1 sx_m5 (sx_s1 sx_m0 (sx_s1 sx_m6 sx_s0))))))) ?_
    exact tB_X12_indirect_177 hG hP  h
def B_X12_indirect_157  (l1 : Int32) (l3 : Int32) (l4 : Int32) (l5 : Int32) (l6 : Int64) (l8 : Int64) (s0 : Int32) (V : sv_V) : Option sv_V := if 0 ≤ (lg_cmp l6 (0 : Int64)) then (B_X12_indirect_169  l1 l3 l4 l5 l6 l8 s0 (0 : Int32) V) else (B_X12_indirect_169  l1 l3 l4 l5 l6 l8 s0 (1 : Int32) V)
set_option maxRecDepth 20000 in
theorem tB_X12_indirect_157 {g : sx_G} (hG : sx_Go g) {P : Option Value → sv_V → Prop} {Vr : sv_V} (hP : P none Vr)   {l1 : Int32} {l3 : Int32} {l4 : Int32} {l5 : Int32} {l6 : Int64} {l8 : Int64} {s0 : Int32} {V : sv_V} (h : B_X12_indirect_157  l1 l3 l4 l5 l6 l8 s0 V = some Vr) : sv_N g qX12_indirect 6 157 [(0, .ref 146), (1, .int l1), (3, .int l3), (4, .int l4), (5, .int l5), (6, .long l6), (8, .long l8)] [.int s0] V P := by
  unfold B_X12_indirect_157 at h
  refine sx_lload (pc := 157) dX12_indirect_157 sx_m5 ?_
  refine sx_lconst (pc := 159) (v := 0) dX12_indirect_159 rfl ?_
  refine sx_lcmp (pc := 160) dX12_indirect_160 ?_
  refine sx_if_ge (pc := 161) (tgt := 168) dX12_indirect_161 (by decide) (fun c17 => ?_) (fun c17 => ?_)
  · have h := sx_pos c17 h
    refine sx_iconst (pc := 168) (v := 0) dX12_indirect_168 (by decide) ?_
    refine sx_wk (sx_s1 sx_m0 (sx_s1 sx_m1 (sx_s1 sx_m2 (sx_s1 sx_m3 (sx_s1 sx_m4 (sx_s1 sx_m5 (sx_s1 sx_m6 sx_s0))))))) ?_
    exact tB_X12_indirect_169 hG hP  h
  · have h := sx_neg c17 h
    refine sx_iconst (pc := 164) (v := 1) dX12_indirect_164 (by decide) ?_
    refine sx_goto (pc := 165) (tgt := 169) dX12_indirect_165 (by decide) ?_
    refine sx_wk (sx_s1 sx_m0 (sx_s1 sx_m1 (sx_s1 sx_m2 (sx_s1 sx_m3 (sx_s1 sx_m4 (sx_s1 sx_m5 (sx_s1 sx_m6 sx_s0))))))) ?_
    exact tB_X12_indirect_169 hG hP  h
def B_X12_indirect_127  (l1 : Int32) (l3 : Int32) (l4 : Int32) (l5 : Int32) (l6 : Int64) (V : sv_V) : Option sv_V := (F_X12_originally l4 l5 V).bind (fun (x20, V18) => sx_let (x20.toInt64) (fun x21 => if (V18.1 146 84) = 0 then (B_X12_indirect_177  l1 l3 l4 l5 l6 x21 V18) else (if 0 ≤ (lg_cmp x21 (0 : Int64)) then (B_X12_indirect_157  l1 l3 l4 l5 l6 x21 (0 : Int32) V18) else (B_X12_indirect_157  l1 l3 l4 l5 l6 x21 (1 : Int32) V18))))
set_option maxRecDepth 20000 in
theorem tB_X12_indirect_127 {g : sx_G} (hG : sx_Go g) {P : Option Value → sv_V → Prop} {Vr : sv_V} (hP : P none Vr)   {l1 : Int32} {l3 : Int32} {l4 : Int32} {l5 : Int32} {l6 : Int64} {V : sv_V} (h : B_X12_indirect_127  l1 l3 l4 l5 l6 V = some Vr) : sv_N g qX12_indirect 6 127 [(0, .ref 146), (1, .int l1), (3, .int l3), (4, .int l4), (5, .int l5), (6, .long l6)] [] V P := by
  unfold B_X12_indirect_127 at h
  refine sx_aload_n (pc := 127) dX12_indirect_127 sx_m0 ?_
  refine sx_iload (pc := 128) dX12_indirect_128 sx_m3 ?_
  refine sx_iload (pc := 130) dX12_indirect_130 sx_m4 ?_
  obtain ⟨⟨x20, V18⟩, g19, h⟩ := sx_bnd h
  refine sv_cV (pc := 132) (y := qX12_originally) (o := (some (.int x20))) (as := [.int l4, .int l5]) (V1 := V18) hG dX12_indirect_132 l_X12_680 y0X12_originally yvX12_originally rfl (Nat.le_of_ble_eq_true rfl) lay_146 kr_12 (by decide) (Nat.le_of_ble_eq_true rfl) rfl rfl rfl (t_X12_originally hG ⟨rfl, rfl⟩ g19) ?_
  refine sx_i2l (pc := 135) dX12_indirect_135 ?_
  refine sv_tJ (fun x21 hx21 => ?_)
  have h := sx_letE hx21 h
  refine sx_lstore (pc := 136) (lo' := [(8, .long x21), (0, .ref 146), (1, .int l1), (3, .int l3), (4, .int l4), (5, .int l5), (6, .long l6)]) dX12_indirect_136 (by decide) rfl ?_
  refine sx_aload_n (pc := 138) dX12_indirect_138 sx_m1 ?_
  refine sv_getZ (pc := 139) hG dX12_indirect_139 f_12_683 lay_146 rfl ?_
  refine sx_if_eq (pc := 142) (tgt := 177) dX12_indirect_142 (by decide) (fun c22 => ?_) (fun c22 => ?_)
  · have h := sx_pos c22 h
    refine sx_wk (sx_s1 sx_m1 (sx_s1 sx_m2 (sx_s1 sx_m3 (sx_s1 sx_m4 (sx_s1 sx_m5 (sx_s1 sx_m6 (sx_s1 sx_m0 sx_s0))))))) ?_
    exact tB_X12_indirect_177 hG hP  h
  · have h := sx_neg c22 h
    refine sx_lload (pc := 145) dX12_indirect_145 sx_m0 ?_
    refine sx_lconst (pc := 147) (v := 0) dX12_indirect_147 rfl ?_
    refine sx_lcmp (pc := 148) dX12_indirect_148 ?_
    refine sx_if_ge (pc := 149) (tgt := 156) dX12_indirect_149 (by decide) (fun c23 => ?_) (fun c23 => ?_)
    · have h := sx_pos c23 h
      refine sx_iconst (pc := 156) (v := 0) dX12_indirect_156 (by decide) ?_
      refine sx_wk (sx_s1 sx_m1 (sx_s1 sx_m2 (sx_s1 sx_m3 (sx_s1 sx_m4 (sx_s1 sx_m5 (sx_s1 sx_m6 (sx_s1 sx_m0 sx_s0))))))) ?_
      exact tB_X12_indirect_157 hG hP  h
    · have h := sx_neg c23 h
      refine sx_iconst (pc := 152) (v := 1) dX12_indirect_152 (by decide) ?_
      refine sx_goto (pc := 153) (tgt := 157) dX12_indirect_153 (by decide) ?_
      refine sx_wk (sx_s1 sx_m1 (sx_s1 sx_m2 (sx_s1 sx_m3 (sx_s1 sx_m4 (sx_s1 sx_m5 (sx_s1 sx_m6 (sx_s1 sx_m0 sx_s0))))))) ?_
      exact tB_X12_indirect_157 hG hP  h
def F_X12_indirect (l1 : Int32) (V : sv_V) : Option sv_V := (F_X12_has (2 : Int32) V).bind (fun (x26, V24) => if x26 = 0 then (some V24) else ((F_X12_pop  V24).bind (fun (x30, V28) => (F_X12_pop  V28).bind (fun (x33, V31) => (F_X12_pointOf (V31.1 146 73) x33 V31).bind (fun (x36, V34) => (F_X12_pointOf (V34.1 146 72) (V34.1 146 69) V34).bind (fun (x39, V37) => (F_X12_cvtOf x30 V37).bind (fun (x42, V40) => sx_let (x42.toInt64) (fun x43 => if (V40.1 146 59) ≤ 0 then ((F_X12_singled x43 V40).bind (fun (x47, V45) => if (V45.1 146 73) = 0 then (if sx_in x39 204 = true then (F_X12_over (x47 * ((V45.1 146 63).toInt64)) (16384 : Int64) V45).bind (fun (x52, V50) => if sx_in x39 204 = true then (F_X12_over (x47 * ((V50.1 146 64).toInt64)) (16384 : Int64) V50).bind (fun (x56, V54) => (F_X12_put x36 (((V45.1 166 x39.toNatClampNeg).toInt64) + x52) (((V50.1 167 x39.toNatClampNeg).toInt64) + x56) V54).bind (fun V57 => B_X12_indirect_127  l1 x33 x36 x39 x47 V57)) else none) else none) else (B_X12_indirect_127  l1 x33 x36 x39 x47 V45))) else (some V40)))))))))
set_option maxRecDepth 20000 in
theorem t_X12_indirect {g : sx_G} (hG : sx_Go g) {P : Option Value → sv_V → Prop} {Vr : sv_V} (hP : P none Vr) {l1 : Int32} {V : sv_V} (h : F_X12_indirect l1 V = some Vr) : sv_N g qX12_indirect 6 0 [(0, .ref 146), (1, .int l1)] [] V P := by
  unfold F_X12_indirect at h
  refine sx_aload_n (pc := 0) dX12_indirect_0 sx_m0 ?_
  refine sx_iconst (pc := 1) (v := 2) dX12_indirect_1 (by decide) ?_
  obtain ⟨⟨x26, V24⟩, g25, h⟩ := sx_bnd h
  refine sv_cV (pc := 2) (y := qX12_has) (o := (some (.int x26))) (as := [.int (2 : Int32)]) (V1 := V24) hG dX12_indirect_2 l_X12_576 y0X12_has yvX12_has rfl (Nat.le_of_ble_eq_true rfl) lay_146 kr_12 (by decide) (Nat.le_of_ble_eq_true rfl) rfl rfl rfl (t_X12_has hG ⟨rfl, rfl⟩ g25) ?_
  refine sx_if_ne (pc := 5) (tgt := 9) dX12_indirect_5 (by decide) (fun c27 => ?_) (fun c27 => ?_)
  · have h := sx_neg c27 h
    refine sx_aload_n (pc := 9) dX12_indirect_9 sx_m0 ?_
    obtain ⟨⟨x30, V28⟩, g29, h⟩ := sx_bnd h
    refine sv_cV (pc := 10) (y := qX12_pop) (o := (some (.int x30))) (as := []) (V1 := V28) hG dX12_indirect_10 l_X12_579 y0X12_pop yvX12_pop rfl (Nat.le_of_ble_eq_true rfl) lay_146 kr_12 (by decide) (Nat.le_of_ble_eq_true rfl) rfl rfl rfl (t_X12_pop hG ⟨rfl, rfl⟩ g29) ?_
    refine sx_istore_n (pc := 13) (lo' := [(2, .int x30), (0, .ref 146), (1, .int l1)]) dX12_indirect_13 (by decide) rfl ?_
    refine sx_aload_n (pc := 14) dX12_indirect_14 sx_m1 ?_
    obtain ⟨⟨x33, V31⟩, g32, h⟩ := sx_bnd h
    refine sv_cV (pc := 15) (y := qX12_pop) (o := (some (.int x33))) (as := []) (V1 := V31) hG dX12_indirect_15 l_X12_579 y0X12_pop yvX12_pop rfl (Nat.le_of_ble_eq_true rfl) lay_146 kr_12 (by decide) (Nat.le_of_ble_eq_true rfl) rfl rfl rfl (t_X12_pop hG ⟨rfl, rfl⟩ g32) ?_
    refine sx_istore_n (pc := 18) (lo' := [(3, .int x33), (2, .int x30), (0, .ref 146), (1, .int l1)]) dX12_indirect_18 (by decide) rfl ?_
    refine sx_aload_n (pc := 19) dX12_indirect_19 sx_m2 ?_
    refine sx_aload_n (pc := 20) dX12_indirect_20 sx_m2 ?_
    refine sv_getI (pc := 21) hG dX12_indirect_21 f_12_463 lay_146 rfl ?_
    refine sx_iload_n (pc := 24) dX12_indirect_24 sx_m0 ?_
    obtain ⟨⟨x36, V34⟩, g35, h⟩ := sx_bnd h
    refine sv_cV (pc := 25) (y := qX12_pointOf) (o := (some (.int x36))) (as := [.int (V31.1 146 73), .int x33]) (V1 := V34) hG dX12_indirect_25 l_X12_582 y0X12_pointOf yvX12_pointOf rfl (Nat.le_of_ble_eq_true rfl) lay_146 kr_12 (by decide) (Nat.le_of_ble_eq_true rfl) rfl rfl rfl (t_X12_pointOf hG ⟨rfl, rfl⟩ g35) ?_
    refine sx_istore (pc := 28) (lo' := [(4, .int x36), (3, .int x33), (2, .int x30), (0, .ref 146), (1, .int l1)]) dX12_indirect_28 (by decide) rfl ?_
    refine sx_aload_n (pc := 30) dX12_indirect_30 sx_m3 ?_
    refine sx_aload_n (pc := 31) dX12_indirect_31 sx_m3 ?_
    refine sv_getI (pc := 32) hG dX12_indirect_32 f_12_460 lay_146 rfl ?_
    refine sx_aload_n (pc := 35) dX12_indirect_35 sx_m3 ?_
    refine sv_getI (pc := 36) hG dX12_indirect_36 f_12_451 lay_146 rfl ?_
    obtain ⟨⟨x39, V37⟩, g38, h⟩ := sx_bnd h
    refine sv_cV (pc := 39) (y := qX12_pointOf) (o := (some (.int x39))) (as := [.int (V34.1 146 72), .int (V34.1 146 69)]) (V1 := V37) hG dX12_indirect_39 l_X12_582 y0X12_pointOf yvX12_pointOf rfl (Nat.le_of_ble_eq_true rfl) lay_146 kr_12 (by decide) (Nat.le_of_ble_eq_true rfl) rfl rfl rfl (t_X12_pointOf hG ⟨rfl, rfl⟩ g38) ?_
    refine sx_istore (pc := 42) (lo' := [(5, .int x39), (4, .int x36), (3, .int x33), (2, .int x30), (0, .ref 146), (1, .int l1)]) dX12_indirect_42 (by decide) rfl ?_
    refine sx_aload_n (pc := 44) dX12_indirect_44 sx_m4 ?_
    refine sx_iload_n (pc := 45) dX12_indirect_45 sx_m3 ?_
    obtain ⟨⟨x42, V40⟩, g41, h⟩ := sx_bnd h
    refine sv_cV (pc := 46) (y := qX12_cvtOf) (o := (some (.int x42))) (as := [.int x30]) (V1 := V40) hG dX12_indirect_46 l_X12_677 y0X12_cvtOf yvX12_cvtOf rfl (Nat.le_of_ble_eq_true rfl) lay_146 kr_12 (by decide) (Nat.le_of_ble_eq_true rfl) rfl rfl rfl (t_X12_cvtOf hG ⟨rfl, rfl⟩ g41) ?_
    refine sx_i2l (pc := 49) dX12_indirect_49 ?_
    refine sv_tJ (fun x43 hx43 => ?_)
    have h := sx_letE hx43 h
    refine sx_lstore (pc := 50) (lo' := [(6, .long x43), (5, .int x39), (4, .int x36), (3, .int x33), (2, .int x30), (0, .ref 146), (1, .int l1)]) dX12_indirect_50 (by decide) rfl ?_
    refine sx_aload_n (pc := 52) dX12_indirect_52 sx_m5 ?_
    refine sv_getI (pc := 53) hG dX12_indirect_53 f_12_409 lay_146 rfl ?_
    refine sx_if_le (pc := 56) (tgt := 60) dX12_indirect_56 (by decide) (fun c44 => ?_) (fun c44 => ?_)
    · have h := sx_pos c44 h
      refine sx_aload_n (pc := 60) dX12_indirect_60 sx_m5 ?_
      refine sx_lload (pc := 61) dX12_indirect_61 sx_m0 ?_
      obtain ⟨⟨x47, V45⟩, g46, h⟩ := sx_bnd h
      refine sv_cV (pc := 63) (y := qX12_singled) (o := (some (.long x47))) (as := [.long x43]) (V1 := V45) hG dX12_indirect_63 l_X12_720 y0X12_singled yvX12_singled rfl (Nat.le_of_ble_eq_true rfl) lay_146 kr_12 (by decide) (Nat.le_of_ble_eq_true rfl) rfl rfl rfl (t_X12_singled hG ⟨rfl, rfl⟩ g46) ?_
      refine sx_lstore (pc := 66) (lo' := [(6, .long x47), (5, .int x39), (4, .int x36), (3, .int x33), (2, .int x30), (0, .ref 146), (1, .int l1)]) dX12_indirect_66 (by decide) rfl ?_
      refine sx_aload_n (pc := 68) dX12_indirect_68 sx_m5 ?_
      refine sv_getI (pc := 69) hG dX12_indirect_69 f_12_463 lay_146 rfl ?_
      refine sx_if_ne (pc := 72) (tgt := 127) dX12_indirect_72 (by decide) (fun c48 => ?_) (fun c48 => ?_)
      · have h := sx_neg c48 h
        refine sx_wk (sx_s1 sx_m5 (sx_s1 sx_m6 (sx_s1 sx_m3 (sx_s1 sx_m2 (sx_s1 sx_m1 (sx_s1 sx_m0 sx_s0)))))) ?_
        exact tB_X12_indirect_127 hG hP  h
      · have h := sx_pos c48 h
        refine sx_aload_n (pc := 75) dX12_indirect_75 sx_m5 ?_
        refine sx_iload (pc := 76) dX12_indirect_76 sx_m2 ?_
        refine sx_aload_n (pc := 78) dX12_indirect_78 sx_m5 ?_
        refine sv_getA (pc := 79) hG dX12_indirect_79 f_12_70 lay_146 rfl cr_146_46 ?_
        refine sx_iload (pc := 82) dX12_indirect_82 sx_m1 ?_
        obtain ⟨g49, h⟩ := sx_grd h
        refine sv_iald (pc := 84) hG dX12_indirect_84 lay_166 g49 ?_
        refine sx_i2l (pc := 85) dX12_indirect_85 ?_
        refine sx_lload (pc := 86) dX12_indirect_86 sx_m0 ?_
        refine sx_aload_n (pc := 88) dX12_indirect_88 sx_m5 ?_
        refine sv_getI (pc := 89) hG dX12_indirect_89 f_12_433 lay_146 rfl ?_
        refine sx_i2l (pc := 92) dX12_indirect_92 ?_
        refine sx_lmul (pc := 93) dX12_indirect_93 ?_
        refine sx_ldc2 (pc := 94) dX12_indirect_94 k_X12_310 ?_
        obtain ⟨⟨x52, V50⟩, g51, h⟩ := sx_bnd h
        refine sv_cS (pc := 97) (y := qX12_over) (o := (some (.long x52))) (as := [.long (x47 * ((V45.1 146 63).toInt64)), .long (16384 : Int64)]) (V1 := V50) dX12_indirect_97 l_X12_517 y0X12_over ysX12_over rfl (Nat.le_of_ble_eq_true rfl) (by decide) (Nat.le_of_ble_eq_true rfl) rfl rfl rfl (t_X12_over hG ⟨rfl, rfl⟩ g51) ?_
        refine sx_ladd (pc := 100) dX12_indirect_100 ?_
        refine sx_aload_n (pc := 101) dX12_indirect_101 sx_m5 ?_
        refine sv_getA (pc := 102) hG dX12_indirect_102 f_12_73 lay_146 rfl cr_146_47 ?_
        refine sx_iload (pc := 105) dX12_indirect_105 sx_m1 ?_
        obtain ⟨g53, h⟩ := sx_grd h
        refine sv_iald (pc := 107) hG dX12_indirect_107 lay_167 g53 ?_
        refine sx_i2l (pc := 108) dX12_indirect_108 ?_
        refine sx_lload (pc := 109) dX12_indirect_109 sx_m0 ?_
        refine sx_aload_n (pc := 111) dX12_indirect_111 sx_m5 ?_
        refine sv_getI (pc := 112) hG dX12_indirect_112 f_12_436 lay_146 rfl ?_
        refine sx_i2l (pc := 115) dX12_indirect_115 ?_
        refine sx_lmul (pc := 116) dX12_indirect_116 ?_
        refine sx_ldc2 (pc := 117) dX12_indirect_117 k_X12_310 ?_
        obtain ⟨⟨x56, V54⟩, g55, h⟩ := sx_bnd h
        refine sv_cS (pc := 120) (y := qX12_over) (o := (some (.long x56))) (as := [.long (x47 * ((V50.1 146 64).toInt64)), .long (16384 : Int64)]) (V1 := V54) dX12_indirect_120 l_X12_517 y0X12_over ysX12_over rfl (Nat.le_of_ble_eq_true rfl) (by decide) (Nat.le_of_ble_eq_true rfl) rfl rfl rfl (t_X12_over hG ⟨rfl, rfl⟩ g55) ?_
        refine sx_ladd (pc := 123) dX12_indirect_123 ?_
        obtain ⟨V57, g58, h⟩ := sx_bnd h
        refine sv_cV (pc := 124) (y := qX12_put) (o := none) (as := [.int x36, .long (((V45.1 166 x39.toNatClampNeg).toInt64) + x52), .long (((V50.1 167 x39.toNatClampNeg).toInt64) + x56)]) (V1 := V57) hG dX12_indirect_124 l_X12_716 y0X12_put yvX12_put rfl (Nat.le_of_ble_eq_true rfl) lay_146 kr_12 (by decide) (Nat.le_of_ble_eq_true rfl) rfl rfl rfl (t_X12_put hG ⟨rfl, rfl⟩ g58) ?_
        refine sx_wk (sx_s1 sx_m5 (sx_s1 sx_m6 (sx_s1 sx_m3 (sx_s1 sx_m2 (sx_s1 sx_m1 (sx_s1 sx_m0 sx_s0)))))) ?_
        exact tB_X12_indirect_127 hG hP  h
    · have h := sx_neg c44 h
      exact sv_vret (pc := 59) dX12_indirect_59 rfl h hP
  · have h := sx_pos c27 h
    exact sv_vret (pc := 8) dX12_indirect_8 rfl h hP
theorem dX12_deltas_0 : decode cX12_deltas 0 = .ok (.aload_n 0, 1) := by decide +kernel
theorem dX12_deltas_1 : decode cX12_deltas 1 = .ok (.iconst 1, 1) := by decide +kernel
theorem dX12_deltas_2 : decode cX12_deltas 2 = .ok (.invokevirtual 576, 3) := by decide +kernel
theorem dX12_deltas_5 : decode cX12_deltas 5 = .ok (.ifCond .ne 4, 3) := by decide +kernel
theorem dX12_deltas_8 : decode cX12_deltas 8 = .ok (.return_, 1) := by decide +kernel
theorem dX12_deltas_9 : decode cX12_deltas 9 = .ok (.aload_n 0, 1) := by decide +kernel
theorem dX12_deltas_10 : decode cX12_deltas 10 = .ok (.invokevirtual 579, 3) := by decide +kernel
theorem dX12_deltas_13 : decode cX12_deltas 13 = .ok (.istore_n 3, 1) := by decide +kernel
theorem dX12_deltas_14 : decode cX12_deltas 14 = .ok (.iload_n 3, 1) := by decide +kernel
theorem dX12_deltas_15 : decode cX12_deltas 15 = .ok (.ifCond .ge 10, 3) := by decide +kernel
theorem dX12_deltas_18 : decode cX12_deltas 18 = .ok (.aload_n 0, 1) := by decide +kernel
theorem dX12_deltas_19 : decode cX12_deltas 19 = .ok (.bipush 11, 2) := by decide +kernel
theorem dX12_deltas_21 : decode cX12_deltas 21 = .ok (.invokevirtual 421, 3) := by decide +kernel
theorem dX12_deltas_24 : decode cX12_deltas 24 = .ok (.return_, 1) := by decide +kernel
theorem dX12_deltas_25 : decode cX12_deltas 25 = .ok (.iload_n 3, 1) := by decide +kernel
theorem dX12_deltas_26 : decode cX12_deltas 26 = .ok (.sipush 128, 3) := by decide +kernel
theorem dX12_deltas_29 : decode cX12_deltas 29 = .ok (.if_icmp .gt 13, 3) := by decide +kernel
theorem dX12_deltas_32 : decode cX12_deltas 32 = .ok (.aload_n 0, 1) := by decide +kernel
theorem dX12_deltas_33 : decode cX12_deltas 33 = .ok (.getfield 418, 3) := by decide +kernel
theorem dX12_deltas_36 : decode cX12_deltas 36 = .ok (.iconst 2, 1) := by decide +kernel
theorem dX12_deltas_37 : decode cX12_deltas 37 = .ok (.iload_n 3, 1) := by decide +kernel
theorem dX12_deltas_38 : decode cX12_deltas 38 = .ok (.imul, 1) := by decide +kernel
theorem dX12_deltas_39 : decode cX12_deltas 39 = .ok (.if_icmp .ge 9, 3) := by decide +kernel
theorem dX12_deltas_42 : decode cX12_deltas 42 = .ok (.aload_n 0, 1) := by decide +kernel
theorem dX12_deltas_43 : decode cX12_deltas 43 = .ok (.iconst 1, 1) := by decide +kernel
theorem dX12_deltas_44 : decode cX12_deltas 44 = .ok (.invokevirtual 421, 3) := by decide +kernel
theorem dX12_deltas_47 : decode cX12_deltas 47 = .ok (.return_, 1) := by decide +kernel
theorem dX12_deltas_48 : decode cX12_deltas 48 = .ok (.iconst 0, 1) := by decide +kernel
theorem dX12_deltas_49 : decode cX12_deltas 49 = .ok (.istore 4, 2) := by decide +kernel
theorem dX12_deltas_51 : decode cX12_deltas 51 = .ok (.iload 4, 2) := by decide +kernel
theorem dX12_deltas_53 : decode cX12_deltas 53 = .ok (.iload_n 3, 1) := by decide +kernel
theorem dX12_deltas_54 : decode cX12_deltas 54 = .ok (.if_icmp .ge 155, 3) := by decide +kernel
theorem dX12_deltas_57 : decode cX12_deltas 57 = .ok (.aload_n 0, 1) := by decide +kernel
theorem dX12_deltas_58 : decode cX12_deltas 58 = .ok (.getfield 409, 3) := by decide +kernel
theorem dX12_deltas_61 : decode cX12_deltas 61 = .ok (.ifCond .ne 148, 3) := by decide +kernel
theorem dX12_deltas_64 : decode cX12_deltas 64 = .ok (.aload_n 0, 1) := by decide +kernel
theorem dX12_deltas_65 : decode cX12_deltas 65 = .ok (.invokevirtual 579, 3) := by decide +kernel
theorem dX12_deltas_68 : decode cX12_deltas 68 = .ok (.istore 5, 2) := by decide +kernel
theorem dX12_deltas_70 : decode cX12_deltas 70 = .ok (.aload_n 0, 1) := by decide +kernel
theorem dX12_deltas_71 : decode cX12_deltas 71 = .ok (.invokevirtual 579, 3) := by decide +kernel
theorem dX12_deltas_74 : decode cX12_deltas 74 = .ok (.istore 6, 2) := by decide +kernel
theorem dX12_deltas_76 : decode cX12_deltas 76 = .ok (.aload_n 0, 1) := by decide +kernel
theorem dX12_deltas_77 : decode cX12_deltas 77 = .ok (.getfield 621, 3) := by decide +kernel
theorem dX12_deltas_80 : decode cX12_deltas 80 = .ok (.aload_n 0, 1) := by decide +kernel
theorem dX12_deltas_81 : decode cX12_deltas 81 = .ok (.getfield 700, 3) := by decide +kernel
theorem dX12_deltas_84 : decode cX12_deltas 84 = .ok (.iload 6, 2) := by decide +kernel
theorem dX12_deltas_86 : decode cX12_deltas 86 = .ok (.iconst 4, 1) := by decide +kernel
theorem dX12_deltas_87 : decode cX12_deltas 87 = .ok (.ishr, 1) := by decide +kernel
theorem dX12_deltas_88 : decode cX12_deltas 88 = .ok (.bipush 15, 2) := by decide +kernel
theorem dX12_deltas_90 : decode cX12_deltas 90 = .ok (.iand, 1) := by decide +kernel
theorem dX12_deltas_91 : decode cX12_deltas 91 = .ok (.iadd, 1) := by decide +kernel
theorem dX12_deltas_92 : decode cX12_deltas 92 = .ok (.iload_n 1, 1) := by decide +kernel
theorem dX12_deltas_93 : decode cX12_deltas 93 = .ok (.iadd, 1) := by decide +kernel
theorem dX12_deltas_94 : decode cX12_deltas 94 = .ok (.if_icmp .eq 6, 3) := by decide +kernel
theorem dX12_deltas_97 : decode cX12_deltas 97 = .ok (.goto 106, 3) := by decide +kernel
theorem dX12_deltas_100 : decode cX12_deltas 100 = .ok (.iload 6, 2) := by decide +kernel
theorem dX12_deltas_102 : decode cX12_deltas 102 = .ok (.bipush 15, 2) := by decide +kernel
theorem dX12_deltas_104 : decode cX12_deltas 104 = .ok (.iand, 1) := by decide +kernel
theorem dX12_deltas_105 : decode cX12_deltas 105 = .ok (.iload 6, 2) := by decide +kernel
theorem dX12_deltas_107 : decode cX12_deltas 107 = .ok (.bipush 15, 2) := by decide +kernel
theorem dX12_deltas_109 : decode cX12_deltas 109 = .ok (.iand, 1) := by decide +kernel
theorem dX12_deltas_110 : decode cX12_deltas 110 = .ok (.bipush 8, 2) := by decide +kernel
theorem dX12_deltas_112 : decode cX12_deltas 112 = .ok (.if_icmp .lt 8, 3) := by decide +kernel
theorem dX12_deltas_115 : decode cX12_deltas 115 = .ok (.bipush 7, 2) := by decide +kernel
theorem dX12_deltas_117 : decode cX12_deltas 117 = .ok (.goto 5, 3) := by decide +kernel
theorem dX12_deltas_120 : decode cX12_deltas 120 = .ok (.bipush 8, 2) := by decide +kernel
theorem dX12_deltas_122 : decode cX12_deltas 122 = .ok (.isub, 1) := by decide +kernel
theorem dX12_deltas_123 : decode cX12_deltas 123 = .ok (.i2l, 1) := by decide +kernel
theorem dX12_deltas_124 : decode cX12_deltas 124 = .ok (.lstore 7, 2) := by decide +kernel
theorem dX12_deltas_126 : decode cX12_deltas 126 = .ok (.lload 7, 2) := by decide +kernel
theorem dX12_deltas_128 : decode cX12_deltas 128 = .ok (.lconst 1, 1) := by decide +kernel
theorem dX12_deltas_129 : decode cX12_deltas 129 = .ok (.bipush 6, 2) := by decide +kernel
theorem dX12_deltas_131 : decode cX12_deltas 131 = .ok (.aload_n 0, 1) := by decide +kernel
theorem dX12_deltas_132 : decode cX12_deltas 132 = .ok (.getfield 703, 3) := by decide +kernel
theorem dX12_deltas_135 : decode cX12_deltas 135 = .ok (.isub, 1) := by decide +kernel
theorem dX12_deltas_136 : decode cX12_deltas 136 = .ok (.lshl, 1) := by decide +kernel
theorem dX12_deltas_137 : decode cX12_deltas 137 = .ok (.lmul, 1) := by decide +kernel
theorem dX12_deltas_138 : decode cX12_deltas 138 = .ok (.lstore 7, 2) := by decide +kernel
theorem dX12_deltas_140 : decode cX12_deltas 140 = .ok (.iload_n 2, 1) := by decide +kernel
theorem dX12_deltas_141 : decode cX12_deltas 141 = .ok (.ifCond .eq 33, 3) := by decide +kernel
theorem dX12_deltas_144 : decode cX12_deltas 144 = .ok (.aload_n 0, 1) := by decide +kernel
theorem dX12_deltas_145 : decode cX12_deltas 145 = .ok (.aload_n 0, 1) := by decide +kernel
theorem dX12_deltas_146 : decode cX12_deltas 146 = .ok (.getfield 460, 3) := by decide +kernel
theorem dX12_deltas_149 : decode cX12_deltas 149 = .ok (.iload 5, 2) := by decide +kernel
theorem dX12_deltas_151 : decode cX12_deltas 151 = .ok (.invokevirtual 582, 3) := by decide +kernel
theorem dX12_deltas_154 : decode cX12_deltas 154 = .ok (.istore 9, 2) := by decide +kernel
theorem dX12_deltas_156 : decode cX12_deltas 156 = .ok (.aload_n 0, 1) := by decide +kernel
theorem dX12_deltas_157 : decode cX12_deltas 157 = .ok (.getfield 409, 3) := by decide +kernel
theorem dX12_deltas_160 : decode cX12_deltas 160 = .ok (.ifCond .ne 11, 3) := by decide +kernel
theorem dX12_deltas_163 : decode cX12_deltas 163 = .ok (.aload_n 0, 1) := by decide +kernel
theorem dX12_deltas_164 : decode cX12_deltas 164 = .ok (.iload 9, 2) := by decide +kernel
theorem dX12_deltas_166 : decode cX12_deltas 166 = .ok (.lload 7, 2) := by decide +kernel
theorem dX12_deltas_168 : decode cX12_deltas 168 = .ok (.invokevirtual 630, 3) := by decide +kernel
theorem dX12_deltas_171 : decode cX12_deltas 171 = .ok (.goto 32, 3) := by decide +kernel
theorem dX12_deltas_174 : decode cX12_deltas 174 = .ok (.aload_n 0, 1) := by decide +kernel
theorem dX12_deltas_175 : decode cX12_deltas 175 = .ok (.iload 5, 2) := by decide +kernel
theorem dX12_deltas_177 : decode cX12_deltas 177 = .ok (.invokevirtual 677, 3) := by decide +kernel
theorem dX12_deltas_180 : decode cX12_deltas 180 = .ok (.istore 9, 2) := by decide +kernel
theorem dX12_deltas_182 : decode cX12_deltas 182 = .ok (.aload_n 0, 1) := by decide +kernel
theorem dX12_deltas_183 : decode cX12_deltas 183 = .ok (.getfield 409, 3) := by decide +kernel
theorem dX12_deltas_186 : decode cX12_deltas 186 = .ok (.ifCond .ne 17, 3) := by decide +kernel
theorem dX12_deltas_189 : decode cX12_deltas 189 = .ok (.aload_n 0, 1) := by decide +kernel
theorem dX12_deltas_190 : decode cX12_deltas 190 = .ok (.getfield 64, 3) := by decide +kernel
theorem dX12_deltas_193 : decode cX12_deltas 193 = .ok (.iload 5, 2) := by decide +kernel
theorem dX12_deltas_195 : decode cX12_deltas 195 = .ok (.iload 9, 2) := by decide +kernel
theorem dX12_deltas_197 : decode cX12_deltas 197 = .ok (.i2l, 1) := by decide +kernel
theorem dX12_deltas_198 : decode cX12_deltas 198 = .ok (.lload 7, 2) := by decide +kernel
theorem dX12_deltas_200 : decode cX12_deltas 200 = .ok (.ladd, 1) := by decide +kernel
theorem dX12_deltas_201 : decode cX12_deltas 201 = .ok (.l2i, 1) := by decide +kernel
theorem dX12_deltas_202 : decode cX12_deltas 202 = .ok (.iastore, 1) := by decide +kernel
theorem dX12_deltas_203 : decode cX12_deltas 203 = .ok (.iinc 4 1, 3) := by decide +kernel
theorem dX12_deltas_206 : decode cX12_deltas 206 = .ok (.goto (-155), 3) := by decide +kernel
theorem dX12_deltas_209 : decode cX12_deltas 209 = .ok (.return_, 1) := by decide +kernel
def B_X12_deltas_42 (N : Nat)   (V : sv_V) : Option sv_V := (F_X12_fail (1 : Int32) V).bind (fun V1 => some V1)
set_option maxRecDepth 20000 in
theorem tB_X12_deltas_42 {g : sx_G} (hG : sx_Go g) {P : Option Value → sv_V → Prop} {Vr : sv_V} (hP : P none Vr) {N : Nat}    {V : sv_V} (h : B_X12_deltas_42 N   V = some Vr) : sv_N g qX12_deltas 5 42 [(0, .ref 146)] [] V P := by
  unfold B_X12_deltas_42 at h
  refine sx_aload_n (pc := 42) dX12_deltas_42 sx_m0 ?_
  refine sx_iconst (pc := 43) (v := 1) dX12_deltas_43 (by decide) ?_
  obtain ⟨V1, g2, h⟩ := sx_bnd h
  refine sv_cV (pc := 44) (y := qX12_fail) (o := none) (as := [.int (1 : Int32)]) (V1 := V1) hG dX12_deltas_44 l_X12_421 y0X12_fail yvX12_fail rfl (Nat.le_of_ble_eq_true rfl) lay_146 kr_12 (by decide) (Nat.le_of_ble_eq_true rfl) rfl rfl rfl (t_X12_fail hG ⟨rfl, rfl⟩ g2) ?_
  exact sv_vret (pc := 47) dX12_deltas_47 rfl h hP
def B_X12_deltas_203 (N : Nat) (k51 : Int32 → Int32 → Int32 → Int32 → sv_V → Option sv_V) (l1 : Int32) (l2 : Int32) (l3 : Int32) (l4 : Int32) (V : sv_V) : Option sv_V := sx_let (l4 + 1) (fun x3 => k51 l1 l2 l3 x3 V)
set_option maxRecDepth 20000 in
theorem tB_X12_deltas_203 {g : sx_G} (hG : sx_Go g) {P : Option Value → sv_V → Prop} {Vr : sv_V} (hP : P none Vr) {N : Nat} {k51 : Int32 → Int32 → Int32 → Int32 → sv_V → Option sv_V} (hk51 : ∀ (l1 : Int32) (l2 : Int32) (l3 : Int32) (l4 : Int32) (V : sv_V), k51 l1 l2 l3 l4 V = some Vr → sv_N g qX12_deltas 5 51 [(0, .ref 146), (1, .int l1), (2, .int l2), (3, .int l3), (4, .int l4)] [] V P) {l1 : Int32} {l2 : Int32} {l3 : Int32} {l4 : Int32} {V : sv_V} (h : B_X12_deltas_203 N k51 l1 l2 l3 l4 V = some Vr) : sv_N g qX12_deltas 5 203 [(0, .ref 146), (1, .int l1), (2, .int l2), (3, .int l3), (4, .int l4)] [] V P := by
  unfold B_X12_deltas_203 at h
  obtain ⟨x3, hx3⟩ : ∃ z : Int32, z = l4 + 1 := ⟨_, rfl⟩
  have h := sx_letE hx3 h
  refine sx_iinc (pc := 203) (v := x3) (lo' := [(4, .int x3), (0, .ref 146), (1, .int l1), (2, .int l2), (3, .int l3)]) dX12_deltas_203 sx_m4 (by rw [hx3]; rfl) (by decide) rfl ?_
  refine sx_goto (pc := 206) (tgt := 51) dX12_deltas_206 (by decide) ?_
  refine sx_wk (sx_s1 sx_m1 (sx_s1 sx_m2 (sx_s1 sx_m3 (sx_s1 sx_m4 (sx_s1 sx_m0 sx_s0))))) ?_
  exact hk51 _ _ _ _ _ h
def B_X12_deltas_171 (N : Nat) (k51 : Int32 → Int32 → Int32 → Int32 → sv_V → Option sv_V) (l1 : Int32) (l2 : Int32) (l3 : Int32) (l4 : Int32) (V : sv_V) : Option sv_V := B_X12_deltas_203 N k51 l1 l2 l3 l4 V
set_option maxRecDepth 20000 in
theorem tB_X12_deltas_171 {g : sx_G} (hG : sx_Go g) {P : Option Value → sv_V → Prop} {Vr : sv_V} (hP : P none Vr) {N : Nat} {k51 : Int32 → Int32 → Int32 → Int32 → sv_V → Option sv_V} (hk51 : ∀ (l1 : Int32) (l2 : Int32) (l3 : Int32) (l4 : Int32) (V : sv_V), k51 l1 l2 l3 l4 V = some Vr → sv_N g qX12_deltas 5 51 [(0, .ref 146), (1, .int l1), (2, .int l2), (3, .int l3), (4, .int l4)] [] V P) {l1 : Int32} {l2 : Int32} {l3 : Int32} {l4 : Int32} {V : sv_V} (h : B_X12_deltas_171 N k51 l1 l2 l3 l4 V = some Vr) : sv_N g qX12_deltas 5 171 [(0, .ref 146), (1, .int l1), (2, .int l2), (3, .int l3), (4, .int l4)] [] V P := by
  unfold B_X12_deltas_171 at h
  refine sx_goto (pc := 171) (tgt := 203) dX12_deltas_171 (by decide) ?_
  refine sx_wk (sx_s1 sx_m0 (sx_s1 sx_m1 (sx_s1 sx_m2 (sx_s1 sx_m3 (sx_s1 sx_m4 sx_s0))))) ?_
  exact tB_X12_deltas_203 hG hP hk51 h
def B_X12_deltas_122 (N : Nat) (k51 : Int32 → Int32 → Int32 → Int32 → sv_V → Option sv_V) (l1 : Int32) (l2 : Int32) (l3 : Int32) (l4 : Int32) (l5 : Int32) (s0 : Int32) (s1 : Int32) (V : sv_V) : Option sv_V := sx_let ((s0 - s1).toInt64) (fun x4 => sx_let (x4 * ((1 : Int64) <<< (((6 : Int32) - (V.1 146 86)).toInt64 &&& 63))) (fun x5 => if l2 = 0 then ((F_X12_cvtOf l5 V).bind (fun (x9, V7) => if (V7.1 146 59) = 0 then (if sx_in l5 256 = true then sx_let (sv_I V7 164 l5.toNatClampNeg ((x9.toInt64 + x5).toInt32)) (fun V12 => B_X12_deltas_203 N k51 l1 l2 l3 l4 V12) else none) else (B_X12_deltas_203 N k51 l1 l2 l3 l4 V7))) else ((F_X12_pointOf (V.1 146 72) l5 V).bind (fun (x15, V13) => if (V13.1 146 59) = 0 then ((F_X12_move x15 x5 V13).bind (fun V17 => B_X12_deltas_171 N k51 l1 l2 l3 l4 V17)) else (B_X12_deltas_171 N k51 l1 l2 l3 l4 V13)))))
set_option maxRecDepth 20000 in
theorem tB_X12_deltas_122 {g : sx_G} (hG : sx_Go g) {P : Option Value → sv_V → Prop} {Vr : sv_V} (hP : P none Vr) {N : Nat} {k51 : Int32 → Int32 → Int32 → Int32 → sv_V → Option sv_V} (hk51 : ∀ (l1 : Int32) (l2 : Int32) (l3 : Int32) (l4 : Int32) (V : sv_V), k51 l1 l2 l3 l4 V = some Vr → sv_N g qX12_deltas 5 51 [(0, .ref 146), (1, .int l1), (2, .int l2), (3, .int l3), (4, .int l4)] [] V P) {l1 : Int32} {l2 : Int32} {l3 : Int32} {l4 : Int32} {l5 : Int32} {s0 : Int32} {s1 : Int32} {V : sv_V} (h : B_X12_deltas_122 N k51 l1 l2 l3 l4 l5 s0 s1 V = some Vr) : sv_N g qX12_deltas 5 122 [(0, .ref 146), (1, .int l1), (2, .int l2), (3, .int l3), (4, .int l4), (5, .int l5)] [.int s1, .int s0] V P := by
  unfold B_X12_deltas_122 at h
  refine sx_isub (pc := 122) dX12_deltas_122 ?_
  refine sx_i2l (pc := 123) dX12_deltas_123 ?_
  refine sv_tJ (fun x4 hx4 => ?_)
  have h := sx_letE hx4 h
  refine sx_lstore (pc := 124) (lo' := [(7, .long x4), (0, .ref 146), (1, .int l1), (2, .int l2), (3, .int l3), (4, .int l4), (5, .int l5)]) dX12_deltas_124 (by decide) rfl ?_
  refine sx_lload (pc := 126) dX12_deltas_126 sx_m0 ?_
  refine sx_lconst (pc := 128) (v := 1) dX12_deltas_128 rfl ?_
  refine sx_bipush (pc := 129) (v := 6) dX12_deltas_129 (by decide) ?_
  refine sx_aload_n (pc := 131) dX12_deltas_131 sx_m1 ?_
  refine sv_getI (pc := 132) hG dX12_deltas_132 f_12_703 lay_146 rfl ?_
  refine sx_isub (pc := 135) dX12_deltas_135 ?_
  refine sx_lshl (pc := 136) dX12_deltas_136 ?_
  refine sx_lmul (pc := 137) dX12_deltas_137 ?_
  refine sv_tJ (fun x5 hx5 => ?_)
  have h := sx_letE hx5 h
  refine sx_lstore (pc := 138) (lo' := [(7, .long x5), (0, .ref 146), (1, .int l1), (2, .int l2), (3, .int l3), (4, .int l4), (5, .int l5)]) dX12_deltas_138 (by decide) rfl ?_
  refine sx_iload_n (pc := 140) dX12_deltas_140 sx_m3 ?_
  refine sx_if_eq (pc := 141) (tgt := 174) dX12_deltas_141 (by decide) (fun c6 => ?_) (fun c6 => ?_)
  · have h := sx_pos c6 h
    refine sx_aload_n (pc := 174) dX12_deltas_174 sx_m1 ?_
    refine sx_iload (pc := 175) dX12_deltas_175 sx_m6 ?_
    obtain ⟨⟨x9, V7⟩, g8, h⟩ := sx_bnd h
    refine sv_cV (pc := 177) (y := qX12_cvtOf) (o := (some (.int x9))) (as := [.int l5]) (V1 := V7) hG dX12_deltas_177 l_X12_677 y0X12_cvtOf yvX12_cvtOf rfl (Nat.le_of_ble_eq_true rfl) lay_146 kr_12 (by decide) (Nat.le_of_ble_eq_true rfl) rfl rfl rfl (t_X12_cvtOf hG ⟨rfl, rfl⟩ g8) ?_
    refine sx_istore (pc := 180) (lo' := [(9, .int x9), (7, .long x5), (0, .ref 146), (1, .int l1), (2, .int l2), (3, .int l3), (4, .int l4), (5, .int l5)]) dX12_deltas_180 (by decide) rfl ?_
    refine sx_aload_n (pc := 182) dX12_deltas_182 sx_m2 ?_
    refine sv_getI (pc := 183) hG dX12_deltas_183 f_12_409 lay_146 rfl ?_
    refine sx_if_ne (pc := 186) (tgt := 203) dX12_deltas_186 (by decide) (fun c10 => ?_) (fun c10 => ?_)
    · have h := sx_neg c10 h
      refine sx_wk (sx_s1 sx_m2 (sx_s1 sx_m3 (sx_s1 sx_m4 (sx_s1 sx_m5 (sx_s1 sx_m6 sx_s0))))) ?_
      exact tB_X12_deltas_203 hG hP hk51 h
    · have h := sx_pos c10 h
      refine sx_aload_n (pc := 189) dX12_deltas_189 sx_m2 ?_
      refine sv_getA (pc := 190) hG dX12_deltas_190 f_12_64 lay_146 rfl cr_146_44 ?_
      refine sx_iload (pc := 193) dX12_deltas_193 sx_m7 ?_
      refine sx_iload (pc := 195) dX12_deltas_195 sx_m0 ?_
      refine sx_i2l (pc := 197) dX12_deltas_197 ?_
      refine sx_lload (pc := 198) dX12_deltas_198 sx_m1 ?_
      refine sx_ladd (pc := 200) dX12_deltas_200 ?_
      refine sx_l2i (pc := 201) dX12_deltas_201 ?_
      obtain ⟨g11, h⟩ := sx_grd h
      obtain ⟨V12, hV12⟩ : ∃ z : sv_V, z = sv_I V7 164 l5.toNatClampNeg ((x9.toInt64 + x5).toInt32) := ⟨_, rfl⟩
      have h := sx_letE hV12 h
      refine sv_iast (pc := 202) hG dX12_deltas_202 lay_164 g11 hV12 ?_
      refine sx_wk (sx_s1 sx_m2 (sx_s1 sx_m3 (sx_s1 sx_m4 (sx_s1 sx_m5 (sx_s1 sx_m6 sx_s0))))) ?_
      exact tB_X12_deltas_203 hG hP hk51 h
  · have h := sx_neg c6 h
    refine sx_aload_n (pc := 144) dX12_deltas_144 sx_m1 ?_
    refine sx_aload_n (pc := 145) dX12_deltas_145 sx_m1 ?_
    refine sv_getI (pc := 146) hG dX12_deltas_146 f_12_460 lay_146 rfl ?_
    refine sx_iload (pc := 149) dX12_deltas_149 sx_m6 ?_
    obtain ⟨⟨x15, V13⟩, g14, h⟩ := sx_bnd h
    refine sv_cV (pc := 151) (y := qX12_pointOf) (o := (some (.int x15))) (as := [.int (V.1 146 72), .int l5]) (V1 := V13) hG dX12_deltas_151 l_X12_582 y0X12_pointOf yvX12_pointOf rfl (Nat.le_of_ble_eq_true rfl) lay_146 kr_12 (by decide) (Nat.le_of_ble_eq_true rfl) rfl rfl rfl (t_X12_pointOf hG ⟨rfl, rfl⟩ g14) ?_
    refine sx_istore (pc := 154) (lo' := [(9, .int x15), (7, .long x5), (0, .ref 146), (1, .int l1), (2, .int l2), (3, .int l3), (4, .int l4), (5, .int l5)]) dX12_deltas_154 (by decide) rfl ?_
    refine sx_aload_n (pc := 156) dX12_deltas_156 sx_m2 ?_
    refine sv_getI (pc := 157) hG dX12_deltas_157 f_12_409 lay_146 rfl ?_
    refine sx_if_ne (pc := 160) (tgt := 171) dX12_deltas_160 (by decide) (fun c16 => ?_) (fun c16 => ?_)
    · have h := sx_neg c16 h
      refine sx_wk (sx_s1 sx_m2 (sx_s1 sx_m3 (sx_s1 sx_m4 (sx_s1 sx_m5 (sx_s1 sx_m6 sx_s0))))) ?_
      exact tB_X12_deltas_171 hG hP hk51 h
    · have h := sx_pos c16 h
      refine sx_aload_n (pc := 163) dX12_deltas_163 sx_m2 ?_
      refine sx_iload (pc := 164) dX12_deltas_164 sx_m0 ?_
      refine sx_lload (pc := 166) dX12_deltas_166 sx_m1 ?_
      obtain ⟨V17, g18, h⟩ := sx_bnd h
      refine sv_cV (pc := 168) (y := qX12_move) (o := none) (as := [.int x15, .long x5]) (V1 := V17) hG dX12_deltas_168 l_X12_630 y0X12_move yvX12_move rfl (Nat.le_of_ble_eq_true rfl) lay_146 kr_12 (by decide) (Nat.le_of_ble_eq_true rfl) rfl rfl rfl (t_X12_move hG ⟨rfl, rfl⟩ g18) ?_
      refine sx_wk (sx_s1 sx_m2 (sx_s1 sx_m3 (sx_s1 sx_m4 (sx_s1 sx_m5 (sx_s1 sx_m6 sx_s0))))) ?_
      exact tB_X12_deltas_171 hG hP hk51 h
def B_X12_deltas_51 (N : Nat) (k51 : Int32 → Int32 → Int32 → Int32 → sv_V → Option sv_V) (l1 : Int32) (l2 : Int32) (l3 : Int32) (l4 : Int32) (V : sv_V) : Option sv_V := if l3 ≤ l4 then (some V) else (if (V.1 146 59) = 0 then ((F_X12_pop  V).bind (fun (x23, V21) => (F_X12_pop  V21).bind (fun (x26, V24) => if (V24.1 146 62) = (((V24.1 146 85) + ((x26 >>> ((4 : Int32) &&& 31)) &&& (15 : Int32))) + l1) then (if (x26 &&& (15 : Int32)) < (8 : Int32) then (B_X12_deltas_122 N k51 l1 l2 l3 l4 x23 (x26 &&& (15 : Int32)) (8 : Int32) V24) else (B_X12_deltas_122 N k51 l1 l2 l3 l4 x23 (x26 &&& (15 : Int32)) (7 : Int32) V24)) else (B_X12_deltas_203 N k51 l1 l2 l3 l4 V24)))) else (some V))
set_option maxRecDepth 20000 in
theorem tB_X12_deltas_51 {g : sx_G} (hG : sx_Go g) {P : Option Value → sv_V → Prop} {Vr : sv_V} (hP : P none Vr) {N : Nat} {k51 : Int32 → Int32 → Int32 → Int32 → sv_V → Option sv_V} (hk51 : ∀ (l1 : Int32) (l2 : Int32) (l3 : Int32) (l4 : Int32) (V : sv_V), k51 l1 l2 l3 l4 V = some Vr → sv_N g qX12_deltas 5 51 [(0, .ref 146), (1, .int l1), (2, .int l2), (3, .int l3), (4, .int l4)] [] V P) {l1 : Int32} {l2 : Int32} {l3 : Int32} {l4 : Int32} {V : sv_V} (h : B_X12_deltas_51 N k51 l1 l2 l3 l4 V = some Vr) : sv_N g qX12_deltas 5 51 [(0, .ref 146), (1, .int l1), (2, .int l2), (3, .int l3), (4, .int l4)] [] V P := by
  unfold B_X12_deltas_51 at h
  refine sx_iload (pc := 51) dX12_deltas_51 sx_m4 ?_
  refine sx_iload_n (pc := 53) dX12_deltas_53 sx_m3 ?_
  refine sx_icmp_ge (pc := 54) (tgt := 209) dX12_deltas_54 (by decide) (fun c19 => ?_) (fun c19 => ?_)
  · have h := sx_pos c19 h
    exact sv_vret (pc := 209) dX12_deltas_209 rfl h hP
  · have h := sx_neg c19 h
    refine sx_aload_n (pc := 57) dX12_deltas_57 sx_m0 ?_
    refine sv_getI (pc := 58) hG dX12_deltas_58 f_12_409 lay_146 rfl ?_
    refine sx_if_ne (pc := 61) (tgt := 209) dX12_deltas_61 (by decide) (fun c20 => ?_) (fun c20 => ?_)
    · have h := sx_neg c20 h
      exact sv_vret (pc := 209) dX12_deltas_209 rfl h hP
    · have h := sx_pos c20 h
      refine sx_aload_n (pc := 64) dX12_deltas_64 sx_m0 ?_
      obtain ⟨⟨x23, V21⟩, g22, h⟩ := sx_bnd h
      refine sv_cV (pc := 65) (y := qX12_pop) (o := (some (.int x23))) (as := []) (V1 := V21) hG dX12_deltas_65 l_X12_579 y0X12_pop yvX12_pop rfl (Nat.le_of_ble_eq_true rfl) lay_146 kr_12 (by decide) (Nat.le_of_ble_eq_true rfl) rfl rfl rfl (t_X12_pop hG ⟨rfl, rfl⟩ g22) ?_
      refine sx_istore (pc := 68) (lo' := [(5, .int x23), (0, .ref 146), (1, .int l1), (2, .int l2), (3, .int l3), (4, .int l4)]) dX12_deltas_68 (by decide) rfl ?_
      refine sx_aload_n (pc := 70) dX12_deltas_70 sx_m1 ?_
      obtain ⟨⟨x26, V24⟩, g25, h⟩ := sx_bnd h
      refine sv_cV (pc := 71) (y := qX12_pop) (o := (some (.int x26))) (as := []) (V1 := V24) hG dX12_deltas_71 l_X12_579 y0X12_pop yvX12_pop rfl (Nat.le_of_ble_eq_true rfl) lay_146 kr_12 (by decide) (Nat.le_of_ble_eq_true rfl) rfl rfl rfl (t_X12_pop hG ⟨rfl, rfl⟩ g25) ?_
      refine sx_istore (pc := 74) (lo' := [(6, .int x26), (5, .int x23), (0, .ref 146), (1, .int l1), (2, .int l2), (3, .int l3), (4, .int l4)]) dX12_deltas_74 (by decide) rfl ?_
      refine sx_aload_n (pc := 76) dX12_deltas_76 sx_m2 ?_
      refine sv_getI (pc := 77) hG dX12_deltas_77 f_12_621 lay_146 rfl ?_
      refine sx_aload_n (pc := 80) dX12_deltas_80 sx_m2 ?_
      refine sv_getI (pc := 81) hG dX12_deltas_81 f_12_700 lay_146 rfl ?_
      refine sx_iload (pc := 84) dX12_deltas_84 sx_m0 ?_
      refine sx_iconst (pc := 86) (v := 4) dX12_deltas_86 (by decide) ?_
      refine sx_ishr (pc := 87) dX12_deltas_87 ?_
      refine sx_bipush (pc := 88) (v := 15) dX12_deltas_88 (by decide) ?_
      refine sx_iand (pc := 90) dX12_deltas_90 ?_
      refine sx_iadd (pc := 91) dX12_deltas_91 ?_
      refine sx_iload_n (pc := 92) dX12_deltas_92 sx_m3 ?_
      refine sx_iadd (pc := 93) dX12_deltas_93 ?_
      refine sx_icmp_eq (pc := 94) (tgt := 100) dX12_deltas_94 (by decide) (fun c27 => ?_) (fun c27 => ?_)
      · have h := sx_pos c27 h
        refine sx_iload (pc := 100) dX12_deltas_100 sx_m0 ?_
        refine sx_bipush (pc := 102) (v := 15) dX12_deltas_102 (by decide) ?_
        refine sx_iand (pc := 104) dX12_deltas_104 ?_
        refine sx_iload (pc := 105) dX12_deltas_105 sx_m0 ?_
        refine sx_bipush (pc := 107) (v := 15) dX12_deltas_107 (by decide) ?_
        refine sx_iand (pc := 109) dX12_deltas_109 ?_
        refine sx_bipush (pc := 110) (v := 8) dX12_deltas_110 (by decide) ?_
        refine sx_icmp_lt (pc := 112) (tgt := 120) dX12_deltas_112 (by decide) (fun c28 => ?_) (fun c28 => ?_)
        · have h := sx_pos c28 h
          refine sx_bipush (pc := 120) (v := 8) dX12_deltas_120 (by decide) ?_
          refine sx_wk (sx_s1 sx_m2 (sx_s1 sx_m3 (sx_s1 sx_m4 (sx_s1 sx_m5 (sx_s1 sx_m6 (sx_s1 sx_m1 sx_s0)))))) ?_
          exact tB_X12_deltas_122 hG hP hk51 h
        · have h := sx_neg c28 h
          refine sx_bipush (pc := 115) (v := 7) dX12_deltas_115 (by decide) ?_
          refine sx_goto (pc := 117) (tgt := 122) dX12_deltas_117 (by decide) ?_
          refine sx_wk (sx_s1 sx_m2 (sx_s1 sx_m3 (sx_s1 sx_m4 (sx_s1 sx_m5 (sx_s1 sx_m6 (sx_s1 sx_m1 sx_s0)))))) ?_
          exact tB_X12_deltas_122 hG hP hk51 h
      · have h := sx_neg c27 h
        refine sx_goto (pc := 97) (tgt := 203) dX12_deltas_97 (by decide) ?_
        refine sx_wk (sx_s1 sx_m2 (sx_s1 sx_m3 (sx_s1 sx_m4 (sx_s1 sx_m5 (sx_s1 sx_m6 sx_s0))))) ?_
        exact tB_X12_deltas_203 hG hP hk51 h
theorem tL_X12_deltas_51 {g : sx_G} (hG : sx_Go g) {P : Option Value → sv_V → Prop} {Vr : sv_V} (hP : P none Vr) {N : Nat}   : ∀ (n : Nat) (l1 : Int32) (l2 : Int32) (l3 : Int32) (l4 : Int32) (V : sv_V), sx_lp5 (B_X12_deltas_51 N ) n l1 l2 l3 l4 V = some Vr → sv_N g qX12_deltas 5 51 [(0, .ref 146), (1, .int l1), (2, .int l2), (3, .int l3), (4, .int l4)] [] V P :=
  sx_lp5_ind (fun k0 ih _ _ _ _ V h => tB_X12_deltas_51 hG hP ih h)
def F_X12_deltas (N : Nat) (l1 : Int32) (l2 : Int32) (V : sv_V) : Option sv_V := (F_X12_has (1 : Int32) V).bind (fun (x31, V29) => if x31 = 0 then (some V29) else ((F_X12_pop  V29).bind (fun (x35, V33) => if 0 ≤ x35 then (if (128 : Int32) < x35 then (B_X12_deltas_42 N   V33) else (if ((2 : Int32) * x35) ≤ (V33.1 146 56) then (sx_lp5 (B_X12_deltas_51 N ) N l1 l2 x35 (0 : Int32) V33) else (B_X12_deltas_42 N   V33))) else ((F_X12_fail (11 : Int32) V33).bind (fun V39 => some V39)))))
set_option maxRecDepth 20000 in
theorem t_X12_deltas {g : sx_G} (hG : sx_Go g) {P : Option Value → sv_V → Prop} {Vr : sv_V} (hP : P none Vr) {N : Nat} {l1 : Int32} {l2 : Int32} {V : sv_V} (h : F_X12_deltas N l1 l2 V = some Vr) : sv_N g qX12_deltas 5 0 [(0, .ref 146), (1, .int l1), (2, .int l2)] [] V P := by
  unfold F_X12_deltas at h
  refine sx_aload_n (pc := 0) dX12_deltas_0 sx_m0 ?_
  refine sx_iconst (pc := 1) (v := 1) dX12_deltas_1 (by decide) ?_
  obtain ⟨⟨x31, V29⟩, g30, h⟩ := sx_bnd h
  refine sv_cV (pc := 2) (y := qX12_has) (o := (some (.int x31))) (as := [.int (1 : Int32)]) (V1 := V29) hG dX12_deltas_2 l_X12_576 y0X12_has yvX12_has rfl (Nat.le_of_ble_eq_true rfl) lay_146 kr_12 (by decide) (Nat.le_of_ble_eq_true rfl) rfl rfl rfl (t_X12_has hG ⟨rfl, rfl⟩ g30) ?_
  refine sx_if_ne (pc := 5) (tgt := 9) dX12_deltas_5 (by decide) (fun c32 => ?_) (fun c32 => ?_)
  · have h := sx_neg c32 h
    refine sx_aload_n (pc := 9) dX12_deltas_9 sx_m0 ?_
    obtain ⟨⟨x35, V33⟩, g34, h⟩ := sx_bnd h
    refine sv_cV (pc := 10) (y := qX12_pop) (o := (some (.int x35))) (as := []) (V1 := V33) hG dX12_deltas_10 l_X12_579 y0X12_pop yvX12_pop rfl (Nat.le_of_ble_eq_true rfl) lay_146 kr_12 (by decide) (Nat.le_of_ble_eq_true rfl) rfl rfl rfl (t_X12_pop hG ⟨rfl, rfl⟩ g34) ?_
    refine sx_istore_n (pc := 13) (lo' := [(3, .int x35), (0, .ref 146), (1, .int l1), (2, .int l2)]) dX12_deltas_13 (by decide) rfl ?_
    refine sx_iload_n (pc := 14) dX12_deltas_14 sx_m0 ?_
    refine sx_if_ge (pc := 15) (tgt := 25) dX12_deltas_15 (by decide) (fun c36 => ?_) (fun c36 => ?_)
    · have h := sx_pos c36 h
      refine sx_iload_n (pc := 25) dX12_deltas_25 sx_m0 ?_
      refine sx_sipush (pc := 26) (v := 128) dX12_deltas_26 (by decide) ?_
      refine sx_icmp_gt (pc := 29) (tgt := 42) dX12_deltas_29 (by decide) (fun c37 => ?_) (fun c37 => ?_)
      · have h := sx_pos c37 h
        refine sx_wk (sx_s1 sx_m1 sx_s0) ?_
        exact tB_X12_deltas_42 hG hP  h
      · have h := sx_neg c37 h
        refine sx_aload_n (pc := 32) dX12_deltas_32 sx_m1 ?_
        refine sv_getI (pc := 33) hG dX12_deltas_33 f_12_418 lay_146 rfl ?_
        refine sx_iconst (pc := 36) (v := 2) dX12_deltas_36 (by decide) ?_
        refine sx_iload_n (pc := 37) dX12_deltas_37 sx_m0 ?_
        refine sx_imul (pc := 38) dX12_deltas_38 ?_
        refine sx_icmp_ge (pc := 39) (tgt := 48) dX12_deltas_39 (by decide) (fun c38 => ?_) (fun c38 => ?_)
        · have h := sx_pos c38 h
          refine sx_iconst (pc := 48) (v := 0) dX12_deltas_48 (by decide) ?_
          refine sx_istore (pc := 49) (lo' := [(4, .int (0 : Int32)), (3, .int x35), (0, .ref 146), (1, .int l1), (2, .int l2)]) dX12_deltas_49 (by decide) rfl ?_
          refine sx_wk (sx_s1 sx_m2 (sx_s1 sx_m3 (sx_s1 sx_m4 (sx_s1 sx_m1 (sx_s1 sx_m0 sx_s0))))) ?_
          exact tL_X12_deltas_51 hG hP  N _ _ _ _ _ h
        · have h := sx_neg c38 h
          refine sx_wk (sx_s1 sx_m1 sx_s0) ?_
          exact tB_X12_deltas_42 hG hP  h
    · have h := sx_neg c36 h
      refine sx_aload_n (pc := 18) dX12_deltas_18 sx_m1 ?_
      refine sx_bipush (pc := 19) (v := 11) dX12_deltas_19 (by decide) ?_
      obtain ⟨V39, g40, h⟩ := sx_bnd h
      refine sv_cV (pc := 21) (y := qX12_fail) (o := none) (as := [.int (11 : Int32)]) (V1 := V39) hG dX12_deltas_21 l_X12_421 y0X12_fail yvX12_fail rfl (Nat.le_of_ble_eq_true rfl) lay_146 kr_12 (by decide) (Nat.le_of_ble_eq_true rfl) rfl rfl rfl (t_X12_fail hG ⟨rfl, rfl⟩ g40) ?_
      exact sv_vret (pc := 24) dX12_deltas_24 rfl h hP
  · have h := sx_pos c32 h
    exact sv_vret (pc := 8) dX12_deltas_8 rfl h hP
theorem dX12_high_0 : decode cX12_high 0 = .ok (.iload_n 1, 1) := by decide +kernel
theorem dX12_high_1 : decode cX12_high 1 = .ok (.tableswitch 562 96 140 #[195, 195, 195, 195, 338, 338, 338, 338, 404, 404, 404, 404, 426, 426, 426, 426, 433, 439, 447, 455, 462, 470, 478, 478, 484, 484, 532, 562, 539, 551, 562, 562, 562, 562, 562, 562, 562, 562, 562, 562, 562, 562, 562, 195, 195], 195) := by decide +kernel
theorem dX12_high_196 : decode cX12_high 196 = .ok (.aload_n 0, 1) := by decide +kernel
theorem dX12_high_197 : decode cX12_high 197 = .ok (.iconst 2, 1) := by decide +kernel
theorem dX12_high_198 : decode cX12_high 198 = .ok (.invokevirtual 576, 3) := by decide +kernel
theorem dX12_high_201 : decode cX12_high 201 = .ok (.ifCond .eq 137, 3) := by decide +kernel
theorem dX12_high_204 : decode cX12_high 204 = .ok (.aload_n 0, 1) := by decide +kernel
theorem dX12_high_205 : decode cX12_high 205 = .ok (.invokevirtual 579, 3) := by decide +kernel
theorem dX12_high_208 : decode cX12_high 208 = .ok (.i2l, 1) := by decide +kernel
theorem dX12_high_209 : decode cX12_high 209 = .ok (.lstore_n 2, 1) := by decide +kernel
theorem dX12_high_210 : decode cX12_high 210 = .ok (.aload_n 0, 1) := by decide +kernel
theorem dX12_high_211 : decode cX12_high 211 = .ok (.invokevirtual 579, 3) := by decide +kernel
theorem dX12_high_214 : decode cX12_high 214 = .ok (.i2l, 1) := by decide +kernel
theorem dX12_high_215 : decode cX12_high 215 = .ok (.lstore 4, 2) := by decide +kernel
theorem dX12_high_217 : decode cX12_high 217 = .ok (.iload_n 1, 1) := by decide +kernel
theorem dX12_high_218 : decode cX12_high 218 = .ok (.bipush 98, 2) := by decide +kernel
theorem dX12_high_220 : decode cX12_high 220 = .ok (.if_icmp .ne 16, 3) := by decide +kernel
theorem dX12_high_223 : decode cX12_high 223 = .ok (.lload_n 2, 1) := by decide +kernel
theorem dX12_high_224 : decode cX12_high 224 = .ok (.lconst 0, 1) := by decide +kernel
theorem dX12_high_225 : decode cX12_high 225 = .ok (.lcmp, 1) := by decide +kernel
theorem dX12_high_226 : decode cX12_high 226 = .ok (.ifCond .ne 10, 3) := by decide +kernel
theorem dX12_high_229 : decode cX12_high 229 = .ok (.aload_n 0, 1) := by decide +kernel
theorem dX12_high_230 : decode cX12_high 230 = .ok (.bipush 7, 2) := by decide +kernel
theorem dX12_high_232 : decode cX12_high 232 = .ok (.invokevirtual 421, 3) := by decide +kernel
theorem dX12_high_235 : decode cX12_high 235 = .ok (.return_, 1) := by decide +kernel
theorem dX12_high_236 : decode cX12_high 236 = .ok (.aload_n 0, 1) := by decide +kernel
theorem dX12_high_237 : decode cX12_high 237 = .ok (.iload_n 1, 1) := by decide +kernel
theorem dX12_high_238 : decode cX12_high 238 = .ok (.bipush 96, 2) := by decide +kernel
theorem dX12_high_240 : decode cX12_high 240 = .ok (.if_icmp .ne 10, 3) := by decide +kernel
theorem dX12_high_243 : decode cX12_high 243 = .ok (.lload 4, 2) := by decide +kernel
theorem dX12_high_245 : decode cX12_high 245 = .ok (.lload_n 2, 1) := by decide +kernel
theorem dX12_high_246 : decode cX12_high 246 = .ok (.ladd, 1) := by decide +kernel
theorem dX12_high_247 : decode cX12_high 247 = .ok (.goto 88, 3) := by decide +kernel
theorem dX12_high_250 : decode cX12_high 250 = .ok (.iload_n 1, 1) := by decide +kernel
theorem dX12_high_251 : decode cX12_high 251 = .ok (.bipush 97, 2) := by decide +kernel
theorem dX12_high_253 : decode cX12_high 253 = .ok (.if_icmp .ne 10, 3) := by decide +kernel
theorem dX12_high_256 : decode cX12_high 256 = .ok (.lload 4, 2) := by decide +kernel
theorem dX12_high_258 : decode cX12_high 258 = .ok (.lload_n 2, 1) := by decide +kernel
theorem dX12_high_259 : decode cX12_high 259 = .ok (.lsub, 1) := by decide +kernel
theorem dX12_high_260 : decode cX12_high 260 = .ok (.goto 75, 3) := by decide +kernel
theorem dX12_high_263 : decode cX12_high 263 = .ok (.iload_n 1, 1) := by decide +kernel
theorem dX12_high_264 : decode cX12_high 264 = .ok (.bipush 98, 2) := by decide +kernel
theorem dX12_high_266 : decode cX12_high 266 = .ok (.if_icmp .ne 14, 3) := by decide +kernel
theorem dX12_high_269 : decode cX12_high 269 = .ok (.lload 4, 2) := by decide +kernel
theorem dX12_high_271 : decode cX12_high 271 = .ok (.ldc2_w 338, 3) := by decide +kernel
theorem dX12_high_274 : decode cX12_high 274 = .ok (.lmul, 1) := by decide +kernel
theorem dX12_high_275 : decode cX12_high 275 = .ok (.lload_n 2, 1) := by decide +kernel
theorem dX12_high_276 : decode cX12_high 276 = .ok (.ldiv, 1) := by decide +kernel
theorem dX12_high_277 : decode cX12_high 277 = .ok (.goto 58, 3) := by decide +kernel
theorem dX12_high_280 : decode cX12_high 280 = .ok (.iload_n 1, 1) := by decide +kernel
theorem dX12_high_281 : decode cX12_high 281 = .ok (.bipush 99, 2) := by decide +kernel
theorem dX12_high_283 : decode cX12_high 283 = .ok (.if_icmp .ne 16, 3) := by decide +kernel
theorem dX12_high_286 : decode cX12_high 286 = .ok (.lload 4, 2) := by decide +kernel
theorem dX12_high_288 : decode cX12_high 288 = .ok (.lload_n 2, 1) := by decide +kernel
theorem dX12_high_289 : decode cX12_high 289 = .ok (.lmul, 1) := by decide +kernel
theorem dX12_high_290 : decode cX12_high 290 = .ok (.ldc2_w 338, 3) := by decide +kernel
theorem dX12_high_293 : decode cX12_high 293 = .ok (.invokestatic 517, 3) := by decide +kernel
theorem dX12_high_296 : decode cX12_high 296 = .ok (.goto 39, 3) := by decide +kernel
theorem dX12_high_299 : decode cX12_high 299 = .ok (.iload_n 1, 1) := by decide +kernel
theorem dX12_high_300 : decode cX12_high 300 = .ok (.sipush 139, 3) := by decide +kernel
theorem dX12_high_303 : decode cX12_high 303 = .ok (.if_icmp .ne 19, 3) := by decide +kernel
theorem dX12_high_306 : decode cX12_high 306 = .ok (.lload 4, 2) := by decide +kernel
theorem dX12_high_308 : decode cX12_high 308 = .ok (.lload_n 2, 1) := by decide +kernel
theorem dX12_high_309 : decode cX12_high 309 = .ok (.lcmp, 1) := by decide +kernel
theorem dX12_high_310 : decode cX12_high 310 = .ok (.ifCond .le 8, 3) := by decide +kernel
theorem dX12_high_313 : decode cX12_high 313 = .ok (.lload 4, 2) := by decide +kernel
theorem dX12_high_315 : decode cX12_high 315 = .ok (.goto 20, 3) := by decide +kernel
theorem dX12_high_318 : decode cX12_high 318 = .ok (.lload_n 2, 1) := by decide +kernel
theorem dX12_high_319 : decode cX12_high 319 = .ok (.goto 16, 3) := by decide +kernel
theorem dX12_high_322 : decode cX12_high 322 = .ok (.lload 4, 2) := by decide +kernel
theorem dX12_high_324 : decode cX12_high 324 = .ok (.lload_n 2, 1) := by decide +kernel
theorem dX12_high_325 : decode cX12_high 325 = .ok (.lcmp, 1) := by decide +kernel
theorem dX12_high_326 : decode cX12_high 326 = .ok (.ifCond .ge 8, 3) := by decide +kernel
theorem dX12_high_329 : decode cX12_high 329 = .ok (.lload 4, 2) := by decide +kernel
theorem dX12_high_331 : decode cX12_high 331 = .ok (.goto 4, 3) := by decide +kernel
theorem dX12_high_334 : decode cX12_high 334 = .ok (.lload_n 2, 1) := by decide +kernel
theorem dX12_high_335 : decode cX12_high 335 = .ok (.invokevirtual 564, 3) := by decide +kernel
theorem dX12_high_338 : decode cX12_high 338 = .ok (.return_, 1) := by decide +kernel
theorem dX12_high_339 : decode cX12_high 339 = .ok (.aload_n 0, 1) := by decide +kernel
theorem dX12_high_340 : decode cX12_high 340 = .ok (.iconst 1, 1) := by decide +kernel
theorem dX12_high_341 : decode cX12_high 341 = .ok (.invokevirtual 576, 3) := by decide +kernel
theorem dX12_high_344 : decode cX12_high 344 = .ok (.ifCond .eq 60, 3) := by decide +kernel
theorem dX12_high_347 : decode cX12_high 347 = .ok (.aload_n 0, 1) := by decide +kernel
theorem dX12_high_348 : decode cX12_high 348 = .ok (.invokevirtual 579, 3) := by decide +kernel
theorem dX12_high_351 : decode cX12_high 351 = .ok (.i2l, 1) := by decide +kernel
theorem dX12_high_352 : decode cX12_high 352 = .ok (.lstore_n 2, 1) := by decide +kernel
theorem dX12_high_353 : decode cX12_high 353 = .ok (.aload_n 0, 1) := by decide +kernel
theorem dX12_high_354 : decode cX12_high 354 = .ok (.iload_n 1, 1) := by decide +kernel
theorem dX12_high_355 : decode cX12_high 355 = .ok (.bipush 100, 2) := by decide +kernel
theorem dX12_high_357 : decode cX12_high 357 = .ok (.if_icmp .ne 10, 3) := by decide +kernel
theorem dX12_high_360 : decode cX12_high 360 = .ok (.lload_n 2, 1) := by decide +kernel
theorem dX12_high_361 : decode cX12_high 361 = .ok (.invokestatic 198, 3) := by decide +kernel
theorem dX12_high_364 : decode cX12_high 364 = .ok (.goto 37, 3) := by decide +kernel
theorem dX12_high_367 : decode cX12_high 367 = .ok (.iload_n 1, 1) := by decide +kernel
theorem dX12_high_368 : decode cX12_high 368 = .ok (.bipush 101, 2) := by decide +kernel
theorem dX12_high_370 : decode cX12_high 370 = .ok (.if_icmp .ne 8, 3) := by decide +kernel
theorem dX12_high_373 : decode cX12_high 373 = .ok (.lload_n 2, 1) := by decide +kernel
theorem dX12_high_374 : decode cX12_high 374 = .ok (.lneg, 1) := by decide +kernel
theorem dX12_high_375 : decode cX12_high 375 = .ok (.goto 26, 3) := by decide +kernel
theorem dX12_high_378 : decode cX12_high 378 = .ok (.iload_n 1, 1) := by decide +kernel
theorem dX12_high_379 : decode cX12_high 379 = .ok (.bipush 102, 2) := by decide +kernel
theorem dX12_high_381 : decode cX12_high 381 = .ok (.if_icmp .ne 11, 3) := by decide +kernel
theorem dX12_high_384 : decode cX12_high 384 = .ok (.lload_n 2, 1) := by decide +kernel
theorem dX12_high_385 : decode cX12_high 385 = .ok (.ldc2_w 204, 3) := by decide +kernel
theorem dX12_high_388 : decode cX12_high 388 = .ok (.land, 1) := by decide +kernel
theorem dX12_high_389 : decode cX12_high 389 = .ok (.goto 12, 3) := by decide +kernel
theorem dX12_high_392 : decode cX12_high 392 = .ok (.lload_n 2, 1) := by decide +kernel
theorem dX12_high_393 : decode cX12_high 393 = .ok (.ldc2_w 731, 3) := by decide +kernel
theorem dX12_high_396 : decode cX12_high 396 = .ok (.ladd, 1) := by decide +kernel
theorem dX12_high_397 : decode cX12_high 397 = .ok (.ldc2_w 204, 3) := by decide +kernel
theorem dX12_high_400 : decode cX12_high 400 = .ok (.land, 1) := by decide +kernel
theorem dX12_high_401 : decode cX12_high 401 = .ok (.invokevirtual 564, 3) := by decide +kernel
theorem dX12_high_404 : decode cX12_high 404 = .ok (.return_, 1) := by decide +kernel
theorem dX12_high_405 : decode cX12_high 405 = .ok (.aload_n 0, 1) := by decide +kernel
theorem dX12_high_406 : decode cX12_high 406 = .ok (.iconst 1, 1) := by decide +kernel
theorem dX12_high_407 : decode cX12_high 407 = .ok (.invokevirtual 576, 3) := by decide +kernel
theorem dX12_high_410 : decode cX12_high 410 = .ok (.ifCond .eq 16, 3) := by decide +kernel
theorem dX12_high_413 : decode cX12_high 413 = .ok (.aload_n 0, 1) := by decide +kernel
theorem dX12_high_414 : decode cX12_high 414 = .ok (.aload_n 0, 1) := by decide +kernel
theorem dX12_high_415 : decode cX12_high 415 = .ok (.aload_n 0, 1) := by decide +kernel
theorem dX12_high_416 : decode cX12_high 416 = .ok (.invokevirtual 579, 3) := by decide +kernel
theorem dX12_high_419 : decode cX12_high 419 = .ok (.i2l, 1) := by decide +kernel
theorem dX12_high_420 : decode cX12_high 420 = .ok (.invokevirtual 647, 3) := by decide +kernel
theorem dX12_high_423 : decode cX12_high 423 = .ok (.invokevirtual 564, 3) := by decide +kernel
theorem dX12_high_426 : decode cX12_high 426 = .ok (.return_, 1) := by decide +kernel
theorem dX12_high_427 : decode cX12_high 427 = .ok (.aload_n 0, 1) := by decide +kernel
theorem dX12_high_428 : decode cX12_high 428 = .ok (.iconst 1, 1) := by decide +kernel
theorem dX12_high_429 : decode cX12_high 429 = .ok (.invokevirtual 576, 3) := by decide +kernel
theorem dX12_high_432 : decode cX12_high 432 = .ok (.istore_n 2, 1) := by decide +kernel
theorem dX12_high_433 : decode cX12_high 433 = .ok (.return_, 1) := by decide +kernel
theorem dX12_high_434 : decode cX12_high 434 = .ok (.aload_n 0, 1) := by decide +kernel
theorem dX12_high_435 : decode cX12_high 435 = .ok (.iconst 1, 1) := by decide +kernel
theorem dX12_high_436 : decode cX12_high 436 = .ok (.invokevirtual 674, 3) := by decide +kernel
theorem dX12_high_439 : decode cX12_high 439 = .ok (.return_, 1) := by decide +kernel
theorem dX12_high_440 : decode cX12_high 440 = .ok (.aload_n 0, 1) := by decide +kernel
theorem dX12_high_441 : decode cX12_high 441 = .ok (.bipush 16, 2) := by decide +kernel
theorem dX12_high_443 : decode cX12_high 443 = .ok (.iconst 1, 1) := by decide +kernel
theorem dX12_high_444 : decode cX12_high 444 = .ok (.invokevirtual 696, 3) := by decide +kernel
theorem dX12_high_447 : decode cX12_high 447 = .ok (.return_, 1) := by decide +kernel
theorem dX12_high_448 : decode cX12_high 448 = .ok (.aload_n 0, 1) := by decide +kernel
theorem dX12_high_449 : decode cX12_high 449 = .ok (.bipush 32, 2) := by decide +kernel
theorem dX12_high_451 : decode cX12_high 451 = .ok (.iconst 1, 1) := by decide +kernel
theorem dX12_high_452 : decode cX12_high 452 = .ok (.invokevirtual 696, 3) := by decide +kernel
theorem dX12_high_455 : decode cX12_high 455 = .ok (.return_, 1) := by decide +kernel
theorem dX12_high_456 : decode cX12_high 456 = .ok (.aload_n 0, 1) := by decide +kernel
theorem dX12_high_457 : decode cX12_high 457 = .ok (.iconst 0, 1) := by decide +kernel
theorem dX12_high_458 : decode cX12_high 458 = .ok (.iconst 0, 1) := by decide +kernel
theorem dX12_high_459 : decode cX12_high 459 = .ok (.invokevirtual 696, 3) := by decide +kernel
theorem dX12_high_462 : decode cX12_high 462 = .ok (.return_, 1) := by decide +kernel
theorem dX12_high_463 : decode cX12_high 463 = .ok (.aload_n 0, 1) := by decide +kernel
theorem dX12_high_464 : decode cX12_high 464 = .ok (.bipush 16, 2) := by decide +kernel
theorem dX12_high_466 : decode cX12_high 466 = .ok (.iconst 0, 1) := by decide +kernel
theorem dX12_high_467 : decode cX12_high 467 = .ok (.invokevirtual 696, 3) := by decide +kernel
theorem dX12_high_470 : decode cX12_high 470 = .ok (.return_, 1) := by decide +kernel
theorem dX12_high_471 : decode cX12_high 471 = .ok (.aload_n 0, 1) := by decide +kernel
theorem dX12_high_472 : decode cX12_high 472 = .ok (.bipush 32, 2) := by decide +kernel
theorem dX12_high_474 : decode cX12_high 474 = .ok (.iconst 0, 1) := by decide +kernel
theorem dX12_high_475 : decode cX12_high 475 = .ok (.invokevirtual 696, 3) := by decide +kernel
theorem dX12_high_478 : decode cX12_high 478 = .ok (.return_, 1) := by decide +kernel
theorem dX12_high_479 : decode cX12_high 479 = .ok (.aload_n 0, 1) := by decide +kernel
theorem dX12_high_480 : decode cX12_high 480 = .ok (.iload_n 1, 1) := by decide +kernel
theorem dX12_high_481 : decode cX12_high 481 = .ok (.invokevirtual 733, 3) := by decide +kernel
theorem dX12_high_484 : decode cX12_high 484 = .ok (.return_, 1) := by decide +kernel
theorem dX12_high_485 : decode cX12_high 485 = .ok (.aload_n 0, 1) := by decide +kernel
theorem dX12_high_486 : decode cX12_high 486 = .ok (.iconst 2, 1) := by decide +kernel
theorem dX12_high_487 : decode cX12_high 487 = .ok (.invokevirtual 576, 3) := by decide +kernel
theorem dX12_high_490 : decode cX12_high 490 = .ok (.ifCond .eq 42, 3) := by decide +kernel
theorem dX12_high_493 : decode cX12_high 493 = .ok (.aload_n 0, 1) := by decide +kernel
theorem dX12_high_494 : decode cX12_high 494 = .ok (.invokevirtual 579, 3) := by decide +kernel
theorem dX12_high_497 : decode cX12_high 497 = .ok (.istore_n 2, 1) := by decide +kernel
theorem dX12_high_498 : decode cX12_high 498 = .ok (.aload_n 0, 1) := by decide +kernel
theorem dX12_high_499 : decode cX12_high 499 = .ok (.invokevirtual 579, 3) := by decide +kernel
theorem dX12_high_502 : decode cX12_high 502 = .ok (.istore_n 3, 1) := by decide +kernel
theorem dX12_high_503 : decode cX12_high 503 = .ok (.iload_n 2, 1) := by decide +kernel
theorem dX12_high_504 : decode cX12_high 504 = .ok (.ifCond .eq 7, 3) := by decide +kernel
theorem dX12_high_507 : decode cX12_high 507 = .ok (.iconst 1, 1) := by decide +kernel
theorem dX12_high_508 : decode cX12_high 508 = .ok (.goto 4, 3) := by decide +kernel
theorem dX12_high_511 : decode cX12_high 511 = .ok (.iconst 0, 1) := by decide +kernel
theorem dX12_high_512 : decode cX12_high 512 = .ok (.iload_n 1, 1) := by decide +kernel
theorem dX12_high_513 : decode cX12_high 513 = .ok (.bipush 120, 2) := by decide +kernel
theorem dX12_high_515 : decode cX12_high 515 = .ok (.if_icmp .ne 7, 3) := by decide +kernel
theorem dX12_high_518 : decode cX12_high 518 = .ok (.iconst 1, 1) := by decide +kernel
theorem dX12_high_519 : decode cX12_high 519 = .ok (.goto 4, 3) := by decide +kernel
theorem dX12_high_522 : decode cX12_high 522 = .ok (.iconst 0, 1) := by decide +kernel
theorem dX12_high_523 : decode cX12_high 523 = .ok (.if_icmp .ne 9, 3) := by decide +kernel
theorem dX12_high_526 : decode cX12_high 526 = .ok (.aload_n 0, 1) := by decide +kernel
theorem dX12_high_527 : decode cX12_high 527 = .ok (.iload_n 3, 1) := by decide +kernel
theorem dX12_high_528 : decode cX12_high 528 = .ok (.i2l, 1) := by decide +kernel
theorem dX12_high_529 : decode cX12_high 529 = .ok (.invokevirtual 602, 3) := by decide +kernel
theorem dX12_high_532 : decode cX12_high 532 = .ok (.return_, 1) := by decide +kernel
theorem dX12_high_533 : decode cX12_high 533 = .ok (.aload_n 0, 1) := by decide +kernel
theorem dX12_high_534 : decode cX12_high 534 = .ok (.bipush 122, 2) := by decide +kernel
theorem dX12_high_536 : decode cX12_high 536 = .ok (.putfield 476, 3) := by decide +kernel
theorem dX12_high_539 : decode cX12_high 539 = .ok (.return_, 1) := by decide +kernel
theorem dX12_high_540 : decode cX12_high 540 = .ok (.aload_n 0, 1) := by decide +kernel
theorem dX12_high_541 : decode cX12_high 541 = .ok (.bipush 124, 2) := by decide +kernel
theorem dX12_high_543 : decode cX12_high 543 = .ok (.bipush 64, 2) := by decide +kernel
theorem dX12_high_545 : decode cX12_high 545 = .ok (.iconst 0, 1) := by decide +kernel
theorem dX12_high_546 : decode cX12_high 546 = .ok (.bipush 63, 2) := by decide +kernel
theorem dX12_high_548 : decode cX12_high 548 = .ok (.invokevirtual 472, 3) := by decide +kernel
theorem dX12_high_551 : decode cX12_high 551 = .ok (.return_, 1) := by decide +kernel
theorem dX12_high_552 : decode cX12_high 552 = .ok (.aload_n 0, 1) := by decide +kernel
theorem dX12_high_553 : decode cX12_high 553 = .ok (.bipush 125, 2) := by decide +kernel
theorem dX12_high_555 : decode cX12_high 555 = .ok (.bipush 64, 2) := by decide +kernel
theorem dX12_high_557 : decode cX12_high 557 = .ok (.iconst 0, 1) := by decide +kernel
theorem dX12_high_558 : decode cX12_high 558 = .ok (.iconst 0, 1) := by decide +kernel
theorem dX12_high_559 : decode cX12_high 559 = .ok (.invokevirtual 472, 3) := by decide +kernel
theorem dX12_high_562 : decode cX12_high 562 = .ok (.return_, 1) := by decide +kernel
theorem dX12_high_563 : decode cX12_high 563 = .ok (.aload_n 0, 1) := by decide +kernel
theorem dX12_high_564 : decode cX12_high 564 = .ok (.iload_n 1, 1) := by decide +kernel
theorem dX12_high_565 : decode cX12_high 565 = .ok (.invokevirtual 736, 3) := by decide +kernel
theorem dX12_high_568 : decode cX12_high 568 = .ok (.return_, 1) := by decide +kernel
def B_X12_high_335 (N : Nat)  (s1 : Int64) (V : sv_V) : Option sv_V := (F_X12_push s1 V).bind (fun V1 => some V1)
set_option maxRecDepth 20000 in
theorem tB_X12_high_335 {g : sx_G} (hG : sx_Go g) {P : Option Value → sv_V → Prop} {Vr : sv_V} (hP : P none Vr) {N : Nat}   {s1 : Int64} {V : sv_V} (h : B_X12_high_335 N  s1 V = some Vr) : sv_N g qX12_high 6 335 [] [.long s1, .ref 146] V P := by
  unfold B_X12_high_335 at h
  obtain ⟨V1, g2, h⟩ := sx_bnd h
  refine sv_cV (pc := 335) (y := qX12_push) (o := none) (as := [.long s1]) (V1 := V1) hG dX12_high_335 l_X12_564 y0X12_push yvX12_push rfl (Nat.le_of_ble_eq_true rfl) lay_146 kr_12 (by decide) (Nat.le_of_ble_eq_true rfl) rfl rfl rfl (t_X12_push hG ⟨rfl, rfl⟩ g2) ?_
  exact sv_vret (pc := 338) dX12_high_338 rfl h hP
def B_X12_high_236 (N : Nat)  (l1 : Int32) (l2 : Int64) (l4 : Int64) (V : sv_V) : Option sv_V := if l1 = (96 : Int32) then (B_X12_high_335 N  (l4 + l2) V) else (if l1 = (97 : Int32) then (B_X12_high_335 N  (l4 - l2) V) else (if l1 = (98 : Int32) then (if ¬ l2 = 0 then B_X12_high_335 N  ((l4 * (64 : Int64)) / l2) V else none) else (if l1 = (99 : Int32) then ((F_X12_over (l4 * l2) (64 : Int64) V).bind (fun (x12, V10) => B_X12_high_335 N  x12 V10)) else (if l1 = (139 : Int32) then (if (lg_cmp l4 l2) ≤ 0 then (B_X12_high_335 N  l2 V) else (B_X12_high_335 N  l4 V)) else (if 0 ≤ (lg_cmp l4 l2) then (B_X12_high_335 N  l2 V) else (B_X12_high_335 N  l4 V))))))
set_option maxRecDepth 20000 in
theorem tB_X12_high_236 {g : sx_G} (hG : sx_Go g) {P : Option Value → sv_V → Prop} {Vr : sv_V} (hP : P none Vr) {N : Nat}   {l1 : Int32} {l2 : Int64} {l4 : Int64} {V : sv_V} (h : B_X12_high_236 N  l1 l2 l4 V = some Vr) : sv_N g qX12_high 6 236 [(0, .ref 146), (1, .int l1), (2, .long l2), (4, .long l4)] [] V P := by
  unfold B_X12_high_236 at h
  refine sx_aload_n (pc := 236) dX12_high_236 sx_m0 ?_
  refine sx_iload_n (pc := 237) dX12_high_237 sx_m1 ?_
  refine sx_bipush (pc := 238) (v := 96) dX12_high_238 (by decide) ?_
  refine sx_icmp_ne (pc := 240) (tgt := 250) dX12_high_240 (by decide) (fun c3 => ?_) (fun c3 => ?_)
  · have h := sx_neg c3 h
    refine sx_iload_n (pc := 250) dX12_high_250 sx_m1 ?_
    refine sx_bipush (pc := 251) (v := 97) dX12_high_251 (by decide) ?_
    refine sx_icmp_ne (pc := 253) (tgt := 263) dX12_high_253 (by decide) (fun c4 => ?_) (fun c4 => ?_)
    · have h := sx_neg c4 h
      refine sx_iload_n (pc := 263) dX12_high_263 sx_m1 ?_
      refine sx_bipush (pc := 264) (v := 98) dX12_high_264 (by decide) ?_
      refine sx_icmp_ne (pc := 266) (tgt := 280) dX12_high_266 (by decide) (fun c5 => ?_) (fun c5 => ?_)
      · have h := sx_neg c5 h
        refine sx_iload_n (pc := 280) dX12_high_280 sx_m1 ?_
        refine sx_bipush (pc := 281) (v := 99) dX12_high_281 (by decide) ?_
        refine sx_icmp_ne (pc := 283) (tgt := 299) dX12_high_283 (by decide) (fun c6 => ?_) (fun c6 => ?_)
        · have h := sx_neg c6 h
          refine sx_iload_n (pc := 299) dX12_high_299 sx_m1 ?_
          refine sx_sipush (pc := 300) (v := 139) dX12_high_300 (by decide) ?_
          refine sx_icmp_ne (pc := 303) (tgt := 322) dX12_high_303 (by decide) (fun c7 => ?_) (fun c7 => ?_)
          · have h := sx_neg c7 h
            refine sx_lload (pc := 322) dX12_high_322 sx_m3 ?_
            refine sx_lload_n (pc := 324) dX12_high_324 sx_m2 ?_
            refine sx_lcmp (pc := 325) dX12_high_325 ?_
            refine sx_if_ge (pc := 326) (tgt := 334) dX12_high_326 (by decide) (fun c8 => ?_) (fun c8 => ?_)
            · have h := sx_pos c8 h
              refine sx_lload_n (pc := 334) dX12_high_334 sx_m2 ?_
              refine sx_wk sx_s0 ?_
              exact tB_X12_high_335 hG hP  h
            · have h := sx_neg c8 h
              refine sx_lload (pc := 329) dX12_high_329 sx_m3 ?_
              refine sx_goto (pc := 331) (tgt := 335) dX12_high_331 (by decide) ?_
              refine sx_wk sx_s0 ?_
              exact tB_X12_high_335 hG hP  h
          · have h := sx_pos c7 h
            refine sx_lload (pc := 306) dX12_high_306 sx_m3 ?_
            refine sx_lload_n (pc := 308) dX12_high_308 sx_m2 ?_
            refine sx_lcmp (pc := 309) dX12_high_309 ?_
            refine sx_if_le (pc := 310) (tgt := 318) dX12_high_310 (by decide) (fun c9 => ?_) (fun c9 => ?_)
            · have h := sx_pos c9 h
              refine sx_lload_n (pc := 318) dX12_high_318 sx_m2 ?_
              refine sx_goto (pc := 319) (tgt := 335) dX12_high_319 (by decide) ?_
              refine sx_wk sx_s0 ?_
              exact tB_X12_high_335 hG hP  h
            · have h := sx_neg c9 h
              refine sx_lload (pc := 313) dX12_high_313 sx_m3 ?_
              refine sx_goto (pc := 315) (tgt := 335) dX12_high_315 (by decide) ?_
              refine sx_wk sx_s0 ?_
              exact tB_X12_high_335 hG hP  h
        · have h := sx_pos c6 h
          refine sx_lload (pc := 286) dX12_high_286 sx_m3 ?_
          refine sx_lload_n (pc := 288) dX12_high_288 sx_m2 ?_
          refine sx_lmul (pc := 289) dX12_high_289 ?_
          refine sx_ldc2 (pc := 290) dX12_high_290 k_X12_338 ?_
          obtain ⟨⟨x12, V10⟩, g11, h⟩ := sx_bnd h
          refine sv_cS (pc := 293) (y := qX12_over) (o := (some (.long x12))) (as := [.long (l4 * l2), .long (64 : Int64)]) (V1 := V10) dX12_high_293 l_X12_517 y0X12_over ysX12_over rfl (Nat.le_of_ble_eq_true rfl) (by decide) (Nat.le_of_ble_eq_true rfl) rfl rfl rfl (t_X12_over hG ⟨rfl, rfl⟩ g11) ?_
          refine sx_goto (pc := 296) (tgt := 335) dX12_high_296 (by decide) ?_
          refine sx_wk sx_s0 ?_
          exact tB_X12_high_335 hG hP  h
      · have h := sx_pos c5 h
        refine sx_lload (pc := 269) dX12_high_269 sx_m3 ?_
        refine sx_ldc2 (pc := 271) dX12_high_271 k_X12_338 ?_
        refine sx_lmul (pc := 274) dX12_high_274 ?_
        refine sx_lload_n (pc := 275) dX12_high_275 sx_m2 ?_
        obtain ⟨g13, h⟩ := sx_grd h
        refine sx_ldiv (pc := 276) dX12_high_276 g13 ?_
        refine sx_goto (pc := 277) (tgt := 335) dX12_high_277 (by decide) ?_
        refine sx_wk sx_s0 ?_
        exact tB_X12_high_335 hG hP  h
    · have h := sx_pos c4 h
      refine sx_lload (pc := 256) dX12_high_256 sx_m3 ?_
      refine sx_lload_n (pc := 258) dX12_high_258 sx_m2 ?_
      refine sx_lsub (pc := 259) dX12_high_259 ?_
      refine sx_goto (pc := 260) (tgt := 335) dX12_high_260 (by decide) ?_
      refine sx_wk sx_s0 ?_
      exact tB_X12_high_335 hG hP  h
  · have h := sx_pos c3 h
    refine sx_lload (pc := 243) dX12_high_243 sx_m3 ?_
    refine sx_lload_n (pc := 245) dX12_high_245 sx_m2 ?_
    refine sx_ladd (pc := 246) dX12_high_246 ?_
    refine sx_goto (pc := 247) (tgt := 335) dX12_high_247 (by decide) ?_
    refine sx_wk sx_s0 ?_
    exact tB_X12_high_335 hG hP  h
def B_X12_high_196 (N : Nat)  (l1 : Int32) (V : sv_V) : Option sv_V := (F_X12_has (2 : Int32) V).bind (fun (x16, V14) => if x16 = 0 then (some V14) else ((F_X12_pop  V14).bind (fun (x20, V18) => sx_let (x20.toInt64) (fun x21 => (F_X12_pop  V18).bind (fun (x24, V22) => sx_let (x24.toInt64) (fun x25 => if l1 = (98 : Int32) then (if (lg_cmp x21 (0 : Int64)) = 0 then ((F_X12_fail (7 : Int32) V22).bind (fun V28 => some V28)) else (B_X12_high_236 N  l1 x21 x25 V22)) else (B_X12_high_236 N  l1 x21 x25 V22)))))))
set_option maxRecDepth 20000 in
theorem tB_X12_high_196 {g : sx_G} (hG : sx_Go g) {P : Option Value → sv_V → Prop} {Vr : sv_V} (hP : P none Vr) {N : Nat}   {l1 : Int32} {V : sv_V} (h : B_X12_high_196 N  l1 V = some Vr) : sv_N g qX12_high 6 196 [(0, .ref 146), (1, .int l1)] [] V P := by
  unfold B_X12_high_196 at h
  refine sx_aload_n (pc := 196) dX12_high_196 sx_m0 ?_
  refine sx_iconst (pc := 197) (v := 2) dX12_high_197 (by decide) ?_
  obtain ⟨⟨x16, V14⟩, g15, h⟩ := sx_bnd h
  refine sv_cV (pc := 198) (y := qX12_has) (o := (some (.int x16))) (as := [.int (2 : Int32)]) (V1 := V14) hG dX12_high_198 l_X12_576 y0X12_has yvX12_has rfl (Nat.le_of_ble_eq_true rfl) lay_146 kr_12 (by decide) (Nat.le_of_ble_eq_true rfl) rfl rfl rfl (t_X12_has hG ⟨rfl, rfl⟩ g15) ?_
  refine sx_if_eq (pc := 201) (tgt := 338) dX12_high_201 (by decide) (fun c17 => ?_) (fun c17 => ?_)
  · have h := sx_pos c17 h
    exact sv_vret (pc := 338) dX12_high_338 rfl h hP
  · have h := sx_neg c17 h
    refine sx_aload_n (pc := 204) dX12_high_204 sx_m0 ?_
    obtain ⟨⟨x20, V18⟩, g19, h⟩ := sx_bnd h
    refine sv_cV (pc := 205) (y := qX12_pop) (o := (some (.int x20))) (as := []) (V1 := V18) hG dX12_high_205 l_X12_579 y0X12_pop yvX12_pop rfl (Nat.le_of_ble_eq_true rfl) lay_146 kr_12 (by decide) (Nat.le_of_ble_eq_true rfl) rfl rfl rfl (t_X12_pop hG ⟨rfl, rfl⟩ g19) ?_
    refine sx_i2l (pc := 208) dX12_high_208 ?_
    refine sv_tJ (fun x21 hx21 => ?_)
    have h := sx_letE hx21 h
    refine sx_lstore_n (pc := 209) (lo' := [(2, .long x21), (0, .ref 146), (1, .int l1)]) dX12_high_209 (by decide) rfl ?_
    refine sx_aload_n (pc := 210) dX12_high_210 sx_m1 ?_
    obtain ⟨⟨x24, V22⟩, g23, h⟩ := sx_bnd h
    refine sv_cV (pc := 211) (y := qX12_pop) (o := (some (.int x24))) (as := []) (V1 := V22) hG dX12_high_211 l_X12_579 y0X12_pop yvX12_pop rfl (Nat.le_of_ble_eq_true rfl) lay_146 kr_12 (by decide) (Nat.le_of_ble_eq_true rfl) rfl rfl rfl (t_X12_pop hG ⟨rfl, rfl⟩ g23) ?_
    refine sx_i2l (pc := 214) dX12_high_214 ?_
    refine sv_tJ (fun x25 hx25 => ?_)
    have h := sx_letE hx25 h
    refine sx_lstore (pc := 215) (lo' := [(4, .long x25), (2, .long x21), (0, .ref 146), (1, .int l1)]) dX12_high_215 (by decide) rfl ?_
    refine sx_iload_n (pc := 217) dX12_high_217 sx_m3 ?_
    refine sx_bipush (pc := 218) (v := 98) dX12_high_218 (by decide) ?_
    refine sx_icmp_ne (pc := 220) (tgt := 236) dX12_high_220 (by decide) (fun c26 => ?_) (fun c26 => ?_)
    · have h := sx_neg c26 h
      refine sx_wk (sx_s1 sx_m2 (sx_s1 sx_m3 (sx_s1 sx_m1 (sx_s1 sx_m0 sx_s0)))) ?_
      exact tB_X12_high_236 hG hP  h
    · have h := sx_pos c26 h
      refine sx_lload_n (pc := 223) dX12_high_223 sx_m1 ?_
      refine sx_lconst (pc := 224) (v := 0) dX12_high_224 rfl ?_
      refine sx_lcmp (pc := 225) dX12_high_225 ?_
      refine sx_if_ne (pc := 226) (tgt := 236) dX12_high_226 (by decide) (fun c27 => ?_) (fun c27 => ?_)
      · have h := sx_neg c27 h
        refine sx_wk (sx_s1 sx_m2 (sx_s1 sx_m3 (sx_s1 sx_m1 (sx_s1 sx_m0 sx_s0)))) ?_
        exact tB_X12_high_236 hG hP  h
      · have h := sx_pos c27 h
        refine sx_aload_n (pc := 229) dX12_high_229 sx_m2 ?_
        refine sx_bipush (pc := 230) (v := 7) dX12_high_230 (by decide) ?_
        obtain ⟨V28, g29, h⟩ := sx_bnd h
        refine sv_cV (pc := 232) (y := qX12_fail) (o := none) (as := [.int (7 : Int32)]) (V1 := V28) hG dX12_high_232 l_X12_421 y0X12_fail yvX12_fail rfl (Nat.le_of_ble_eq_true rfl) lay_146 kr_12 (by decide) (Nat.le_of_ble_eq_true rfl) rfl rfl rfl (t_X12_fail hG ⟨rfl, rfl⟩ g29) ?_
        exact sv_vret (pc := 235) dX12_high_235 rfl h hP
def B_X12_high_401 (N : Nat)  (s1 : Int64) (V : sv_V) : Option sv_V := (F_X12_push s1 V).bind (fun V30 => some V30)
set_option maxRecDepth 20000 in
theorem tB_X12_high_401 {g : sx_G} (hG : sx_Go g) {P : Option Value → sv_V → Prop} {Vr : sv_V} (hP : P none Vr) {N : Nat}   {s1 : Int64} {V : sv_V} (h : B_X12_high_401 N  s1 V = some Vr) : sv_N g qX12_high 6 401 [] [.long s1, .ref 146] V P := by
  unfold B_X12_high_401 at h
  obtain ⟨V30, g31, h⟩ := sx_bnd h
  refine sv_cV (pc := 401) (y := qX12_push) (o := none) (as := [.long s1]) (V1 := V30) hG dX12_high_401 l_X12_564 y0X12_push yvX12_push rfl (Nat.le_of_ble_eq_true rfl) lay_146 kr_12 (by decide) (Nat.le_of_ble_eq_true rfl) rfl rfl rfl (t_X12_push hG ⟨rfl, rfl⟩ g31) ?_
  exact sv_vret (pc := 404) dX12_high_404 rfl h hP
def B_X12_high_339 (N : Nat)  (l1 : Int32) (V : sv_V) : Option sv_V := (F_X12_has (1 : Int32) V).bind (fun (x34, V32) => if x34 = 0 then (some V32) else ((F_X12_pop  V32).bind (fun (x38, V36) => sx_let (x38.toInt64) (fun x39 => if l1 = (100 : Int32) then ((F_X12_sizeOf x39 V36).bind (fun (x45, V43) => B_X12_high_401 N  x45 V43)) else (if l1 = (101 : Int32) then (B_X12_high_401 N  (-x39) V36) else (if l1 = (102 : Int32) then (B_X12_high_401 N  (x39 &&& (-64 : Int64)) V36) else (B_X12_high_401 N  ((x39 + (63 : Int64)) &&& (-64 : Int64)) V36)))))))
set_option maxRecDepth 20000 in
theorem tB_X12_high_339 {g : sx_G} (hG : sx_Go g) {P : Option Value → sv_V → Prop} {Vr : sv_V} (hP : P none Vr) {N : Nat}   {l1 : Int32} {V : sv_V} (h : B_X12_high_339 N  l1 V = some Vr) : sv_N g qX12_high 6 339 [(0, .ref 146), (1, .int l1)] [] V P := by
  unfold B_X12_high_339 at h
  refine sx_aload_n (pc := 339) dX12_high_339 sx_m0 ?_
  refine sx_iconst (pc := 340) (v := 1) dX12_high_340 (by decide) ?_
  obtain ⟨⟨x34, V32⟩, g33, h⟩ := sx_bnd h
  refine sv_cV (pc := 341) (y := qX12_has) (o := (some (.int x34))) (as := [.int (1 : Int32)]) (V1 := V32) hG dX12_high_341 l_X12_576 y0X12_has yvX12_has rfl (Nat.le_of_ble_eq_true rfl) lay_146 kr_12 (by decide) (Nat.le_of_ble_eq_true rfl) rfl rfl rfl (t_X12_has hG ⟨rfl, rfl⟩ g33) ?_
  refine sx_if_eq (pc := 344) (tgt := 404) dX12_high_344 (by decide) (fun c35 => ?_) (fun c35 => ?_)
  · have h := sx_pos c35 h
    exact sv_vret (pc := 404) dX12_high_404 rfl h hP
  · have h := sx_neg c35 h
    refine sx_aload_n (pc := 347) dX12_high_347 sx_m0 ?_
    obtain ⟨⟨x38, V36⟩, g37, h⟩ := sx_bnd h
    refine sv_cV (pc := 348) (y := qX12_pop) (o := (some (.int x38))) (as := []) (V1 := V36) hG dX12_high_348 l_X12_579 y0X12_pop yvX12_pop rfl (Nat.le_of_ble_eq_true rfl) lay_146 kr_12 (by decide) (Nat.le_of_ble_eq_true rfl) rfl rfl rfl (t_X12_pop hG ⟨rfl, rfl⟩ g37) ?_
    refine sx_i2l (pc := 351) dX12_high_351 ?_
    refine sv_tJ (fun x39 hx39 => ?_)
    have h := sx_letE hx39 h
    refine sx_lstore_n (pc := 352) (lo' := [(2, .long x39), (0, .ref 146), (1, .int l1)]) dX12_high_352 (by decide) rfl ?_
    refine sx_aload_n (pc := 353) dX12_high_353 sx_m1 ?_
    refine sx_iload_n (pc := 354) dX12_high_354 sx_m2 ?_
    refine sx_bipush (pc := 355) (v := 100) dX12_high_355 (by decide) ?_
    refine sx_icmp_ne (pc := 357) (tgt := 367) dX12_high_357 (by decide) (fun c40 => ?_) (fun c40 => ?_)
    · have h := sx_neg c40 h
      refine sx_iload_n (pc := 367) dX12_high_367 sx_m2 ?_
      refine sx_bipush (pc := 368) (v := 101) dX12_high_368 (by decide) ?_
      refine sx_icmp_ne (pc := 370) (tgt := 378) dX12_high_370 (by decide) (fun c41 => ?_) (fun c41 => ?_)
      · have h := sx_neg c41 h
        refine sx_iload_n (pc := 378) dX12_high_378 sx_m2 ?_
        refine sx_bipush (pc := 379) (v := 102) dX12_high_379 (by decide) ?_
        refine sx_icmp_ne (pc := 381) (tgt := 392) dX12_high_381 (by decide) (fun c42 => ?_) (fun c42 => ?_)
        · have h := sx_neg c42 h
          refine sx_lload_n (pc := 392) dX12_high_392 sx_m0 ?_
          refine sx_ldc2 (pc := 393) dX12_high_393 k_X12_731 ?_
          refine sx_ladd (pc := 396) dX12_high_396 ?_
          refine sx_ldc2 (pc := 397) dX12_high_397 k_X12_204 ?_
          refine sx_land (pc := 400) dX12_high_400 ?_
          refine sx_wk sx_s0 ?_
          exact tB_X12_high_401 hG hP  h
        · have h := sx_pos c42 h
          refine sx_lload_n (pc := 384) dX12_high_384 sx_m0 ?_
          refine sx_ldc2 (pc := 385) dX12_high_385 k_X12_204 ?_
          refine sx_land (pc := 388) dX12_high_388 ?_
          refine sx_goto (pc := 389) (tgt := 401) dX12_high_389 (by decide) ?_
          refine sx_wk sx_s0 ?_
          exact tB_X12_high_401 hG hP  h
      · have h := sx_pos c41 h
        refine sx_lload_n (pc := 373) dX12_high_373 sx_m0 ?_
        refine sx_lneg (pc := 374) dX12_high_374 ?_
        refine sx_goto (pc := 375) (tgt := 401) dX12_high_375 (by decide) ?_
        refine sx_wk sx_s0 ?_
        exact tB_X12_high_401 hG hP  h
    · have h := sx_pos c40 h
      refine sx_lload_n (pc := 360) dX12_high_360 sx_m0 ?_
      obtain ⟨⟨x45, V43⟩, g44, h⟩ := sx_bnd h
      refine sv_cS (pc := 361) (y := qX12_sizeOf) (o := (some (.long x45))) (as := [.long x39]) (V1 := V43) dX12_high_361 l_X12_198 y0X12_sizeOf ysX12_sizeOf rfl (Nat.le_of_ble_eq_true rfl) (by decide) (Nat.le_of_ble_eq_true rfl) rfl rfl rfl (t_X12_sizeOf hG ⟨rfl, rfl⟩ g44) ?_
      refine sx_goto (pc := 364) (tgt := 401) dX12_high_364 (by decide) ?_
      refine sx_wk sx_s0 ?_
      exact tB_X12_high_401 hG hP  h
def B_X12_high_405 (N : Nat)   (V : sv_V) : Option sv_V := (F_X12_has (1 : Int32) V).bind (fun (x48, V46) => if x48 = 0 then (some V46) else ((F_X12_pop  V46).bind (fun (x52, V50) => (F_X12_rounded x52.toInt64 V50).bind (fun (x55, V53) => (F_X12_push x55 V53).bind (fun V56 => some V56)))))
set_option maxRecDepth 20000 in
theorem tB_X12_high_405 {g : sx_G} (hG : sx_Go g) {P : Option Value → sv_V → Prop} {Vr : sv_V} (hP : P none Vr) {N : Nat}    {V : sv_V} (h : B_X12_high_405 N   V = some Vr) : sv_N g qX12_high 6 405 [(0, .ref 146)] [] V P := by
  unfold B_X12_high_405 at h
  refine sx_aload_n (pc := 405) dX12_high_405 sx_m0 ?_
  refine sx_iconst (pc := 406) (v := 1) dX12_high_406 (by decide) ?_
  obtain ⟨⟨x48, V46⟩, g47, h⟩ := sx_bnd h
  refine sv_cV (pc := 407) (y := qX12_has) (o := (some (.int x48))) (as := [.int (1 : Int32)]) (V1 := V46) hG dX12_high_407 l_X12_576 y0X12_has yvX12_has rfl (Nat.le_of_ble_eq_true rfl) lay_146 kr_12 (by decide) (Nat.le_of_ble_eq_true rfl) rfl rfl rfl (t_X12_has hG ⟨rfl, rfl⟩ g47) ?_
  refine sx_if_eq (pc := 410) (tgt := 426) dX12_high_410 (by decide) (fun c49 => ?_) (fun c49 => ?_)
  · have h := sx_pos c49 h
    exact sv_vret (pc := 426) dX12_high_426 rfl h hP
  · have h := sx_neg c49 h
    refine sx_aload_n (pc := 413) dX12_high_413 sx_m0 ?_
    refine sx_aload_n (pc := 414) dX12_high_414 sx_m0 ?_
    refine sx_aload_n (pc := 415) dX12_high_415 sx_m0 ?_
    obtain ⟨⟨x52, V50⟩, g51, h⟩ := sx_bnd h
    refine sv_cV (pc := 416) (y := qX12_pop) (o := (some (.int x52))) (as := []) (V1 := V50) hG dX12_high_416 l_X12_579 y0X12_pop yvX12_pop rfl (Nat.le_of_ble_eq_true rfl) lay_146 kr_12 (by decide) (Nat.le_of_ble_eq_true rfl) rfl rfl rfl (t_X12_pop hG ⟨rfl, rfl⟩ g51) ?_
    refine sx_i2l (pc := 419) dX12_high_419 ?_
    obtain ⟨⟨x55, V53⟩, g54, h⟩ := sx_bnd h
    refine sv_cV (pc := 420) (y := qX12_rounded) (o := (some (.long x55))) (as := [.long x52.toInt64]) (V1 := V53) hG dX12_high_420 l_X12_647 y0X12_rounded yvX12_rounded rfl (Nat.le_of_ble_eq_true rfl) lay_146 kr_12 (by decide) (Nat.le_of_ble_eq_true rfl) rfl rfl rfl (t_X12_rounded hG ⟨rfl, rfl⟩ g54) ?_
    obtain ⟨V56, g57, h⟩ := sx_bnd h
    refine sv_cV (pc := 423) (y := qX12_push) (o := none) (as := [.long x55]) (V1 := V56) hG dX12_high_423 l_X12_564 y0X12_push yvX12_push rfl (Nat.le_of_ble_eq_true rfl) lay_146 kr_12 (by decide) (Nat.le_of_ble_eq_true rfl) rfl rfl rfl (t_X12_push hG ⟨rfl, rfl⟩ g57) ?_
    exact sv_vret (pc := 426) dX12_high_426 rfl h hP
def B_X12_high_427 (N : Nat)   (V : sv_V) : Option sv_V := (F_X12_has (1 : Int32) V).bind (fun (x60, V58) => some V58)
set_option maxRecDepth 20000 in
theorem tB_X12_high_427 {g : sx_G} (hG : sx_Go g) {P : Option Value → sv_V → Prop} {Vr : sv_V} (hP : P none Vr) {N : Nat}    {V : sv_V} (h : B_X12_high_427 N   V = some Vr) : sv_N g qX12_high 6 427 [(0, .ref 146)] [] V P := by
  unfold B_X12_high_427 at h
  refine sx_aload_n (pc := 427) dX12_high_427 sx_m0 ?_
  refine sx_iconst (pc := 428) (v := 1) dX12_high_428 (by decide) ?_
  obtain ⟨⟨x60, V58⟩, g59, h⟩ := sx_bnd h
  refine sv_cV (pc := 429) (y := qX12_has) (o := (some (.int x60))) (as := [.int (1 : Int32)]) (V1 := V58) hG dX12_high_429 l_X12_576 y0X12_has yvX12_has rfl (Nat.le_of_ble_eq_true rfl) lay_146 kr_12 (by decide) (Nat.le_of_ble_eq_true rfl) rfl rfl rfl (t_X12_has hG ⟨rfl, rfl⟩ g59) ?_
  refine sx_istore_n (pc := 432) (lo' := [(2, .int x60), (0, .ref 146)]) dX12_high_432 (by decide) rfl ?_
  exact sv_vret (pc := 433) dX12_high_433 rfl h hP
def B_X12_high_479 (N : Nat)  (l1 : Int32) (V : sv_V) : Option sv_V := (F_X12_ownRounding l1 V).bind (fun V61 => some V61)
set_option maxRecDepth 20000 in
theorem tB_X12_high_479 {g : sx_G} (hG : sx_Go g) {P : Option Value → sv_V → Prop} {Vr : sv_V} (hP : P none Vr) {N : Nat}   {l1 : Int32} {V : sv_V} (h : B_X12_high_479 N  l1 V = some Vr) : sv_N g qX12_high 6 479 [(0, .ref 146), (1, .int l1)] [] V P := by
  unfold B_X12_high_479 at h
  refine sx_aload_n (pc := 479) dX12_high_479 sx_m0 ?_
  refine sx_iload_n (pc := 480) dX12_high_480 sx_m1 ?_
  obtain ⟨V61, g62, h⟩ := sx_bnd h
  refine sv_cV (pc := 481) (y := qX12_ownRounding) (o := none) (as := [.int l1]) (V1 := V61) hG dX12_high_481 l_X12_733 y0X12_ownRounding yvX12_ownRounding rfl (Nat.le_of_ble_eq_true rfl) lay_146 kr_12 (by decide) (Nat.le_of_ble_eq_true rfl) rfl rfl rfl (t_X12_ownRounding hG ⟨rfl, rfl⟩ g62) ?_
  exact sv_vret (pc := 484) dX12_high_484 rfl h hP
def B_X12_high_523 (N : Nat)  (l3 : Int32) (s0 : Int32) (s1 : Int32) (V : sv_V) : Option sv_V := if s0 = s1 then ((F_X12_jump l3.toInt64 V).bind (fun V64 => some V64)) else (some V)
set_option maxRecDepth 20000 in
theorem tB_X12_high_523 {g : sx_G} (hG : sx_Go g) {P : Option Value → sv_V → Prop} {Vr : sv_V} (hP : P none Vr) {N : Nat}   {l3 : Int32} {s0 : Int32} {s1 : Int32} {V : sv_V} (h : B_X12_high_523 N  l3 s0 s1 V = some Vr) : sv_N g qX12_high 6 523 [(0, .ref 146), (3, .int l3)] [.int s1, .int s0] V P := by
  unfold B_X12_high_523 at h
  refine sx_icmp_ne (pc := 523) (tgt := 532) dX12_high_523 (by decide) (fun c63 => ?_) (fun c63 => ?_)
  · have h := sx_neg c63 h
    exact sv_vret (pc := 532) dX12_high_532 rfl h hP
  · have h := sx_pos c63 h
    refine sx_aload_n (pc := 526) dX12_high_526 sx_m0 ?_
    refine sx_iload_n (pc := 527) dX12_high_527 sx_m1 ?_
    refine sx_i2l (pc := 528) dX12_high_528 ?_
    obtain ⟨V64, g65, h⟩ := sx_bnd h
    refine sv_cV (pc := 529) (y := qX12_jump) (o := none) (as := [.long l3.toInt64]) (V1 := V64) hG dX12_high_529 l_X12_602 y0X12_jump yvX12_jump rfl (Nat.le_of_ble_eq_true rfl) lay_146 kr_12 (by decide) (Nat.le_of_ble_eq_true rfl) rfl rfl rfl (t_X12_jump hG ⟨rfl, rfl⟩ g65) ?_
    exact sv_vret (pc := 532) dX12_high_532 rfl h hP
def B_X12_high_512 (N : Nat)  (l1 : Int32) (l3 : Int32) (s0 : Int32) (V : sv_V) : Option sv_V := if l1 = (120 : Int32) then (B_X12_high_523 N  l3 s0 (1 : Int32) V) else (B_X12_high_523 N  l3 s0 (0 : Int32) V)
set_option maxRecDepth 20000 in
theorem tB_X12_high_512 {g : sx_G} (hG : sx_Go g) {P : Option Value → sv_V → Prop} {Vr : sv_V} (hP : P none Vr) {N : Nat}   {l1 : Int32} {l3 : Int32} {s0 : Int32} {V : sv_V} (h : B_X12_high_512 N  l1 l3 s0 V = some Vr) : sv_N g qX12_high 6 512 [(0, .ref 146), (1, .int l1), (3, .int l3)] [.int s0] V P := by
  unfold B_X12_high_512 at h
  refine sx_iload_n (pc := 512) dX12_high_512 sx_m1 ?_
  refine sx_bipush (pc := 513) (v := 120) dX12_high_513 (by decide) ?_
  refine sx_icmp_ne (pc := 515) (tgt := 522) dX12_high_515 (by decide) (fun c66 => ?_) (fun c66 => ?_)
  · have h := sx_neg c66 h
    refine sx_iconst (pc := 522) (v := 0) dX12_high_522 (by decide) ?_
    refine sx_wk (sx_s1 sx_m0 (sx_s1 sx_m2 sx_s0)) ?_
    exact tB_X12_high_523 hG hP  h
  · have h := sx_pos c66 h
    refine sx_iconst (pc := 518) (v := 1) dX12_high_518 (by decide) ?_
    refine sx_goto (pc := 519) (tgt := 523) dX12_high_519 (by decide) ?_
    refine sx_wk (sx_s1 sx_m0 (sx_s1 sx_m2 sx_s0)) ?_
    exact tB_X12_high_523 hG hP  h
def B_X12_high_485 (N : Nat)  (l1 : Int32) (V : sv_V) : Option sv_V := (F_X12_has (2 : Int32) V).bind (fun (x69, V67) => if x69 = 0 then (some V67) else ((F_X12_pop  V67).bind (fun (x73, V71) => (F_X12_pop  V71).bind (fun (x76, V74) => if x73 = 0 then (B_X12_high_512 N  l1 x76 (0 : Int32) V74) else (B_X12_high_512 N  l1 x76 (1 : Int32) V74)))))
set_option maxRecDepth 20000 in
theorem tB_X12_high_485 {g : sx_G} (hG : sx_Go g) {P : Option Value → sv_V → Prop} {Vr : sv_V} (hP : P none Vr) {N : Nat}   {l1 : Int32} {V : sv_V} (h : B_X12_high_485 N  l1 V = some Vr) : sv_N g qX12_high 6 485 [(0, .ref 146), (1, .int l1)] [] V P := by
  unfold B_X12_high_485 at h
  refine sx_aload_n (pc := 485) dX12_high_485 sx_m0 ?_
  refine sx_iconst (pc := 486) (v := 2) dX12_high_486 (by decide) ?_
  obtain ⟨⟨x69, V67⟩, g68, h⟩ := sx_bnd h
  refine sv_cV (pc := 487) (y := qX12_has) (o := (some (.int x69))) (as := [.int (2 : Int32)]) (V1 := V67) hG dX12_high_487 l_X12_576 y0X12_has yvX12_has rfl (Nat.le_of_ble_eq_true rfl) lay_146 kr_12 (by decide) (Nat.le_of_ble_eq_true rfl) rfl rfl rfl (t_X12_has hG ⟨rfl, rfl⟩ g68) ?_
  refine sx_if_eq (pc := 490) (tgt := 532) dX12_high_490 (by decide) (fun c70 => ?_) (fun c70 => ?_)
  · have h := sx_pos c70 h
    exact sv_vret (pc := 532) dX12_high_532 rfl h hP
  · have h := sx_neg c70 h
    refine sx_aload_n (pc := 493) dX12_high_493 sx_m0 ?_
    obtain ⟨⟨x73, V71⟩, g72, h⟩ := sx_bnd h
    refine sv_cV (pc := 494) (y := qX12_pop) (o := (some (.int x73))) (as := []) (V1 := V71) hG dX12_high_494 l_X12_579 y0X12_pop yvX12_pop rfl (Nat.le_of_ble_eq_true rfl) lay_146 kr_12 (by decide) (Nat.le_of_ble_eq_true rfl) rfl rfl rfl (t_X12_pop hG ⟨rfl, rfl⟩ g72) ?_
    refine sx_istore_n (pc := 497) (lo' := [(2, .int x73), (0, .ref 146), (1, .int l1)]) dX12_high_497 (by decide) rfl ?_
    refine sx_aload_n (pc := 498) dX12_high_498 sx_m1 ?_
    obtain ⟨⟨x76, V74⟩, g75, h⟩ := sx_bnd h
    refine sv_cV (pc := 499) (y := qX12_pop) (o := (some (.int x76))) (as := []) (V1 := V74) hG dX12_high_499 l_X12_579 y0X12_pop yvX12_pop rfl (Nat.le_of_ble_eq_true rfl) lay_146 kr_12 (by decide) (Nat.le_of_ble_eq_true rfl) rfl rfl rfl (t_X12_pop hG ⟨rfl, rfl⟩ g75) ?_
    refine sx_istore_n (pc := 502) (lo' := [(3, .int x76), (2, .int x73), (0, .ref 146), (1, .int l1)]) dX12_high_502 (by decide) rfl ?_
    refine sx_iload_n (pc := 503) dX12_high_503 sx_m1 ?_
    refine sx_if_eq (pc := 504) (tgt := 511) dX12_high_504 (by decide) (fun c77 => ?_) (fun c77 => ?_)
    · have h := sx_pos c77 h
      refine sx_iconst (pc := 511) (v := 0) dX12_high_511 (by decide) ?_
      refine sx_wk (sx_s1 sx_m2 (sx_s1 sx_m3 (sx_s1 sx_m0 sx_s0))) ?_
      exact tB_X12_high_512 hG hP  h
    · have h := sx_neg c77 h
      refine sx_iconst (pc := 507) (v := 1) dX12_high_507 (by decide) ?_
      refine sx_goto (pc := 508) (tgt := 512) dX12_high_508 (by decide) ?_
      refine sx_wk (sx_s1 sx_m2 (sx_s1 sx_m3 (sx_s1 sx_m0 sx_s0))) ?_
      exact tB_X12_high_512 hG hP  h
def B_X12_high_563 (N : Nat)  (l1 : Int32) (V : sv_V) : Option sv_V := (F_X12_more N l1 V).bind (fun V78 => some V78)
set_option maxRecDepth 20000 in
theorem tB_X12_high_563 {g : sx_G} (hG : sx_Go g) {P : Option Value → sv_V → Prop} {Vr : sv_V} (hP : P none Vr) {N : Nat}   {l1 : Int32} {V : sv_V} (h : B_X12_high_563 N  l1 V = some Vr) : sv_N g qX12_high 6 563 [(0, .ref 146), (1, .int l1)] [] V P := by
  unfold B_X12_high_563 at h
  refine sx_aload_n (pc := 563) dX12_high_563 sx_m0 ?_
  refine sx_iload_n (pc := 564) dX12_high_564 sx_m1 ?_
  obtain ⟨V78, g79, h⟩ := sx_bnd h
  refine sv_cV (pc := 565) (y := qX12_more) (o := none) (as := [.int l1]) (V1 := V78) hG dX12_high_565 l_X12_736 y0X12_more yvX12_more rfl (Nat.le_of_ble_eq_true rfl) lay_146 kr_12 (by decide) (Nat.le_of_ble_eq_true rfl) rfl rfl rfl (t_X12_more hG ⟨rfl, rfl⟩ g79) ?_
  exact sv_vret (pc := 568) dX12_high_568 rfl h hP
def F_X12_high (N : Nat) (l1 : Int32) (V : sv_V) : Option sv_V := if l1 = 96 then (B_X12_high_196 N  l1 V) else (if l1 = 97 then (B_X12_high_196 N  l1 V) else (if l1 = 98 then (B_X12_high_196 N  l1 V) else (if l1 = 99 then (B_X12_high_196 N  l1 V) else (if l1 = 100 then (B_X12_high_339 N  l1 V) else (if l1 = 101 then (B_X12_high_339 N  l1 V) else (if l1 = 102 then (B_X12_high_339 N  l1 V) else (if l1 = 103 then (B_X12_high_339 N  l1 V) else (if l1 = 104 then (B_X12_high_405 N   V) else (if l1 = 105 then (B_X12_high_405 N   V) else (if l1 = 106 then (B_X12_high_405 N   V) else (if l1 = 107 then (B_X12_high_405 N   V) else (if l1 = 108 then (B_X12_high_427 N   V) else (if l1 = 109 then (B_X12_high_427 N   V) else (if l1 = 110 then (B_X12_high_427 N   V) else (if l1 = 111 then (B_X12_high_427 N   V) else (if l1 = 112 then ((F_X12_setCvt (1 : Int32) V).bind (fun V97 => some V97)) else (if l1 = 113 then ((F_X12_deltas N (16 : Int32) (1 : Int32) V).bind (fun V100 => some V100)) else (if l1 = 114 then ((F_X12_deltas N (32 : Int32) (1 : Int32) V).bind (fun V103 => some V103)) else (if l1 = 115 then ((F_X12_deltas N (0 : Int32) (0 : Int32) V).bind (fun V106 => some V106)) else (if l1 = 116 then ((F_X12_deltas N (16 : Int32) (0 : Int32) V).bind (fun V109 => some V109)) else (if l1 = 117 then ((F_X12_deltas N (32 : Int32) (0 : Int32) V).bind (fun V112 => some V112)) else (if l1 = 118 then (B_X12_high_479 N  l1 V) else (if l1 = 119 then (B_X12_high_479 N  l1 V) else (if l1 = 120 then (B_X12_high_485 N  l1 V) else (if l1 = 121 then (B_X12_high_485 N  l1 V) else (if l1 = 122 then (sx_let (sv_I V 146 76 (122 : Int32)) (fun V119 => some V119)) else (if l1 = 123 then (B_X12_high_563 N  l1 V) else (if l1 = 124 then ((F_X12_setRounding (124 : Int32) (64 : Int32) (0 : Int32) (63 : Int32) V).bind (fun V122 => some V122)) else (if l1 = 125 then ((F_X12_setRounding (125 : Int32) (64 : Int32) (0 : Int32) (0 : Int32) V).bind (fun V125 => some V125)) else (if l1 = 126 then (B_X12_high_563 N  l1 V) else (if l1 = 127 then (B_X12_high_563 N  l1 V) else (if l1 = 128 then (B_X12_high_563 N  l1 V) else (if l1 = 129 then (B_X12_high_563 N  l1 V) else (if l1 = 130 then (B_X12_high_563 N  l1 V) else (if l1 = 131 then (B_X12_high_563 N  l1 V) else (if l1 = 132 then (B_X12_high_563 N  l1 V) else (if l1 = 133 then (B_X12_high_563 N  l1 V) else (if l1 = 134 then (B_X12_high_563 N  l1 V) else (if l1 = 135 then (B_X12_high_563 N  l1 V) else (if l1 = 136 then (B_X12_high_563 N  l1 V) else (if l1 = 137 then (B_X12_high_563 N  l1 V) else (if l1 = 138 then (B_X12_high_563 N  l1 V) else (if l1 = 139 then (B_X12_high_196 N  l1 V) else (if l1 = 140 then (B_X12_high_196 N  l1 V) else (B_X12_high_563 N  l1 V)))))))))))))))))))))))))))))))))))))))))))))
set_option maxRecDepth 20000 in
theorem t_X12_high {g : sx_G} (hG : sx_Go g) {P : Option Value → sv_V → Prop} {Vr : sv_V} (hP : P none Vr) {N : Nat} {l1 : Int32} {V : sv_V} (h : F_X12_high N l1 V = some Vr) : sv_N g qX12_high 6 0 [(0, .ref 146), (1, .int l1)] [] V P := by
  unfold F_X12_high at h
  refine sx_iload_n (pc := 0) dX12_high_0 sx_m1 ?_
  by_cases c80 : l1 = 96
  · have h := sx_pos c80 h
    refine sx_tabI (pc := 1) (off := 195) (tgt := 196) dX12_high_1 (by rw [c80]; decide) (by rw [c80]; decide) (by rw [c80]; rfl) (by decide) ?_
    refine sx_wk (sx_s1 sx_m0 (sx_s1 sx_m1 sx_s0)) ?_
    exact tB_X12_high_196 hG hP  h
  have h := sx_neg c80 h
  by_cases c81 : l1 = 97
  · have h := sx_pos c81 h
    refine sx_tabI (pc := 1) (off := 195) (tgt := 196) dX12_high_1 (by rw [c81]; decide) (by rw [c81]; decide) (by rw [c81]; rfl) (by decide) ?_
    refine sx_wk (sx_s1 sx_m0 (sx_s1 sx_m1 sx_s0)) ?_
    exact tB_X12_high_196 hG hP  h
  have h := sx_neg c81 h
  by_cases c82 : l1 = 98
  · have h := sx_pos c82 h
    refine sx_tabI (pc := 1) (off := 195) (tgt := 196) dX12_high_1 (by rw [c82]; decide) (by rw [c82]; decide) (by rw [c82]; rfl) (by decide) ?_
    refine sx_wk (sx_s1 sx_m0 (sx_s1 sx_m1 sx_s0)) ?_
    exact tB_X12_high_196 hG hP  h
  have h := sx_neg c82 h
  by_cases c83 : l1 = 99
  · have h := sx_pos c83 h
    refine sx_tabI (pc := 1) (off := 195) (tgt := 196) dX12_high_1 (by rw [c83]; decide) (by rw [c83]; decide) (by rw [c83]; rfl) (by decide) ?_
    refine sx_wk (sx_s1 sx_m0 (sx_s1 sx_m1 sx_s0)) ?_
    exact tB_X12_high_196 hG hP  h
  have h := sx_neg c83 h
  by_cases c84 : l1 = 100
  · have h := sx_pos c84 h
    refine sx_tabI (pc := 1) (off := 338) (tgt := 339) dX12_high_1 (by rw [c84]; decide) (by rw [c84]; decide) (by rw [c84]; rfl) (by decide) ?_
    refine sx_wk (sx_s1 sx_m0 (sx_s1 sx_m1 sx_s0)) ?_
    exact tB_X12_high_339 hG hP  h
  have h := sx_neg c84 h
  by_cases c85 : l1 = 101
  · have h := sx_pos c85 h
    refine sx_tabI (pc := 1) (off := 338) (tgt := 339) dX12_high_1 (by rw [c85]; decide) (by rw [c85]; decide) (by rw [c85]; rfl) (by decide) ?_
    refine sx_wk (sx_s1 sx_m0 (sx_s1 sx_m1 sx_s0)) ?_
    exact tB_X12_high_339 hG hP  h
  have h := sx_neg c85 h
  by_cases c86 : l1 = 102
  · have h := sx_pos c86 h
    refine sx_tabI (pc := 1) (off := 338) (tgt := 339) dX12_high_1 (by rw [c86]; decide) (by rw [c86]; decide) (by rw [c86]; rfl) (by decide) ?_
    refine sx_wk (sx_s1 sx_m0 (sx_s1 sx_m1 sx_s0)) ?_
    exact tB_X12_high_339 hG hP  h
  have h := sx_neg c86 h
  by_cases c87 : l1 = 103
  · have h := sx_pos c87 h
    refine sx_tabI (pc := 1) (off := 338) (tgt := 339) dX12_high_1 (by rw [c87]; decide) (by rw [c87]; decide) (by rw [c87]; rfl) (by decide) ?_
    refine sx_wk (sx_s1 sx_m0 (sx_s1 sx_m1 sx_s0)) ?_
    exact tB_X12_high_339 hG hP  h
  have h := sx_neg c87 h
  by_cases c88 : l1 = 104
  · have h := sx_pos c88 h
    refine sx_tabI (pc := 1) (off := 404) (tgt := 405) dX12_high_1 (by rw [c88]; decide) (by rw [c88]; decide) (by rw [c88]; rfl) (by decide) ?_
    refine sx_wk (sx_s1 sx_m0 sx_s0) ?_
    exact tB_X12_high_405 hG hP  h
  have h := sx_neg c88 h
  by_cases c89 : l1 = 105
  · have h := sx_pos c89 h
    refine sx_tabI (pc := 1) (off := 404) (tgt := 405) dX12_high_1 (by rw [c89]; decide) (by rw [c89]; decide) (by rw [c89]; rfl) (by decide) ?_
    refine sx_wk (sx_s1 sx_m0 sx_s0) ?_
    exact tB_X12_high_405 hG hP  h
  have h := sx_neg c89 h
  by_cases c90 : l1 = 106
  · have h := sx_pos c90 h
    refine sx_tabI (pc := 1) (off := 404) (tgt := 405) dX12_high_1 (by rw [c90]; decide) (by rw [c90]; decide) (by rw [c90]; rfl) (by decide) ?_
    refine sx_wk (sx_s1 sx_m0 sx_s0) ?_
    exact tB_X12_high_405 hG hP  h
  have h := sx_neg c90 h
  by_cases c91 : l1 = 107
  · have h := sx_pos c91 h
    refine sx_tabI (pc := 1) (off := 404) (tgt := 405) dX12_high_1 (by rw [c91]; decide) (by rw [c91]; decide) (by rw [c91]; rfl) (by decide) ?_
    refine sx_wk (sx_s1 sx_m0 sx_s0) ?_
    exact tB_X12_high_405 hG hP  h
  have h := sx_neg c91 h
  by_cases c92 : l1 = 108
  · have h := sx_pos c92 h
    refine sx_tabI (pc := 1) (off := 426) (tgt := 427) dX12_high_1 (by rw [c92]; decide) (by rw [c92]; decide) (by rw [c92]; rfl) (by decide) ?_
    refine sx_wk (sx_s1 sx_m0 sx_s0) ?_
    exact tB_X12_high_427 hG hP  h
  have h := sx_neg c92 h
  by_cases c93 : l1 = 109
  · have h := sx_pos c93 h
    refine sx_tabI (pc := 1) (off := 426) (tgt := 427) dX12_high_1 (by rw [c93]; decide) (by rw [c93]; decide) (by rw [c93]; rfl) (by decide) ?_
    refine sx_wk (sx_s1 sx_m0 sx_s0) ?_
    exact tB_X12_high_427 hG hP  h
  have h := sx_neg c93 h
  by_cases c94 : l1 = 110
  · have h := sx_pos c94 h
    refine sx_tabI (pc := 1) (off := 426) (tgt := 427) dX12_high_1 (by rw [c94]; decide) (by rw [c94]; decide) (by rw [c94]; rfl) (by decide) ?_
    refine sx_wk (sx_s1 sx_m0 sx_s0) ?_
    exact tB_X12_high_427 hG hP  h
  have h := sx_neg c94 h
  by_cases c95 : l1 = 111
  · have h := sx_pos c95 h
    refine sx_tabI (pc := 1) (off := 426) (tgt := 427) dX12_high_1 (by rw [c95]; decide) (by rw [c95]; decide) (by rw [c95]; rfl) (by decide) ?_
    refine sx_wk (sx_s1 sx_m0 sx_s0) ?_
    exact tB_X12_high_427 hG hP  h
  have h := sx_neg c95 h
  by_cases c96 : l1 = 112
  · have h := sx_pos c96 h
    refine sx_tabI (pc := 1) (off := 433) (tgt := 434) dX12_high_1 (by rw [c96]; decide) (by rw [c96]; decide) (by rw [c96]; rfl) (by decide) ?_
    refine sx_aload_n (pc := 434) dX12_high_434 sx_m0 ?_
    refine sx_iconst (pc := 435) (v := 1) dX12_high_435 (by decide) ?_
    obtain ⟨V97, g98, h⟩ := sx_bnd h
    refine sv_cV (pc := 436) (y := qX12_setCvt) (o := none) (as := [.int (1 : Int32)]) (V1 := V97) hG dX12_high_436 l_X12_674 y0X12_setCvt yvX12_setCvt rfl (Nat.le_of_ble_eq_true rfl) lay_146 kr_12 (by decide) (Nat.le_of_ble_eq_true rfl) rfl rfl rfl (t_X12_setCvt hG ⟨rfl, rfl⟩ g98) ?_
    exact sv_vret (pc := 439) dX12_high_439 rfl h hP
  have h := sx_neg c96 h
  by_cases c99 : l1 = 113
  · have h := sx_pos c99 h
    refine sx_tabI (pc := 1) (off := 439) (tgt := 440) dX12_high_1 (by rw [c99]; decide) (by rw [c99]; decide) (by rw [c99]; rfl) (by decide) ?_
    refine sx_aload_n (pc := 440) dX12_high_440 sx_m0 ?_
    refine sx_bipush (pc := 441) (v := 16) dX12_high_441 (by decide) ?_
    refine sx_iconst (pc := 443) (v := 1) dX12_high_443 (by decide) ?_
    obtain ⟨V100, g101, h⟩ := sx_bnd h
    refine sv_cV (pc := 444) (y := qX12_deltas) (o := none) (as := [.int (16 : Int32), .int (1 : Int32)]) (V1 := V100) hG dX12_high_444 l_X12_696 y0X12_deltas yvX12_deltas rfl (Nat.le_of_ble_eq_true rfl) lay_146 kr_12 (by decide) (Nat.le_of_ble_eq_true rfl) rfl rfl rfl (t_X12_deltas hG ⟨rfl, rfl⟩ g101) ?_
    exact sv_vret (pc := 447) dX12_high_447 rfl h hP
  have h := sx_neg c99 h
  by_cases c102 : l1 = 114
  · have h := sx_pos c102 h
    refine sx_tabI (pc := 1) (off := 447) (tgt := 448) dX12_high_1 (by rw [c102]; decide) (by rw [c102]; decide) (by rw [c102]; rfl) (by decide) ?_
    refine sx_aload_n (pc := 448) dX12_high_448 sx_m0 ?_
    refine sx_bipush (pc := 449) (v := 32) dX12_high_449 (by decide) ?_
    refine sx_iconst (pc := 451) (v := 1) dX12_high_451 (by decide) ?_
    obtain ⟨V103, g104, h⟩ := sx_bnd h
    refine sv_cV (pc := 452) (y := qX12_deltas) (o := none) (as := [.int (32 : Int32), .int (1 : Int32)]) (V1 := V103) hG dX12_high_452 l_X12_696 y0X12_deltas yvX12_deltas rfl (Nat.le_of_ble_eq_true rfl) lay_146 kr_12 (by decide) (Nat.le_of_ble_eq_true rfl) rfl rfl rfl (t_X12_deltas hG ⟨rfl, rfl⟩ g104) ?_
    exact sv_vret (pc := 455) dX12_high_455 rfl h hP
  have h := sx_neg c102 h
  by_cases c105 : l1 = 115
  · have h := sx_pos c105 h
    refine sx_tabI (pc := 1) (off := 455) (tgt := 456) dX12_high_1 (by rw [c105]; decide) (by rw [c105]; decide) (by rw [c105]; rfl) (by decide) ?_
    refine sx_aload_n (pc := 456) dX12_high_456 sx_m0 ?_
    refine sx_iconst (pc := 457) (v := 0) dX12_high_457 (by decide) ?_
    refine sx_iconst (pc := 458) (v := 0) dX12_high_458 (by decide) ?_
    obtain ⟨V106, g107, h⟩ := sx_bnd h
    refine sv_cV (pc := 459) (y := qX12_deltas) (o := none) (as := [.int (0 : Int32), .int (0 : Int32)]) (V1 := V106) hG dX12_high_459 l_X12_696 y0X12_deltas yvX12_deltas rfl (Nat.le_of_ble_eq_true rfl) lay_146 kr_12 (by decide) (Nat.le_of_ble_eq_true rfl) rfl rfl rfl (t_X12_deltas hG ⟨rfl, rfl⟩ g107) ?_
    exact sv_vret (pc := 462) dX12_high_462 rfl h hP
  have h := sx_neg c105 h
  by_cases c108 : l1 = 116
  · have h := sx_pos c108 h
    refine sx_tabI (pc := 1) (off := 462) (tgt := 463) dX12_high_1 (by rw [c108]; decide) (by rw [c108]; decide) (by rw [c108]; rfl) (by decide) ?_
    refine sx_aload_n (pc := 463) dX12_high_463 sx_m0 ?_
    refine sx_bipush (pc := 464) (v := 16) dX12_high_464 (by decide) ?_
    refine sx_iconst (pc := 466) (v := 0) dX12_high_466 (by decide) ?_
    obtain ⟨V109, g110, h⟩ := sx_bnd h
    refine sv_cV (pc := 467) (y := qX12_deltas) (o := none) (as := [.int (16 : Int32), .int (0 : Int32)]) (V1 := V109) hG dX12_high_467 l_X12_696 y0X12_deltas yvX12_deltas rfl (Nat.le_of_ble_eq_true rfl) lay_146 kr_12 (by decide) (Nat.le_of_ble_eq_true rfl) rfl rfl rfl (t_X12_deltas hG ⟨rfl, rfl⟩ g110) ?_
    exact sv_vret (pc := 470) dX12_high_470 rfl h hP
  have h := sx_neg c108 h
  by_cases c111 : l1 = 117
  · have h := sx_pos c111 h
    refine sx_tabI (pc := 1) (off := 470) (tgt := 471) dX12_high_1 (by rw [c111]; decide) (by rw [c111]; decide) (by rw [c111]; rfl) (by decide) ?_
    refine sx_aload_n (pc := 471) dX12_high_471 sx_m0 ?_
    refine sx_bipush (pc := 472) (v := 32) dX12_high_472 (by decide) ?_
    refine sx_iconst (pc := 474) (v := 0) dX12_high_474 (by decide) ?_
    obtain ⟨V112, g113, h⟩ := sx_bnd h
    refine sv_cV (pc := 475) (y := qX12_deltas) (o := none) (as := [.int (32 : Int32), .int (0 : Int32)]) (V1 := V112) hG dX12_high_475 l_X12_696 y0X12_deltas yvX12_deltas rfl (Nat.le_of_ble_eq_true rfl) lay_146 kr_12 (by decide) (Nat.le_of_ble_eq_true rfl) rfl rfl rfl (t_X12_deltas hG ⟨rfl, rfl⟩ g113) ?_
    exact sv_vret (pc := 478) dX12_high_478 rfl h hP
  have h := sx_neg c111 h
  by_cases c114 : l1 = 118
  · have h := sx_pos c114 h
    refine sx_tabI (pc := 1) (off := 478) (tgt := 479) dX12_high_1 (by rw [c114]; decide) (by rw [c114]; decide) (by rw [c114]; rfl) (by decide) ?_
    refine sx_wk (sx_s1 sx_m0 (sx_s1 sx_m1 sx_s0)) ?_
    exact tB_X12_high_479 hG hP  h
  have h := sx_neg c114 h
  by_cases c115 : l1 = 119
  · have h := sx_pos c115 h
    refine sx_tabI (pc := 1) (off := 478) (tgt := 479) dX12_high_1 (by rw [c115]; decide) (by rw [c115]; decide) (by rw [c115]; rfl) (by decide) ?_
    refine sx_wk (sx_s1 sx_m0 (sx_s1 sx_m1 sx_s0)) ?_
    exact tB_X12_high_479 hG hP  h
  have h := sx_neg c115 h
  by_cases c116 : l1 = 120
  · have h := sx_pos c116 h
    refine sx_tabI (pc := 1) (off := 484) (tgt := 485) dX12_high_1 (by rw [c116]; decide) (by rw [c116]; decide) (by rw [c116]; rfl) (by decide) ?_
    refine sx_wk (sx_s1 sx_m0 (sx_s1 sx_m1 sx_s0)) ?_
    exact tB_X12_high_485 hG hP  h
  have h := sx_neg c116 h
  by_cases c117 : l1 = 121
  · have h := sx_pos c117 h
    refine sx_tabI (pc := 1) (off := 484) (tgt := 485) dX12_high_1 (by rw [c117]; decide) (by rw [c117]; decide) (by rw [c117]; rfl) (by decide) ?_
    refine sx_wk (sx_s1 sx_m0 (sx_s1 sx_m1 sx_s0)) ?_
    exact tB_X12_high_485 hG hP  h
  have h := sx_neg c117 h
  by_cases c118 : l1 = 122
  · have h := sx_pos c118 h
    refine sx_tabI (pc := 1) (off := 532) (tgt := 533) dX12_high_1 (by rw [c118]; decide) (by rw [c118]; decide) (by rw [c118]; rfl) (by decide) ?_
    refine sx_aload_n (pc := 533) dX12_high_533 sx_m0 ?_
    refine sx_bipush (pc := 534) (v := 122) dX12_high_534 (by decide) ?_
    obtain ⟨V119, hV119⟩ : ∃ z : sv_V, z = sv_I V 146 76 (122 : Int32) := ⟨_, rfl⟩
    have h := sx_letE hV119 h
    refine sv_putI (pc := 536) hG dX12_high_536 f_12_476 lay_146 rfl hV119 ?_
    exact sv_vret (pc := 539) dX12_high_539 rfl h hP
  have h := sx_neg c118 h
  by_cases c120 : l1 = 123
  · have h := sx_pos c120 h
    refine sx_tabI (pc := 1) (off := 562) (tgt := 563) dX12_high_1 (by rw [c120]; decide) (by rw [c120]; decide) (by rw [c120]; rfl) (by decide) ?_
    refine sx_wk (sx_s1 sx_m0 (sx_s1 sx_m1 sx_s0)) ?_
    exact tB_X12_high_563 hG hP  h
  have h := sx_neg c120 h
  by_cases c121 : l1 = 124
  · have h := sx_pos c121 h
    refine sx_tabI (pc := 1) (off := 539) (tgt := 540) dX12_high_1 (by rw [c121]; decide) (by rw [c121]; decide) (by rw [c121]; rfl) (by decide) ?_
    refine sx_aload_n (pc := 540) dX12_high_540 sx_m0 ?_
    refine sx_bipush (pc := 541) (v := 124) dX12_high_541 (by decide) ?_
    refine sx_bipush (pc := 543) (v := 64) dX12_high_543 (by decide) ?_
    refine sx_iconst (pc := 545) (v := 0) dX12_high_545 (by decide) ?_
    refine sx_bipush (pc := 546) (v := 63) dX12_high_546 (by decide) ?_
    obtain ⟨V122, g123, h⟩ := sx_bnd h
    refine sv_cV (pc := 548) (y := qX12_setRounding) (o := none) (as := [.int (124 : Int32), .int (64 : Int32), .int (0 : Int32), .int (63 : Int32)]) (V1 := V122) hG dX12_high_548 l_X12_472 y0X12_setRounding yvX12_setRounding rfl (Nat.le_of_ble_eq_true rfl) lay_146 kr_12 (by decide) (Nat.le_of_ble_eq_true rfl) rfl rfl rfl (t_X12_setRounding hG ⟨rfl, rfl⟩ g123) ?_
    exact sv_vret (pc := 551) dX12_high_551 rfl h hP
  have h := sx_neg c121 h
  by_cases c124 : l1 = 125
  · have h := sx_pos c124 h
    refine sx_tabI (pc := 1) (off := 551) (tgt := 552) dX12_high_1 (by rw [c124]; decide) (by rw [c124]; decide) (by rw [c124]; rfl) (by decide) ?_
    refine sx_aload_n (pc := 552) dX12_high_552 sx_m0 ?_
    refine sx_bipush (pc := 553) (v := 125) dX12_high_553 (by decide) ?_
    refine sx_bipush (pc := 555) (v := 64) dX12_high_555 (by decide) ?_
    refine sx_iconst (pc := 557) (v := 0) dX12_high_557 (by decide) ?_
    refine sx_iconst (pc := 558) (v := 0) dX12_high_558 (by decide) ?_
    obtain ⟨V125, g126, h⟩ := sx_bnd h
    refine sv_cV (pc := 559) (y := qX12_setRounding) (o := none) (as := [.int (125 : Int32), .int (64 : Int32), .int (0 : Int32), .int (0 : Int32)]) (V1 := V125) hG dX12_high_559 l_X12_472 y0X12_setRounding yvX12_setRounding rfl (Nat.le_of_ble_eq_true rfl) lay_146 kr_12 (by decide) (Nat.le_of_ble_eq_true rfl) rfl rfl rfl (t_X12_setRounding hG ⟨rfl, rfl⟩ g126) ?_
    exact sv_vret (pc := 562) dX12_high_562 rfl h hP
  have h := sx_neg c124 h
  by_cases c127 : l1 = 126
  · have h := sx_pos c127 h
    refine sx_tabI (pc := 1) (off := 562) (tgt := 563) dX12_high_1 (by rw [c127]; decide) (by rw [c127]; decide) (by rw [c127]; rfl) (by decide) ?_
    refine sx_wk (sx_s1 sx_m0 (sx_s1 sx_m1 sx_s0)) ?_
    exact tB_X12_high_563 hG hP  h
  have h := sx_neg c127 h
  by_cases c128 : l1 = 127
  · have h := sx_pos c128 h
    refine sx_tabI (pc := 1) (off := 562) (tgt := 563) dX12_high_1 (by rw [c128]; decide) (by rw [c128]; decide) (by rw [c128]; rfl) (by decide) ?_
    refine sx_wk (sx_s1 sx_m0 (sx_s1 sx_m1 sx_s0)) ?_
    exact tB_X12_high_563 hG hP  h
  have h := sx_neg c128 h
  by_cases c129 : l1 = 128
  · have h := sx_pos c129 h
    refine sx_tabI (pc := 1) (off := 562) (tgt := 563) dX12_high_1 (by rw [c129]; decide) (by rw [c129]; decide) (by rw [c129]; rfl) (by decide) ?_
    refine sx_wk (sx_s1 sx_m0 (sx_s1 sx_m1 sx_s0)) ?_
    exact tB_X12_high_563 hG hP  h
  have h := sx_neg c129 h
  by_cases c130 : l1 = 129
  · have h := sx_pos c130 h
    refine sx_tabI (pc := 1) (off := 562) (tgt := 563) dX12_high_1 (by rw [c130]; decide) (by rw [c130]; decide) (by rw [c130]; rfl) (by decide) ?_
    refine sx_wk (sx_s1 sx_m0 (sx_s1 sx_m1 sx_s0)) ?_
    exact tB_X12_high_563 hG hP  h
  have h := sx_neg c130 h
  by_cases c131 : l1 = 130
  · have h := sx_pos c131 h
    refine sx_tabI (pc := 1) (off := 562) (tgt := 563) dX12_high_1 (by rw [c131]; decide) (by rw [c131]; decide) (by rw [c131]; rfl) (by decide) ?_
    refine sx_wk (sx_s1 sx_m0 (sx_s1 sx_m1 sx_s0)) ?_
    exact tB_X12_high_563 hG hP  h
  have h := sx_neg c131 h
  by_cases c132 : l1 = 131
  · have h := sx_pos c132 h
    refine sx_tabI (pc := 1) (off := 562) (tgt := 563) dX12_high_1 (by rw [c132]; decide) (by rw [c132]; decide) (by rw [c132]; rfl) (by decide) ?_
    refine sx_wk (sx_s1 sx_m0 (sx_s1 sx_m1 sx_s0)) ?_
    exact tB_X12_high_563 hG hP  h
  have h := sx_neg c132 h
  by_cases c133 : l1 = 132
  · have h := sx_pos c133 h
    refine sx_tabI (pc := 1) (off := 562) (tgt := 563) dX12_high_1 (by rw [c133]; decide) (by rw [c133]; decide) (by rw [c133]; rfl) (by decide) ?_
    refine sx_wk (sx_s1 sx_m0 (sx_s1 sx_m1 sx_s0)) ?_
    exact tB_X12_high_563 hG hP  h
  have h := sx_neg c133 h
  by_cases c134 : l1 = 133
  · have h := sx_pos c134 h
    refine sx_tabI (pc := 1) (off := 562) (tgt := 563) dX12_high_1 (by rw [c134]; decide) (by rw [c134]; decide) (by rw [c134]; rfl) (by decide) ?_
    refine sx_wk (sx_s1 sx_m0 (sx_s1 sx_m1 sx_s0)) ?_
    exact tB_X12_high_563 hG hP  h
  have h := sx_neg c134 h
  by_cases c135 : l1 = 134
  · have h := sx_pos c135 h
    refine sx_tabI (pc := 1) (off := 562) (tgt := 563) dX12_high_1 (by rw [c135]; decide) (by rw [c135]; decide) (by rw [c135]; rfl) (by decide) ?_
    refine sx_wk (sx_s1 sx_m0 (sx_s1 sx_m1 sx_s0)) ?_
    exact tB_X12_high_563 hG hP  h
  have h := sx_neg c135 h
  by_cases c136 : l1 = 135
  · have h := sx_pos c136 h
    refine sx_tabI (pc := 1) (off := 562) (tgt := 563) dX12_high_1 (by rw [c136]; decide) (by rw [c136]; decide) (by rw [c136]; rfl) (by decide) ?_
    refine sx_wk (sx_s1 sx_m0 (sx_s1 sx_m1 sx_s0)) ?_
    exact tB_X12_high_563 hG hP  h
  have h := sx_neg c136 h
  by_cases c137 : l1 = 136
  · have h := sx_pos c137 h
    refine sx_tabI (pc := 1) (off := 562) (tgt := 563) dX12_high_1 (by rw [c137]; decide) (by rw [c137]; decide) (by rw [c137]; rfl) (by decide) ?_
    refine sx_wk (sx_s1 sx_m0 (sx_s1 sx_m1 sx_s0)) ?_
    exact tB_X12_high_563 hG hP  h
  have h := sx_neg c137 h
  by_cases c138 : l1 = 137
  · have h := sx_pos c138 h
    refine sx_tabI (pc := 1) (off := 562) (tgt := 563) dX12_high_1 (by rw [c138]; decide) (by rw [c138]; decide) (by rw [c138]; rfl) (by decide) ?_
    refine sx_wk (sx_s1 sx_m0 (sx_s1 sx_m1 sx_s0)) ?_
    exact tB_X12_high_563 hG hP  h
  have h := sx_neg c138 h
  by_cases c139 : l1 = 138
  · have h := sx_pos c139 h
    refine sx_tabI (pc := 1) (off := 562) (tgt := 563) dX12_high_1 (by rw [c139]; decide) (by rw [c139]; decide) (by rw [c139]; rfl) (by decide) ?_
    refine sx_wk (sx_s1 sx_m0 (sx_s1 sx_m1 sx_s0)) ?_
    exact tB_X12_high_563 hG hP  h
  have h := sx_neg c139 h
  by_cases c140 : l1 = 139
  · have h := sx_pos c140 h
    refine sx_tabI (pc := 1) (off := 195) (tgt := 196) dX12_high_1 (by rw [c140]; decide) (by rw [c140]; decide) (by rw [c140]; rfl) (by decide) ?_
    refine sx_wk (sx_s1 sx_m0 (sx_s1 sx_m1 sx_s0)) ?_
    exact tB_X12_high_196 hG hP  h
  have h := sx_neg c140 h
  by_cases c141 : l1 = 140
  · have h := sx_pos c141 h
    refine sx_tabI (pc := 1) (off := 195) (tgt := 196) dX12_high_1 (by rw [c141]; decide) (by rw [c141]; decide) (by rw [c141]; rfl) (by decide) ?_
    refine sx_wk (sx_s1 sx_m0 (sx_s1 sx_m1 sx_s0)) ?_
    exact tB_X12_high_196 hG hP  h
  have h := sx_neg c141 h
  refine sx_tabO (pc := 1) (tgt := 563) dX12_high_1 (by have ec80 := lv_neT (a := 96) c80 rfl; have ec81 := lv_neT (a := 97) c81 rfl; have ec82 := lv_neT (a := 98) c82 rfl; have ec83 := lv_neT (a := 99) c83 rfl; have ec84 := lv_neT (a := 100) c84 rfl; have ec85 := lv_neT (a := 101) c85 rfl; have ec86 := lv_neT (a := 102) c86 rfl; have ec87 := lv_neT (a := 103) c87 rfl; have ec88 := lv_neT (a := 104) c88 rfl; have ec89 := lv_neT (a := 105) c89 rfl; have ec90 := lv_neT (a := 106) c90 rfl; have ec91 := lv_neT (a := 107) c91 rfl; have ec92 := lv_neT (a := 108) c92 rfl; have ec93 := lv_neT (a := 109) c93 rfl; have ec94 := lv_neT (a := 110) c94 rfl; have ec95 := lv_neT (a := 111) c95 rfl; have ec96 := lv_neT (a := 112) c96 rfl; have ec99 := lv_neT (a := 113) c99 rfl; have ec102 := lv_neT (a := 114) c102 rfl; have ec105 := lv_neT (a := 115) c105 rfl; have ec108 := lv_neT (a := 116) c108 rfl; have ec111 := lv_neT (a := 117) c111 rfl; have ec114 := lv_neT (a := 118) c114 rfl; have ec115 := lv_neT (a := 119) c115 rfl; have ec116 := lv_neT (a := 120) c116 rfl; have ec117 := lv_neT (a := 121) c117 rfl; have ec118 := lv_neT (a := 122) c118 rfl; have ec120 := lv_neT (a := 123) c120 rfl; have ec121 := lv_neT (a := 124) c121 rfl; have ec124 := lv_neT (a := 125) c124 rfl; have ec127 := lv_neT (a := 126) c127 rfl; have ec128 := lv_neT (a := 127) c128 rfl; have ec129 := lv_neT (a := 128) c129 rfl; have ec130 := lv_neT (a := 129) c130 rfl; have ec131 := lv_neT (a := 130) c131 rfl; have ec132 := lv_neT (a := 131) c132 rfl; have ec133 := lv_neT (a := 132) c133 rfl; have ec134 := lv_neT (a := 133) c134 rfl; have ec135 := lv_neT (a := 134) c135 rfl; have ec136 := lv_neT (a := 135) c136 rfl; have ec137 := lv_neT (a := 136) c137 rfl; have ec138 := lv_neT (a := 137) c138 rfl; have ec139 := lv_neT (a := 138) c139 rfl; have ec140 := lv_neT (a := 139) c140 rfl; have ec141 := lv_neT (a := 140) c141 rfl; omega) (by decide) ?_
  refine sx_wk (sx_s1 sx_m0 (sx_s1 sx_m1 sx_s0)) ?_
  exact tB_X12_high_563 hG hP  h
