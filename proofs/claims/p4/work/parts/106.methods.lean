/-! methods: X12_mapped, X12_kerns, X12_kernOf, X12_advanceOf, X12_bearingOf, X12_leftOf, X12_fail, X12_has, X12_pop, X12_push, X12_codeByte, X12_codeLength, X12_setRounding, X12_pass, X12_call, X12_endFunction, X12_jump, X12_pointOf, X12_touch, X12_part, X12_put, X12_cvtOf -/
theorem dX12_mapped_0 : decode cX12_mapped 0 = .ok (.aload_n 0, 1) := by decide +kernel
theorem dX12_mapped_1 : decode cX12_mapped 1 = .ok (.getfield 387, 3) := by decide +kernel
theorem dX12_mapped_4 : decode cX12_mapped 4 = .ok (.ifCond .ne 29, 3) := by decide +kernel
theorem dX12_mapped_7 : decode cX12_mapped 7 = .ok (.iload_n 1, 1) := by decide +kernel
theorem dX12_mapped_8 : decode cX12_mapped 8 = .ok (.sipush 256, 3) := by decide +kernel
theorem dX12_mapped_11 : decode cX12_mapped 11 = .ok (.if_icmp .ge 20, 3) := by decide +kernel
theorem dX12_mapped_14 : decode cX12_mapped 14 = .ok (.aload_n 0, 1) := by decide +kernel
theorem dX12_mapped_15 : decode cX12_mapped 15 = .ok (.aload_n 0, 1) := by decide +kernel
theorem dX12_mapped_16 : decode cX12_mapped 16 = .ok (.getfield 384, 3) := by decide +kernel
theorem dX12_mapped_19 : decode cX12_mapped 19 = .ok (.bipush 6, 2) := by decide +kernel
theorem dX12_mapped_21 : decode cX12_mapped 21 = .ok (.iadd, 1) := by decide +kernel
theorem dX12_mapped_22 : decode cX12_mapped 22 = .ok (.iload_n 1, 1) := by decide +kernel
theorem dX12_mapped_23 : decode cX12_mapped 23 = .ok (.iadd, 1) := by decide +kernel
theorem dX12_mapped_24 : decode cX12_mapped 24 = .ok (.invokevirtual 209, 3) := by decide +kernel
theorem dX12_mapped_27 : decode cX12_mapped 27 = .ok (.i2l, 1) := by decide +kernel
theorem dX12_mapped_28 : decode cX12_mapped 28 = .ok (.goto 4, 3) := by decide +kernel
theorem dX12_mapped_31 : decode cX12_mapped 31 = .ok (.lconst 0, 1) := by decide +kernel
theorem dX12_mapped_32 : decode cX12_mapped 32 = .ok (.lreturn, 1) := by decide +kernel
theorem dX12_mapped_33 : decode cX12_mapped 33 = .ok (.aload_n 0, 1) := by decide +kernel
theorem dX12_mapped_34 : decode cX12_mapped 34 = .ok (.getfield 399, 3) := by decide +kernel
theorem dX12_mapped_37 : decode cX12_mapped 37 = .ok (.istore_n 2, 1) := by decide +kernel
theorem dX12_mapped_38 : decode cX12_mapped 38 = .ok (.aload_n 0, 1) := by decide +kernel
theorem dX12_mapped_39 : decode cX12_mapped 39 = .ok (.getfield 387, 3) := by decide +kernel
theorem dX12_mapped_42 : decode cX12_mapped 42 = .ok (.bipush 12, 2) := by decide +kernel
theorem dX12_mapped_44 : decode cX12_mapped 44 = .ok (.if_icmp .ne 78, 3) := by decide +kernel
theorem dX12_mapped_47 : decode cX12_mapped 47 = .ok (.iconst 0, 1) := by decide +kernel
theorem dX12_mapped_48 : decode cX12_mapped 48 = .ok (.istore_n 3, 1) := by decide +kernel
theorem dX12_mapped_49 : decode cX12_mapped 49 = .ok (.iload_n 3, 1) := by decide +kernel
theorem dX12_mapped_50 : decode cX12_mapped 50 = .ok (.iload_n 2, 1) := by decide +kernel
theorem dX12_mapped_51 : decode cX12_mapped 51 = .ok (.if_icmp .ge 69, 3) := by decide +kernel
theorem dX12_mapped_54 : decode cX12_mapped 54 = .ok (.aload_n 0, 1) := by decide +kernel
theorem dX12_mapped_55 : decode cX12_mapped 55 = .ok (.getfield 384, 3) := by decide +kernel
theorem dX12_mapped_58 : decode cX12_mapped 58 = .ok (.bipush 16, 2) := by decide +kernel
theorem dX12_mapped_60 : decode cX12_mapped 60 = .ok (.iadd, 1) := by decide +kernel
theorem dX12_mapped_61 : decode cX12_mapped 61 = .ok (.bipush 12, 2) := by decide +kernel
theorem dX12_mapped_63 : decode cX12_mapped 63 = .ok (.iload_n 3, 1) := by decide +kernel
theorem dX12_mapped_64 : decode cX12_mapped 64 = .ok (.imul, 1) := by decide +kernel
theorem dX12_mapped_65 : decode cX12_mapped 65 = .ok (.iadd, 1) := by decide +kernel
theorem dX12_mapped_66 : decode cX12_mapped 66 = .ok (.istore 4, 2) := by decide +kernel
theorem dX12_mapped_68 : decode cX12_mapped 68 = .ok (.iload_n 1, 1) := by decide +kernel
theorem dX12_mapped_69 : decode cX12_mapped 69 = .ok (.i2l, 1) := by decide +kernel
theorem dX12_mapped_70 : decode cX12_mapped 70 = .ok (.aload_n 0, 1) := by decide +kernel
theorem dX12_mapped_71 : decode cX12_mapped 71 = .ok (.iload 4, 2) := by decide +kernel
theorem dX12_mapped_73 : decode cX12_mapped 73 = .ok (.invokevirtual 297, 3) := by decide +kernel
theorem dX12_mapped_76 : decode cX12_mapped 76 = .ok (.lcmp, 1) := by decide +kernel
theorem dX12_mapped_77 : decode cX12_mapped 77 = .ok (.ifCond .lt 37, 3) := by decide +kernel
theorem dX12_mapped_80 : decode cX12_mapped 80 = .ok (.iload_n 1, 1) := by decide +kernel
theorem dX12_mapped_81 : decode cX12_mapped 81 = .ok (.i2l, 1) := by decide +kernel
theorem dX12_mapped_82 : decode cX12_mapped 82 = .ok (.aload_n 0, 1) := by decide +kernel
theorem dX12_mapped_83 : decode cX12_mapped 83 = .ok (.iload 4, 2) := by decide +kernel
theorem dX12_mapped_85 : decode cX12_mapped 85 = .ok (.iconst 4, 1) := by decide +kernel
theorem dX12_mapped_86 : decode cX12_mapped 86 = .ok (.iadd, 1) := by decide +kernel
theorem dX12_mapped_87 : decode cX12_mapped 87 = .ok (.invokevirtual 297, 3) := by decide +kernel
theorem dX12_mapped_90 : decode cX12_mapped 90 = .ok (.lcmp, 1) := by decide +kernel
theorem dX12_mapped_91 : decode cX12_mapped 91 = .ok (.ifCond .gt 23, 3) := by decide +kernel
theorem dX12_mapped_94 : decode cX12_mapped 94 = .ok (.aload_n 0, 1) := by decide +kernel
theorem dX12_mapped_95 : decode cX12_mapped 95 = .ok (.iload 4, 2) := by decide +kernel
theorem dX12_mapped_97 : decode cX12_mapped 97 = .ok (.bipush 8, 2) := by decide +kernel
theorem dX12_mapped_99 : decode cX12_mapped 99 = .ok (.iadd, 1) := by decide +kernel
theorem dX12_mapped_100 : decode cX12_mapped 100 = .ok (.invokevirtual 297, 3) := by decide +kernel
theorem dX12_mapped_103 : decode cX12_mapped 103 = .ok (.iload_n 1, 1) := by decide +kernel
theorem dX12_mapped_104 : decode cX12_mapped 104 = .ok (.i2l, 1) := by decide +kernel
theorem dX12_mapped_105 : decode cX12_mapped 105 = .ok (.ladd, 1) := by decide +kernel
theorem dX12_mapped_106 : decode cX12_mapped 106 = .ok (.aload_n 0, 1) := by decide +kernel
theorem dX12_mapped_107 : decode cX12_mapped 107 = .ok (.iload 4, 2) := by decide +kernel
theorem dX12_mapped_109 : decode cX12_mapped 109 = .ok (.invokevirtual 297, 3) := by decide +kernel
theorem dX12_mapped_112 : decode cX12_mapped 112 = .ok (.lsub, 1) := by decide +kernel
theorem dX12_mapped_113 : decode cX12_mapped 113 = .ok (.lreturn, 1) := by decide +kernel
theorem dX12_mapped_114 : decode cX12_mapped 114 = .ok (.iinc 3 1, 3) := by decide +kernel
theorem dX12_mapped_117 : decode cX12_mapped 117 = .ok (.goto (-68), 3) := by decide +kernel
theorem dX12_mapped_120 : decode cX12_mapped 120 = .ok (.lconst 0, 1) := by decide +kernel
theorem dX12_mapped_121 : decode cX12_mapped 121 = .ok (.lreturn, 1) := by decide +kernel
theorem dX12_mapped_122 : decode cX12_mapped 122 = .ok (.iload_n 1, 1) := by decide +kernel
theorem dX12_mapped_123 : decode cX12_mapped 123 = .ok (.ldc_w 404, 3) := by decide +kernel
theorem dX12_mapped_126 : decode cX12_mapped 126 = .ok (.if_icmp .le 5, 3) := by decide +kernel
theorem dX12_mapped_129 : decode cX12_mapped 129 = .ok (.lconst 0, 1) := by decide +kernel
theorem dX12_mapped_130 : decode cX12_mapped 130 = .ok (.lreturn, 1) := by decide +kernel
theorem dX12_mapped_131 : decode cX12_mapped 131 = .ok (.iconst 0, 1) := by decide +kernel
theorem dX12_mapped_132 : decode cX12_mapped 132 = .ok (.istore_n 3, 1) := by decide +kernel
theorem dX12_mapped_133 : decode cX12_mapped 133 = .ok (.aload_n 0, 1) := by decide +kernel
theorem dX12_mapped_134 : decode cX12_mapped 134 = .ok (.aload_n 0, 1) := by decide +kernel
theorem dX12_mapped_135 : decode cX12_mapped 135 = .ok (.getfield 384, 3) := by decide +kernel
theorem dX12_mapped_138 : decode cX12_mapped 138 = .ok (.bipush 14, 2) := by decide +kernel
theorem dX12_mapped_140 : decode cX12_mapped 140 = .ok (.iadd, 1) := by decide +kernel
theorem dX12_mapped_141 : decode cX12_mapped 141 = .ok (.iconst 2, 1) := by decide +kernel
theorem dX12_mapped_142 : decode cX12_mapped 142 = .ok (.iload_n 3, 1) := by decide +kernel
theorem dX12_mapped_143 : decode cX12_mapped 143 = .ok (.imul, 1) := by decide +kernel
theorem dX12_mapped_144 : decode cX12_mapped 144 = .ok (.iadd, 1) := by decide +kernel
theorem dX12_mapped_145 : decode cX12_mapped 145 = .ok (.invokevirtual 213, 3) := by decide +kernel
theorem dX12_mapped_148 : decode cX12_mapped 148 = .ok (.iload_n 1, 1) := by decide +kernel
theorem dX12_mapped_149 : decode cX12_mapped 149 = .ok (.if_icmp .ge 9, 3) := by decide +kernel
theorem dX12_mapped_152 : decode cX12_mapped 152 = .ok (.iinc 3 1, 3) := by decide +kernel
theorem dX12_mapped_155 : decode cX12_mapped 155 = .ok (.goto (-22), 3) := by decide +kernel
theorem dX12_mapped_158 : decode cX12_mapped 158 = .ok (.aload_n 0, 1) := by decide +kernel
theorem dX12_mapped_159 : decode cX12_mapped 159 = .ok (.aload_n 0, 1) := by decide +kernel
theorem dX12_mapped_160 : decode cX12_mapped 160 = .ok (.getfield 384, 3) := by decide +kernel
theorem dX12_mapped_163 : decode cX12_mapped 163 = .ok (.bipush 16, 2) := by decide +kernel
theorem dX12_mapped_165 : decode cX12_mapped 165 = .ok (.iadd, 1) := by decide +kernel
theorem dX12_mapped_166 : decode cX12_mapped 166 = .ok (.iconst 2, 1) := by decide +kernel
theorem dX12_mapped_167 : decode cX12_mapped 167 = .ok (.iload_n 2, 1) := by decide +kernel
theorem dX12_mapped_168 : decode cX12_mapped 168 = .ok (.imul, 1) := by decide +kernel
theorem dX12_mapped_169 : decode cX12_mapped 169 = .ok (.iadd, 1) := by decide +kernel
theorem dX12_mapped_170 : decode cX12_mapped 170 = .ok (.iconst 2, 1) := by decide +kernel
theorem dX12_mapped_171 : decode cX12_mapped 171 = .ok (.iload_n 3, 1) := by decide +kernel
theorem dX12_mapped_172 : decode cX12_mapped 172 = .ok (.imul, 1) := by decide +kernel
theorem dX12_mapped_173 : decode cX12_mapped 173 = .ok (.iadd, 1) := by decide +kernel
theorem dX12_mapped_174 : decode cX12_mapped 174 = .ok (.invokevirtual 213, 3) := by decide +kernel
theorem dX12_mapped_177 : decode cX12_mapped 177 = .ok (.istore 4, 2) := by decide +kernel
theorem dX12_mapped_179 : decode cX12_mapped 179 = .ok (.iload 4, 2) := by decide +kernel
theorem dX12_mapped_181 : decode cX12_mapped 181 = .ok (.iload_n 1, 1) := by decide +kernel
theorem dX12_mapped_182 : decode cX12_mapped 182 = .ok (.if_icmp .le 5, 3) := by decide +kernel
theorem dX12_mapped_185 : decode cX12_mapped 185 = .ok (.lconst 0, 1) := by decide +kernel
theorem dX12_mapped_186 : decode cX12_mapped 186 = .ok (.lreturn, 1) := by decide +kernel
theorem dX12_mapped_187 : decode cX12_mapped 187 = .ok (.aload_n 0, 1) := by decide +kernel
theorem dX12_mapped_188 : decode cX12_mapped 188 = .ok (.aload_n 0, 1) := by decide +kernel
theorem dX12_mapped_189 : decode cX12_mapped 189 = .ok (.getfield 384, 3) := by decide +kernel
theorem dX12_mapped_192 : decode cX12_mapped 192 = .ok (.bipush 16, 2) := by decide +kernel
theorem dX12_mapped_194 : decode cX12_mapped 194 = .ok (.iadd, 1) := by decide +kernel
theorem dX12_mapped_195 : decode cX12_mapped 195 = .ok (.iconst 4, 1) := by decide +kernel
theorem dX12_mapped_196 : decode cX12_mapped 196 = .ok (.iload_n 2, 1) := by decide +kernel
theorem dX12_mapped_197 : decode cX12_mapped 197 = .ok (.imul, 1) := by decide +kernel
theorem dX12_mapped_198 : decode cX12_mapped 198 = .ok (.iadd, 1) := by decide +kernel
theorem dX12_mapped_199 : decode cX12_mapped 199 = .ok (.iconst 2, 1) := by decide +kernel
theorem dX12_mapped_200 : decode cX12_mapped 200 = .ok (.iload_n 3, 1) := by decide +kernel
theorem dX12_mapped_201 : decode cX12_mapped 201 = .ok (.imul, 1) := by decide +kernel
theorem dX12_mapped_202 : decode cX12_mapped 202 = .ok (.iadd, 1) := by decide +kernel
theorem dX12_mapped_203 : decode cX12_mapped 203 = .ok (.invokevirtual 213, 3) := by decide +kernel
theorem dX12_mapped_206 : decode cX12_mapped 206 = .ok (.istore 5, 2) := by decide +kernel
theorem dX12_mapped_208 : decode cX12_mapped 208 = .ok (.bipush 16, 2) := by decide +kernel
theorem dX12_mapped_210 : decode cX12_mapped 210 = .ok (.bipush 6, 2) := by decide +kernel
theorem dX12_mapped_212 : decode cX12_mapped 212 = .ok (.iload_n 2, 1) := by decide +kernel
theorem dX12_mapped_213 : decode cX12_mapped 213 = .ok (.imul, 1) := by decide +kernel
theorem dX12_mapped_214 : decode cX12_mapped 214 = .ok (.iadd, 1) := by decide +kernel
theorem dX12_mapped_215 : decode cX12_mapped 215 = .ok (.iconst 2, 1) := by decide +kernel
theorem dX12_mapped_216 : decode cX12_mapped 216 = .ok (.iload_n 3, 1) := by decide +kernel
theorem dX12_mapped_217 : decode cX12_mapped 217 = .ok (.imul, 1) := by decide +kernel
theorem dX12_mapped_218 : decode cX12_mapped 218 = .ok (.iadd, 1) := by decide +kernel
theorem dX12_mapped_219 : decode cX12_mapped 219 = .ok (.istore 6, 2) := by decide +kernel
theorem dX12_mapped_221 : decode cX12_mapped 221 = .ok (.aload_n 0, 1) := by decide +kernel
theorem dX12_mapped_222 : decode cX12_mapped 222 = .ok (.aload_n 0, 1) := by decide +kernel
theorem dX12_mapped_223 : decode cX12_mapped 223 = .ok (.getfield 384, 3) := by decide +kernel
theorem dX12_mapped_226 : decode cX12_mapped 226 = .ok (.iload 6, 2) := by decide +kernel
theorem dX12_mapped_228 : decode cX12_mapped 228 = .ok (.iadd, 1) := by decide +kernel
theorem dX12_mapped_229 : decode cX12_mapped 229 = .ok (.invokevirtual 213, 3) := by decide +kernel
theorem dX12_mapped_232 : decode cX12_mapped 232 = .ok (.istore 7, 2) := by decide +kernel
theorem dX12_mapped_234 : decode cX12_mapped 234 = .ok (.iload 7, 2) := by decide +kernel
theorem dX12_mapped_236 : decode cX12_mapped 236 = .ok (.ifCond .ne 13, 3) := by decide +kernel
theorem dX12_mapped_239 : decode cX12_mapped 239 = .ok (.iload_n 1, 1) := by decide +kernel
theorem dX12_mapped_240 : decode cX12_mapped 240 = .ok (.iload 5, 2) := by decide +kernel
theorem dX12_mapped_242 : decode cX12_mapped 242 = .ok (.iadd, 1) := by decide +kernel
theorem dX12_mapped_243 : decode cX12_mapped 243 = .ok (.ldc_w 404, 3) := by decide +kernel
theorem dX12_mapped_246 : decode cX12_mapped 246 = .ok (.iand, 1) := by decide +kernel
theorem dX12_mapped_247 : decode cX12_mapped 247 = .ok (.i2l, 1) := by decide +kernel
theorem dX12_mapped_248 : decode cX12_mapped 248 = .ok (.lreturn, 1) := by decide +kernel
theorem dX12_mapped_249 : decode cX12_mapped 249 = .ok (.iload 6, 2) := by decide +kernel
theorem dX12_mapped_251 : decode cX12_mapped 251 = .ok (.iload 7, 2) := by decide +kernel
theorem dX12_mapped_253 : decode cX12_mapped 253 = .ok (.iadd, 1) := by decide +kernel
theorem dX12_mapped_254 : decode cX12_mapped 254 = .ok (.iconst 2, 1) := by decide +kernel
theorem dX12_mapped_255 : decode cX12_mapped 255 = .ok (.iload_n 1, 1) := by decide +kernel
theorem dX12_mapped_256 : decode cX12_mapped 256 = .ok (.iload 4, 2) := by decide +kernel
theorem dX12_mapped_258 : decode cX12_mapped 258 = .ok (.isub, 1) := by decide +kernel
theorem dX12_mapped_259 : decode cX12_mapped 259 = .ok (.imul, 1) := by decide +kernel
theorem dX12_mapped_260 : decode cX12_mapped 260 = .ok (.iadd, 1) := by decide +kernel
theorem dX12_mapped_261 : decode cX12_mapped 261 = .ok (.istore 8, 2) := by decide +kernel
theorem dX12_mapped_263 : decode cX12_mapped 263 = .ok (.iload 8, 2) := by decide +kernel
theorem dX12_mapped_265 : decode cX12_mapped 265 = .ok (.iconst 2, 1) := by decide +kernel
theorem dX12_mapped_266 : decode cX12_mapped 266 = .ok (.iadd, 1) := by decide +kernel
theorem dX12_mapped_267 : decode cX12_mapped 267 = .ok (.aload_n 0, 1) := by decide +kernel
theorem dX12_mapped_268 : decode cX12_mapped 268 = .ok (.aload_n 0, 1) := by decide +kernel
theorem dX12_mapped_269 : decode cX12_mapped 269 = .ok (.getfield 384, 3) := by decide +kernel
theorem dX12_mapped_272 : decode cX12_mapped 272 = .ok (.iconst 2, 1) := by decide +kernel
theorem dX12_mapped_273 : decode cX12_mapped 273 = .ok (.iadd, 1) := by decide +kernel
theorem dX12_mapped_274 : decode cX12_mapped 274 = .ok (.invokevirtual 213, 3) := by decide +kernel
theorem dX12_mapped_277 : decode cX12_mapped 277 = .ok (.if_icmp .gt 17, 3) := by decide +kernel
theorem dX12_mapped_280 : decode cX12_mapped 280 = .ok (.aload_n 0, 1) := by decide +kernel
theorem dX12_mapped_281 : decode cX12_mapped 281 = .ok (.aload_n 0, 1) := by decide +kernel
theorem dX12_mapped_282 : decode cX12_mapped 282 = .ok (.getfield 384, 3) := by decide +kernel
theorem dX12_mapped_285 : decode cX12_mapped 285 = .ok (.iload 8, 2) := by decide +kernel
theorem dX12_mapped_287 : decode cX12_mapped 287 = .ok (.iadd, 1) := by decide +kernel
theorem dX12_mapped_288 : decode cX12_mapped 288 = .ok (.invokevirtual 213, 3) := by decide +kernel
theorem dX12_mapped_291 : decode cX12_mapped 291 = .ok (.goto 4, 3) := by decide +kernel
theorem dX12_mapped_294 : decode cX12_mapped 294 = .ok (.iconst 0, 1) := by decide +kernel
theorem dX12_mapped_295 : decode cX12_mapped 295 = .ok (.istore 9, 2) := by decide +kernel
theorem dX12_mapped_297 : decode cX12_mapped 297 = .ok (.iload 9, 2) := by decide +kernel
theorem dX12_mapped_299 : decode cX12_mapped 299 = .ok (.ifCond .ne 7, 3) := by decide +kernel
theorem dX12_mapped_302 : decode cX12_mapped 302 = .ok (.lconst 0, 1) := by decide +kernel
theorem dX12_mapped_303 : decode cX12_mapped 303 = .ok (.goto 13, 3) := by decide +kernel
theorem dX12_mapped_306 : decode cX12_mapped 306 = .ok (.iload 9, 2) := by decide +kernel
theorem dX12_mapped_308 : decode cX12_mapped 308 = .ok (.iload 5, 2) := by decide +kernel
theorem dX12_mapped_310 : decode cX12_mapped 310 = .ok (.iadd, 1) := by decide +kernel
theorem dX12_mapped_311 : decode cX12_mapped 311 = .ok (.ldc_w 404, 3) := by decide +kernel
theorem dX12_mapped_314 : decode cX12_mapped 314 = .ok (.iand, 1) := by decide +kernel
theorem dX12_mapped_315 : decode cX12_mapped 315 = .ok (.i2l, 1) := by decide +kernel
theorem dX12_mapped_316 : decode cX12_mapped 316 = .ok (.lreturn, 1) := by decide +kernel
def B_X12_mapped_114 (N : Nat) (k49 : Int32 → Int32 → Int32 → sv_V → Option (Int64 × sv_V)) (l1 : Int32) (l2 : Int32) (l3 : Int32) (V : sv_V) : Option (Int64 × sv_V) := sx_let (l3 + 1) (fun x1 => k49 l1 l2 x1 V)
set_option maxRecDepth 20000 in
theorem tB_X12_mapped_114 {g : sx_G} (hG : sx_Go g) {P : Option Value → sv_V → Prop} {r : Int64} {Vr : sv_V} (hP : P (some (.long r)) Vr) {N : Nat} {k49 : Int32 → Int32 → Int32 → sv_V → Option (Int64 × sv_V)} (hk49 : ∀ (l1 : Int32) (l2 : Int32) (l3 : Int32) (V : sv_V), k49 l1 l2 l3 V = some (r, Vr) → sv_N g qX12_mapped 3 49 [(0, .ref 146), (1, .int l1), (2, .int l2), (3, .int l3)] [] V P) {l1 : Int32} {l2 : Int32} {l3 : Int32} {V : sv_V} (h : B_X12_mapped_114 N k49 l1 l2 l3 V = some (r, Vr)) : sv_N g qX12_mapped 3 114 [(0, .ref 146), (1, .int l1), (2, .int l2), (3, .int l3)] [] V P := by
  unfold B_X12_mapped_114 at h
  obtain ⟨x1, hx1⟩ : ∃ z : Int32, z = l3 + 1 := ⟨_, rfl⟩
  have h := sx_letE hx1 h
  refine sx_iinc (pc := 114) (v := x1) (lo' := [(3, .int x1), (0, .ref 146), (1, .int l1), (2, .int l2)]) dX12_mapped_114 sx_m3 (by rw [hx1]; rfl) (by decide) rfl ?_
  refine sx_goto (pc := 117) (tgt := 49) dX12_mapped_117 (by decide) ?_
  refine sx_wk (sx_s1 sx_m1 (sx_s1 sx_m2 (sx_s1 sx_m3 (sx_s1 sx_m0 sx_s0)))) ?_
  exact hk49 _ _ _ _ h
def B_X12_mapped_49 (N : Nat) (k49 : Int32 → Int32 → Int32 → sv_V → Option (Int64 × sv_V)) (l1 : Int32) (l2 : Int32) (l3 : Int32) (V : sv_V) : Option (Int64 × sv_V) := if l2 ≤ l3 then (some ((0 : Int64), V)) else (sx_let (((V.1 146 21) + (16 : Int32)) + ((12 : Int32) * l3)) (fun x3 => (F_X12_u4 x3 V).bind (fun (x6, V4) => if (lg_cmp l1.toInt64 x6) < 0 then (B_X12_mapped_114 N k49 l1 l2 l3 V4) else ((F_X12_u4 (x3 + (4 : Int32)) V4).bind (fun (x10, V8) => if 0 < (lg_cmp l1.toInt64 x10) then (B_X12_mapped_114 N k49 l1 l2 l3 V8) else ((F_X12_u4 (x3 + (8 : Int32)) V8).bind (fun (x14, V12) => (F_X12_u4 x3 V12).bind (fun (x17, V15) => some ((x14 + l1.toInt64) - x17, V15)))))))))
set_option maxRecDepth 20000 in
theorem tB_X12_mapped_49 {g : sx_G} (hG : sx_Go g) {P : Option Value → sv_V → Prop} {r : Int64} {Vr : sv_V} (hP : P (some (.long r)) Vr) {N : Nat} {k49 : Int32 → Int32 → Int32 → sv_V → Option (Int64 × sv_V)} (hk49 : ∀ (l1 : Int32) (l2 : Int32) (l3 : Int32) (V : sv_V), k49 l1 l2 l3 V = some (r, Vr) → sv_N g qX12_mapped 3 49 [(0, .ref 146), (1, .int l1), (2, .int l2), (3, .int l3)] [] V P) {l1 : Int32} {l2 : Int32} {l3 : Int32} {V : sv_V} (h : B_X12_mapped_49 N k49 l1 l2 l3 V = some (r, Vr)) : sv_N g qX12_mapped 3 49 [(0, .ref 146), (1, .int l1), (2, .int l2), (3, .int l3)] [] V P := by
  unfold B_X12_mapped_49 at h
  refine sx_iload_n (pc := 49) dX12_mapped_49 sx_m3 ?_
  refine sx_iload_n (pc := 50) dX12_mapped_50 sx_m2 ?_
  refine sx_icmp_ge (pc := 51) (tgt := 120) dX12_mapped_51 (by decide) (fun c2 => ?_) (fun c2 => ?_)
  · have h := sx_pos c2 h
    refine sx_lconst (pc := 120) (v := 0) dX12_mapped_120 rfl ?_
    exact sv_lret (pc := 121) dX12_mapped_121 rfl h hP
  · have h := sx_neg c2 h
    refine sx_aload_n (pc := 54) dX12_mapped_54 sx_m0 ?_
    refine sv_getI (pc := 55) hG dX12_mapped_55 f_12_384 lay_146 rfl ?_
    refine sx_bipush (pc := 58) (v := 16) dX12_mapped_58 (by decide) ?_
    refine sx_iadd (pc := 60) dX12_mapped_60 ?_
    refine sx_bipush (pc := 61) (v := 12) dX12_mapped_61 (by decide) ?_
    refine sx_iload_n (pc := 63) dX12_mapped_63 sx_m3 ?_
    refine sx_imul (pc := 64) dX12_mapped_64 ?_
    refine sx_iadd (pc := 65) dX12_mapped_65 ?_
    refine sv_tI (fun x3 hx3 => ?_)
    have h := sx_letE hx3 h
    refine sx_istore (pc := 66) (lo' := [(4, .int x3), (0, .ref 146), (1, .int l1), (2, .int l2), (3, .int l3)]) dX12_mapped_66 (by decide) rfl ?_
    refine sx_iload_n (pc := 68) dX12_mapped_68 sx_m2 ?_
    refine sx_i2l (pc := 69) dX12_mapped_69 ?_
    refine sx_aload_n (pc := 70) dX12_mapped_70 sx_m1 ?_
    refine sx_iload (pc := 71) dX12_mapped_71 sx_m0 ?_
    obtain ⟨⟨x6, V4⟩, g5, h⟩ := sx_bnd h
    refine sv_cV (pc := 73) (y := qX12_u4) (o := (some (.long x6))) (as := [.int x3]) (V1 := V4) hG dX12_mapped_73 l_X12_297 y0X12_u4 yvX12_u4 rfl (Nat.le_of_ble_eq_true rfl) lay_146 kr_12 (by decide) (Nat.le_of_ble_eq_true rfl) rfl rfl rfl (t_X12_u4 hG ⟨rfl, rfl⟩ g5) ?_
    refine sx_lcmp (pc := 76) dX12_mapped_76 ?_
    refine sx_if_lt (pc := 77) (tgt := 114) dX12_mapped_77 (by decide) (fun c7 => ?_) (fun c7 => ?_)
    · have h := sx_pos c7 h
      refine sx_wk (sx_s1 sx_m1 (sx_s1 sx_m2 (sx_s1 sx_m3 (sx_s1 sx_m4 sx_s0)))) ?_
      exact tB_X12_mapped_114 hG hP hk49 h
    · have h := sx_neg c7 h
      refine sx_iload_n (pc := 80) dX12_mapped_80 sx_m2 ?_
      refine sx_i2l (pc := 81) dX12_mapped_81 ?_
      refine sx_aload_n (pc := 82) dX12_mapped_82 sx_m1 ?_
      refine sx_iload (pc := 83) dX12_mapped_83 sx_m0 ?_
      refine sx_iconst (pc := 85) (v := 4) dX12_mapped_85 (by decide) ?_
      refine sx_iadd (pc := 86) dX12_mapped_86 ?_
      obtain ⟨⟨x10, V8⟩, g9, h⟩ := sx_bnd h
      refine sv_cV (pc := 87) (y := qX12_u4) (o := (some (.long x10))) (as := [.int (x3 + (4 : Int32))]) (V1 := V8) hG dX12_mapped_87 l_X12_297 y0X12_u4 yvX12_u4 rfl (Nat.le_of_ble_eq_true rfl) lay_146 kr_12 (by decide) (Nat.le_of_ble_eq_true rfl) rfl rfl rfl (t_X12_u4 hG ⟨rfl, rfl⟩ g9) ?_
      refine sx_lcmp (pc := 90) dX12_mapped_90 ?_
      refine sx_if_gt (pc := 91) (tgt := 114) dX12_mapped_91 (by decide) (fun c11 => ?_) (fun c11 => ?_)
      · have h := sx_pos c11 h
        refine sx_wk (sx_s1 sx_m1 (sx_s1 sx_m2 (sx_s1 sx_m3 (sx_s1 sx_m4 sx_s0)))) ?_
        exact tB_X12_mapped_114 hG hP hk49 h
      · have h := sx_neg c11 h
        refine sx_aload_n (pc := 94) dX12_mapped_94 sx_m1 ?_
        refine sx_iload (pc := 95) dX12_mapped_95 sx_m0 ?_
        refine sx_bipush (pc := 97) (v := 8) dX12_mapped_97 (by decide) ?_
        refine sx_iadd (pc := 99) dX12_mapped_99 ?_
        obtain ⟨⟨x14, V12⟩, g13, h⟩ := sx_bnd h
        refine sv_cV (pc := 100) (y := qX12_u4) (o := (some (.long x14))) (as := [.int (x3 + (8 : Int32))]) (V1 := V12) hG dX12_mapped_100 l_X12_297 y0X12_u4 yvX12_u4 rfl (Nat.le_of_ble_eq_true rfl) lay_146 kr_12 (by decide) (Nat.le_of_ble_eq_true rfl) rfl rfl rfl (t_X12_u4 hG ⟨rfl, rfl⟩ g13) ?_
        refine sx_iload_n (pc := 103) dX12_mapped_103 sx_m2 ?_
        refine sx_i2l (pc := 104) dX12_mapped_104 ?_
        refine sx_ladd (pc := 105) dX12_mapped_105 ?_
        refine sx_aload_n (pc := 106) dX12_mapped_106 sx_m1 ?_
        refine sx_iload (pc := 107) dX12_mapped_107 sx_m0 ?_
        obtain ⟨⟨x17, V15⟩, g16, h⟩ := sx_bnd h
        refine sv_cV (pc := 109) (y := qX12_u4) (o := (some (.long x17))) (as := [.int x3]) (V1 := V15) hG dX12_mapped_109 l_X12_297 y0X12_u4 yvX12_u4 rfl (Nat.le_of_ble_eq_true rfl) lay_146 kr_12 (by decide) (Nat.le_of_ble_eq_true rfl) rfl rfl rfl (t_X12_u4 hG ⟨rfl, rfl⟩ g16) ?_
        refine sx_lsub (pc := 112) dX12_mapped_112 ?_
        exact sv_lret (pc := 113) dX12_mapped_113 rfl h hP
theorem tL_X12_mapped_49 {g : sx_G} (hG : sx_Go g) {P : Option Value → sv_V → Prop} {r : Int64} {Vr : sv_V} (hP : P (some (.long r)) Vr) {N : Nat}   : ∀ (n : Nat) (l1 : Int32) (l2 : Int32) (l3 : Int32) (V : sv_V), sx_lp4 (B_X12_mapped_49 N ) n l1 l2 l3 V = some (r, Vr) → sv_N g qX12_mapped 3 49 [(0, .ref 146), (1, .int l1), (2, .int l2), (3, .int l3)] [] V P :=
  sx_lp4_ind (fun k0 ih _ _ _ V h => tB_X12_mapped_49 hG hP ih h)
def B_X12_mapped_295 (N : Nat)  (l5 : Int32) (s0 : Int32) (V : sv_V) : Option (Int64 × sv_V) := if s0 = 0 then (some ((0 : Int64), V)) else (some (((s0 + l5) &&& (65535 : Int32)).toInt64, V))
set_option maxRecDepth 20000 in
theorem tB_X12_mapped_295 {g : sx_G} (hG : sx_Go g) {P : Option Value → sv_V → Prop} {r : Int64} {Vr : sv_V} (hP : P (some (.long r)) Vr) {N : Nat}   {l5 : Int32} {s0 : Int32} {V : sv_V} (h : B_X12_mapped_295 N  l5 s0 V = some (r, Vr)) : sv_N g qX12_mapped 3 295 [(5, .int l5)] [.int s0] V P := by
  unfold B_X12_mapped_295 at h
  refine sx_istore (pc := 295) (lo' := [(9, .int s0), (5, .int l5)]) dX12_mapped_295 (by decide) rfl ?_
  refine sx_iload (pc := 297) dX12_mapped_297 sx_m0 ?_
  refine sx_if_ne (pc := 299) (tgt := 306) dX12_mapped_299 (by decide) (fun c18 => ?_) (fun c18 => ?_)
  · have h := sx_neg c18 h
    refine sx_iload (pc := 306) dX12_mapped_306 sx_m0 ?_
    refine sx_iload (pc := 308) dX12_mapped_308 sx_m1 ?_
    refine sx_iadd (pc := 310) dX12_mapped_310 ?_
    refine sx_ldcw (pc := 311) dX12_mapped_311 k_X12_404 ?_
    refine sx_iand (pc := 314) dX12_mapped_314 ?_
    refine sx_i2l (pc := 315) dX12_mapped_315 ?_
    exact sv_lret (pc := 316) dX12_mapped_316 rfl h hP
  · have h := sx_pos c18 h
    refine sx_lconst (pc := 302) (v := 0) dX12_mapped_302 rfl ?_
    refine sx_goto (pc := 303) (tgt := 316) dX12_mapped_303 (by decide) ?_
    exact sv_lret (pc := 316) dX12_mapped_316 rfl h hP
def B_X12_mapped_133 (N : Nat) (k133 : Int32 → Int32 → Int32 → sv_V → Option (Int64 × sv_V)) (l1 : Int32) (l2 : Int32) (l3 : Int32) (V : sv_V) : Option (Int64 × sv_V) := (F_X12_u2 (((V.1 146 21) + (14 : Int32)) + ((2 : Int32) * l3)) V).bind (fun (x21, V19) => if l1 ≤ x21 then ((F_X12_u2 ((((V19.1 146 21) + (16 : Int32)) + ((2 : Int32) * l2)) + ((2 : Int32) * l3)) V19).bind (fun (x25, V23) => if x25 ≤ l1 then ((F_X12_u2 ((((V23.1 146 21) + (16 : Int32)) + ((4 : Int32) * l2)) + ((2 : Int32) * l3)) V23).bind (fun (x29, V27) => sx_let (((16 : Int32) + ((6 : Int32) * l2)) + ((2 : Int32) * l3)) (fun x30 => (F_X12_u2 ((V27.1 146 21) + x30) V27).bind (fun (x33, V31) => if x33 = 0 then (some (((l1 + x29) &&& (65535 : Int32)).toInt64, V31)) else (sx_let ((x30 + x33) + ((2 : Int32) * (l1 - x25))) (fun x35 => (F_X12_u2 ((V31.1 146 21) + (2 : Int32)) V31).bind (fun (x38, V36) => if x38 < (x35 + (2 : Int32)) then (B_X12_mapped_295 N  x29 (0 : Int32) V36) else ((F_X12_u2 ((V36.1 146 21) + x35) V36).bind (fun (x42, V40) => B_X12_mapped_295 N  x29 x42 V40))))))))) else (some ((0 : Int64), V23)))) else (sx_let (l3 + 1) (fun x43 => k133 l1 l2 x43 V19)))
set_option maxRecDepth 20000 in
theorem tB_X12_mapped_133 {g : sx_G} (hG : sx_Go g) {P : Option Value → sv_V → Prop} {r : Int64} {Vr : sv_V} (hP : P (some (.long r)) Vr) {N : Nat} {k133 : Int32 → Int32 → Int32 → sv_V → Option (Int64 × sv_V)} (hk133 : ∀ (l1 : Int32) (l2 : Int32) (l3 : Int32) (V : sv_V), k133 l1 l2 l3 V = some (r, Vr) → sv_N g qX12_mapped 3 133 [(0, .ref 146), (1, .int l1), (2, .int l2), (3, .int l3)] [] V P) {l1 : Int32} {l2 : Int32} {l3 : Int32} {V : sv_V} (h : B_X12_mapped_133 N k133 l1 l2 l3 V = some (r, Vr)) : sv_N g qX12_mapped 3 133 [(0, .ref 146), (1, .int l1), (2, .int l2), (3, .int l3)] [] V P := by
  unfold B_X12_mapped_133 at h
  refine sx_aload_n (pc := 133) dX12_mapped_133 sx_m0 ?_
  refine sx_aload_n (pc := 134) dX12_mapped_134 sx_m0 ?_
  refine sv_getI (pc := 135) hG dX12_mapped_135 f_12_384 lay_146 rfl ?_
  refine sx_bipush (pc := 138) (v := 14) dX12_mapped_138 (by decide) ?_
  refine sx_iadd (pc := 140) dX12_mapped_140 ?_
  refine sx_iconst (pc := 141) (v := 2) dX12_mapped_141 (by decide) ?_
  refine sx_iload_n (pc := 142) dX12_mapped_142 sx_m3 ?_
  refine sx_imul (pc := 143) dX12_mapped_143 ?_
  refine sx_iadd (pc := 144) dX12_mapped_144 ?_
  obtain ⟨⟨x21, V19⟩, g20, h⟩ := sx_bnd h
  refine sv_cV (pc := 145) (y := qX12_u2) (o := (some (.int x21))) (as := [.int (((V.1 146 21) + (14 : Int32)) + ((2 : Int32) * l3))]) (V1 := V19) hG dX12_mapped_145 l_X12_213 y0X12_u2 yvX12_u2 rfl (Nat.le_of_ble_eq_true rfl) lay_146 kr_12 (by decide) (Nat.le_of_ble_eq_true rfl) rfl rfl rfl (t_X12_u2 hG ⟨rfl, rfl⟩ g20) ?_
  refine sx_iload_n (pc := 148) dX12_mapped_148 sx_m1 ?_
  refine sx_icmp_ge (pc := 149) (tgt := 158) dX12_mapped_149 (by decide) (fun c22 => ?_) (fun c22 => ?_)
  · have h := sx_pos c22 h
    refine sx_aload_n (pc := 158) dX12_mapped_158 sx_m0 ?_
    refine sx_aload_n (pc := 159) dX12_mapped_159 sx_m0 ?_
    refine sv_getI (pc := 160) hG dX12_mapped_160 f_12_384 lay_146 rfl ?_
    refine sx_bipush (pc := 163) (v := 16) dX12_mapped_163 (by decide) ?_
    refine sx_iadd (pc := 165) dX12_mapped_165 ?_
    refine sx_iconst (pc := 166) (v := 2) dX12_mapped_166 (by decide) ?_
    refine sx_iload_n (pc := 167) dX12_mapped_167 sx_m2 ?_
    refine sx_imul (pc := 168) dX12_mapped_168 ?_
    refine sx_iadd (pc := 169) dX12_mapped_169 ?_
    refine sx_iconst (pc := 170) (v := 2) dX12_mapped_170 (by decide) ?_
    refine sx_iload_n (pc := 171) dX12_mapped_171 sx_m3 ?_
    refine sx_imul (pc := 172) dX12_mapped_172 ?_
    refine sx_iadd (pc := 173) dX12_mapped_173 ?_
    obtain ⟨⟨x25, V23⟩, g24, h⟩ := sx_bnd h
    refine sv_cV (pc := 174) (y := qX12_u2) (o := (some (.int x25))) (as := [.int ((((V19.1 146 21) + (16 : Int32)) + ((2 : Int32) * l2)) + ((2 : Int32) * l3))]) (V1 := V23) hG dX12_mapped_174 l_X12_213 y0X12_u2 yvX12_u2 rfl (Nat.le_of_ble_eq_true rfl) lay_146 kr_12 (by decide) (Nat.le_of_ble_eq_true rfl) rfl rfl rfl (t_X12_u2 hG ⟨rfl, rfl⟩ g24) ?_
    refine sx_istore (pc := 177) (lo' := [(4, .int x25), (0, .ref 146), (1, .int l1), (2, .int l2), (3, .int l3)]) dX12_mapped_177 (by decide) rfl ?_
    refine sx_iload (pc := 179) dX12_mapped_179 sx_m0 ?_
    refine sx_iload_n (pc := 181) dX12_mapped_181 sx_m2 ?_
    refine sx_icmp_le (pc := 182) (tgt := 187) dX12_mapped_182 (by decide) (fun c26 => ?_) (fun c26 => ?_)
    · have h := sx_pos c26 h
      refine sx_aload_n (pc := 187) dX12_mapped_187 sx_m1 ?_
      refine sx_aload_n (pc := 188) dX12_mapped_188 sx_m1 ?_
      refine sv_getI (pc := 189) hG dX12_mapped_189 f_12_384 lay_146 rfl ?_
      refine sx_bipush (pc := 192) (v := 16) dX12_mapped_192 (by decide) ?_
      refine sx_iadd (pc := 194) dX12_mapped_194 ?_
      refine sx_iconst (pc := 195) (v := 4) dX12_mapped_195 (by decide) ?_
      refine sx_iload_n (pc := 196) dX12_mapped_196 sx_m3 ?_
      refine sx_imul (pc := 197) dX12_mapped_197 ?_
      refine sx_iadd (pc := 198) dX12_mapped_198 ?_
      refine sx_iconst (pc := 199) (v := 2) dX12_mapped_199 (by decide) ?_
      refine sx_iload_n (pc := 200) dX12_mapped_200 sx_m4 ?_
      refine sx_imul (pc := 201) dX12_mapped_201 ?_
      refine sx_iadd (pc := 202) dX12_mapped_202 ?_
      obtain ⟨⟨x29, V27⟩, g28, h⟩ := sx_bnd h
      refine sv_cV (pc := 203) (y := qX12_u2) (o := (some (.int x29))) (as := [.int ((((V23.1 146 21) + (16 : Int32)) + ((4 : Int32) * l2)) + ((2 : Int32) * l3))]) (V1 := V27) hG dX12_mapped_203 l_X12_213 y0X12_u2 yvX12_u2 rfl (Nat.le_of_ble_eq_true rfl) lay_146 kr_12 (by decide) (Nat.le_of_ble_eq_true rfl) rfl rfl rfl (t_X12_u2 hG ⟨rfl, rfl⟩ g28) ?_
      refine sx_istore (pc := 206) (lo' := [(5, .int x29), (4, .int x25), (0, .ref 146), (1, .int l1), (2, .int l2), (3, .int l3)]) dX12_mapped_206 (by decide) rfl ?_
      refine sx_bipush (pc := 208) (v := 16) dX12_mapped_208 (by decide) ?_
      refine sx_bipush (pc := 210) (v := 6) dX12_mapped_210 (by decide) ?_
      refine sx_iload_n (pc := 212) dX12_mapped_212 sx_m4 ?_
      refine sx_imul (pc := 213) dX12_mapped_213 ?_
      refine sx_iadd (pc := 214) dX12_mapped_214 ?_
      refine sx_iconst (pc := 215) (v := 2) dX12_mapped_215 (by decide) ?_
      refine sx_iload_n (pc := 216) dX12_mapped_216 sx_m5 ?_
      refine sx_imul (pc := 217) dX12_mapped_217 ?_
      refine sx_iadd (pc := 218) dX12_mapped_218 ?_
      refine sv_tI (fun x30 hx30 => ?_)
      have h := sx_letE hx30 h
      refine sx_istore (pc := 219) (lo' := [(6, .int x30), (5, .int x29), (4, .int x25), (0, .ref 146), (1, .int l1), (2, .int l2), (3, .int l3)]) dX12_mapped_219 (by decide) rfl ?_
      refine sx_aload_n (pc := 221) dX12_mapped_221 sx_m3 ?_
      refine sx_aload_n (pc := 222) dX12_mapped_222 sx_m3 ?_
      refine sv_getI (pc := 223) hG dX12_mapped_223 f_12_384 lay_146 rfl ?_
      refine sx_iload (pc := 226) dX12_mapped_226 sx_m0 ?_
      refine sx_iadd (pc := 228) dX12_mapped_228 ?_
      obtain ⟨⟨x33, V31⟩, g32, h⟩ := sx_bnd h
      refine sv_cV (pc := 229) (y := qX12_u2) (o := (some (.int x33))) (as := [.int ((V27.1 146 21) + x30)]) (V1 := V31) hG dX12_mapped_229 l_X12_213 y0X12_u2 yvX12_u2 rfl (Nat.le_of_ble_eq_true rfl) lay_146 kr_12 (by decide) (Nat.le_of_ble_eq_true rfl) rfl rfl rfl (t_X12_u2 hG ⟨rfl, rfl⟩ g32) ?_
      refine sx_istore (pc := 232) (lo' := [(7, .int x33), (6, .int x30), (5, .int x29), (4, .int x25), (0, .ref 146), (1, .int l1), (2, .int l2), (3, .int l3)]) dX12_mapped_232 (by decide) rfl ?_
      refine sx_iload (pc := 234) dX12_mapped_234 sx_m0 ?_
      refine sx_if_ne (pc := 236) (tgt := 249) dX12_mapped_236 (by decide) (fun c34 => ?_) (fun c34 => ?_)
      · have h := sx_neg c34 h
        refine sx_iload (pc := 249) dX12_mapped_249 sx_m1 ?_
        refine sx_iload (pc := 251) dX12_mapped_251 sx_m0 ?_
        refine sx_iadd (pc := 253) dX12_mapped_253 ?_
        refine sx_iconst (pc := 254) (v := 2) dX12_mapped_254 (by decide) ?_
        refine sx_iload_n (pc := 255) dX12_mapped_255 sx_m5 ?_
        refine sx_iload (pc := 256) dX12_mapped_256 sx_m3 ?_
        refine sx_isub (pc := 258) dX12_mapped_258 ?_
        refine sx_imul (pc := 259) dX12_mapped_259 ?_
        refine sx_iadd (pc := 260) dX12_mapped_260 ?_
        refine sv_tI (fun x35 hx35 => ?_)
        have h := sx_letE hx35 h
        refine sx_istore (pc := 261) (lo' := [(8, .int x35), (7, .int x33), (6, .int x30), (5, .int x29), (4, .int x25), (0, .ref 146), (1, .int l1), (2, .int l2), (3, .int l3)]) dX12_mapped_261 (by decide) rfl ?_
        refine sx_iload (pc := 263) dX12_mapped_263 sx_m0 ?_
        refine sx_iconst (pc := 265) (v := 2) dX12_mapped_265 (by decide) ?_
        refine sx_iadd (pc := 266) dX12_mapped_266 ?_
        refine sx_aload_n (pc := 267) dX12_mapped_267 sx_m5 ?_
        refine sx_aload_n (pc := 268) dX12_mapped_268 sx_m5 ?_
        refine sv_getI (pc := 269) hG dX12_mapped_269 f_12_384 lay_146 rfl ?_
        refine sx_iconst (pc := 272) (v := 2) dX12_mapped_272 (by decide) ?_
        refine sx_iadd (pc := 273) dX12_mapped_273 ?_
        obtain ⟨⟨x38, V36⟩, g37, h⟩ := sx_bnd h
        refine sv_cV (pc := 274) (y := qX12_u2) (o := (some (.int x38))) (as := [.int ((V31.1 146 21) + (2 : Int32))]) (V1 := V36) hG dX12_mapped_274 l_X12_213 y0X12_u2 yvX12_u2 rfl (Nat.le_of_ble_eq_true rfl) lay_146 kr_12 (by decide) (Nat.le_of_ble_eq_true rfl) rfl rfl rfl (t_X12_u2 hG ⟨rfl, rfl⟩ g37) ?_
        refine sx_icmp_gt (pc := 277) (tgt := 294) dX12_mapped_277 (by decide) (fun c39 => ?_) (fun c39 => ?_)
        · have h := sx_pos c39 h
          refine sx_iconst (pc := 294) (v := 0) dX12_mapped_294 (by decide) ?_
          refine sx_wk (sx_s1 sx_m3 sx_s0) ?_
          exact tB_X12_mapped_295 hG hP  h
        · have h := sx_neg c39 h
          refine sx_aload_n (pc := 280) dX12_mapped_280 sx_m5 ?_
          refine sx_aload_n (pc := 281) dX12_mapped_281 sx_m5 ?_
          refine sv_getI (pc := 282) hG dX12_mapped_282 f_12_384 lay_146 rfl ?_
          refine sx_iload (pc := 285) dX12_mapped_285 sx_m0 ?_
          refine sx_iadd (pc := 287) dX12_mapped_287 ?_
          obtain ⟨⟨x42, V40⟩, g41, h⟩ := sx_bnd h
          refine sv_cV (pc := 288) (y := qX12_u2) (o := (some (.int x42))) (as := [.int ((V36.1 146 21) + x35)]) (V1 := V40) hG dX12_mapped_288 l_X12_213 y0X12_u2 yvX12_u2 rfl (Nat.le_of_ble_eq_true rfl) lay_146 kr_12 (by decide) (Nat.le_of_ble_eq_true rfl) rfl rfl rfl (t_X12_u2 hG ⟨rfl, rfl⟩ g41) ?_
          refine sx_goto (pc := 291) (tgt := 295) dX12_mapped_291 (by decide) ?_
          refine sx_wk (sx_s1 sx_m3 sx_s0) ?_
          exact tB_X12_mapped_295 hG hP  h
      · have h := sx_pos c34 h
        refine sx_iload_n (pc := 239) dX12_mapped_239 sx_m5 ?_
        refine sx_iload (pc := 240) dX12_mapped_240 sx_m2 ?_
        refine sx_iadd (pc := 242) dX12_mapped_242 ?_
        refine sx_ldcw (pc := 243) dX12_mapped_243 k_X12_404 ?_
        refine sx_iand (pc := 246) dX12_mapped_246 ?_
        refine sx_i2l (pc := 247) dX12_mapped_247 ?_
        exact sv_lret (pc := 248) dX12_mapped_248 rfl h hP
    · have h := sx_neg c26 h
      refine sx_lconst (pc := 185) (v := 0) dX12_mapped_185 rfl ?_
      exact sv_lret (pc := 186) dX12_mapped_186 rfl h hP
  · have h := sx_neg c22 h
    obtain ⟨x43, hx43⟩ : ∃ z : Int32, z = l3 + 1 := ⟨_, rfl⟩
    have h := sx_letE hx43 h
    refine sx_iinc (pc := 152) (v := x43) (lo' := [(3, .int x43), (0, .ref 146), (1, .int l1), (2, .int l2)]) dX12_mapped_152 sx_m3 (by rw [hx43]; rfl) (by decide) rfl ?_
    refine sx_goto (pc := 155) (tgt := 133) dX12_mapped_155 (by decide) ?_
    refine sx_wk (sx_s1 sx_m1 (sx_s1 sx_m2 (sx_s1 sx_m3 (sx_s1 sx_m0 sx_s0)))) ?_
    exact hk133 _ _ _ _ h
theorem tL_X12_mapped_133 {g : sx_G} (hG : sx_Go g) {P : Option Value → sv_V → Prop} {r : Int64} {Vr : sv_V} (hP : P (some (.long r)) Vr) {N : Nat}   : ∀ (n : Nat) (l1 : Int32) (l2 : Int32) (l3 : Int32) (V : sv_V), sx_lp4 (B_X12_mapped_133 N ) n l1 l2 l3 V = some (r, Vr) → sv_N g qX12_mapped 3 133 [(0, .ref 146), (1, .int l1), (2, .int l2), (3, .int l3)] [] V P :=
  sx_lp4_ind (fun k0 ih _ _ _ V h => tB_X12_mapped_133 hG hP ih h)
def F_X12_mapped (N : Nat) (l1 : Int32) (V : sv_V) : Option (Int64 × sv_V) := if (V.1 146 22) = 0 then (if (256 : Int32) ≤ l1 then (some ((0 : Int64), V)) else ((F_X12_u1 (((V.1 146 21) + (6 : Int32)) + l1) V).bind (fun (x51, V49) => some (x51.toInt64, V49)))) else (sx_let (V.1 146 23) (fun x45 => if (V.1 146 22) = (12 : Int32) then (sx_lp4 (B_X12_mapped_49 N ) N l1 x45 (0 : Int32) V) else (if l1 ≤ (65535 : Int32) then (sx_lp4 (B_X12_mapped_133 N ) N l1 x45 (0 : Int32) V) else (some ((0 : Int64), V)))))
set_option maxRecDepth 20000 in
theorem t_X12_mapped {g : sx_G} (hG : sx_Go g) {P : Option Value → sv_V → Prop} {r : Int64} {Vr : sv_V} (hP : P (some (.long r)) Vr) {N : Nat} {l1 : Int32} {V : sv_V} (h : F_X12_mapped N l1 V = some (r, Vr)) : sv_N g qX12_mapped 3 0 [(0, .ref 146), (1, .int l1)] [] V P := by
  unfold F_X12_mapped at h
  refine sx_aload_n (pc := 0) dX12_mapped_0 sx_m0 ?_
  refine sv_getI (pc := 1) hG dX12_mapped_1 f_12_387 lay_146 rfl ?_
  refine sx_if_ne (pc := 4) (tgt := 33) dX12_mapped_4 (by decide) (fun c44 => ?_) (fun c44 => ?_)
  · have h := sx_neg c44 h
    refine sx_aload_n (pc := 33) dX12_mapped_33 sx_m0 ?_
    refine sv_getI (pc := 34) hG dX12_mapped_34 f_12_399 lay_146 rfl ?_
    refine sv_tI (fun x45 hx45 => ?_)
    have h := sx_letE hx45 h
    refine sx_istore_n (pc := 37) (lo' := [(2, .int x45), (0, .ref 146), (1, .int l1)]) dX12_mapped_37 (by decide) rfl ?_
    refine sx_aload_n (pc := 38) dX12_mapped_38 sx_m1 ?_
    refine sv_getI (pc := 39) hG dX12_mapped_39 f_12_387 lay_146 rfl ?_
    refine sx_bipush (pc := 42) (v := 12) dX12_mapped_42 (by decide) ?_
    refine sx_icmp_ne (pc := 44) (tgt := 122) dX12_mapped_44 (by decide) (fun c46 => ?_) (fun c46 => ?_)
    · have h := sx_neg c46 h
      refine sx_iload_n (pc := 122) dX12_mapped_122 sx_m2 ?_
      refine sx_ldcw (pc := 123) dX12_mapped_123 k_X12_404 ?_
      refine sx_icmp_le (pc := 126) (tgt := 131) dX12_mapped_126 (by decide) (fun c47 => ?_) (fun c47 => ?_)
      · have h := sx_pos c47 h
        refine sx_iconst (pc := 131) (v := 0) dX12_mapped_131 (by decide) ?_
        refine sx_istore_n (pc := 132) (lo' := [(3, .int (0 : Int32)), (2, .int x45), (0, .ref 146), (1, .int l1)]) dX12_mapped_132 (by decide) rfl ?_
        refine sx_wk (sx_s1 sx_m2 (sx_s1 sx_m3 (sx_s1 sx_m1 (sx_s1 sx_m0 sx_s0)))) ?_
        exact tL_X12_mapped_133 hG hP  N _ _ _ _ h
      · have h := sx_neg c47 h
        refine sx_lconst (pc := 129) (v := 0) dX12_mapped_129 rfl ?_
        exact sv_lret (pc := 130) dX12_mapped_130 rfl h hP
    · have h := sx_pos c46 h
      refine sx_iconst (pc := 47) (v := 0) dX12_mapped_47 (by decide) ?_
      refine sx_istore_n (pc := 48) (lo' := [(3, .int (0 : Int32)), (2, .int x45), (0, .ref 146), (1, .int l1)]) dX12_mapped_48 (by decide) rfl ?_
      refine sx_wk (sx_s1 sx_m2 (sx_s1 sx_m3 (sx_s1 sx_m1 (sx_s1 sx_m0 sx_s0)))) ?_
      exact tL_X12_mapped_49 hG hP  N _ _ _ _ h
  · have h := sx_pos c44 h
    refine sx_iload_n (pc := 7) dX12_mapped_7 sx_m1 ?_
    refine sx_sipush (pc := 8) (v := 256) dX12_mapped_8 (by decide) ?_
    refine sx_icmp_ge (pc := 11) (tgt := 31) dX12_mapped_11 (by decide) (fun c48 => ?_) (fun c48 => ?_)
    · have h := sx_pos c48 h
      refine sx_lconst (pc := 31) (v := 0) dX12_mapped_31 rfl ?_
      exact sv_lret (pc := 32) dX12_mapped_32 rfl h hP
    · have h := sx_neg c48 h
      refine sx_aload_n (pc := 14) dX12_mapped_14 sx_m0 ?_
      refine sx_aload_n (pc := 15) dX12_mapped_15 sx_m0 ?_
      refine sv_getI (pc := 16) hG dX12_mapped_16 f_12_384 lay_146 rfl ?_
      refine sx_bipush (pc := 19) (v := 6) dX12_mapped_19 (by decide) ?_
      refine sx_iadd (pc := 21) dX12_mapped_21 ?_
      refine sx_iload_n (pc := 22) dX12_mapped_22 sx_m1 ?_
      refine sx_iadd (pc := 23) dX12_mapped_23 ?_
      obtain ⟨⟨x51, V49⟩, g50, h⟩ := sx_bnd h
      refine sv_cV (pc := 24) (y := qX12_u1) (o := (some (.int x51))) (as := [.int (((V.1 146 21) + (6 : Int32)) + l1)]) (V1 := V49) hG dX12_mapped_24 l_X12_209 y0X12_u1 yvX12_u1 rfl (Nat.le_of_ble_eq_true rfl) lay_146 kr_12 (by decide) (Nat.le_of_ble_eq_true rfl) rfl rfl rfl (t_X12_u1 hG ⟨rfl, rfl⟩ g50) ?_
      refine sx_i2l (pc := 27) dX12_mapped_27 ?_
      refine sx_goto (pc := 28) (tgt := 32) dX12_mapped_28 (by decide) ?_
      exact sv_lret (pc := 32) dX12_mapped_32 rfl h hP
theorem dX12_kerns_0 : decode cX12_kerns 0 = .ok (.aload_n 0, 1) := by decide +kernel
theorem dX12_kerns_1 : decode cX12_kerns 1 = .ok (.iconst 0, 1) := by decide +kernel
theorem dX12_kerns_2 : decode cX12_kerns 2 = .ok (.putfield 405, 3) := by decide +kernel
theorem dX12_kerns_5 : decode cX12_kerns 5 = .ok (.aload_n 0, 1) := by decide +kernel
theorem dX12_kerns_6 : decode cX12_kerns 6 = .ok (.ldc_w 408, 3) := by decide +kernel
theorem dX12_kerns_9 : decode cX12_kerns 9 = .ok (.invokevirtual 219, 3) := by decide +kernel
theorem dX12_kerns_12 : decode cX12_kerns 12 = .ok (.iconst (-1), 1) := by decide +kernel
theorem dX12_kerns_13 : decode cX12_kerns 13 = .ok (.if_icmp .ne 5, 3) := by decide +kernel
theorem dX12_kerns_16 : decode cX12_kerns 16 = .ok (.iconst 1, 1) := by decide +kernel
theorem dX12_kerns_17 : decode cX12_kerns 17 = .ok (.ireturn, 1) := by decide +kernel
theorem dX12_kerns_18 : decode cX12_kerns 18 = .ok (.aload_n 0, 1) := by decide +kernel
theorem dX12_kerns_19 : decode cX12_kerns 19 = .ok (.ldc_w 408, 3) := by decide +kernel
theorem dX12_kerns_22 : decode cX12_kerns 22 = .ok (.invokevirtual 251, 3) := by decide +kernel
theorem dX12_kerns_25 : decode cX12_kerns 25 = .ok (.istore_n 1, 1) := by decide +kernel
theorem dX12_kerns_26 : decode cX12_kerns 26 = .ok (.aload_n 0, 1) := by decide +kernel
theorem dX12_kerns_27 : decode cX12_kerns 27 = .ok (.ldc_w 408, 3) := by decide +kernel
theorem dX12_kerns_30 : decode cX12_kerns 30 = .ok (.invokevirtual 257, 3) := by decide +kernel
theorem dX12_kerns_33 : decode cX12_kerns 33 = .ok (.istore_n 2, 1) := by decide +kernel
theorem dX12_kerns_34 : decode cX12_kerns 34 = .ok (.iload_n 2, 1) := by decide +kernel
theorem dX12_kerns_35 : decode cX12_kerns 35 = .ok (.bipush 18, 2) := by decide +kernel
theorem dX12_kerns_37 : decode cX12_kerns 37 = .ok (.if_icmp .lt 34, 3) := by decide +kernel
theorem dX12_kerns_40 : decode cX12_kerns 40 = .ok (.aload_n 0, 1) := by decide +kernel
theorem dX12_kerns_41 : decode cX12_kerns 41 = .ok (.iload_n 1, 1) := by decide +kernel
theorem dX12_kerns_42 : decode cX12_kerns 42 = .ok (.invokevirtual 213, 3) := by decide +kernel
theorem dX12_kerns_45 : decode cX12_kerns 45 = .ok (.ifCond .ne 26, 3) := by decide +kernel
theorem dX12_kerns_48 : decode cX12_kerns 48 = .ok (.aload_n 0, 1) := by decide +kernel
theorem dX12_kerns_49 : decode cX12_kerns 49 = .ok (.iload_n 1, 1) := by decide +kernel
theorem dX12_kerns_50 : decode cX12_kerns 50 = .ok (.iconst 2, 1) := by decide +kernel
theorem dX12_kerns_51 : decode cX12_kerns 51 = .ok (.iadd, 1) := by decide +kernel
theorem dX12_kerns_52 : decode cX12_kerns 52 = .ok (.invokevirtual 213, 3) := by decide +kernel
theorem dX12_kerns_55 : decode cX12_kerns 55 = .ok (.iconst 1, 1) := by decide +kernel
theorem dX12_kerns_56 : decode cX12_kerns 56 = .ok (.if_icmp .lt 15, 3) := by decide +kernel
theorem dX12_kerns_59 : decode cX12_kerns 59 = .ok (.aload_n 0, 1) := by decide +kernel
theorem dX12_kerns_60 : decode cX12_kerns 60 = .ok (.iload_n 1, 1) := by decide +kernel
theorem dX12_kerns_61 : decode cX12_kerns 61 = .ok (.bipush 8, 2) := by decide +kernel
theorem dX12_kerns_63 : decode cX12_kerns 63 = .ok (.iadd, 1) := by decide +kernel
theorem dX12_kerns_64 : decode cX12_kerns 64 = .ok (.invokevirtual 213, 3) := by decide +kernel
theorem dX12_kerns_67 : decode cX12_kerns 67 = .ok (.iconst 1, 1) := by decide +kernel
theorem dX12_kerns_68 : decode cX12_kerns 68 = .ok (.if_icmp .eq 5, 3) := by decide +kernel
theorem dX12_kerns_71 : decode cX12_kerns 71 = .ok (.iconst 0, 1) := by decide +kernel
theorem dX12_kerns_72 : decode cX12_kerns 72 = .ok (.ireturn, 1) := by decide +kernel
theorem dX12_kerns_73 : decode cX12_kerns 73 = .ok (.aload_n 0, 1) := by decide +kernel
theorem dX12_kerns_74 : decode cX12_kerns 74 = .ok (.iload_n 1, 1) := by decide +kernel
theorem dX12_kerns_75 : decode cX12_kerns 75 = .ok (.bipush 10, 2) := by decide +kernel
theorem dX12_kerns_77 : decode cX12_kerns 77 = .ok (.iadd, 1) := by decide +kernel
theorem dX12_kerns_78 : decode cX12_kerns 78 = .ok (.invokevirtual 213, 3) := by decide +kernel
theorem dX12_kerns_81 : decode cX12_kerns 81 = .ok (.istore_n 3, 1) := by decide +kernel
theorem dX12_kerns_82 : decode cX12_kerns 82 = .ok (.iload_n 3, 1) := by decide +kernel
theorem dX12_kerns_83 : decode cX12_kerns 83 = .ok (.sipush 500, 3) := by decide +kernel
theorem dX12_kerns_86 : decode cX12_kerns 86 = .ok (.if_icmp .gt 14, 3) := by decide +kernel
theorem dX12_kerns_89 : decode cX12_kerns 89 = .ok (.bipush 18, 2) := by decide +kernel
theorem dX12_kerns_91 : decode cX12_kerns 91 = .ok (.bipush 6, 2) := by decide +kernel
theorem dX12_kerns_93 : decode cX12_kerns 93 = .ok (.iload_n 3, 1) := by decide +kernel
theorem dX12_kerns_94 : decode cX12_kerns 94 = .ok (.imul, 1) := by decide +kernel
theorem dX12_kerns_95 : decode cX12_kerns 95 = .ok (.iadd, 1) := by decide +kernel
theorem dX12_kerns_96 : decode cX12_kerns 96 = .ok (.iload_n 2, 1) := by decide +kernel
theorem dX12_kerns_97 : decode cX12_kerns 97 = .ok (.if_icmp .le 5, 3) := by decide +kernel
theorem dX12_kerns_100 : decode cX12_kerns 100 = .ok (.iconst 0, 1) := by decide +kernel
theorem dX12_kerns_101 : decode cX12_kerns 101 = .ok (.ireturn, 1) := by decide +kernel
theorem dX12_kerns_102 : decode cX12_kerns 102 = .ok (.iconst 1, 1) := by decide +kernel
theorem dX12_kerns_103 : decode cX12_kerns 103 = .ok (.istore 4, 2) := by decide +kernel
theorem dX12_kerns_105 : decode cX12_kerns 105 = .ok (.iload 4, 2) := by decide +kernel
theorem dX12_kerns_107 : decode cX12_kerns 107 = .ok (.iload_n 3, 1) := by decide +kernel
theorem dX12_kerns_108 : decode cX12_kerns 108 = .ok (.if_icmp .ge 43, 3) := by decide +kernel
theorem dX12_kerns_111 : decode cX12_kerns 111 = .ok (.aload_n 0, 1) := by decide +kernel
theorem dX12_kerns_112 : decode cX12_kerns 112 = .ok (.iload_n 1, 1) := by decide +kernel
theorem dX12_kerns_113 : decode cX12_kerns 113 = .ok (.bipush 18, 2) := by decide +kernel
theorem dX12_kerns_115 : decode cX12_kerns 115 = .ok (.iadd, 1) := by decide +kernel
theorem dX12_kerns_116 : decode cX12_kerns 116 = .ok (.bipush 6, 2) := by decide +kernel
theorem dX12_kerns_118 : decode cX12_kerns 118 = .ok (.iload 4, 2) := by decide +kernel
theorem dX12_kerns_120 : decode cX12_kerns 120 = .ok (.imul, 1) := by decide +kernel
theorem dX12_kerns_121 : decode cX12_kerns 121 = .ok (.iadd, 1) := by decide +kernel
theorem dX12_kerns_122 : decode cX12_kerns 122 = .ok (.invokevirtual 297, 3) := by decide +kernel
theorem dX12_kerns_125 : decode cX12_kerns 125 = .ok (.aload_n 0, 1) := by decide +kernel
theorem dX12_kerns_126 : decode cX12_kerns 126 = .ok (.iload_n 1, 1) := by decide +kernel
theorem dX12_kerns_127 : decode cX12_kerns 127 = .ok (.bipush 12, 2) := by decide +kernel
theorem dX12_kerns_129 : decode cX12_kerns 129 = .ok (.iadd, 1) := by decide +kernel
theorem dX12_kerns_130 : decode cX12_kerns 130 = .ok (.bipush 6, 2) := by decide +kernel
theorem dX12_kerns_132 : decode cX12_kerns 132 = .ok (.iload 4, 2) := by decide +kernel
theorem dX12_kerns_134 : decode cX12_kerns 134 = .ok (.imul, 1) := by decide +kernel
theorem dX12_kerns_135 : decode cX12_kerns 135 = .ok (.iadd, 1) := by decide +kernel
theorem dX12_kerns_136 : decode cX12_kerns 136 = .ok (.invokevirtual 297, 3) := by decide +kernel
theorem dX12_kerns_139 : decode cX12_kerns 139 = .ok (.lcmp, 1) := by decide +kernel
theorem dX12_kerns_140 : decode cX12_kerns 140 = .ok (.ifCond .gt 5, 3) := by decide +kernel
theorem dX12_kerns_143 : decode cX12_kerns 143 = .ok (.iconst 0, 1) := by decide +kernel
theorem dX12_kerns_144 : decode cX12_kerns 144 = .ok (.ireturn, 1) := by decide +kernel
theorem dX12_kerns_145 : decode cX12_kerns 145 = .ok (.iinc 4 1, 3) := by decide +kernel
theorem dX12_kerns_148 : decode cX12_kerns 148 = .ok (.goto (-43), 3) := by decide +kernel
theorem dX12_kerns_151 : decode cX12_kerns 151 = .ok (.aload_n 0, 1) := by decide +kernel
theorem dX12_kerns_152 : decode cX12_kerns 152 = .ok (.iload_n 3, 1) := by decide +kernel
theorem dX12_kerns_153 : decode cX12_kerns 153 = .ok (.putfield 405, 3) := by decide +kernel
theorem dX12_kerns_156 : decode cX12_kerns 156 = .ok (.iconst 1, 1) := by decide +kernel
theorem dX12_kerns_157 : decode cX12_kerns 157 = .ok (.ireturn, 1) := by decide +kernel
def B_X12_kerns_105 (N : Nat) (k105 : Int32 → Int32 → Int32 → sv_V → Option (Int32 × sv_V)) (l1 : Int32) (l3 : Int32) (l4 : Int32) (V : sv_V) : Option (Int32 × sv_V) := if l3 ≤ l4 then (sx_let (sv_I V 146 24 l3) (fun V2 => some ((1 : Int32), V2))) else ((F_X12_u4 ((l1 + (18 : Int32)) + ((6 : Int32) * l4)) V).bind (fun (x5, V3) => (F_X12_u4 ((l1 + (12 : Int32)) + ((6 : Int32) * l4)) V3).bind (fun (x8, V6) => if 0 < (lg_cmp x5 x8) then (sx_let (l4 + 1) (fun x10 => k105 l1 l3 x10 V6)) else (some ((0 : Int32), V6)))))
set_option maxRecDepth 20000 in
theorem tB_X12_kerns_105 {g : sx_G} (hG : sx_Go g) {P : Option Value → sv_V → Prop} {r : Int32} {Vr : sv_V} (hP : P (some (.int r)) Vr) {N : Nat} {k105 : Int32 → Int32 → Int32 → sv_V → Option (Int32 × sv_V)} (hk105 : ∀ (l1 : Int32) (l3 : Int32) (l4 : Int32) (V : sv_V), k105 l1 l3 l4 V = some (r, Vr) → sv_N g qX12_kerns 3 105 [(0, .ref 146), (1, .int l1), (3, .int l3), (4, .int l4)] [] V P) {l1 : Int32} {l3 : Int32} {l4 : Int32} {V : sv_V} (h : B_X12_kerns_105 N k105 l1 l3 l4 V = some (r, Vr)) : sv_N g qX12_kerns 3 105 [(0, .ref 146), (1, .int l1), (3, .int l3), (4, .int l4)] [] V P := by
  unfold B_X12_kerns_105 at h
  refine sx_iload (pc := 105) dX12_kerns_105 sx_m3 ?_
  refine sx_iload_n (pc := 107) dX12_kerns_107 sx_m2 ?_
  refine sx_icmp_ge (pc := 108) (tgt := 151) dX12_kerns_108 (by decide) (fun c1 => ?_) (fun c1 => ?_)
  · have h := sx_pos c1 h
    refine sx_aload_n (pc := 151) dX12_kerns_151 sx_m0 ?_
    refine sx_iload_n (pc := 152) dX12_kerns_152 sx_m2 ?_
    obtain ⟨V2, hV2⟩ : ∃ z : sv_V, z = sv_I V 146 24 l3 := ⟨_, rfl⟩
    have h := sx_letE hV2 h
    refine sv_putI (pc := 153) hG dX12_kerns_153 f_12_405 lay_146 rfl hV2 ?_
    refine sx_iconst (pc := 156) (v := 1) dX12_kerns_156 (by decide) ?_
    exact sv_zret (pc := 157) dX12_kerns_157 rfl rfl h hP
  · have h := sx_neg c1 h
    refine sx_aload_n (pc := 111) dX12_kerns_111 sx_m0 ?_
    refine sx_iload_n (pc := 112) dX12_kerns_112 sx_m1 ?_
    refine sx_bipush (pc := 113) (v := 18) dX12_kerns_113 (by decide) ?_
    refine sx_iadd (pc := 115) dX12_kerns_115 ?_
    refine sx_bipush (pc := 116) (v := 6) dX12_kerns_116 (by decide) ?_
    refine sx_iload (pc := 118) dX12_kerns_118 sx_m3 ?_
    refine sx_imul (pc := 120) dX12_kerns_120 ?_
    refine sx_iadd (pc := 121) dX12_kerns_121 ?_
    obtain ⟨⟨x5, V3⟩, g4, h⟩ := sx_bnd h
    refine sv_cV (pc := 122) (y := qX12_u4) (o := (some (.long x5))) (as := [.int ((l1 + (18 : Int32)) + ((6 : Int32) * l4))]) (V1 := V3) hG dX12_kerns_122 l_X12_297 y0X12_u4 yvX12_u4 rfl (Nat.le_of_ble_eq_true rfl) lay_146 kr_12 (by decide) (Nat.le_of_ble_eq_true rfl) rfl rfl rfl (t_X12_u4 hG ⟨rfl, rfl⟩ g4) ?_
    refine sx_aload_n (pc := 125) dX12_kerns_125 sx_m0 ?_
    refine sx_iload_n (pc := 126) dX12_kerns_126 sx_m1 ?_
    refine sx_bipush (pc := 127) (v := 12) dX12_kerns_127 (by decide) ?_
    refine sx_iadd (pc := 129) dX12_kerns_129 ?_
    refine sx_bipush (pc := 130) (v := 6) dX12_kerns_130 (by decide) ?_
    refine sx_iload (pc := 132) dX12_kerns_132 sx_m3 ?_
    refine sx_imul (pc := 134) dX12_kerns_134 ?_
    refine sx_iadd (pc := 135) dX12_kerns_135 ?_
    obtain ⟨⟨x8, V6⟩, g7, h⟩ := sx_bnd h
    refine sv_cV (pc := 136) (y := qX12_u4) (o := (some (.long x8))) (as := [.int ((l1 + (12 : Int32)) + ((6 : Int32) * l4))]) (V1 := V6) hG dX12_kerns_136 l_X12_297 y0X12_u4 yvX12_u4 rfl (Nat.le_of_ble_eq_true rfl) lay_146 kr_12 (by decide) (Nat.le_of_ble_eq_true rfl) rfl rfl rfl (t_X12_u4 hG ⟨rfl, rfl⟩ g7) ?_
    refine sx_lcmp (pc := 139) dX12_kerns_139 ?_
    refine sx_if_gt (pc := 140) (tgt := 145) dX12_kerns_140 (by decide) (fun c9 => ?_) (fun c9 => ?_)
    · have h := sx_pos c9 h
      obtain ⟨x10, hx10⟩ : ∃ z : Int32, z = l4 + 1 := ⟨_, rfl⟩
      have h := sx_letE hx10 h
      refine sx_iinc (pc := 145) (v := x10) (lo' := [(4, .int x10), (0, .ref 146), (1, .int l1), (3, .int l3)]) dX12_kerns_145 sx_m3 (by rw [hx10]; rfl) (by decide) rfl ?_
      refine sx_goto (pc := 148) (tgt := 105) dX12_kerns_148 (by decide) ?_
      refine sx_wk (sx_s1 sx_m1 (sx_s1 sx_m2 (sx_s1 sx_m3 (sx_s1 sx_m0 sx_s0)))) ?_
      exact hk105 _ _ _ _ h
    · have h := sx_neg c9 h
      refine sx_iconst (pc := 143) (v := 0) dX12_kerns_143 (by decide) ?_
      exact sv_zret (pc := 144) dX12_kerns_144 rfl rfl h hP
theorem tL_X12_kerns_105 {g : sx_G} (hG : sx_Go g) {P : Option Value → sv_V → Prop} {r : Int32} {Vr : sv_V} (hP : P (some (.int r)) Vr) {N : Nat}   : ∀ (n : Nat) (l1 : Int32) (l3 : Int32) (l4 : Int32) (V : sv_V), sx_lp4 (B_X12_kerns_105 N ) n l1 l3 l4 V = some (r, Vr) → sv_N g qX12_kerns 3 105 [(0, .ref 146), (1, .int l1), (3, .int l3), (4, .int l4)] [] V P :=
  sx_lp4_ind (fun k0 ih _ _ _ V h => tB_X12_kerns_105 hG hP ih h)
def F_X12_kerns (N : Nat)  (V : sv_V) : Option (Int32 × sv_V) := sx_let (sv_I V 146 24 (0 : Int32)) (fun V11 => (F_X12_tableOf N (1801810542 : Int32) V11).bind (fun (x14, V12) => if x14 = (-1 : Int32) then (some ((1 : Int32), V12)) else ((F_X12_beginOf N (1801810542 : Int32) V12).bind (fun (x18, V16) => (F_X12_lengthOf N (1801810542 : Int32) V16).bind (fun (x21, V19) => if x21 < (18 : Int32) then (some ((0 : Int32), V19)) else ((F_X12_u2 x18 V19).bind (fun (x25, V23) => if x25 = 0 then ((F_X12_u2 (x18 + (2 : Int32)) V23).bind (fun (x29, V27) => if x29 < (1 : Int32) then (some ((0 : Int32), V27)) else ((F_X12_u2 (x18 + (8 : Int32)) V27).bind (fun (x33, V31) => if x33 = (1 : Int32) then ((F_X12_u2 (x18 + (10 : Int32)) V31).bind (fun (x37, V35) => if (500 : Int32) < x37 then (some ((0 : Int32), V35)) else (if ((18 : Int32) + ((6 : Int32) * x37)) ≤ x21 then (sx_lp4 (B_X12_kerns_105 N ) N x18 x37 (1 : Int32) V35) else (some ((0 : Int32), V35))))) else (some ((0 : Int32), V31)))))) else (some ((0 : Int32), V23)))))))))
set_option maxRecDepth 20000 in
theorem t_X12_kerns {g : sx_G} (hG : sx_Go g) {P : Option Value → sv_V → Prop} {r : Int32} {Vr : sv_V} (hP : P (some (.int r)) Vr) {N : Nat}  {V : sv_V} (h : F_X12_kerns N  V = some (r, Vr)) : sv_N g qX12_kerns 3 0 [(0, .ref 146)] [] V P := by
  unfold F_X12_kerns at h
  refine sx_aload_n (pc := 0) dX12_kerns_0 sx_m0 ?_
  refine sx_iconst (pc := 1) (v := 0) dX12_kerns_1 (by decide) ?_
  obtain ⟨V11, hV11⟩ : ∃ z : sv_V, z = sv_I V 146 24 (0 : Int32) := ⟨_, rfl⟩
  have h := sx_letE hV11 h
  refine sv_putI (pc := 2) hG dX12_kerns_2 f_12_405 lay_146 rfl hV11 ?_
  refine sx_aload_n (pc := 5) dX12_kerns_5 sx_m0 ?_
  refine sx_ldcw (pc := 6) dX12_kerns_6 k_X12_408 ?_
  obtain ⟨⟨x14, V12⟩, g13, h⟩ := sx_bnd h
  refine sv_cV (pc := 9) (y := qX12_tableOf) (o := (some (.int x14))) (as := [.int (1801810542 : Int32)]) (V1 := V12) hG dX12_kerns_9 l_X12_219 y0X12_tableOf yvX12_tableOf rfl (Nat.le_of_ble_eq_true rfl) lay_146 kr_12 (by decide) (Nat.le_of_ble_eq_true rfl) rfl rfl rfl (t_X12_tableOf hG ⟨rfl, rfl⟩ g13) ?_
  refine sx_iconst (pc := 12) (v := (-1)) dX12_kerns_12 (by decide) ?_
  refine sx_icmp_ne (pc := 13) (tgt := 18) dX12_kerns_13 (by decide) (fun c15 => ?_) (fun c15 => ?_)
  · have h := sx_neg c15 h
    refine sx_aload_n (pc := 18) dX12_kerns_18 sx_m0 ?_
    refine sx_ldcw (pc := 19) dX12_kerns_19 k_X12_408 ?_
    obtain ⟨⟨x18, V16⟩, g17, h⟩ := sx_bnd h
    refine sv_cV (pc := 22) (y := qX12_beginOf) (o := (some (.int x18))) (as := [.int (1801810542 : Int32)]) (V1 := V16) hG dX12_kerns_22 l_X12_251 y0X12_beginOf yvX12_beginOf rfl (Nat.le_of_ble_eq_true rfl) lay_146 kr_12 (by decide) (Nat.le_of_ble_eq_true rfl) rfl rfl rfl (t_X12_beginOf hG ⟨rfl, rfl⟩ g17) ?_
    refine sx_istore_n (pc := 25) (lo' := [(1, .int x18), (0, .ref 146)]) dX12_kerns_25 (by decide) rfl ?_
    refine sx_aload_n (pc := 26) dX12_kerns_26 sx_m1 ?_
    refine sx_ldcw (pc := 27) dX12_kerns_27 k_X12_408 ?_
    obtain ⟨⟨x21, V19⟩, g20, h⟩ := sx_bnd h
    refine sv_cV (pc := 30) (y := qX12_lengthOf) (o := (some (.int x21))) (as := [.int (1801810542 : Int32)]) (V1 := V19) hG dX12_kerns_30 l_X12_257 y0X12_lengthOf yvX12_lengthOf rfl (Nat.le_of_ble_eq_true rfl) lay_146 kr_12 (by decide) (Nat.le_of_ble_eq_true rfl) rfl rfl rfl (t_X12_lengthOf hG ⟨rfl, rfl⟩ g20) ?_
    refine sx_istore_n (pc := 33) (lo' := [(2, .int x21), (1, .int x18), (0, .ref 146)]) dX12_kerns_33 (by decide) rfl ?_
    refine sx_iload_n (pc := 34) dX12_kerns_34 sx_m0 ?_
    refine sx_bipush (pc := 35) (v := 18) dX12_kerns_35 (by decide) ?_
    refine sx_icmp_lt (pc := 37) (tgt := 71) dX12_kerns_37 (by decide) (fun c22 => ?_) (fun c22 => ?_)
    · have h := sx_pos c22 h
      refine sx_iconst (pc := 71) (v := 0) dX12_kerns_71 (by decide) ?_
      exact sv_zret (pc := 72) dX12_kerns_72 rfl rfl h hP
    · have h := sx_neg c22 h
      refine sx_aload_n (pc := 40) dX12_kerns_40 sx_m2 ?_
      refine sx_iload_n (pc := 41) dX12_kerns_41 sx_m1 ?_
      obtain ⟨⟨x25, V23⟩, g24, h⟩ := sx_bnd h
      refine sv_cV (pc := 42) (y := qX12_u2) (o := (some (.int x25))) (as := [.int x18]) (V1 := V23) hG dX12_kerns_42 l_X12_213 y0X12_u2 yvX12_u2 rfl (Nat.le_of_ble_eq_true rfl) lay_146 kr_12 (by decide) (Nat.le_of_ble_eq_true rfl) rfl rfl rfl (t_X12_u2 hG ⟨rfl, rfl⟩ g24) ?_
      refine sx_if_ne (pc := 45) (tgt := 71) dX12_kerns_45 (by decide) (fun c26 => ?_) (fun c26 => ?_)
      · have h := sx_neg c26 h
        refine sx_iconst (pc := 71) (v := 0) dX12_kerns_71 (by decide) ?_
        exact sv_zret (pc := 72) dX12_kerns_72 rfl rfl h hP
      · have h := sx_pos c26 h
        refine sx_aload_n (pc := 48) dX12_kerns_48 sx_m2 ?_
        refine sx_iload_n (pc := 49) dX12_kerns_49 sx_m1 ?_
        refine sx_iconst (pc := 50) (v := 2) dX12_kerns_50 (by decide) ?_
        refine sx_iadd (pc := 51) dX12_kerns_51 ?_
        obtain ⟨⟨x29, V27⟩, g28, h⟩ := sx_bnd h
        refine sv_cV (pc := 52) (y := qX12_u2) (o := (some (.int x29))) (as := [.int (x18 + (2 : Int32))]) (V1 := V27) hG dX12_kerns_52 l_X12_213 y0X12_u2 yvX12_u2 rfl (Nat.le_of_ble_eq_true rfl) lay_146 kr_12 (by decide) (Nat.le_of_ble_eq_true rfl) rfl rfl rfl (t_X12_u2 hG ⟨rfl, rfl⟩ g28) ?_
        refine sx_iconst (pc := 55) (v := 1) dX12_kerns_55 (by decide) ?_
        refine sx_icmp_lt (pc := 56) (tgt := 71) dX12_kerns_56 (by decide) (fun c30 => ?_) (fun c30 => ?_)
        · have h := sx_pos c30 h
          refine sx_iconst (pc := 71) (v := 0) dX12_kerns_71 (by decide) ?_
          exact sv_zret (pc := 72) dX12_kerns_72 rfl rfl h hP
        · have h := sx_neg c30 h
          refine sx_aload_n (pc := 59) dX12_kerns_59 sx_m2 ?_
          refine sx_iload_n (pc := 60) dX12_kerns_60 sx_m1 ?_
          refine sx_bipush (pc := 61) (v := 8) dX12_kerns_61 (by decide) ?_
          refine sx_iadd (pc := 63) dX12_kerns_63 ?_
          obtain ⟨⟨x33, V31⟩, g32, h⟩ := sx_bnd h
          refine sv_cV (pc := 64) (y := qX12_u2) (o := (some (.int x33))) (as := [.int (x18 + (8 : Int32))]) (V1 := V31) hG dX12_kerns_64 l_X12_213 y0X12_u2 yvX12_u2 rfl (Nat.le_of_ble_eq_true rfl) lay_146 kr_12 (by decide) (Nat.le_of_ble_eq_true rfl) rfl rfl rfl (t_X12_u2 hG ⟨rfl, rfl⟩ g32) ?_
          refine sx_iconst (pc := 67) (v := 1) dX12_kerns_67 (by decide) ?_
          refine sx_icmp_eq (pc := 68) (tgt := 73) dX12_kerns_68 (by decide) (fun c34 => ?_) (fun c34 => ?_)
          · have h := sx_pos c34 h
            refine sx_aload_n (pc := 73) dX12_kerns_73 sx_m2 ?_
            refine sx_iload_n (pc := 74) dX12_kerns_74 sx_m1 ?_
            refine sx_bipush (pc := 75) (v := 10) dX12_kerns_75 (by decide) ?_
            refine sx_iadd (pc := 77) dX12_kerns_77 ?_
            obtain ⟨⟨x37, V35⟩, g36, h⟩ := sx_bnd h
            refine sv_cV (pc := 78) (y := qX12_u2) (o := (some (.int x37))) (as := [.int (x18 + (10 : Int32))]) (V1 := V35) hG dX12_kerns_78 l_X12_213 y0X12_u2 yvX12_u2 rfl (Nat.le_of_ble_eq_true rfl) lay_146 kr_12 (by decide) (Nat.le_of_ble_eq_true rfl) rfl rfl rfl (t_X12_u2 hG ⟨rfl, rfl⟩ g36) ?_
            refine sx_istore_n (pc := 81) (lo' := [(3, .int x37), (2, .int x21), (1, .int x18), (0, .ref 146)]) dX12_kerns_81 (by decide) rfl ?_
            refine sx_iload_n (pc := 82) dX12_kerns_82 sx_m0 ?_
            refine sx_sipush (pc := 83) (v := 500) dX12_kerns_83 (by decide) ?_
            refine sx_icmp_gt (pc := 86) (tgt := 100) dX12_kerns_86 (by decide) (fun c38 => ?_) (fun c38 => ?_)
            · have h := sx_pos c38 h
              refine sx_iconst (pc := 100) (v := 0) dX12_kerns_100 (by decide) ?_
              exact sv_zret (pc := 101) dX12_kerns_101 rfl rfl h hP
            · have h := sx_neg c38 h
              refine sx_bipush (pc := 89) (v := 18) dX12_kerns_89 (by decide) ?_
              refine sx_bipush (pc := 91) (v := 6) dX12_kerns_91 (by decide) ?_
              refine sx_iload_n (pc := 93) dX12_kerns_93 sx_m0 ?_
              refine sx_imul (pc := 94) dX12_kerns_94 ?_
              refine sx_iadd (pc := 95) dX12_kerns_95 ?_
              refine sx_iload_n (pc := 96) dX12_kerns_96 sx_m1 ?_
              refine sx_icmp_le (pc := 97) (tgt := 102) dX12_kerns_97 (by decide) (fun c39 => ?_) (fun c39 => ?_)
              · have h := sx_pos c39 h
                refine sx_iconst (pc := 102) (v := 1) dX12_kerns_102 (by decide) ?_
                refine sx_istore (pc := 103) (lo' := [(4, .int (1 : Int32)), (3, .int x37), (2, .int x21), (1, .int x18), (0, .ref 146)]) dX12_kerns_103 (by decide) rfl ?_
                refine sx_wk (sx_s1 sx_m4 (sx_s1 sx_m3 (sx_s1 sx_m1 (sx_s1 sx_m0 sx_s0)))) ?_
                exact tL_X12_kerns_105 hG hP  N _ _ _ _ h
              · have h := sx_neg c39 h
                refine sx_iconst (pc := 100) (v := 0) dX12_kerns_100 (by decide) ?_
                exact sv_zret (pc := 101) dX12_kerns_101 rfl rfl h hP
          · have h := sx_neg c34 h
            refine sx_iconst (pc := 71) (v := 0) dX12_kerns_71 (by decide) ?_
            exact sv_zret (pc := 72) dX12_kerns_72 rfl rfl h hP
  · have h := sx_pos c15 h
    refine sx_iconst (pc := 16) (v := 1) dX12_kerns_16 (by decide) ?_
    exact sv_zret (pc := 17) dX12_kerns_17 rfl rfl h hP
theorem dX12_kernOf_0 : decode cX12_kernOf 0 = .ok (.aload_n 0, 1) := by decide +kernel
theorem dX12_kernOf_1 : decode cX12_kernOf 1 = .ok (.ldc_w 408, 3) := by decide +kernel
theorem dX12_kernOf_4 : decode cX12_kernOf 4 = .ok (.invokevirtual 251, 3) := by decide +kernel
theorem dX12_kernOf_7 : decode cX12_kernOf 7 = .ok (.istore_n 3, 1) := by decide +kernel
theorem dX12_kernOf_8 : decode cX12_kernOf 8 = .ok (.iconst 0, 1) := by decide +kernel
theorem dX12_kernOf_9 : decode cX12_kernOf 9 = .ok (.istore 4, 2) := by decide +kernel
theorem dX12_kernOf_11 : decode cX12_kernOf 11 = .ok (.iload 4, 2) := by decide +kernel
theorem dX12_kernOf_13 : decode cX12_kernOf 13 = .ok (.aload_n 0, 1) := by decide +kernel
theorem dX12_kernOf_14 : decode cX12_kernOf 14 = .ok (.getfield 405, 3) := by decide +kernel
theorem dX12_kernOf_17 : decode cX12_kernOf 17 = .ok (.if_icmp .ge 52, 3) := by decide +kernel
theorem dX12_kernOf_20 : decode cX12_kernOf 20 = .ok (.iload_n 3, 1) := by decide +kernel
theorem dX12_kernOf_21 : decode cX12_kernOf 21 = .ok (.bipush 18, 2) := by decide +kernel
theorem dX12_kernOf_23 : decode cX12_kernOf 23 = .ok (.iadd, 1) := by decide +kernel
theorem dX12_kernOf_24 : decode cX12_kernOf 24 = .ok (.bipush 6, 2) := by decide +kernel
theorem dX12_kernOf_26 : decode cX12_kernOf 26 = .ok (.iload 4, 2) := by decide +kernel
theorem dX12_kernOf_28 : decode cX12_kernOf 28 = .ok (.imul, 1) := by decide +kernel
theorem dX12_kernOf_29 : decode cX12_kernOf 29 = .ok (.iadd, 1) := by decide +kernel
theorem dX12_kernOf_30 : decode cX12_kernOf 30 = .ok (.istore 5, 2) := by decide +kernel
theorem dX12_kernOf_32 : decode cX12_kernOf 32 = .ok (.aload_n 0, 1) := by decide +kernel
theorem dX12_kernOf_33 : decode cX12_kernOf 33 = .ok (.iload 5, 2) := by decide +kernel
theorem dX12_kernOf_35 : decode cX12_kernOf 35 = .ok (.invokevirtual 213, 3) := by decide +kernel
theorem dX12_kernOf_38 : decode cX12_kernOf 38 = .ok (.iload_n 1, 1) := by decide +kernel
theorem dX12_kernOf_39 : decode cX12_kernOf 39 = .ok (.if_icmp .ne 24, 3) := by decide +kernel
theorem dX12_kernOf_42 : decode cX12_kernOf 42 = .ok (.aload_n 0, 1) := by decide +kernel
theorem dX12_kernOf_43 : decode cX12_kernOf 43 = .ok (.iload 5, 2) := by decide +kernel
theorem dX12_kernOf_45 : decode cX12_kernOf 45 = .ok (.iconst 2, 1) := by decide +kernel
theorem dX12_kernOf_46 : decode cX12_kernOf 46 = .ok (.iadd, 1) := by decide +kernel
theorem dX12_kernOf_47 : decode cX12_kernOf 47 = .ok (.invokevirtual 213, 3) := by decide +kernel
theorem dX12_kernOf_50 : decode cX12_kernOf 50 = .ok (.iload_n 2, 1) := by decide +kernel
theorem dX12_kernOf_51 : decode cX12_kernOf 51 = .ok (.if_icmp .ne 12, 3) := by decide +kernel
theorem dX12_kernOf_54 : decode cX12_kernOf 54 = .ok (.aload_n 0, 1) := by decide +kernel
theorem dX12_kernOf_55 : decode cX12_kernOf 55 = .ok (.iload 5, 2) := by decide +kernel
theorem dX12_kernOf_57 : decode cX12_kernOf 57 = .ok (.iconst 4, 1) := by decide +kernel
theorem dX12_kernOf_58 : decode cX12_kernOf 58 = .ok (.iadd, 1) := by decide +kernel
theorem dX12_kernOf_59 : decode cX12_kernOf 59 = .ok (.invokevirtual 305, 3) := by decide +kernel
theorem dX12_kernOf_62 : decode cX12_kernOf 62 = .ok (.ireturn, 1) := by decide +kernel
theorem dX12_kernOf_63 : decode cX12_kernOf 63 = .ok (.iinc 4 1, 3) := by decide +kernel
theorem dX12_kernOf_66 : decode cX12_kernOf 66 = .ok (.goto (-55), 3) := by decide +kernel
theorem dX12_kernOf_69 : decode cX12_kernOf 69 = .ok (.iconst 0, 1) := by decide +kernel
theorem dX12_kernOf_70 : decode cX12_kernOf 70 = .ok (.ireturn, 1) := by decide +kernel
def B_X12_kernOf_63 (N : Nat) (k11 : Int32 → Int32 → Int32 → Int32 → sv_V → Option (Int32 × sv_V)) (l1 : Int32) (l2 : Int32) (l3 : Int32) (l4 : Int32) (V : sv_V) : Option (Int32 × sv_V) := sx_let (l4 + 1) (fun x1 => k11 l1 l2 l3 x1 V)
set_option maxRecDepth 20000 in
theorem tB_X12_kernOf_63 {g : sx_G} (hG : sx_Go g) {P : Option Value → sv_V → Prop} {r : Int32} {Vr : sv_V} (hP : P (some (.int r)) Vr) {N : Nat} {k11 : Int32 → Int32 → Int32 → Int32 → sv_V → Option (Int32 × sv_V)} (hk11 : ∀ (l1 : Int32) (l2 : Int32) (l3 : Int32) (l4 : Int32) (V : sv_V), k11 l1 l2 l3 l4 V = some (r, Vr) → sv_N g qX12_kernOf 3 11 [(0, .ref 146), (1, .int l1), (2, .int l2), (3, .int l3), (4, .int l4)] [] V P) {l1 : Int32} {l2 : Int32} {l3 : Int32} {l4 : Int32} {V : sv_V} (h : B_X12_kernOf_63 N k11 l1 l2 l3 l4 V = some (r, Vr)) : sv_N g qX12_kernOf 3 63 [(0, .ref 146), (1, .int l1), (2, .int l2), (3, .int l3), (4, .int l4)] [] V P := by
  unfold B_X12_kernOf_63 at h
  obtain ⟨x1, hx1⟩ : ∃ z : Int32, z = l4 + 1 := ⟨_, rfl⟩
  have h := sx_letE hx1 h
  refine sx_iinc (pc := 63) (v := x1) (lo' := [(4, .int x1), (0, .ref 146), (1, .int l1), (2, .int l2), (3, .int l3)]) dX12_kernOf_63 sx_m4 (by rw [hx1]; rfl) (by decide) rfl ?_
  refine sx_goto (pc := 66) (tgt := 11) dX12_kernOf_66 (by decide) ?_
  refine sx_wk (sx_s1 sx_m1 (sx_s1 sx_m2 (sx_s1 sx_m3 (sx_s1 sx_m4 (sx_s1 sx_m0 sx_s0))))) ?_
  exact hk11 _ _ _ _ _ h
def B_X12_kernOf_11 (N : Nat) (k11 : Int32 → Int32 → Int32 → Int32 → sv_V → Option (Int32 × sv_V)) (l1 : Int32) (l2 : Int32) (l3 : Int32) (l4 : Int32) (V : sv_V) : Option (Int32 × sv_V) := if (V.1 146 24) ≤ l4 then (some ((0 : Int32), V)) else (sx_let ((l3 + (18 : Int32)) + ((6 : Int32) * l4)) (fun x3 => (F_X12_u2 x3 V).bind (fun (x6, V4) => if x6 = l1 then ((F_X12_u2 (x3 + (2 : Int32)) V4).bind (fun (x10, V8) => if x10 = l2 then ((F_X12_s2 (x3 + (4 : Int32)) V8).bind (fun (x14, V12) => some (x14, V12))) else (B_X12_kernOf_63 N k11 l1 l2 l3 l4 V8))) else (B_X12_kernOf_63 N k11 l1 l2 l3 l4 V4))))
set_option maxRecDepth 20000 in
theorem tB_X12_kernOf_11 {g : sx_G} (hG : sx_Go g) {P : Option Value → sv_V → Prop} {r : Int32} {Vr : sv_V} (hP : P (some (.int r)) Vr) {N : Nat} {k11 : Int32 → Int32 → Int32 → Int32 → sv_V → Option (Int32 × sv_V)} (hk11 : ∀ (l1 : Int32) (l2 : Int32) (l3 : Int32) (l4 : Int32) (V : sv_V), k11 l1 l2 l3 l4 V = some (r, Vr) → sv_N g qX12_kernOf 3 11 [(0, .ref 146), (1, .int l1), (2, .int l2), (3, .int l3), (4, .int l4)] [] V P) {l1 : Int32} {l2 : Int32} {l3 : Int32} {l4 : Int32} {V : sv_V} (h : B_X12_kernOf_11 N k11 l1 l2 l3 l4 V = some (r, Vr)) : sv_N g qX12_kernOf 3 11 [(0, .ref 146), (1, .int l1), (2, .int l2), (3, .int l3), (4, .int l4)] [] V P := by
  unfold B_X12_kernOf_11 at h
  refine sx_iload (pc := 11) dX12_kernOf_11 sx_m4 ?_
  refine sx_aload_n (pc := 13) dX12_kernOf_13 sx_m0 ?_
  refine sv_getI (pc := 14) hG dX12_kernOf_14 f_12_405 lay_146 rfl ?_
  refine sx_icmp_ge (pc := 17) (tgt := 69) dX12_kernOf_17 (by decide) (fun c2 => ?_) (fun c2 => ?_)
  · have h := sx_pos c2 h
    refine sx_iconst (pc := 69) (v := 0) dX12_kernOf_69 (by decide) ?_
    exact sv_iret (pc := 70) dX12_kernOf_70 rfl h hP
  · have h := sx_neg c2 h
    refine sx_iload_n (pc := 20) dX12_kernOf_20 sx_m3 ?_
    refine sx_bipush (pc := 21) (v := 18) dX12_kernOf_21 (by decide) ?_
    refine sx_iadd (pc := 23) dX12_kernOf_23 ?_
    refine sx_bipush (pc := 24) (v := 6) dX12_kernOf_24 (by decide) ?_
    refine sx_iload (pc := 26) dX12_kernOf_26 sx_m4 ?_
    refine sx_imul (pc := 28) dX12_kernOf_28 ?_
    refine sx_iadd (pc := 29) dX12_kernOf_29 ?_
    refine sv_tI (fun x3 hx3 => ?_)
    have h := sx_letE hx3 h
    refine sx_istore (pc := 30) (lo' := [(5, .int x3), (0, .ref 146), (1, .int l1), (2, .int l2), (3, .int l3), (4, .int l4)]) dX12_kernOf_30 (by decide) rfl ?_
    refine sx_aload_n (pc := 32) dX12_kernOf_32 sx_m1 ?_
    refine sx_iload (pc := 33) dX12_kernOf_33 sx_m0 ?_
    obtain ⟨⟨x6, V4⟩, g5, h⟩ := sx_bnd h
    refine sv_cV (pc := 35) (y := qX12_u2) (o := (some (.int x6))) (as := [.int x3]) (V1 := V4) hG dX12_kernOf_35 l_X12_213 y0X12_u2 yvX12_u2 rfl (Nat.le_of_ble_eq_true rfl) lay_146 kr_12 (by decide) (Nat.le_of_ble_eq_true rfl) rfl rfl rfl (t_X12_u2 hG ⟨rfl, rfl⟩ g5) ?_
    refine sx_iload_n (pc := 38) dX12_kernOf_38 sx_m2 ?_
    refine sx_icmp_ne (pc := 39) (tgt := 63) dX12_kernOf_39 (by decide) (fun c7 => ?_) (fun c7 => ?_)
    · have h := sx_neg c7 h
      refine sx_wk (sx_s1 sx_m1 (sx_s1 sx_m2 (sx_s1 sx_m3 (sx_s1 sx_m4 (sx_s1 sx_m5 sx_s0))))) ?_
      exact tB_X12_kernOf_63 hG hP hk11 h
    · have h := sx_pos c7 h
      refine sx_aload_n (pc := 42) dX12_kernOf_42 sx_m1 ?_
      refine sx_iload (pc := 43) dX12_kernOf_43 sx_m0 ?_
      refine sx_iconst (pc := 45) (v := 2) dX12_kernOf_45 (by decide) ?_
      refine sx_iadd (pc := 46) dX12_kernOf_46 ?_
      obtain ⟨⟨x10, V8⟩, g9, h⟩ := sx_bnd h
      refine sv_cV (pc := 47) (y := qX12_u2) (o := (some (.int x10))) (as := [.int (x3 + (2 : Int32))]) (V1 := V8) hG dX12_kernOf_47 l_X12_213 y0X12_u2 yvX12_u2 rfl (Nat.le_of_ble_eq_true rfl) lay_146 kr_12 (by decide) (Nat.le_of_ble_eq_true rfl) rfl rfl rfl (t_X12_u2 hG ⟨rfl, rfl⟩ g9) ?_
      refine sx_iload_n (pc := 50) dX12_kernOf_50 sx_m3 ?_
      refine sx_icmp_ne (pc := 51) (tgt := 63) dX12_kernOf_51 (by decide) (fun c11 => ?_) (fun c11 => ?_)
      · have h := sx_neg c11 h
        refine sx_wk (sx_s1 sx_m1 (sx_s1 sx_m2 (sx_s1 sx_m3 (sx_s1 sx_m4 (sx_s1 sx_m5 sx_s0))))) ?_
        exact tB_X12_kernOf_63 hG hP hk11 h
      · have h := sx_pos c11 h
        refine sx_aload_n (pc := 54) dX12_kernOf_54 sx_m1 ?_
        refine sx_iload (pc := 55) dX12_kernOf_55 sx_m0 ?_
        refine sx_iconst (pc := 57) (v := 4) dX12_kernOf_57 (by decide) ?_
        refine sx_iadd (pc := 58) dX12_kernOf_58 ?_
        obtain ⟨⟨x14, V12⟩, g13, h⟩ := sx_bnd h
        refine sv_cV (pc := 59) (y := qX12_s2) (o := (some (.int x14))) (as := [.int (x3 + (4 : Int32))]) (V1 := V12) hG dX12_kernOf_59 l_X12_305 y0X12_s2 yvX12_s2 rfl (Nat.le_of_ble_eq_true rfl) lay_146 kr_12 (by decide) (Nat.le_of_ble_eq_true rfl) rfl rfl rfl (t_X12_s2 hG ⟨rfl, rfl⟩ g13) ?_
        exact sv_iret (pc := 62) dX12_kernOf_62 rfl h hP
theorem tL_X12_kernOf_11 {g : sx_G} (hG : sx_Go g) {P : Option Value → sv_V → Prop} {r : Int32} {Vr : sv_V} (hP : P (some (.int r)) Vr) {N : Nat}   : ∀ (n : Nat) (l1 : Int32) (l2 : Int32) (l3 : Int32) (l4 : Int32) (V : sv_V), sx_lp5 (B_X12_kernOf_11 N ) n l1 l2 l3 l4 V = some (r, Vr) → sv_N g qX12_kernOf 3 11 [(0, .ref 146), (1, .int l1), (2, .int l2), (3, .int l3), (4, .int l4)] [] V P :=
  sx_lp5_ind (fun k0 ih _ _ _ _ V h => tB_X12_kernOf_11 hG hP ih h)
def F_X12_kernOf (N : Nat) (l1 : Int32) (l2 : Int32) (V : sv_V) : Option (Int32 × sv_V) := (F_X12_beginOf N (1801810542 : Int32) V).bind (fun (x17, V15) => sx_lp5 (B_X12_kernOf_11 N ) N l1 l2 x17 (0 : Int32) V15)
set_option maxRecDepth 20000 in
theorem t_X12_kernOf {g : sx_G} (hG : sx_Go g) {P : Option Value → sv_V → Prop} {r : Int32} {Vr : sv_V} (hP : P (some (.int r)) Vr) {N : Nat} {l1 : Int32} {l2 : Int32} {V : sv_V} (h : F_X12_kernOf N l1 l2 V = some (r, Vr)) : sv_N g qX12_kernOf 3 0 [(0, .ref 146), (1, .int l1), (2, .int l2)] [] V P := by
  unfold F_X12_kernOf at h
  refine sx_aload_n (pc := 0) dX12_kernOf_0 sx_m0 ?_
  refine sx_ldcw (pc := 1) dX12_kernOf_1 k_X12_408 ?_
  obtain ⟨⟨x17, V15⟩, g16, h⟩ := sx_bnd h
  refine sv_cV (pc := 4) (y := qX12_beginOf) (o := (some (.int x17))) (as := [.int (1801810542 : Int32)]) (V1 := V15) hG dX12_kernOf_4 l_X12_251 y0X12_beginOf yvX12_beginOf rfl (Nat.le_of_ble_eq_true rfl) lay_146 kr_12 (by decide) (Nat.le_of_ble_eq_true rfl) rfl rfl rfl (t_X12_beginOf hG ⟨rfl, rfl⟩ g16) ?_
  refine sx_istore_n (pc := 7) (lo' := [(3, .int x17), (0, .ref 146), (1, .int l1), (2, .int l2)]) dX12_kernOf_7 (by decide) rfl ?_
  refine sx_iconst (pc := 8) (v := 0) dX12_kernOf_8 (by decide) ?_
  refine sx_istore (pc := 9) (lo' := [(4, .int (0 : Int32)), (3, .int x17), (0, .ref 146), (1, .int l1), (2, .int l2)]) dX12_kernOf_9 (by decide) rfl ?_
  refine sx_wk (sx_s1 sx_m2 (sx_s1 sx_m3 (sx_s1 sx_m4 (sx_s1 sx_m1 (sx_s1 sx_m0 sx_s0))))) ?_
  exact tL_X12_kernOf_11 hG hP  N _ _ _ _ _ h
theorem dX12_advanceOf_0 : decode cX12_advanceOf 0 = .ok (.iload_n 1, 1) := by decide +kernel
theorem dX12_advanceOf_1 : decode cX12_advanceOf 1 = .ok (.aload_n 0, 1) := by decide +kernel
theorem dX12_advanceOf_2 : decode cX12_advanceOf 2 = .ok (.getfield 254, 3) := by decide +kernel
theorem dX12_advanceOf_5 : decode cX12_advanceOf 5 = .ok (.if_icmp .ge 7, 3) := by decide +kernel
theorem dX12_advanceOf_8 : decode cX12_advanceOf 8 = .ok (.iload_n 1, 1) := by decide +kernel
theorem dX12_advanceOf_9 : decode cX12_advanceOf 9 = .ok (.goto 9, 3) := by decide +kernel
theorem dX12_advanceOf_12 : decode cX12_advanceOf 12 = .ok (.aload_n 0, 1) := by decide +kernel
theorem dX12_advanceOf_13 : decode cX12_advanceOf 13 = .ok (.getfield 254, 3) := by decide +kernel
theorem dX12_advanceOf_16 : decode cX12_advanceOf 16 = .ok (.iconst 1, 1) := by decide +kernel
theorem dX12_advanceOf_17 : decode cX12_advanceOf 17 = .ok (.isub, 1) := by decide +kernel
theorem dX12_advanceOf_18 : decode cX12_advanceOf 18 = .ok (.istore_n 2, 1) := by decide +kernel
theorem dX12_advanceOf_19 : decode cX12_advanceOf 19 = .ok (.aload_n 0, 1) := by decide +kernel
theorem dX12_advanceOf_20 : decode cX12_advanceOf 20 = .ok (.aload_n 0, 1) := by decide +kernel
theorem dX12_advanceOf_21 : decode cX12_advanceOf 21 = .ok (.ldc 242, 2) := by decide +kernel
theorem dX12_advanceOf_23 : decode cX12_advanceOf 23 = .ok (.invokevirtual 251, 3) := by decide +kernel
theorem dX12_advanceOf_26 : decode cX12_advanceOf 26 = .ok (.iconst 4, 1) := by decide +kernel
theorem dX12_advanceOf_27 : decode cX12_advanceOf 27 = .ok (.iload_n 2, 1) := by decide +kernel
theorem dX12_advanceOf_28 : decode cX12_advanceOf 28 = .ok (.imul, 1) := by decide +kernel
theorem dX12_advanceOf_29 : decode cX12_advanceOf 29 = .ok (.iadd, 1) := by decide +kernel
theorem dX12_advanceOf_30 : decode cX12_advanceOf 30 = .ok (.invokevirtual 213, 3) := by decide +kernel
theorem dX12_advanceOf_33 : decode cX12_advanceOf 33 = .ok (.ireturn, 1) := by decide +kernel
def B_X12_advanceOf_18 (N : Nat)  (s0 : Int32) (V : sv_V) : Option (Int32 × sv_V) := (F_X12_beginOf N (1752003704 : Int32) V).bind (fun (x3, V1) => (F_X12_u2 (x3 + ((4 : Int32) * s0)) V1).bind (fun (x6, V4) => some (x6, V4)))
set_option maxRecDepth 20000 in
theorem tB_X12_advanceOf_18 {g : sx_G} (hG : sx_Go g) {P : Option Value → sv_V → Prop} {r : Int32} {Vr : sv_V} (hP : P (some (.int r)) Vr) {N : Nat}   {s0 : Int32} {V : sv_V} (h : B_X12_advanceOf_18 N  s0 V = some (r, Vr)) : sv_N g qX12_advanceOf 2 18 [(0, .ref 146)] [.int s0] V P := by
  unfold B_X12_advanceOf_18 at h
  refine sx_istore_n (pc := 18) (lo' := [(2, .int s0), (0, .ref 146)]) dX12_advanceOf_18 (by decide) rfl ?_
  refine sx_aload_n (pc := 19) dX12_advanceOf_19 sx_m1 ?_
  refine sx_aload_n (pc := 20) dX12_advanceOf_20 sx_m1 ?_
  refine sx_ldc (pc := 21) dX12_advanceOf_21 k_X12_242 ?_
  obtain ⟨⟨x3, V1⟩, g2, h⟩ := sx_bnd h
  refine sv_cV (pc := 23) (y := qX12_beginOf) (o := (some (.int x3))) (as := [.int (1752003704 : Int32)]) (V1 := V1) hG dX12_advanceOf_23 l_X12_251 y0X12_beginOf yvX12_beginOf rfl (Nat.le_of_ble_eq_true rfl) lay_146 kr_12 (by decide) (Nat.le_of_ble_eq_true rfl) rfl rfl rfl (t_X12_beginOf hG ⟨rfl, rfl⟩ g2) ?_
  refine sx_iconst (pc := 26) (v := 4) dX12_advanceOf_26 (by decide) ?_
  refine sx_iload_n (pc := 27) dX12_advanceOf_27 sx_m0 ?_
  refine sx_imul (pc := 28) dX12_advanceOf_28 ?_
  refine sx_iadd (pc := 29) dX12_advanceOf_29 ?_
  obtain ⟨⟨x6, V4⟩, g5, h⟩ := sx_bnd h
  refine sv_cV (pc := 30) (y := qX12_u2) (o := (some (.int x6))) (as := [.int (x3 + ((4 : Int32) * s0))]) (V1 := V4) hG dX12_advanceOf_30 l_X12_213 y0X12_u2 yvX12_u2 rfl (Nat.le_of_ble_eq_true rfl) lay_146 kr_12 (by decide) (Nat.le_of_ble_eq_true rfl) rfl rfl rfl (t_X12_u2 hG ⟨rfl, rfl⟩ g5) ?_
  exact sv_iret (pc := 33) dX12_advanceOf_33 rfl h hP
def F_X12_advanceOf (N : Nat) (l1 : Int32) (V : sv_V) : Option (Int32 × sv_V) := if (V.1 146 20) ≤ l1 then (B_X12_advanceOf_18 N  ((V.1 146 20) - (1 : Int32)) V) else (B_X12_advanceOf_18 N  l1 V)
set_option maxRecDepth 20000 in
theorem t_X12_advanceOf {g : sx_G} (hG : sx_Go g) {P : Option Value → sv_V → Prop} {r : Int32} {Vr : sv_V} (hP : P (some (.int r)) Vr) {N : Nat} {l1 : Int32} {V : sv_V} (h : F_X12_advanceOf N l1 V = some (r, Vr)) : sv_N g qX12_advanceOf 2 0 [(0, .ref 146), (1, .int l1)] [] V P := by
  unfold F_X12_advanceOf at h
  refine sx_iload_n (pc := 0) dX12_advanceOf_0 sx_m1 ?_
  refine sx_aload_n (pc := 1) dX12_advanceOf_1 sx_m0 ?_
  refine sv_getI (pc := 2) hG dX12_advanceOf_2 f_12_254 lay_146 rfl ?_
  refine sx_icmp_ge (pc := 5) (tgt := 12) dX12_advanceOf_5 (by decide) (fun c7 => ?_) (fun c7 => ?_)
  · have h := sx_pos c7 h
    refine sx_aload_n (pc := 12) dX12_advanceOf_12 sx_m0 ?_
    refine sv_getI (pc := 13) hG dX12_advanceOf_13 f_12_254 lay_146 rfl ?_
    refine sx_iconst (pc := 16) (v := 1) dX12_advanceOf_16 (by decide) ?_
    refine sx_isub (pc := 17) dX12_advanceOf_17 ?_
    refine sx_wk (sx_s1 sx_m0 sx_s0) ?_
    exact tB_X12_advanceOf_18 hG hP  h
  · have h := sx_neg c7 h
    refine sx_iload_n (pc := 8) dX12_advanceOf_8 sx_m1 ?_
    refine sx_goto (pc := 9) (tgt := 18) dX12_advanceOf_9 (by decide) ?_
    refine sx_wk (sx_s1 sx_m0 sx_s0) ?_
    exact tB_X12_advanceOf_18 hG hP  h
theorem dX12_bearingOf_0 : decode cX12_bearingOf 0 = .ok (.aload_n 0, 1) := by decide +kernel
theorem dX12_bearingOf_1 : decode cX12_bearingOf 1 = .ok (.ldc 242, 2) := by decide +kernel
theorem dX12_bearingOf_3 : decode cX12_bearingOf 3 = .ok (.invokevirtual 251, 3) := by decide +kernel
theorem dX12_bearingOf_6 : decode cX12_bearingOf 6 = .ok (.istore_n 2, 1) := by decide +kernel
theorem dX12_bearingOf_7 : decode cX12_bearingOf 7 = .ok (.iload_n 1, 1) := by decide +kernel
theorem dX12_bearingOf_8 : decode cX12_bearingOf 8 = .ok (.aload_n 0, 1) := by decide +kernel
theorem dX12_bearingOf_9 : decode cX12_bearingOf 9 = .ok (.getfield 254, 3) := by decide +kernel
theorem dX12_bearingOf_12 : decode cX12_bearingOf 12 = .ok (.if_icmp .ge 17, 3) := by decide +kernel
theorem dX12_bearingOf_15 : decode cX12_bearingOf 15 = .ok (.aload_n 0, 1) := by decide +kernel
theorem dX12_bearingOf_16 : decode cX12_bearingOf 16 = .ok (.iload_n 2, 1) := by decide +kernel
theorem dX12_bearingOf_17 : decode cX12_bearingOf 17 = .ok (.iconst 4, 1) := by decide +kernel
theorem dX12_bearingOf_18 : decode cX12_bearingOf 18 = .ok (.iload_n 1, 1) := by decide +kernel
theorem dX12_bearingOf_19 : decode cX12_bearingOf 19 = .ok (.imul, 1) := by decide +kernel
theorem dX12_bearingOf_20 : decode cX12_bearingOf 20 = .ok (.iadd, 1) := by decide +kernel
theorem dX12_bearingOf_21 : decode cX12_bearingOf 21 = .ok (.iconst 2, 1) := by decide +kernel
theorem dX12_bearingOf_22 : decode cX12_bearingOf 22 = .ok (.iadd, 1) := by decide +kernel
theorem dX12_bearingOf_23 : decode cX12_bearingOf 23 = .ok (.invokevirtual 305, 3) := by decide +kernel
theorem dX12_bearingOf_26 : decode cX12_bearingOf 26 = .ok (.goto 24, 3) := by decide +kernel
theorem dX12_bearingOf_29 : decode cX12_bearingOf 29 = .ok (.aload_n 0, 1) := by decide +kernel
theorem dX12_bearingOf_30 : decode cX12_bearingOf 30 = .ok (.iload_n 2, 1) := by decide +kernel
theorem dX12_bearingOf_31 : decode cX12_bearingOf 31 = .ok (.iconst 4, 1) := by decide +kernel
theorem dX12_bearingOf_32 : decode cX12_bearingOf 32 = .ok (.aload_n 0, 1) := by decide +kernel
theorem dX12_bearingOf_33 : decode cX12_bearingOf 33 = .ok (.getfield 254, 3) := by decide +kernel
theorem dX12_bearingOf_36 : decode cX12_bearingOf 36 = .ok (.imul, 1) := by decide +kernel
theorem dX12_bearingOf_37 : decode cX12_bearingOf 37 = .ok (.iadd, 1) := by decide +kernel
theorem dX12_bearingOf_38 : decode cX12_bearingOf 38 = .ok (.iconst 2, 1) := by decide +kernel
theorem dX12_bearingOf_39 : decode cX12_bearingOf 39 = .ok (.iload_n 1, 1) := by decide +kernel
theorem dX12_bearingOf_40 : decode cX12_bearingOf 40 = .ok (.aload_n 0, 1) := by decide +kernel
theorem dX12_bearingOf_41 : decode cX12_bearingOf 41 = .ok (.getfield 254, 3) := by decide +kernel
theorem dX12_bearingOf_44 : decode cX12_bearingOf 44 = .ok (.isub, 1) := by decide +kernel
theorem dX12_bearingOf_45 : decode cX12_bearingOf 45 = .ok (.imul, 1) := by decide +kernel
theorem dX12_bearingOf_46 : decode cX12_bearingOf 46 = .ok (.iadd, 1) := by decide +kernel
theorem dX12_bearingOf_47 : decode cX12_bearingOf 47 = .ok (.invokevirtual 305, 3) := by decide +kernel
theorem dX12_bearingOf_50 : decode cX12_bearingOf 50 = .ok (.ireturn, 1) := by decide +kernel
def F_X12_bearingOf (N : Nat) (l1 : Int32) (V : sv_V) : Option (Int32 × sv_V) := (F_X12_beginOf N (1752003704 : Int32) V).bind (fun (x3, V1) => if (V1.1 146 20) ≤ l1 then ((F_X12_s2 ((x3 + ((4 : Int32) * (V1.1 146 20))) + ((2 : Int32) * (l1 - (V1.1 146 20)))) V1).bind (fun (x7, V5) => some (x7, V5))) else ((F_X12_s2 ((x3 + ((4 : Int32) * l1)) + (2 : Int32)) V1).bind (fun (x10, V8) => some (x10, V8))))
set_option maxRecDepth 20000 in
theorem t_X12_bearingOf {g : sx_G} (hG : sx_Go g) {P : Option Value → sv_V → Prop} {r : Int32} {Vr : sv_V} (hP : P (some (.int r)) Vr) {N : Nat} {l1 : Int32} {V : sv_V} (h : F_X12_bearingOf N l1 V = some (r, Vr)) : sv_N g qX12_bearingOf 3 0 [(0, .ref 146), (1, .int l1)] [] V P := by
  unfold F_X12_bearingOf at h
  refine sx_aload_n (pc := 0) dX12_bearingOf_0 sx_m0 ?_
  refine sx_ldc (pc := 1) dX12_bearingOf_1 k_X12_242 ?_
  obtain ⟨⟨x3, V1⟩, g2, h⟩ := sx_bnd h
  refine sv_cV (pc := 3) (y := qX12_beginOf) (o := (some (.int x3))) (as := [.int (1752003704 : Int32)]) (V1 := V1) hG dX12_bearingOf_3 l_X12_251 y0X12_beginOf yvX12_beginOf rfl (Nat.le_of_ble_eq_true rfl) lay_146 kr_12 (by decide) (Nat.le_of_ble_eq_true rfl) rfl rfl rfl (t_X12_beginOf hG ⟨rfl, rfl⟩ g2) ?_
  refine sx_istore_n (pc := 6) (lo' := [(2, .int x3), (0, .ref 146), (1, .int l1)]) dX12_bearingOf_6 (by decide) rfl ?_
  refine sx_iload_n (pc := 7) dX12_bearingOf_7 sx_m2 ?_
  refine sx_aload_n (pc := 8) dX12_bearingOf_8 sx_m1 ?_
  refine sv_getI (pc := 9) hG dX12_bearingOf_9 f_12_254 lay_146 rfl ?_
  refine sx_icmp_ge (pc := 12) (tgt := 29) dX12_bearingOf_12 (by decide) (fun c4 => ?_) (fun c4 => ?_)
  · have h := sx_pos c4 h
    refine sx_aload_n (pc := 29) dX12_bearingOf_29 sx_m1 ?_
    refine sx_iload_n (pc := 30) dX12_bearingOf_30 sx_m0 ?_
    refine sx_iconst (pc := 31) (v := 4) dX12_bearingOf_31 (by decide) ?_
    refine sx_aload_n (pc := 32) dX12_bearingOf_32 sx_m1 ?_
    refine sv_getI (pc := 33) hG dX12_bearingOf_33 f_12_254 lay_146 rfl ?_
    refine sx_imul (pc := 36) dX12_bearingOf_36 ?_
    refine sx_iadd (pc := 37) dX12_bearingOf_37 ?_
    refine sx_iconst (pc := 38) (v := 2) dX12_bearingOf_38 (by decide) ?_
    refine sx_iload_n (pc := 39) dX12_bearingOf_39 sx_m2 ?_
    refine sx_aload_n (pc := 40) dX12_bearingOf_40 sx_m1 ?_
    refine sv_getI (pc := 41) hG dX12_bearingOf_41 f_12_254 lay_146 rfl ?_
    refine sx_isub (pc := 44) dX12_bearingOf_44 ?_
    refine sx_imul (pc := 45) dX12_bearingOf_45 ?_
    refine sx_iadd (pc := 46) dX12_bearingOf_46 ?_
    obtain ⟨⟨x7, V5⟩, g6, h⟩ := sx_bnd h
    refine sv_cV (pc := 47) (y := qX12_s2) (o := (some (.int x7))) (as := [.int ((x3 + ((4 : Int32) * (V1.1 146 20))) + ((2 : Int32) * (l1 - (V1.1 146 20))))]) (V1 := V5) hG dX12_bearingOf_47 l_X12_305 y0X12_s2 yvX12_s2 rfl (Nat.le_of_ble_eq_true rfl) lay_146 kr_12 (by decide) (Nat.le_of_ble_eq_true rfl) rfl rfl rfl (t_X12_s2 hG ⟨rfl, rfl⟩ g6) ?_
    exact sv_iret (pc := 50) dX12_bearingOf_50 rfl h hP
  · have h := sx_neg c4 h
    refine sx_aload_n (pc := 15) dX12_bearingOf_15 sx_m1 ?_
    refine sx_iload_n (pc := 16) dX12_bearingOf_16 sx_m0 ?_
    refine sx_iconst (pc := 17) (v := 4) dX12_bearingOf_17 (by decide) ?_
    refine sx_iload_n (pc := 18) dX12_bearingOf_18 sx_m2 ?_
    refine sx_imul (pc := 19) dX12_bearingOf_19 ?_
    refine sx_iadd (pc := 20) dX12_bearingOf_20 ?_
    refine sx_iconst (pc := 21) (v := 2) dX12_bearingOf_21 (by decide) ?_
    refine sx_iadd (pc := 22) dX12_bearingOf_22 ?_
    obtain ⟨⟨x10, V8⟩, g9, h⟩ := sx_bnd h
    refine sv_cV (pc := 23) (y := qX12_s2) (o := (some (.int x10))) (as := [.int ((x3 + ((4 : Int32) * l1)) + (2 : Int32))]) (V1 := V8) hG dX12_bearingOf_23 l_X12_305 y0X12_s2 yvX12_s2 rfl (Nat.le_of_ble_eq_true rfl) lay_146 kr_12 (by decide) (Nat.le_of_ble_eq_true rfl) rfl rfl rfl (t_X12_s2 hG ⟨rfl, rfl⟩ g9) ?_
    refine sx_goto (pc := 26) (tgt := 50) dX12_bearingOf_26 (by decide) ?_
    exact sv_iret (pc := 50) dX12_bearingOf_50 rfl h hP
theorem dX12_leftOf_0 : decode cX12_leftOf 0 = .ok (.aload_n 0, 1) := by decide +kernel
theorem dX12_leftOf_1 : decode cX12_leftOf 1 = .ok (.iload_n 1, 1) := by decide +kernel
theorem dX12_leftOf_2 : decode cX12_leftOf 2 = .ok (.invokevirtual 363, 3) := by decide +kernel
theorem dX12_leftOf_5 : decode cX12_leftOf 5 = .ok (.aload_n 0, 1) := by decide +kernel
theorem dX12_leftOf_6 : decode cX12_leftOf 6 = .ok (.getfield 342, 3) := by decide +kernel
theorem dX12_leftOf_9 : decode cX12_leftOf 9 = .ok (.aload_n 0, 1) := by decide +kernel
theorem dX12_leftOf_10 : decode cX12_leftOf 10 = .ok (.getfield 345, 3) := by decide +kernel
theorem dX12_leftOf_13 : decode cX12_leftOf 13 = .ok (.if_icmp .ne 7, 3) := by decide +kernel
theorem dX12_leftOf_16 : decode cX12_leftOf 16 = .ok (.iconst 0, 1) := by decide +kernel
theorem dX12_leftOf_17 : decode cX12_leftOf 17 = .ok (.goto 13, 3) := by decide +kernel
theorem dX12_leftOf_20 : decode cX12_leftOf 20 = .ok (.aload_n 0, 1) := by decide +kernel
theorem dX12_leftOf_21 : decode cX12_leftOf 21 = .ok (.aload_n 0, 1) := by decide +kernel
theorem dX12_leftOf_22 : decode cX12_leftOf 22 = .ok (.getfield 342, 3) := by decide +kernel
theorem dX12_leftOf_25 : decode cX12_leftOf 25 = .ok (.iconst 2, 1) := by decide +kernel
theorem dX12_leftOf_26 : decode cX12_leftOf 26 = .ok (.iadd, 1) := by decide +kernel
theorem dX12_leftOf_27 : decode cX12_leftOf 27 = .ok (.invokevirtual 305, 3) := by decide +kernel
theorem dX12_leftOf_30 : decode cX12_leftOf 30 = .ok (.ireturn, 1) := by decide +kernel
def F_X12_leftOf (N : Nat) (l1 : Int32) (V : sv_V) : Option (Int32 × sv_V) := (F_X12_bytesOf N l1 V).bind (fun V1 => if (V1.1 146 26) = (V1.1 146 27) then (some ((0 : Int32), V1)) else ((F_X12_s2 ((V1.1 146 26) + (2 : Int32)) V1).bind (fun (x6, V4) => some (x6, V4))))
set_option maxRecDepth 20000 in
theorem t_X12_leftOf {g : sx_G} (hG : sx_Go g) {P : Option Value → sv_V → Prop} {r : Int32} {Vr : sv_V} (hP : P (some (.int r)) Vr) {N : Nat} {l1 : Int32} {V : sv_V} (h : F_X12_leftOf N l1 V = some (r, Vr)) : sv_N g qX12_leftOf 5 0 [(0, .ref 146), (1, .int l1)] [] V P := by
  unfold F_X12_leftOf at h
  refine sx_aload_n (pc := 0) dX12_leftOf_0 sx_m0 ?_
  refine sx_iload_n (pc := 1) dX12_leftOf_1 sx_m1 ?_
  obtain ⟨V1, g2, h⟩ := sx_bnd h
  refine sv_cV (pc := 2) (y := qX12_bytesOf) (o := none) (as := [.int l1]) (V1 := V1) hG dX12_leftOf_2 l_X12_363 y0X12_bytesOf yvX12_bytesOf rfl (Nat.le_of_ble_eq_true rfl) lay_146 kr_12 (by decide) (Nat.le_of_ble_eq_true rfl) rfl rfl rfl (t_X12_bytesOf hG ⟨rfl, rfl⟩ g2) ?_
  refine sx_aload_n (pc := 5) dX12_leftOf_5 sx_m0 ?_
  refine sv_getI (pc := 6) hG dX12_leftOf_6 f_12_342 lay_146 rfl ?_
  refine sx_aload_n (pc := 9) dX12_leftOf_9 sx_m0 ?_
  refine sv_getI (pc := 10) hG dX12_leftOf_10 f_12_345 lay_146 rfl ?_
  refine sx_icmp_ne (pc := 13) (tgt := 20) dX12_leftOf_13 (by decide) (fun c3 => ?_) (fun c3 => ?_)
  · have h := sx_neg c3 h
    refine sx_aload_n (pc := 20) dX12_leftOf_20 sx_m0 ?_
    refine sx_aload_n (pc := 21) dX12_leftOf_21 sx_m0 ?_
    refine sv_getI (pc := 22) hG dX12_leftOf_22 f_12_342 lay_146 rfl ?_
    refine sx_iconst (pc := 25) (v := 2) dX12_leftOf_25 (by decide) ?_
    refine sx_iadd (pc := 26) dX12_leftOf_26 ?_
    obtain ⟨⟨x6, V4⟩, g5, h⟩ := sx_bnd h
    refine sv_cV (pc := 27) (y := qX12_s2) (o := (some (.int x6))) (as := [.int ((V1.1 146 26) + (2 : Int32))]) (V1 := V4) hG dX12_leftOf_27 l_X12_305 y0X12_s2 yvX12_s2 rfl (Nat.le_of_ble_eq_true rfl) lay_146 kr_12 (by decide) (Nat.le_of_ble_eq_true rfl) rfl rfl rfl (t_X12_s2 hG ⟨rfl, rfl⟩ g5) ?_
    exact sv_iret (pc := 30) dX12_leftOf_30 rfl h hP
  · have h := sx_pos c3 h
    refine sx_iconst (pc := 16) (v := 0) dX12_leftOf_16 (by decide) ?_
    refine sx_goto (pc := 17) (tgt := 30) dX12_leftOf_17 (by decide) ?_
    exact sv_iret (pc := 30) dX12_leftOf_30 rfl h hP
theorem dX12_fail_0 : decode cX12_fail 0 = .ok (.aload_n 0, 1) := by decide +kernel
theorem dX12_fail_1 : decode cX12_fail 1 = .ok (.getfield 409, 3) := by decide +kernel
theorem dX12_fail_4 : decode cX12_fail 4 = .ok (.ifCond .ne 16, 3) := by decide +kernel
theorem dX12_fail_7 : decode cX12_fail 7 = .ok (.aload_n 0, 1) := by decide +kernel
theorem dX12_fail_8 : decode cX12_fail 8 = .ok (.iload_n 1, 1) := by decide +kernel
theorem dX12_fail_9 : decode cX12_fail 9 = .ok (.putfield 409, 3) := by decide +kernel
theorem dX12_fail_12 : decode cX12_fail 12 = .ok (.aload_n 0, 1) := by decide +kernel
theorem dX12_fail_13 : decode cX12_fail 13 = .ok (.aload_n 0, 1) := by decide +kernel
theorem dX12_fail_14 : decode cX12_fail 14 = .ok (.getfield 412, 3) := by decide +kernel
theorem dX12_fail_17 : decode cX12_fail 17 = .ok (.putfield 415, 3) := by decide +kernel
theorem dX12_fail_20 : decode cX12_fail 20 = .ok (.return_, 1) := by decide +kernel
def F_X12_fail (l1 : Int32) (V : sv_V) : Option sv_V := if (V.1 146 59) = 0 then (sx_let (sv_I V 146 59 l1) (fun V2 => sx_let (sv_I V2 146 60 (V2.1 146 61)) (fun V3 => some V3))) else (some V)
set_option maxRecDepth 20000 in
theorem t_X12_fail {g : sx_G} (hG : sx_Go g) {P : Option Value → sv_V → Prop} {Vr : sv_V} (hP : P none Vr) {l1 : Int32} {V : sv_V} (h : F_X12_fail l1 V = some Vr) : sv_N g qX12_fail 0 0 [(0, .ref 146), (1, .int l1)] [] V P := by
  unfold F_X12_fail at h
  refine sx_aload_n (pc := 0) dX12_fail_0 sx_m0 ?_
  refine sv_getI (pc := 1) hG dX12_fail_1 f_12_409 lay_146 rfl ?_
  refine sx_if_ne (pc := 4) (tgt := 20) dX12_fail_4 (by decide) (fun c1 => ?_) (fun c1 => ?_)
  · have h := sx_neg c1 h
    exact sv_vret (pc := 20) dX12_fail_20 rfl h hP
  · have h := sx_pos c1 h
    refine sx_aload_n (pc := 7) dX12_fail_7 sx_m0 ?_
    refine sx_iload_n (pc := 8) dX12_fail_8 sx_m1 ?_
    obtain ⟨V2, hV2⟩ : ∃ z : sv_V, z = sv_I V 146 59 l1 := ⟨_, rfl⟩
    have h := sx_letE hV2 h
    refine sv_putI (pc := 9) hG dX12_fail_9 f_12_409 lay_146 rfl hV2 ?_
    refine sx_aload_n (pc := 12) dX12_fail_12 sx_m0 ?_
    refine sx_aload_n (pc := 13) dX12_fail_13 sx_m0 ?_
    refine sv_getI (pc := 14) hG dX12_fail_14 f_12_412 lay_146 rfl ?_
    obtain ⟨V3, hV3⟩ : ∃ z : sv_V, z = sv_I V2 146 60 (V2.1 146 61) := ⟨_, rfl⟩
    have h := sx_letE hV3 h
    refine sv_putI (pc := 17) hG dX12_fail_17 f_12_415 lay_146 rfl hV3 ?_
    exact sv_vret (pc := 20) dX12_fail_20 rfl h hP
theorem dX12_has_0 : decode cX12_has 0 = .ok (.aload_n 0, 1) := by decide +kernel
theorem dX12_has_1 : decode cX12_has 1 = .ok (.getfield 409, 3) := by decide +kernel
theorem dX12_has_4 : decode cX12_has 4 = .ok (.ifCond .ne 16, 3) := by decide +kernel
theorem dX12_has_7 : decode cX12_has 7 = .ok (.aload_n 0, 1) := by decide +kernel
theorem dX12_has_8 : decode cX12_has 8 = .ok (.getfield 418, 3) := by decide +kernel
theorem dX12_has_11 : decode cX12_has 11 = .ok (.iload_n 1, 1) := by decide +kernel
theorem dX12_has_12 : decode cX12_has 12 = .ok (.if_icmp .ge 8, 3) := by decide +kernel
theorem dX12_has_15 : decode cX12_has 15 = .ok (.aload_n 0, 1) := by decide +kernel
theorem dX12_has_16 : decode cX12_has 16 = .ok (.iconst 1, 1) := by decide +kernel
theorem dX12_has_17 : decode cX12_has 17 = .ok (.invokevirtual 421, 3) := by decide +kernel
theorem dX12_has_20 : decode cX12_has 20 = .ok (.aload_n 0, 1) := by decide +kernel
theorem dX12_has_21 : decode cX12_has 21 = .ok (.getfield 409, 3) := by decide +kernel
theorem dX12_has_24 : decode cX12_has 24 = .ok (.ifCond .ne 7, 3) := by decide +kernel
theorem dX12_has_27 : decode cX12_has 27 = .ok (.iconst 1, 1) := by decide +kernel
theorem dX12_has_28 : decode cX12_has 28 = .ok (.goto 4, 3) := by decide +kernel
theorem dX12_has_31 : decode cX12_has 31 = .ok (.iconst 0, 1) := by decide +kernel
theorem dX12_has_32 : decode cX12_has 32 = .ok (.ireturn, 1) := by decide +kernel
def B_X12_has_20   (V : sv_V) : Option (Int32 × sv_V) := if (V.1 146 59) = 0 then (some ((1 : Int32), V)) else (some ((0 : Int32), V))
set_option maxRecDepth 20000 in
theorem tB_X12_has_20 {g : sx_G} (hG : sx_Go g) {P : Option Value → sv_V → Prop} {r : Int32} {Vr : sv_V} (hP : P (some (.int r)) Vr)    {V : sv_V} (h : B_X12_has_20   V = some (r, Vr)) : sv_N g qX12_has 1 20 [(0, .ref 146)] [] V P := by
  unfold B_X12_has_20 at h
  refine sx_aload_n (pc := 20) dX12_has_20 sx_m0 ?_
  refine sv_getI (pc := 21) hG dX12_has_21 f_12_409 lay_146 rfl ?_
  refine sx_if_ne (pc := 24) (tgt := 31) dX12_has_24 (by decide) (fun c1 => ?_) (fun c1 => ?_)
  · have h := sx_neg c1 h
    refine sx_iconst (pc := 31) (v := 0) dX12_has_31 (by decide) ?_
    exact sv_zret (pc := 32) dX12_has_32 rfl rfl h hP
  · have h := sx_pos c1 h
    refine sx_iconst (pc := 27) (v := 1) dX12_has_27 (by decide) ?_
    refine sx_goto (pc := 28) (tgt := 32) dX12_has_28 (by decide) ?_
    exact sv_zret (pc := 32) dX12_has_32 rfl rfl h hP
def F_X12_has (l1 : Int32) (V : sv_V) : Option (Int32 × sv_V) := if (V.1 146 59) = 0 then (if l1 ≤ (V.1 146 56) then (B_X12_has_20   V) else ((F_X12_fail (1 : Int32) V).bind (fun V4 => B_X12_has_20   V4))) else (B_X12_has_20   V)
set_option maxRecDepth 20000 in
theorem t_X12_has {g : sx_G} (hG : sx_Go g) {P : Option Value → sv_V → Prop} {r : Int32} {Vr : sv_V} (hP : P (some (.int r)) Vr) {l1 : Int32} {V : sv_V} (h : F_X12_has l1 V = some (r, Vr)) : sv_N g qX12_has 1 0 [(0, .ref 146), (1, .int l1)] [] V P := by
  unfold F_X12_has at h
  refine sx_aload_n (pc := 0) dX12_has_0 sx_m0 ?_
  refine sv_getI (pc := 1) hG dX12_has_1 f_12_409 lay_146 rfl ?_
  refine sx_if_ne (pc := 4) (tgt := 20) dX12_has_4 (by decide) (fun c2 => ?_) (fun c2 => ?_)
  · have h := sx_neg c2 h
    refine sx_wk (sx_s1 sx_m0 sx_s0) ?_
    exact tB_X12_has_20 hG hP  h
  · have h := sx_pos c2 h
    refine sx_aload_n (pc := 7) dX12_has_7 sx_m0 ?_
    refine sv_getI (pc := 8) hG dX12_has_8 f_12_418 lay_146 rfl ?_
    refine sx_iload_n (pc := 11) dX12_has_11 sx_m1 ?_
    refine sx_icmp_ge (pc := 12) (tgt := 20) dX12_has_12 (by decide) (fun c3 => ?_) (fun c3 => ?_)
    · have h := sx_pos c3 h
      refine sx_wk (sx_s1 sx_m0 sx_s0) ?_
      exact tB_X12_has_20 hG hP  h
    · have h := sx_neg c3 h
      refine sx_aload_n (pc := 15) dX12_has_15 sx_m0 ?_
      refine sx_iconst (pc := 16) (v := 1) dX12_has_16 (by decide) ?_
      obtain ⟨V4, g5, h⟩ := sx_bnd h
      refine sv_cV (pc := 17) (y := qX12_fail) (o := none) (as := [.int (1 : Int32)]) (V1 := V4) hG dX12_has_17 l_X12_421 y0X12_fail yvX12_fail rfl (Nat.le_of_ble_eq_true rfl) lay_146 kr_12 (by decide) (Nat.le_of_ble_eq_true rfl) rfl rfl rfl (t_X12_fail hG ⟨rfl, rfl⟩ g5) ?_
      refine sx_wk (sx_s1 sx_m0 sx_s0) ?_
      exact tB_X12_has_20 hG hP  h
theorem dX12_pop_0 : decode cX12_pop 0 = .ok (.aload_n 0, 1) := by decide +kernel
theorem dX12_pop_1 : decode cX12_pop 1 = .ok (.dup, 1) := by decide +kernel
theorem dX12_pop_2 : decode cX12_pop 2 = .ok (.getfield 418, 3) := by decide +kernel
theorem dX12_pop_5 : decode cX12_pop 5 = .ok (.iconst 1, 1) := by decide +kernel
theorem dX12_pop_6 : decode cX12_pop 6 = .ok (.isub, 1) := by decide +kernel
theorem dX12_pop_7 : decode cX12_pop 7 = .ok (.putfield 418, 3) := by decide +kernel
theorem dX12_pop_10 : decode cX12_pop 10 = .ok (.aload_n 0, 1) := by decide +kernel
theorem dX12_pop_11 : decode cX12_pop 11 = .ok (.getfield 91, 3) := by decide +kernel
theorem dX12_pop_14 : decode cX12_pop 14 = .ok (.aload_n 0, 1) := by decide +kernel
theorem dX12_pop_15 : decode cX12_pop 15 = .ok (.getfield 418, 3) := by decide +kernel
theorem dX12_pop_18 : decode cX12_pop 18 = .ok (.iaload, 1) := by decide +kernel
theorem dX12_pop_19 : decode cX12_pop 19 = .ok (.ireturn, 1) := by decide +kernel
def F_X12_pop  (V : sv_V) : Option (Int32 × sv_V) := sx_let (sv_I V 146 56 ((V.1 146 56) - (1 : Int32))) (fun V1 => if sx_in (V1.1 146 56) 256 = true then some (V1.1 173 (V1.1 146 56).toNatClampNeg, V1) else none)
set_option maxRecDepth 20000 in
theorem t_X12_pop {g : sx_G} (hG : sx_Go g) {P : Option Value → sv_V → Prop} {r : Int32} {Vr : sv_V} (hP : P (some (.int r)) Vr)  {V : sv_V} (h : F_X12_pop  V = some (r, Vr)) : sv_N g qX12_pop 0 0 [(0, .ref 146)] [] V P := by
  unfold F_X12_pop at h
  refine sx_aload_n (pc := 0) dX12_pop_0 sx_m0 ?_
  refine sx_dup (pc := 1) dX12_pop_1 rfl ?_
  refine sv_getI (pc := 2) hG dX12_pop_2 f_12_418 lay_146 rfl ?_
  refine sx_iconst (pc := 5) (v := 1) dX12_pop_5 (by decide) ?_
  refine sx_isub (pc := 6) dX12_pop_6 ?_
  obtain ⟨V1, hV1⟩ : ∃ z : sv_V, z = sv_I V 146 56 ((V.1 146 56) - (1 : Int32)) := ⟨_, rfl⟩
  have h := sx_letE hV1 h
  refine sv_putI (pc := 7) hG dX12_pop_7 f_12_418 lay_146 rfl hV1 ?_
  refine sx_aload_n (pc := 10) dX12_pop_10 sx_m0 ?_
  refine sv_getA (pc := 11) hG dX12_pop_11 f_12_91 lay_146 rfl cr_146_55 ?_
  refine sx_aload_n (pc := 14) dX12_pop_14 sx_m0 ?_
  refine sv_getI (pc := 15) hG dX12_pop_15 f_12_418 lay_146 rfl ?_
  obtain ⟨g2, h⟩ := sx_grd h
  refine sv_iald (pc := 18) hG dX12_pop_18 lay_173 g2 ?_
  exact sv_iret (pc := 19) dX12_pop_19 rfl h hP
theorem dX12_push_0 : decode cX12_push 0 = .ok (.aload_n 0, 1) := by decide +kernel
theorem dX12_push_1 : decode cX12_push 1 = .ok (.getfield 418, 3) := by decide +kernel
theorem dX12_push_4 : decode cX12_push 4 = .ok (.aload_n 0, 1) := by decide +kernel
theorem dX12_push_5 : decode cX12_push 5 = .ok (.getfield 328, 3) := by decide +kernel
theorem dX12_push_8 : decode cX12_push 8 = .ok (.if_icmp .lt 9, 3) := by decide +kernel
theorem dX12_push_11 : decode cX12_push 11 = .ok (.aload_n 0, 1) := by decide +kernel
theorem dX12_push_12 : decode cX12_push 12 = .ok (.iconst 2, 1) := by decide +kernel
theorem dX12_push_13 : decode cX12_push 13 = .ok (.invokevirtual 421, 3) := by decide +kernel
theorem dX12_push_16 : decode cX12_push 16 = .ok (.return_, 1) := by decide +kernel
theorem dX12_push_17 : decode cX12_push 17 = .ok (.aload_n 0, 1) := by decide +kernel
theorem dX12_push_18 : decode cX12_push 18 = .ok (.getfield 91, 3) := by decide +kernel
theorem dX12_push_21 : decode cX12_push 21 = .ok (.aload_n 0, 1) := by decide +kernel
theorem dX12_push_22 : decode cX12_push 22 = .ok (.getfield 418, 3) := by decide +kernel
theorem dX12_push_25 : decode cX12_push 25 = .ok (.lload_n 1, 1) := by decide +kernel
theorem dX12_push_26 : decode cX12_push 26 = .ok (.l2i, 1) := by decide +kernel
theorem dX12_push_27 : decode cX12_push 27 = .ok (.iastore, 1) := by decide +kernel
theorem dX12_push_28 : decode cX12_push 28 = .ok (.aload_n 0, 1) := by decide +kernel
theorem dX12_push_29 : decode cX12_push 29 = .ok (.dup, 1) := by decide +kernel
theorem dX12_push_30 : decode cX12_push 30 = .ok (.getfield 418, 3) := by decide +kernel
theorem dX12_push_33 : decode cX12_push 33 = .ok (.iconst 1, 1) := by decide +kernel
theorem dX12_push_34 : decode cX12_push 34 = .ok (.iadd, 1) := by decide +kernel
theorem dX12_push_35 : decode cX12_push 35 = .ok (.putfield 418, 3) := by decide +kernel
theorem dX12_push_38 : decode cX12_push 38 = .ok (.aload_n 0, 1) := by decide +kernel
theorem dX12_push_39 : decode cX12_push 39 = .ok (.aload_n 0, 1) := by decide +kernel
theorem dX12_push_40 : decode cX12_push 40 = .ok (.getfield 418, 3) := by decide +kernel
theorem dX12_push_43 : decode cX12_push 43 = .ok (.aload_n 0, 1) := by decide +kernel
theorem dX12_push_44 : decode cX12_push 44 = .ok (.getfield 424, 3) := by decide +kernel
theorem dX12_push_47 : decode cX12_push 47 = .ok (.if_icmp .le 10, 3) := by decide +kernel
theorem dX12_push_50 : decode cX12_push 50 = .ok (.aload_n 0, 1) := by decide +kernel
theorem dX12_push_51 : decode cX12_push 51 = .ok (.getfield 418, 3) := by decide +kernel
theorem dX12_push_54 : decode cX12_push 54 = .ok (.goto 7, 3) := by decide +kernel
theorem dX12_push_57 : decode cX12_push 57 = .ok (.aload_n 0, 1) := by decide +kernel
theorem dX12_push_58 : decode cX12_push 58 = .ok (.getfield 424, 3) := by decide +kernel
theorem dX12_push_61 : decode cX12_push 61 = .ok (.putfield 424, 3) := by decide +kernel
theorem dX12_push_64 : decode cX12_push 64 = .ok (.return_, 1) := by decide +kernel
def F_X12_push (l1 : Int64) (V : sv_V) : Option sv_V := if (V.1 146 56) < (V.1 146 18) then (if sx_in (V.1 146 56) 256 = true then sx_let (sv_I V 173 (V.1 146 56).toNatClampNeg l1.toInt32) (fun V3 => sx_let (sv_I V3 146 56 ((V3.1 146 56) + (1 : Int32))) (fun V4 => if (V4.1 146 56) ≤ (V4.1 146 57) then (sx_let (sv_I V4 146 57 (V4.1 146 57)) (fun V6 => some V6)) else (sx_let (sv_I V4 146 57 (V4.1 146 56)) (fun V7 => some V7)))) else none) else ((F_X12_fail (2 : Int32) V).bind (fun V8 => some V8))
set_option maxRecDepth 20000 in
theorem t_X12_push {g : sx_G} (hG : sx_Go g) {P : Option Value → sv_V → Prop} {Vr : sv_V} (hP : P none Vr) {l1 : Int64} {V : sv_V} (h : F_X12_push l1 V = some Vr) : sv_N g qX12_push 1 0 [(0, .ref 146), (1, .long l1)] [] V P := by
  unfold F_X12_push at h
  refine sx_aload_n (pc := 0) dX12_push_0 sx_m0 ?_
  refine sv_getI (pc := 1) hG dX12_push_1 f_12_418 lay_146 rfl ?_
  refine sx_aload_n (pc := 4) dX12_push_4 sx_m0 ?_
  refine sv_getI (pc := 5) hG dX12_push_5 f_12_328 lay_146 rfl ?_
  refine sx_icmp_lt (pc := 8) (tgt := 17) dX12_push_8 (by decide) (fun c1 => ?_) (fun c1 => ?_)
  · have h := sx_pos c1 h
    refine sx_aload_n (pc := 17) dX12_push_17 sx_m0 ?_
    refine sv_getA (pc := 18) hG dX12_push_18 f_12_91 lay_146 rfl cr_146_55 ?_
    refine sx_aload_n (pc := 21) dX12_push_21 sx_m0 ?_
    refine sv_getI (pc := 22) hG dX12_push_22 f_12_418 lay_146 rfl ?_
    refine sx_lload_n (pc := 25) dX12_push_25 sx_m1 ?_
    refine sx_l2i (pc := 26) dX12_push_26 ?_
    obtain ⟨g2, h⟩ := sx_grd h
    obtain ⟨V3, hV3⟩ : ∃ z : sv_V, z = sv_I V 173 (V.1 146 56).toNatClampNeg l1.toInt32 := ⟨_, rfl⟩
    have h := sx_letE hV3 h
    refine sv_iast (pc := 27) hG dX12_push_27 lay_173 g2 hV3 ?_
    refine sx_aload_n (pc := 28) dX12_push_28 sx_m0 ?_
    refine sx_dup (pc := 29) dX12_push_29 rfl ?_
    refine sv_getI (pc := 30) hG dX12_push_30 f_12_418 lay_146 rfl ?_
    refine sx_iconst (pc := 33) (v := 1) dX12_push_33 (by decide) ?_
    refine sx_iadd (pc := 34) dX12_push_34 ?_
    obtain ⟨V4, hV4⟩ : ∃ z : sv_V, z = sv_I V3 146 56 ((V3.1 146 56) + (1 : Int32)) := ⟨_, rfl⟩
    have h := sx_letE hV4 h
    refine sv_putI (pc := 35) hG dX12_push_35 f_12_418 lay_146 rfl hV4 ?_
    refine sx_aload_n (pc := 38) dX12_push_38 sx_m0 ?_
    refine sx_aload_n (pc := 39) dX12_push_39 sx_m0 ?_
    refine sv_getI (pc := 40) hG dX12_push_40 f_12_418 lay_146 rfl ?_
    refine sx_aload_n (pc := 43) dX12_push_43 sx_m0 ?_
    refine sv_getI (pc := 44) hG dX12_push_44 f_12_424 lay_146 rfl ?_
    refine sx_icmp_le (pc := 47) (tgt := 57) dX12_push_47 (by decide) (fun c5 => ?_) (fun c5 => ?_)
    · have h := sx_pos c5 h
      refine sx_aload_n (pc := 57) dX12_push_57 sx_m0 ?_
      refine sv_getI (pc := 58) hG dX12_push_58 f_12_424 lay_146 rfl ?_
      obtain ⟨V6, hV6⟩ : ∃ z : sv_V, z = sv_I V4 146 57 (V4.1 146 57) := ⟨_, rfl⟩
      have h := sx_letE hV6 h
      refine sv_putI (pc := 61) hG dX12_push_61 f_12_424 lay_146 rfl hV6 ?_
      exact sv_vret (pc := 64) dX12_push_64 rfl h hP
    · have h := sx_neg c5 h
      refine sx_aload_n (pc := 50) dX12_push_50 sx_m0 ?_
      refine sv_getI (pc := 51) hG dX12_push_51 f_12_418 lay_146 rfl ?_
      refine sx_goto (pc := 54) (tgt := 61) dX12_push_54 (by decide) ?_
      obtain ⟨V7, hV7⟩ : ∃ z : sv_V, z = sv_I V4 146 57 (V4.1 146 56) := ⟨_, rfl⟩
      have h := sx_letE hV7 h
      refine sv_putI (pc := 61) hG dX12_push_61 f_12_424 lay_146 rfl hV7 ?_
      exact sv_vret (pc := 64) dX12_push_64 rfl h hP
  · have h := sx_neg c1 h
    refine sx_aload_n (pc := 11) dX12_push_11 sx_m0 ?_
    refine sx_iconst (pc := 12) (v := 2) dX12_push_12 (by decide) ?_
    obtain ⟨V8, g9, h⟩ := sx_bnd h
    refine sv_cV (pc := 13) (y := qX12_fail) (o := none) (as := [.int (2 : Int32)]) (V1 := V8) hG dX12_push_13 l_X12_421 y0X12_fail yvX12_fail rfl (Nat.le_of_ble_eq_true rfl) lay_146 kr_12 (by decide) (Nat.le_of_ble_eq_true rfl) rfl rfl rfl (t_X12_fail hG ⟨rfl, rfl⟩ g9) ?_
    exact sv_vret (pc := 16) dX12_push_16 rfl h hP
theorem dX12_codeByte_0 : decode cX12_codeByte 0 = .ok (.aload_n 0, 1) := by decide +kernel
theorem dX12_codeByte_1 : decode cX12_codeByte 1 = .ok (.aload_n 0, 1) := by decide +kernel
theorem dX12_codeByte_2 : decode cX12_codeByte 2 = .ok (.getfield 94, 3) := by decide +kernel
theorem dX12_codeByte_5 : decode cX12_codeByte 5 = .ok (.aload_n 0, 1) := by decide +kernel
theorem dX12_codeByte_6 : decode cX12_codeByte 6 = .ok (.getfield 427, 3) := by decide +kernel
theorem dX12_codeByte_9 : decode cX12_codeByte 9 = .ok (.iaload, 1) := by decide +kernel
theorem dX12_codeByte_10 : decode cX12_codeByte 10 = .ok (.iload_n 1, 1) := by decide +kernel
theorem dX12_codeByte_11 : decode cX12_codeByte 11 = .ok (.iadd, 1) := by decide +kernel
theorem dX12_codeByte_12 : decode cX12_codeByte 12 = .ok (.invokevirtual 209, 3) := by decide +kernel
theorem dX12_codeByte_15 : decode cX12_codeByte 15 = .ok (.ireturn, 1) := by decide +kernel
def F_X12_codeByte (l1 : Int32) (V : sv_V) : Option (Int32 × sv_V) := if sx_in (V.1 146 92) 3 = true then (F_X12_u1 ((V.1 174 (V.1 146 92).toNatClampNeg) + l1) V).bind (fun (x4, V2) => some (x4, V2)) else none
set_option maxRecDepth 20000 in
theorem t_X12_codeByte {g : sx_G} (hG : sx_Go g) {P : Option Value → sv_V → Prop} {r : Int32} {Vr : sv_V} (hP : P (some (.int r)) Vr) {l1 : Int32} {V : sv_V} (h : F_X12_codeByte l1 V = some (r, Vr)) : sv_N g qX12_codeByte 1 0 [(0, .ref 146), (1, .int l1)] [] V P := by
  unfold F_X12_codeByte at h
  refine sx_aload_n (pc := 0) dX12_codeByte_0 sx_m0 ?_
  refine sx_aload_n (pc := 1) dX12_codeByte_1 sx_m0 ?_
  refine sv_getA (pc := 2) hG dX12_codeByte_2 f_12_94 lay_146 rfl cr_146_89 ?_
  refine sx_aload_n (pc := 5) dX12_codeByte_5 sx_m0 ?_
  refine sv_getI (pc := 6) hG dX12_codeByte_6 f_12_427 lay_146 rfl ?_
  obtain ⟨g1, h⟩ := sx_grd h
  refine sv_iald (pc := 9) hG dX12_codeByte_9 lay_174 g1 ?_
  refine sx_iload_n (pc := 10) dX12_codeByte_10 sx_m1 ?_
  refine sx_iadd (pc := 11) dX12_codeByte_11 ?_
  obtain ⟨⟨x4, V2⟩, g3, h⟩ := sx_bnd h
  refine sv_cV (pc := 12) (y := qX12_u1) (o := (some (.int x4))) (as := [.int ((V.1 174 (V.1 146 92).toNatClampNeg) + l1)]) (V1 := V2) hG dX12_codeByte_12 l_X12_209 y0X12_u1 yvX12_u1 rfl (Nat.le_of_ble_eq_true rfl) lay_146 kr_12 (by decide) (Nat.le_of_ble_eq_true rfl) rfl rfl rfl (t_X12_u1 hG ⟨rfl, rfl⟩ g3) ?_
  exact sv_iret (pc := 15) dX12_codeByte_15 rfl h hP
theorem dX12_codeLength_0 : decode cX12_codeLength 0 = .ok (.aload_n 0, 1) := by decide +kernel
theorem dX12_codeLength_1 : decode cX12_codeLength 1 = .ok (.iload_n 1, 1) := by decide +kernel
theorem dX12_codeLength_2 : decode cX12_codeLength 2 = .ok (.invokevirtual 430, 3) := by decide +kernel
theorem dX12_codeLength_5 : decode cX12_codeLength 5 = .ok (.istore_n 2, 1) := by decide +kernel
theorem dX12_codeLength_6 : decode cX12_codeLength 6 = .ok (.iload_n 1, 1) := by decide +kernel
theorem dX12_codeLength_7 : decode cX12_codeLength 7 = .ok (.iconst 1, 1) := by decide +kernel
theorem dX12_codeLength_8 : decode cX12_codeLength 8 = .ok (.iadd, 1) := by decide +kernel
theorem dX12_codeLength_9 : decode cX12_codeLength 9 = .ok (.aload_n 0, 1) := by decide +kernel
theorem dX12_codeLength_10 : decode cX12_codeLength 10 = .ok (.getfield 97, 3) := by decide +kernel
theorem dX12_codeLength_13 : decode cX12_codeLength 13 = .ok (.aload_n 0, 1) := by decide +kernel
theorem dX12_codeLength_14 : decode cX12_codeLength 14 = .ok (.getfield 427, 3) := by decide +kernel
theorem dX12_codeLength_17 : decode cX12_codeLength 17 = .ok (.iaload, 1) := by decide +kernel
theorem dX12_codeLength_18 : decode cX12_codeLength 18 = .ok (.if_icmp .ge 13, 3) := by decide +kernel
theorem dX12_codeLength_21 : decode cX12_codeLength 21 = .ok (.aload_n 0, 1) := by decide +kernel
theorem dX12_codeLength_22 : decode cX12_codeLength 22 = .ok (.iload_n 1, 1) := by decide +kernel
theorem dX12_codeLength_23 : decode cX12_codeLength 23 = .ok (.iconst 1, 1) := by decide +kernel
theorem dX12_codeLength_24 : decode cX12_codeLength 24 = .ok (.iadd, 1) := by decide +kernel
theorem dX12_codeLength_25 : decode cX12_codeLength 25 = .ok (.invokevirtual 430, 3) := by decide +kernel
theorem dX12_codeLength_28 : decode cX12_codeLength 28 = .ok (.goto 4, 3) := by decide +kernel
theorem dX12_codeLength_31 : decode cX12_codeLength 31 = .ok (.iconst 0, 1) := by decide +kernel
theorem dX12_codeLength_32 : decode cX12_codeLength 32 = .ok (.istore_n 3, 1) := by decide +kernel
theorem dX12_codeLength_33 : decode cX12_codeLength 33 = .ok (.iload_n 2, 1) := by decide +kernel
theorem dX12_codeLength_34 : decode cX12_codeLength 34 = .ok (.bipush 64, 2) := by decide +kernel
theorem dX12_codeLength_36 : decode cX12_codeLength 36 = .ok (.if_icmp .eq 9, 3) := by decide +kernel
theorem dX12_codeLength_39 : decode cX12_codeLength 39 = .ok (.iload_n 2, 1) := by decide +kernel
theorem dX12_codeLength_40 : decode cX12_codeLength 40 = .ok (.bipush 65, 2) := by decide +kernel
theorem dX12_codeLength_42 : decode cX12_codeLength 42 = .ok (.if_icmp .ne 38, 3) := by decide +kernel
theorem dX12_codeLength_45 : decode cX12_codeLength 45 = .ok (.iload_n 1, 1) := by decide +kernel
theorem dX12_codeLength_46 : decode cX12_codeLength 46 = .ok (.iconst 1, 1) := by decide +kernel
theorem dX12_codeLength_47 : decode cX12_codeLength 47 = .ok (.iadd, 1) := by decide +kernel
theorem dX12_codeLength_48 : decode cX12_codeLength 48 = .ok (.aload_n 0, 1) := by decide +kernel
theorem dX12_codeLength_49 : decode cX12_codeLength 49 = .ok (.getfield 97, 3) := by decide +kernel
theorem dX12_codeLength_52 : decode cX12_codeLength 52 = .ok (.aload_n 0, 1) := by decide +kernel
theorem dX12_codeLength_53 : decode cX12_codeLength 53 = .ok (.getfield 427, 3) := by decide +kernel
theorem dX12_codeLength_56 : decode cX12_codeLength 56 = .ok (.iaload, 1) := by decide +kernel
theorem dX12_codeLength_57 : decode cX12_codeLength 57 = .ok (.if_icmp .ge 21, 3) := by decide +kernel
theorem dX12_codeLength_60 : decode cX12_codeLength 60 = .ok (.iconst 2, 1) := by decide +kernel
theorem dX12_codeLength_61 : decode cX12_codeLength 61 = .ok (.iload_n 2, 1) := by decide +kernel
theorem dX12_codeLength_62 : decode cX12_codeLength 62 = .ok (.bipush 64, 2) := by decide +kernel
theorem dX12_codeLength_64 : decode cX12_codeLength 64 = .ok (.if_icmp .ne 7, 3) := by decide +kernel
theorem dX12_codeLength_67 : decode cX12_codeLength 67 = .ok (.iload_n 3, 1) := by decide +kernel
theorem dX12_codeLength_68 : decode cX12_codeLength 68 = .ok (.goto 6, 3) := by decide +kernel
theorem dX12_codeLength_71 : decode cX12_codeLength 71 = .ok (.iconst 2, 1) := by decide +kernel
theorem dX12_codeLength_72 : decode cX12_codeLength 72 = .ok (.iload_n 3, 1) := by decide +kernel
theorem dX12_codeLength_73 : decode cX12_codeLength 73 = .ok (.imul, 1) := by decide +kernel
theorem dX12_codeLength_74 : decode cX12_codeLength 74 = .ok (.iadd, 1) := by decide +kernel
theorem dX12_codeLength_75 : decode cX12_codeLength 75 = .ok (.goto 4, 3) := by decide +kernel
theorem dX12_codeLength_78 : decode cX12_codeLength 78 = .ok (.iconst 2, 1) := by decide +kernel
theorem dX12_codeLength_79 : decode cX12_codeLength 79 = .ok (.ireturn, 1) := by decide +kernel
theorem dX12_codeLength_80 : decode cX12_codeLength 80 = .ok (.iload_n 2, 1) := by decide +kernel
theorem dX12_codeLength_81 : decode cX12_codeLength 81 = .ok (.sipush 176, 3) := by decide +kernel
theorem dX12_codeLength_84 : decode cX12_codeLength 84 = .ok (.if_icmp .lt 18, 3) := by decide +kernel
theorem dX12_codeLength_87 : decode cX12_codeLength 87 = .ok (.iload_n 2, 1) := by decide +kernel
theorem dX12_codeLength_88 : decode cX12_codeLength 88 = .ok (.sipush 183, 3) := by decide +kernel
theorem dX12_codeLength_91 : decode cX12_codeLength 91 = .ok (.if_icmp .gt 11, 3) := by decide +kernel
theorem dX12_codeLength_94 : decode cX12_codeLength 94 = .ok (.iload_n 2, 1) := by decide +kernel
theorem dX12_codeLength_95 : decode cX12_codeLength 95 = .ok (.sipush 174, 3) := by decide +kernel
theorem dX12_codeLength_98 : decode cX12_codeLength 98 = .ok (.isub, 1) := by decide +kernel
theorem dX12_codeLength_99 : decode cX12_codeLength 99 = .ok (.goto 30, 3) := by decide +kernel
theorem dX12_codeLength_102 : decode cX12_codeLength 102 = .ok (.iload_n 2, 1) := by decide +kernel
theorem dX12_codeLength_103 : decode cX12_codeLength 103 = .ok (.sipush 184, 3) := by decide +kernel
theorem dX12_codeLength_106 : decode cX12_codeLength 106 = .ok (.if_icmp .lt 22, 3) := by decide +kernel
theorem dX12_codeLength_109 : decode cX12_codeLength 109 = .ok (.iload_n 2, 1) := by decide +kernel
theorem dX12_codeLength_110 : decode cX12_codeLength 110 = .ok (.sipush 191, 3) := by decide +kernel
theorem dX12_codeLength_113 : decode cX12_codeLength 113 = .ok (.if_icmp .gt 15, 3) := by decide +kernel
theorem dX12_codeLength_116 : decode cX12_codeLength 116 = .ok (.iconst 1, 1) := by decide +kernel
theorem dX12_codeLength_117 : decode cX12_codeLength 117 = .ok (.iconst 2, 1) := by decide +kernel
theorem dX12_codeLength_118 : decode cX12_codeLength 118 = .ok (.iload_n 2, 1) := by decide +kernel
theorem dX12_codeLength_119 : decode cX12_codeLength 119 = .ok (.sipush 183, 3) := by decide +kernel
theorem dX12_codeLength_122 : decode cX12_codeLength 122 = .ok (.isub, 1) := by decide +kernel
theorem dX12_codeLength_123 : decode cX12_codeLength 123 = .ok (.imul, 1) := by decide +kernel
theorem dX12_codeLength_124 : decode cX12_codeLength 124 = .ok (.iadd, 1) := by decide +kernel
theorem dX12_codeLength_125 : decode cX12_codeLength 125 = .ok (.goto 4, 3) := by decide +kernel
theorem dX12_codeLength_128 : decode cX12_codeLength 128 = .ok (.iconst 1, 1) := by decide +kernel
theorem dX12_codeLength_129 : decode cX12_codeLength 129 = .ok (.ireturn, 1) := by decide +kernel
def B_X12_codeLength_74  (s0 : Int32) (s1 : Int32) (V : sv_V) : Option (Int32 × sv_V) := some (s0 + s1, V)
set_option maxRecDepth 20000 in
theorem tB_X12_codeLength_74 {g : sx_G} (hG : sx_Go g) {P : Option Value → sv_V → Prop} {r : Int32} {Vr : sv_V} (hP : P (some (.int r)) Vr)   {s0 : Int32} {s1 : Int32} {V : sv_V} (h : B_X12_codeLength_74  s0 s1 V = some (r, Vr)) : sv_N g qX12_codeLength 2 74 [] [.int s1, .int s0] V P := by
  unfold B_X12_codeLength_74 at h
  refine sx_iadd (pc := 74) dX12_codeLength_74 ?_
  refine sx_goto (pc := 75) (tgt := 79) dX12_codeLength_75 (by decide) ?_
  exact sv_iret (pc := 79) dX12_codeLength_79 rfl h hP
def B_X12_codeLength_45  (l1 : Int32) (l2 : Int32) (l3 : Int32) (V : sv_V) : Option (Int32 × sv_V) := if sx_in (V.1 146 92) 3 = true then if (V.1 175 (V.1 146 92).toNatClampNeg) ≤ (l1 + (1 : Int32)) then (some ((2 : Int32), V)) else (if l2 = (64 : Int32) then (B_X12_codeLength_74  (2 : Int32) l3 V) else (B_X12_codeLength_74  (2 : Int32) ((2 : Int32) * l3) V)) else none
set_option maxRecDepth 20000 in
theorem tB_X12_codeLength_45 {g : sx_G} (hG : sx_Go g) {P : Option Value → sv_V → Prop} {r : Int32} {Vr : sv_V} (hP : P (some (.int r)) Vr)   {l1 : Int32} {l2 : Int32} {l3 : Int32} {V : sv_V} (h : B_X12_codeLength_45  l1 l2 l3 V = some (r, Vr)) : sv_N g qX12_codeLength 2 45 [(0, .ref 146), (1, .int l1), (2, .int l2), (3, .int l3)] [] V P := by
  unfold B_X12_codeLength_45 at h
  refine sx_iload_n (pc := 45) dX12_codeLength_45 sx_m1 ?_
  refine sx_iconst (pc := 46) (v := 1) dX12_codeLength_46 (by decide) ?_
  refine sx_iadd (pc := 47) dX12_codeLength_47 ?_
  refine sx_aload_n (pc := 48) dX12_codeLength_48 sx_m0 ?_
  refine sv_getA (pc := 49) hG dX12_codeLength_49 f_12_97 lay_146 rfl cr_146_90 ?_
  refine sx_aload_n (pc := 52) dX12_codeLength_52 sx_m0 ?_
  refine sv_getI (pc := 53) hG dX12_codeLength_53 f_12_427 lay_146 rfl ?_
  obtain ⟨g1, h⟩ := sx_grd h
  refine sv_iald (pc := 56) hG dX12_codeLength_56 lay_175 g1 ?_
  refine sx_icmp_ge (pc := 57) (tgt := 78) dX12_codeLength_57 (by decide) (fun c2 => ?_) (fun c2 => ?_)
  · have h := sx_pos c2 h
    refine sx_iconst (pc := 78) (v := 2) dX12_codeLength_78 (by decide) ?_
    exact sv_iret (pc := 79) dX12_codeLength_79 rfl h hP
  · have h := sx_neg c2 h
    refine sx_iconst (pc := 60) (v := 2) dX12_codeLength_60 (by decide) ?_
    refine sx_iload_n (pc := 61) dX12_codeLength_61 sx_m2 ?_
    refine sx_bipush (pc := 62) (v := 64) dX12_codeLength_62 (by decide) ?_
    refine sx_icmp_ne (pc := 64) (tgt := 71) dX12_codeLength_64 (by decide) (fun c3 => ?_) (fun c3 => ?_)
    · have h := sx_neg c3 h
      refine sx_iconst (pc := 71) (v := 2) dX12_codeLength_71 (by decide) ?_
      refine sx_iload_n (pc := 72) dX12_codeLength_72 sx_m3 ?_
      refine sx_imul (pc := 73) dX12_codeLength_73 ?_
      refine sx_wk sx_s0 ?_
      exact tB_X12_codeLength_74 hG hP  h
    · have h := sx_pos c3 h
      refine sx_iload_n (pc := 67) dX12_codeLength_67 sx_m3 ?_
      refine sx_goto (pc := 68) (tgt := 74) dX12_codeLength_68 (by decide) ?_
      refine sx_wk sx_s0 ?_
      exact tB_X12_codeLength_74 hG hP  h
def B_X12_codeLength_102  (l2 : Int32) (V : sv_V) : Option (Int32 × sv_V) := if l2 < (184 : Int32) then (some ((1 : Int32), V)) else (if (191 : Int32) < l2 then (some ((1 : Int32), V)) else (some ((1 : Int32) + ((2 : Int32) * (l2 - (183 : Int32))), V)))
set_option maxRecDepth 20000 in
theorem tB_X12_codeLength_102 {g : sx_G} (hG : sx_Go g) {P : Option Value → sv_V → Prop} {r : Int32} {Vr : sv_V} (hP : P (some (.int r)) Vr)   {l2 : Int32} {V : sv_V} (h : B_X12_codeLength_102  l2 V = some (r, Vr)) : sv_N g qX12_codeLength 2 102 [(2, .int l2)] [] V P := by
  unfold B_X12_codeLength_102 at h
  refine sx_iload_n (pc := 102) dX12_codeLength_102 sx_m0 ?_
  refine sx_sipush (pc := 103) (v := 184) dX12_codeLength_103 (by decide) ?_
  refine sx_icmp_lt (pc := 106) (tgt := 128) dX12_codeLength_106 (by decide) (fun c4 => ?_) (fun c4 => ?_)
  · have h := sx_pos c4 h
    refine sx_iconst (pc := 128) (v := 1) dX12_codeLength_128 (by decide) ?_
    exact sv_iret (pc := 129) dX12_codeLength_129 rfl h hP
  · have h := sx_neg c4 h
    refine sx_iload_n (pc := 109) dX12_codeLength_109 sx_m0 ?_
    refine sx_sipush (pc := 110) (v := 191) dX12_codeLength_110 (by decide) ?_
    refine sx_icmp_gt (pc := 113) (tgt := 128) dX12_codeLength_113 (by decide) (fun c5 => ?_) (fun c5 => ?_)
    · have h := sx_pos c5 h
      refine sx_iconst (pc := 128) (v := 1) dX12_codeLength_128 (by decide) ?_
      exact sv_iret (pc := 129) dX12_codeLength_129 rfl h hP
    · have h := sx_neg c5 h
      refine sx_iconst (pc := 116) (v := 1) dX12_codeLength_116 (by decide) ?_
      refine sx_iconst (pc := 117) (v := 2) dX12_codeLength_117 (by decide) ?_
      refine sx_iload_n (pc := 118) dX12_codeLength_118 sx_m0 ?_
      refine sx_sipush (pc := 119) (v := 183) dX12_codeLength_119 (by decide) ?_
      refine sx_isub (pc := 122) dX12_codeLength_122 ?_
      refine sx_imul (pc := 123) dX12_codeLength_123 ?_
      refine sx_iadd (pc := 124) dX12_codeLength_124 ?_
      refine sx_goto (pc := 125) (tgt := 129) dX12_codeLength_125 (by decide) ?_
      exact sv_iret (pc := 129) dX12_codeLength_129 rfl h hP
def B_X12_codeLength_32  (l1 : Int32) (l2 : Int32) (s0 : Int32) (V : sv_V) : Option (Int32 × sv_V) := if l2 = (64 : Int32) then (B_X12_codeLength_45  l1 l2 s0 V) else (if l2 = (65 : Int32) then (B_X12_codeLength_45  l1 l2 s0 V) else (if l2 < (176 : Int32) then (B_X12_codeLength_102  l2 V) else (if (183 : Int32) < l2 then (B_X12_codeLength_102  l2 V) else (some (l2 - (174 : Int32), V)))))
set_option maxRecDepth 20000 in
theorem tB_X12_codeLength_32 {g : sx_G} (hG : sx_Go g) {P : Option Value → sv_V → Prop} {r : Int32} {Vr : sv_V} (hP : P (some (.int r)) Vr)   {l1 : Int32} {l2 : Int32} {s0 : Int32} {V : sv_V} (h : B_X12_codeLength_32  l1 l2 s0 V = some (r, Vr)) : sv_N g qX12_codeLength 2 32 [(0, .ref 146), (1, .int l1), (2, .int l2)] [.int s0] V P := by
  unfold B_X12_codeLength_32 at h
  refine sx_istore_n (pc := 32) (lo' := [(3, .int s0), (0, .ref 146), (1, .int l1), (2, .int l2)]) dX12_codeLength_32 (by decide) rfl ?_
  refine sx_iload_n (pc := 33) dX12_codeLength_33 sx_m3 ?_
  refine sx_bipush (pc := 34) (v := 64) dX12_codeLength_34 (by decide) ?_
  refine sx_icmp_eq (pc := 36) (tgt := 45) dX12_codeLength_36 (by decide) (fun c6 => ?_) (fun c6 => ?_)
  · have h := sx_pos c6 h
    refine sx_wk (sx_s1 sx_m1 (sx_s1 sx_m2 (sx_s1 sx_m3 (sx_s1 sx_m0 sx_s0)))) ?_
    exact tB_X12_codeLength_45 hG hP  h
  · have h := sx_neg c6 h
    refine sx_iload_n (pc := 39) dX12_codeLength_39 sx_m3 ?_
    refine sx_bipush (pc := 40) (v := 65) dX12_codeLength_40 (by decide) ?_
    refine sx_icmp_ne (pc := 42) (tgt := 80) dX12_codeLength_42 (by decide) (fun c7 => ?_) (fun c7 => ?_)
    · have h := sx_neg c7 h
      refine sx_iload_n (pc := 80) dX12_codeLength_80 sx_m3 ?_
      refine sx_sipush (pc := 81) (v := 176) dX12_codeLength_81 (by decide) ?_
      refine sx_icmp_lt (pc := 84) (tgt := 102) dX12_codeLength_84 (by decide) (fun c8 => ?_) (fun c8 => ?_)
      · have h := sx_pos c8 h
        refine sx_wk (sx_s1 sx_m3 sx_s0) ?_
        exact tB_X12_codeLength_102 hG hP  h
      · have h := sx_neg c8 h
        refine sx_iload_n (pc := 87) dX12_codeLength_87 sx_m3 ?_
        refine sx_sipush (pc := 88) (v := 183) dX12_codeLength_88 (by decide) ?_
        refine sx_icmp_gt (pc := 91) (tgt := 102) dX12_codeLength_91 (by decide) (fun c9 => ?_) (fun c9 => ?_)
        · have h := sx_pos c9 h
          refine sx_wk (sx_s1 sx_m3 sx_s0) ?_
          exact tB_X12_codeLength_102 hG hP  h
        · have h := sx_neg c9 h
          refine sx_iload_n (pc := 94) dX12_codeLength_94 sx_m3 ?_
          refine sx_sipush (pc := 95) (v := 174) dX12_codeLength_95 (by decide) ?_
          refine sx_isub (pc := 98) dX12_codeLength_98 ?_
          refine sx_goto (pc := 99) (tgt := 129) dX12_codeLength_99 (by decide) ?_
          exact sv_iret (pc := 129) dX12_codeLength_129 rfl h hP
    · have h := sx_pos c7 h
      refine sx_wk (sx_s1 sx_m1 (sx_s1 sx_m2 (sx_s1 sx_m3 (sx_s1 sx_m0 sx_s0)))) ?_
      exact tB_X12_codeLength_45 hG hP  h
def F_X12_codeLength (l1 : Int32) (V : sv_V) : Option (Int32 × sv_V) := (F_X12_codeByte l1 V).bind (fun (x12, V10) => if sx_in (V10.1 146 92) 3 = true then if (V10.1 175 (V10.1 146 92).toNatClampNeg) ≤ (l1 + (1 : Int32)) then (B_X12_codeLength_32  l1 x12 (0 : Int32) V10) else ((F_X12_codeByte (l1 + (1 : Int32)) V10).bind (fun (x17, V15) => B_X12_codeLength_32  l1 x12 x17 V15)) else none)
set_option maxRecDepth 20000 in
theorem t_X12_codeLength {g : sx_G} (hG : sx_Go g) {P : Option Value → sv_V → Prop} {r : Int32} {Vr : sv_V} (hP : P (some (.int r)) Vr) {l1 : Int32} {V : sv_V} (h : F_X12_codeLength l1 V = some (r, Vr)) : sv_N g qX12_codeLength 2 0 [(0, .ref 146), (1, .int l1)] [] V P := by
  unfold F_X12_codeLength at h
  refine sx_aload_n (pc := 0) dX12_codeLength_0 sx_m0 ?_
  refine sx_iload_n (pc := 1) dX12_codeLength_1 sx_m1 ?_
  obtain ⟨⟨x12, V10⟩, g11, h⟩ := sx_bnd h
  refine sv_cV (pc := 2) (y := qX12_codeByte) (o := (some (.int x12))) (as := [.int l1]) (V1 := V10) hG dX12_codeLength_2 l_X12_430 y0X12_codeByte yvX12_codeByte rfl (Nat.le_of_ble_eq_true rfl) lay_146 kr_12 (by decide) (Nat.le_of_ble_eq_true rfl) rfl rfl rfl (t_X12_codeByte hG ⟨rfl, rfl⟩ g11) ?_
  refine sx_istore_n (pc := 5) (lo' := [(2, .int x12), (0, .ref 146), (1, .int l1)]) dX12_codeLength_5 (by decide) rfl ?_
  refine sx_iload_n (pc := 6) dX12_codeLength_6 sx_m2 ?_
  refine sx_iconst (pc := 7) (v := 1) dX12_codeLength_7 (by decide) ?_
  refine sx_iadd (pc := 8) dX12_codeLength_8 ?_
  refine sx_aload_n (pc := 9) dX12_codeLength_9 sx_m1 ?_
  refine sv_getA (pc := 10) hG dX12_codeLength_10 f_12_97 lay_146 rfl cr_146_90 ?_
  refine sx_aload_n (pc := 13) dX12_codeLength_13 sx_m1 ?_
  refine sv_getI (pc := 14) hG dX12_codeLength_14 f_12_427 lay_146 rfl ?_
  obtain ⟨g13, h⟩ := sx_grd h
  refine sv_iald (pc := 17) hG dX12_codeLength_17 lay_175 g13 ?_
  refine sx_icmp_ge (pc := 18) (tgt := 31) dX12_codeLength_18 (by decide) (fun c14 => ?_) (fun c14 => ?_)
  · have h := sx_pos c14 h
    refine sx_iconst (pc := 31) (v := 0) dX12_codeLength_31 (by decide) ?_
    refine sx_wk (sx_s1 sx_m1 (sx_s1 sx_m2 (sx_s1 sx_m0 sx_s0))) ?_
    exact tB_X12_codeLength_32 hG hP  h
  · have h := sx_neg c14 h
    refine sx_aload_n (pc := 21) dX12_codeLength_21 sx_m1 ?_
    refine sx_iload_n (pc := 22) dX12_codeLength_22 sx_m2 ?_
    refine sx_iconst (pc := 23) (v := 1) dX12_codeLength_23 (by decide) ?_
    refine sx_iadd (pc := 24) dX12_codeLength_24 ?_
    obtain ⟨⟨x17, V15⟩, g16, h⟩ := sx_bnd h
    refine sv_cV (pc := 25) (y := qX12_codeByte) (o := (some (.int x17))) (as := [.int (l1 + (1 : Int32))]) (V1 := V15) hG dX12_codeLength_25 l_X12_430 y0X12_codeByte yvX12_codeByte rfl (Nat.le_of_ble_eq_true rfl) lay_146 kr_12 (by decide) (Nat.le_of_ble_eq_true rfl) rfl rfl rfl (t_X12_codeByte hG ⟨rfl, rfl⟩ g16) ?_
    refine sx_goto (pc := 28) (tgt := 32) dX12_codeLength_28 (by decide) ?_
    refine sx_wk (sx_s1 sx_m1 (sx_s1 sx_m2 (sx_s1 sx_m0 sx_s0))) ?_
    exact tB_X12_codeLength_32 hG hP  h
theorem dX12_setRounding_0 : decode cX12_setRounding 0 = .ok (.aload_n 0, 1) := by decide +kernel
theorem dX12_setRounding_1 : decode cX12_setRounding 1 = .ok (.iload_n 1, 1) := by decide +kernel
theorem dX12_setRounding_2 : decode cX12_setRounding 2 = .ok (.putfield 476, 3) := by decide +kernel
theorem dX12_setRounding_5 : decode cX12_setRounding 5 = .ok (.aload_n 0, 1) := by decide +kernel
theorem dX12_setRounding_6 : decode cX12_setRounding 6 = .ok (.iload_n 2, 1) := by decide +kernel
theorem dX12_setRounding_7 : decode cX12_setRounding 7 = .ok (.putfield 479, 3) := by decide +kernel
theorem dX12_setRounding_10 : decode cX12_setRounding 10 = .ok (.aload_n 0, 1) := by decide +kernel
theorem dX12_setRounding_11 : decode cX12_setRounding 11 = .ok (.iload_n 3, 1) := by decide +kernel
theorem dX12_setRounding_12 : decode cX12_setRounding 12 = .ok (.putfield 482, 3) := by decide +kernel
theorem dX12_setRounding_15 : decode cX12_setRounding 15 = .ok (.aload_n 0, 1) := by decide +kernel
theorem dX12_setRounding_16 : decode cX12_setRounding 16 = .ok (.iload 4, 2) := by decide +kernel
theorem dX12_setRounding_18 : decode cX12_setRounding 18 = .ok (.putfield 485, 3) := by decide +kernel
theorem dX12_setRounding_21 : decode cX12_setRounding 21 = .ok (.return_, 1) := by decide +kernel
def F_X12_setRounding (l1 : Int32) (l2 : Int32) (l3 : Int32) (l4 : Int32) (V : sv_V) : Option sv_V := sx_let (sv_I V 146 76 l1) (fun V1 => sx_let (sv_I V1 146 77 l2) (fun V2 => sx_let (sv_I V2 146 78 l3) (fun V3 => sx_let (sv_I V3 146 79 l4) (fun V4 => some V4))))
set_option maxRecDepth 20000 in
theorem t_X12_setRounding {g : sx_G} (hG : sx_Go g) {P : Option Value → sv_V → Prop} {Vr : sv_V} (hP : P none Vr) {l1 : Int32} {l2 : Int32} {l3 : Int32} {l4 : Int32} {V : sv_V} (h : F_X12_setRounding l1 l2 l3 l4 V = some Vr) : sv_N g qX12_setRounding 0 0 [(0, .ref 146), (1, .int l1), (2, .int l2), (3, .int l3), (4, .int l4)] [] V P := by
  unfold F_X12_setRounding at h
  refine sx_aload_n (pc := 0) dX12_setRounding_0 sx_m0 ?_
  refine sx_iload_n (pc := 1) dX12_setRounding_1 sx_m1 ?_
  obtain ⟨V1, hV1⟩ : ∃ z : sv_V, z = sv_I V 146 76 l1 := ⟨_, rfl⟩
  have h := sx_letE hV1 h
  refine sv_putI (pc := 2) hG dX12_setRounding_2 f_12_476 lay_146 rfl hV1 ?_
  refine sx_aload_n (pc := 5) dX12_setRounding_5 sx_m0 ?_
  refine sx_iload_n (pc := 6) dX12_setRounding_6 sx_m2 ?_
  obtain ⟨V2, hV2⟩ : ∃ z : sv_V, z = sv_I V1 146 77 l2 := ⟨_, rfl⟩
  have h := sx_letE hV2 h
  refine sv_putI (pc := 7) hG dX12_setRounding_7 f_12_479 lay_146 rfl hV2 ?_
  refine sx_aload_n (pc := 10) dX12_setRounding_10 sx_m0 ?_
  refine sx_iload_n (pc := 11) dX12_setRounding_11 sx_m3 ?_
  obtain ⟨V3, hV3⟩ : ∃ z : sv_V, z = sv_I V2 146 78 l3 := ⟨_, rfl⟩
  have h := sx_letE hV3 h
  refine sv_putI (pc := 12) hG dX12_setRounding_12 f_12_482 lay_146 rfl hV3 ?_
  refine sx_aload_n (pc := 15) dX12_setRounding_15 sx_m0 ?_
  refine sx_iload (pc := 16) dX12_setRounding_16 sx_m4 ?_
  obtain ⟨V4, hV4⟩ : ∃ z : sv_V, z = sv_I V3 146 79 l4 := ⟨_, rfl⟩
  have h := sx_letE hV4 h
  refine sv_putI (pc := 18) hG dX12_setRounding_18 f_12_485 lay_146 rfl hV4 ?_
  exact sv_vret (pc := 21) dX12_setRounding_21 rfl h hP
theorem dX12_pass_0 : decode cX12_pass 0 = .ok (.iload_n 1, 1) := by decide +kernel
theorem dX12_pass_1 : decode cX12_pass 1 = .ok (.istore 5, 2) := by decide +kernel
theorem dX12_pass_3 : decode cX12_pass 3 = .ok (.iconst 0, 1) := by decide +kernel
theorem dX12_pass_4 : decode cX12_pass 4 = .ok (.istore 6, 2) := by decide +kernel
theorem dX12_pass_6 : decode cX12_pass 6 = .ok (.iload 5, 2) := by decide +kernel
theorem dX12_pass_8 : decode cX12_pass 8 = .ok (.aload_n 0, 1) := by decide +kernel
theorem dX12_pass_9 : decode cX12_pass 9 = .ok (.getfield 97, 3) := by decide +kernel
theorem dX12_pass_12 : decode cX12_pass 12 = .ok (.aload_n 0, 1) := by decide +kernel
theorem dX12_pass_13 : decode cX12_pass 13 = .ok (.getfield 427, 3) := by decide +kernel
theorem dX12_pass_16 : decode cX12_pass 16 = .ok (.iaload, 1) := by decide +kernel
theorem dX12_pass_17 : decode cX12_pass 17 = .ok (.if_icmp .ge 106, 3) := by decide +kernel
theorem dX12_pass_20 : decode cX12_pass 20 = .ok (.aload_n 0, 1) := by decide +kernel
theorem dX12_pass_21 : decode cX12_pass 21 = .ok (.iload 5, 2) := by decide +kernel
theorem dX12_pass_23 : decode cX12_pass 23 = .ok (.invokevirtual 430, 3) := by decide +kernel
theorem dX12_pass_26 : decode cX12_pass 26 = .ok (.istore 7, 2) := by decide +kernel
theorem dX12_pass_28 : decode cX12_pass 28 = .ok (.aload_n 0, 1) := by decide +kernel
theorem dX12_pass_29 : decode cX12_pass 29 = .ok (.iload 5, 2) := by decide +kernel
theorem dX12_pass_31 : decode cX12_pass 31 = .ok (.invokevirtual 511, 3) := by decide +kernel
theorem dX12_pass_34 : decode cX12_pass 34 = .ok (.istore 8, 2) := by decide +kernel
theorem dX12_pass_36 : decode cX12_pass 36 = .ok (.iload 5, 2) := by decide +kernel
theorem dX12_pass_38 : decode cX12_pass 38 = .ok (.iload 8, 2) := by decide +kernel
theorem dX12_pass_40 : decode cX12_pass 40 = .ok (.iadd, 1) := by decide +kernel
theorem dX12_pass_41 : decode cX12_pass 41 = .ok (.aload_n 0, 1) := by decide +kernel
theorem dX12_pass_42 : decode cX12_pass 42 = .ok (.getfield 97, 3) := by decide +kernel
theorem dX12_pass_45 : decode cX12_pass 45 = .ok (.aload_n 0, 1) := by decide +kernel
theorem dX12_pass_46 : decode cX12_pass 46 = .ok (.getfield 427, 3) := by decide +kernel
theorem dX12_pass_49 : decode cX12_pass 49 = .ok (.iaload, 1) := by decide +kernel
theorem dX12_pass_50 : decode cX12_pass 50 = .ok (.if_icmp .le 10, 3) := by decide +kernel
theorem dX12_pass_53 : decode cX12_pass 53 = .ok (.aload_n 0, 1) := by decide +kernel
theorem dX12_pass_54 : decode cX12_pass 54 = .ok (.iconst 4, 1) := by decide +kernel
theorem dX12_pass_55 : decode cX12_pass 55 = .ok (.invokevirtual 421, 3) := by decide +kernel
theorem dX12_pass_58 : decode cX12_pass 58 = .ok (.iconst (-1), 1) := by decide +kernel
theorem dX12_pass_59 : decode cX12_pass 59 = .ok (.ireturn, 1) := by decide +kernel
theorem dX12_pass_60 : decode cX12_pass 60 = .ok (.iload 5, 2) := by decide +kernel
theorem dX12_pass_62 : decode cX12_pass 62 = .ok (.iload 8, 2) := by decide +kernel
theorem dX12_pass_64 : decode cX12_pass 64 = .ok (.iadd, 1) := by decide +kernel
theorem dX12_pass_65 : decode cX12_pass 65 = .ok (.istore 5, 2) := by decide +kernel
theorem dX12_pass_67 : decode cX12_pass 67 = .ok (.iload 6, 2) := by decide +kernel
theorem dX12_pass_69 : decode cX12_pass 69 = .ok (.ifCond .ne 18, 3) := by decide +kernel
theorem dX12_pass_72 : decode cX12_pass 72 = .ok (.iload 7, 2) := by decide +kernel
theorem dX12_pass_74 : decode cX12_pass 74 = .ok (.iload_n 2, 1) := by decide +kernel
theorem dX12_pass_75 : decode cX12_pass 75 = .ok (.if_icmp .eq 9, 3) := by decide +kernel
theorem dX12_pass_78 : decode cX12_pass 78 = .ok (.iload 7, 2) := by decide +kernel
theorem dX12_pass_80 : decode cX12_pass 80 = .ok (.iload_n 3, 1) := by decide +kernel
theorem dX12_pass_81 : decode cX12_pass 81 = .ok (.if_icmp .ne 6, 3) := by decide +kernel
theorem dX12_pass_84 : decode cX12_pass 84 = .ok (.iload 5, 2) := by decide +kernel
theorem dX12_pass_86 : decode cX12_pass 86 = .ok (.ireturn, 1) := by decide +kernel
theorem dX12_pass_87 : decode cX12_pass 87 = .ok (.iload 4, 2) := by decide +kernel
theorem dX12_pass_89 : decode cX12_pass 89 = .ok (.ifCond .eq 16, 3) := by decide +kernel
theorem dX12_pass_92 : decode cX12_pass 92 = .ok (.iload 7, 2) := by decide +kernel
theorem dX12_pass_94 : decode cX12_pass 94 = .ok (.bipush 88, 2) := by decide +kernel
theorem dX12_pass_96 : decode cX12_pass 96 = .ok (.if_icmp .ne 9, 3) := by decide +kernel
theorem dX12_pass_99 : decode cX12_pass 99 = .ok (.iinc 6 1, 3) := by decide +kernel
theorem dX12_pass_102 : decode cX12_pass 102 = .ok (.goto 18, 3) := by decide +kernel
theorem dX12_pass_105 : decode cX12_pass 105 = .ok (.iload 4, 2) := by decide +kernel
theorem dX12_pass_107 : decode cX12_pass 107 = .ok (.ifCond .eq 13, 3) := by decide +kernel
theorem dX12_pass_110 : decode cX12_pass 110 = .ok (.iload 7, 2) := by decide +kernel
theorem dX12_pass_112 : decode cX12_pass 112 = .ok (.bipush 89, 2) := by decide +kernel
theorem dX12_pass_114 : decode cX12_pass 114 = .ok (.if_icmp .ne 6, 3) := by decide +kernel
theorem dX12_pass_117 : decode cX12_pass 117 = .ok (.iinc 6 (-1), 3) := by decide +kernel
theorem dX12_pass_120 : decode cX12_pass 120 = .ok (.goto (-114), 3) := by decide +kernel
theorem dX12_pass_123 : decode cX12_pass 123 = .ok (.aload_n 0, 1) := by decide +kernel
theorem dX12_pass_124 : decode cX12_pass 124 = .ok (.iconst 4, 1) := by decide +kernel
theorem dX12_pass_125 : decode cX12_pass 125 = .ok (.invokevirtual 421, 3) := by decide +kernel
theorem dX12_pass_128 : decode cX12_pass 128 = .ok (.iconst (-1), 1) := by decide +kernel
theorem dX12_pass_129 : decode cX12_pass 129 = .ok (.ireturn, 1) := by decide +kernel
def B_X12_pass_120 (N : Nat) (k6 : Int32 → Int32 → Int32 → Int32 → Int32 → sv_V → Option (Int32 × sv_V)) (l2 : Int32) (l3 : Int32) (l4 : Int32) (l5 : Int32) (l6 : Int32) (V : sv_V) : Option (Int32 × sv_V) := k6 l2 l3 l4 l5 l6 V
set_option maxRecDepth 20000 in
theorem tB_X12_pass_120 {g : sx_G} (hG : sx_Go g) {P : Option Value → sv_V → Prop} {r : Int32} {Vr : sv_V} (hP : P (some (.int r)) Vr) {N : Nat} {k6 : Int32 → Int32 → Int32 → Int32 → Int32 → sv_V → Option (Int32 × sv_V)} (hk6 : ∀ (l2 : Int32) (l3 : Int32) (l4 : Int32) (l5 : Int32) (l6 : Int32) (V : sv_V), k6 l2 l3 l4 l5 l6 V = some (r, Vr) → sv_N g qX12_pass 3 6 [(0, .ref 146), (2, .int l2), (3, .int l3), (4, .int l4), (5, .int l5), (6, .int l6)] [] V P) {l2 : Int32} {l3 : Int32} {l4 : Int32} {l5 : Int32} {l6 : Int32} {V : sv_V} (h : B_X12_pass_120 N k6 l2 l3 l4 l5 l6 V = some (r, Vr)) : sv_N g qX12_pass 3 120 [(0, .ref 146), (2, .int l2), (3, .int l3), (4, .int l4), (5, .int l5), (6, .int l6)] [] V P := by
  unfold B_X12_pass_120 at h
  refine sx_goto (pc := 120) (tgt := 6) dX12_pass_120 (by decide) ?_
  refine sx_wk (sx_s1 sx_m0 (sx_s1 sx_m1 (sx_s1 sx_m2 (sx_s1 sx_m3 (sx_s1 sx_m4 (sx_s1 sx_m5 sx_s0)))))) ?_
  exact hk6 _ _ _ _ _ _ h
def B_X12_pass_105 (N : Nat) (k6 : Int32 → Int32 → Int32 → Int32 → Int32 → sv_V → Option (Int32 × sv_V)) (l2 : Int32) (l3 : Int32) (l4 : Int32) (l5 : Int32) (l6 : Int32) (l7 : Int32) (V : sv_V) : Option (Int32 × sv_V) := if l4 = 0 then (B_X12_pass_120 N k6 l2 l3 l4 l5 l6 V) else (if l7 = (89 : Int32) then (sx_let (l6 + (-1)) (fun x3 => B_X12_pass_120 N k6 l2 l3 l4 l5 x3 V)) else (B_X12_pass_120 N k6 l2 l3 l4 l5 l6 V))
set_option maxRecDepth 20000 in
theorem tB_X12_pass_105 {g : sx_G} (hG : sx_Go g) {P : Option Value → sv_V → Prop} {r : Int32} {Vr : sv_V} (hP : P (some (.int r)) Vr) {N : Nat} {k6 : Int32 → Int32 → Int32 → Int32 → Int32 → sv_V → Option (Int32 × sv_V)} (hk6 : ∀ (l2 : Int32) (l3 : Int32) (l4 : Int32) (l5 : Int32) (l6 : Int32) (V : sv_V), k6 l2 l3 l4 l5 l6 V = some (r, Vr) → sv_N g qX12_pass 3 6 [(0, .ref 146), (2, .int l2), (3, .int l3), (4, .int l4), (5, .int l5), (6, .int l6)] [] V P) {l2 : Int32} {l3 : Int32} {l4 : Int32} {l5 : Int32} {l6 : Int32} {l7 : Int32} {V : sv_V} (h : B_X12_pass_105 N k6 l2 l3 l4 l5 l6 l7 V = some (r, Vr)) : sv_N g qX12_pass 3 105 [(0, .ref 146), (2, .int l2), (3, .int l3), (4, .int l4), (5, .int l5), (6, .int l6), (7, .int l7)] [] V P := by
  unfold B_X12_pass_105 at h
  refine sx_iload (pc := 105) dX12_pass_105 sx_m3 ?_
  refine sx_if_eq (pc := 107) (tgt := 120) dX12_pass_107 (by decide) (fun c1 => ?_) (fun c1 => ?_)
  · have h := sx_pos c1 h
    refine sx_wk (sx_s1 sx_m0 (sx_s1 sx_m1 (sx_s1 sx_m2 (sx_s1 sx_m3 (sx_s1 sx_m4 (sx_s1 sx_m5 sx_s0)))))) ?_
    exact tB_X12_pass_120 hG hP hk6 h
  · have h := sx_neg c1 h
    refine sx_iload (pc := 110) dX12_pass_110 sx_m6 ?_
    refine sx_bipush (pc := 112) (v := 89) dX12_pass_112 (by decide) ?_
    refine sx_icmp_ne (pc := 114) (tgt := 120) dX12_pass_114 (by decide) (fun c2 => ?_) (fun c2 => ?_)
    · have h := sx_neg c2 h
      refine sx_wk (sx_s1 sx_m0 (sx_s1 sx_m1 (sx_s1 sx_m2 (sx_s1 sx_m3 (sx_s1 sx_m4 (sx_s1 sx_m5 sx_s0)))))) ?_
      exact tB_X12_pass_120 hG hP hk6 h
    · have h := sx_pos c2 h
      obtain ⟨x3, hx3⟩ : ∃ z : Int32, z = l6 + (-1) := ⟨_, rfl⟩
      have h := sx_letE hx3 h
      refine sx_iinc (pc := 117) (v := x3) (lo' := [(6, .int x3), (0, .ref 146), (2, .int l2), (3, .int l3), (4, .int l4), (5, .int l5), (7, .int l7)]) dX12_pass_117 sx_m5 (by rw [hx3]; rfl) (by decide) rfl ?_
      refine sx_wk (sx_s1 sx_m1 (sx_s1 sx_m2 (sx_s1 sx_m3 (sx_s1 sx_m4 (sx_s1 sx_m5 (sx_s1 sx_m0 sx_s0)))))) ?_
      exact tB_X12_pass_120 hG hP hk6 h
def B_X12_pass_87 (N : Nat) (k6 : Int32 → Int32 → Int32 → Int32 → Int32 → sv_V → Option (Int32 × sv_V)) (l2 : Int32) (l3 : Int32) (l4 : Int32) (l5 : Int32) (l6 : Int32) (l7 : Int32) (V : sv_V) : Option (Int32 × sv_V) := if l4 = 0 then (B_X12_pass_105 N k6 l2 l3 l4 l5 l6 l7 V) else (if l7 = (88 : Int32) then (sx_let (l6 + 1) (fun x6 => B_X12_pass_120 N k6 l2 l3 l4 l5 x6 V)) else (B_X12_pass_105 N k6 l2 l3 l4 l5 l6 l7 V))
set_option maxRecDepth 20000 in
theorem tB_X12_pass_87 {g : sx_G} (hG : sx_Go g) {P : Option Value → sv_V → Prop} {r : Int32} {Vr : sv_V} (hP : P (some (.int r)) Vr) {N : Nat} {k6 : Int32 → Int32 → Int32 → Int32 → Int32 → sv_V → Option (Int32 × sv_V)} (hk6 : ∀ (l2 : Int32) (l3 : Int32) (l4 : Int32) (l5 : Int32) (l6 : Int32) (V : sv_V), k6 l2 l3 l4 l5 l6 V = some (r, Vr) → sv_N g qX12_pass 3 6 [(0, .ref 146), (2, .int l2), (3, .int l3), (4, .int l4), (5, .int l5), (6, .int l6)] [] V P) {l2 : Int32} {l3 : Int32} {l4 : Int32} {l5 : Int32} {l6 : Int32} {l7 : Int32} {V : sv_V} (h : B_X12_pass_87 N k6 l2 l3 l4 l5 l6 l7 V = some (r, Vr)) : sv_N g qX12_pass 3 87 [(0, .ref 146), (2, .int l2), (3, .int l3), (4, .int l4), (5, .int l5), (6, .int l6), (7, .int l7)] [] V P := by
  unfold B_X12_pass_87 at h
  refine sx_iload (pc := 87) dX12_pass_87 sx_m3 ?_
  refine sx_if_eq (pc := 89) (tgt := 105) dX12_pass_89 (by decide) (fun c4 => ?_) (fun c4 => ?_)
  · have h := sx_pos c4 h
    refine sx_wk (sx_s1 sx_m0 (sx_s1 sx_m1 (sx_s1 sx_m2 (sx_s1 sx_m3 (sx_s1 sx_m4 (sx_s1 sx_m5 (sx_s1 sx_m6 sx_s0))))))) ?_
    exact tB_X12_pass_105 hG hP hk6 h
  · have h := sx_neg c4 h
    refine sx_iload (pc := 92) dX12_pass_92 sx_m6 ?_
    refine sx_bipush (pc := 94) (v := 88) dX12_pass_94 (by decide) ?_
    refine sx_icmp_ne (pc := 96) (tgt := 105) dX12_pass_96 (by decide) (fun c5 => ?_) (fun c5 => ?_)
    · have h := sx_neg c5 h
      refine sx_wk (sx_s1 sx_m0 (sx_s1 sx_m1 (sx_s1 sx_m2 (sx_s1 sx_m3 (sx_s1 sx_m4 (sx_s1 sx_m5 (sx_s1 sx_m6 sx_s0))))))) ?_
      exact tB_X12_pass_105 hG hP hk6 h
    · have h := sx_pos c5 h
      obtain ⟨x6, hx6⟩ : ∃ z : Int32, z = l6 + 1 := ⟨_, rfl⟩
      have h := sx_letE hx6 h
      refine sx_iinc (pc := 99) (v := x6) (lo' := [(6, .int x6), (0, .ref 146), (2, .int l2), (3, .int l3), (4, .int l4), (5, .int l5), (7, .int l7)]) dX12_pass_99 sx_m5 (by rw [hx6]; rfl) (by decide) rfl ?_
      refine sx_goto (pc := 102) (tgt := 120) dX12_pass_102 (by decide) ?_
      refine sx_wk (sx_s1 sx_m1 (sx_s1 sx_m2 (sx_s1 sx_m3 (sx_s1 sx_m4 (sx_s1 sx_m5 (sx_s1 sx_m0 sx_s0)))))) ?_
      exact tB_X12_pass_120 hG hP hk6 h
def B_X12_pass_6 (N : Nat) (k6 : Int32 → Int32 → Int32 → Int32 → Int32 → sv_V → Option (Int32 × sv_V)) (l2 : Int32) (l3 : Int32) (l4 : Int32) (l5 : Int32) (l6 : Int32) (V : sv_V) : Option (Int32 × sv_V) := if sx_in (V.1 146 92) 3 = true then if (V.1 175 (V.1 146 92).toNatClampNeg) ≤ l5 then ((F_X12_fail (4 : Int32) V).bind (fun V9 => some ((-1 : Int32), V9))) else ((F_X12_codeByte l5 V).bind (fun (x13, V11) => (F_X12_codeLength l5 V11).bind (fun (x16, V14) => if sx_in (V14.1 146 92) 3 = true then if (l5 + x16) ≤ (V14.1 175 (V14.1 146 92).toNatClampNeg) then (sx_let (l5 + x16) (fun x19 => if l6 = 0 then (if x13 = l2 then (some (x19, V14)) else (if x13 = l3 then (some (x19, V14)) else (B_X12_pass_87 N k6 l2 l3 l4 x19 l6 x13 V14))) else (B_X12_pass_87 N k6 l2 l3 l4 x19 l6 x13 V14))) else ((F_X12_fail (4 : Int32) V14).bind (fun V23 => some ((-1 : Int32), V23))) else none))) else none
set_option maxRecDepth 20000 in
theorem tB_X12_pass_6 {g : sx_G} (hG : sx_Go g) {P : Option Value → sv_V → Prop} {r : Int32} {Vr : sv_V} (hP : P (some (.int r)) Vr) {N : Nat} {k6 : Int32 → Int32 → Int32 → Int32 → Int32 → sv_V → Option (Int32 × sv_V)} (hk6 : ∀ (l2 : Int32) (l3 : Int32) (l4 : Int32) (l5 : Int32) (l6 : Int32) (V : sv_V), k6 l2 l3 l4 l5 l6 V = some (r, Vr) → sv_N g qX12_pass 3 6 [(0, .ref 146), (2, .int l2), (3, .int l3), (4, .int l4), (5, .int l5), (6, .int l6)] [] V P) {l2 : Int32} {l3 : Int32} {l4 : Int32} {l5 : Int32} {l6 : Int32} {V : sv_V} (h : B_X12_pass_6 N k6 l2 l3 l4 l5 l6 V = some (r, Vr)) : sv_N g qX12_pass 3 6 [(0, .ref 146), (2, .int l2), (3, .int l3), (4, .int l4), (5, .int l5), (6, .int l6)] [] V P := by
  unfold B_X12_pass_6 at h
  refine sx_iload (pc := 6) dX12_pass_6 sx_m4 ?_
  refine sx_aload_n (pc := 8) dX12_pass_8 sx_m0 ?_
  refine sv_getA (pc := 9) hG dX12_pass_9 f_12_97 lay_146 rfl cr_146_90 ?_
  refine sx_aload_n (pc := 12) dX12_pass_12 sx_m0 ?_
  refine sv_getI (pc := 13) hG dX12_pass_13 f_12_427 lay_146 rfl ?_
  obtain ⟨g7, h⟩ := sx_grd h
  refine sv_iald (pc := 16) hG dX12_pass_16 lay_175 g7 ?_
  refine sx_icmp_ge (pc := 17) (tgt := 123) dX12_pass_17 (by decide) (fun c8 => ?_) (fun c8 => ?_)
  · have h := sx_pos c8 h
    refine sx_aload_n (pc := 123) dX12_pass_123 sx_m0 ?_
    refine sx_iconst (pc := 124) (v := 4) dX12_pass_124 (by decide) ?_
    obtain ⟨V9, g10, h⟩ := sx_bnd h
    refine sv_cV (pc := 125) (y := qX12_fail) (o := none) (as := [.int (4 : Int32)]) (V1 := V9) hG dX12_pass_125 l_X12_421 y0X12_fail yvX12_fail rfl (Nat.le_of_ble_eq_true rfl) lay_146 kr_12 (by decide) (Nat.le_of_ble_eq_true rfl) rfl rfl rfl (t_X12_fail hG ⟨rfl, rfl⟩ g10) ?_
    refine sx_iconst (pc := 128) (v := (-1)) dX12_pass_128 (by decide) ?_
    exact sv_iret (pc := 129) dX12_pass_129 rfl h hP
  · have h := sx_neg c8 h
    refine sx_aload_n (pc := 20) dX12_pass_20 sx_m0 ?_
    refine sx_iload (pc := 21) dX12_pass_21 sx_m4 ?_
    obtain ⟨⟨x13, V11⟩, g12, h⟩ := sx_bnd h
    refine sv_cV (pc := 23) (y := qX12_codeByte) (o := (some (.int x13))) (as := [.int l5]) (V1 := V11) hG dX12_pass_23 l_X12_430 y0X12_codeByte yvX12_codeByte rfl (Nat.le_of_ble_eq_true rfl) lay_146 kr_12 (by decide) (Nat.le_of_ble_eq_true rfl) rfl rfl rfl (t_X12_codeByte hG ⟨rfl, rfl⟩ g12) ?_
    refine sx_istore (pc := 26) (lo' := [(7, .int x13), (0, .ref 146), (2, .int l2), (3, .int l3), (4, .int l4), (5, .int l5), (6, .int l6)]) dX12_pass_26 (by decide) rfl ?_
    refine sx_aload_n (pc := 28) dX12_pass_28 sx_m1 ?_
    refine sx_iload (pc := 29) dX12_pass_29 sx_m5 ?_
    obtain ⟨⟨x16, V14⟩, g15, h⟩ := sx_bnd h
    refine sv_cV (pc := 31) (y := qX12_codeLength) (o := (some (.int x16))) (as := [.int l5]) (V1 := V14) hG dX12_pass_31 l_X12_511 y0X12_codeLength yvX12_codeLength rfl (Nat.le_of_ble_eq_true rfl) lay_146 kr_12 (by decide) (Nat.le_of_ble_eq_true rfl) rfl rfl rfl (t_X12_codeLength hG ⟨rfl, rfl⟩ g15) ?_
    refine sx_istore (pc := 34) (lo' := [(8, .int x16), (7, .int x13), (0, .ref 146), (2, .int l2), (3, .int l3), (4, .int l4), (5, .int l5), (6, .int l6)]) dX12_pass_34 (by decide) rfl ?_
    refine sx_iload (pc := 36) dX12_pass_36 sx_m6 ?_
    refine sx_iload (pc := 38) dX12_pass_38 sx_m0 ?_
    refine sx_iadd (pc := 40) dX12_pass_40 ?_
    refine sx_aload_n (pc := 41) dX12_pass_41 sx_m2 ?_
    refine sv_getA (pc := 42) hG dX12_pass_42 f_12_97 lay_146 rfl cr_146_90 ?_
    refine sx_aload_n (pc := 45) dX12_pass_45 sx_m2 ?_
    refine sv_getI (pc := 46) hG dX12_pass_46 f_12_427 lay_146 rfl ?_
    obtain ⟨g17, h⟩ := sx_grd h
    refine sv_iald (pc := 49) hG dX12_pass_49 lay_175 g17 ?_
    refine sx_icmp_le (pc := 50) (tgt := 60) dX12_pass_50 (by decide) (fun c18 => ?_) (fun c18 => ?_)
    · have h := sx_pos c18 h
      refine sx_iload (pc := 60) dX12_pass_60 sx_m6 ?_
      refine sx_iload (pc := 62) dX12_pass_62 sx_m0 ?_
      refine sx_iadd (pc := 64) dX12_pass_64 ?_
      refine sv_tI (fun x19 hx19 => ?_)
      have h := sx_letE hx19 h
      refine sx_istore (pc := 65) (lo' := [(5, .int x19), (8, .int x16), (7, .int x13), (0, .ref 146), (2, .int l2), (3, .int l3), (4, .int l4), (6, .int l6)]) dX12_pass_65 (by decide) rfl ?_
      refine sx_iload (pc := 67) dX12_pass_67 sx_m7 ?_
      refine sx_if_ne (pc := 69) (tgt := 87) dX12_pass_69 (by decide) (fun c20 => ?_) (fun c20 => ?_)
      · have h := sx_neg c20 h
        refine sx_wk (sx_s1 sx_m3 (sx_s1 sx_m4 (sx_s1 sx_m5 (sx_s1 sx_m6 (sx_s1 sx_m0 (sx_s1 sx_m7 (sx_s1 sx_m2 sx_s0))))))) ?_
        exact tB_X12_pass_87 hG hP hk6 h
      · have h := sx_pos c20 h
        refine sx_iload (pc := 72) dX12_pass_72 sx_m2 ?_
        refine sx_iload_n (pc := 74) dX12_pass_74 sx_m4 ?_
        refine sx_icmp_eq (pc := 75) (tgt := 84) dX12_pass_75 (by decide) (fun c21 => ?_) (fun c21 => ?_)
        · have h := sx_pos c21 h
          refine sx_iload (pc := 84) dX12_pass_84 sx_m0 ?_
          exact sv_iret (pc := 86) dX12_pass_86 rfl h hP
        · have h := sx_neg c21 h
          refine sx_iload (pc := 78) dX12_pass_78 sx_m2 ?_
          refine sx_iload_n (pc := 80) dX12_pass_80 sx_m5 ?_
          refine sx_icmp_ne (pc := 81) (tgt := 87) dX12_pass_81 (by decide) (fun c22 => ?_) (fun c22 => ?_)
          · have h := sx_neg c22 h
            refine sx_wk (sx_s1 sx_m3 (sx_s1 sx_m4 (sx_s1 sx_m5 (sx_s1 sx_m6 (sx_s1 sx_m0 (sx_s1 sx_m7 (sx_s1 sx_m2 sx_s0))))))) ?_
            exact tB_X12_pass_87 hG hP hk6 h
          · have h := sx_pos c22 h
            refine sx_iload (pc := 84) dX12_pass_84 sx_m0 ?_
            exact sv_iret (pc := 86) dX12_pass_86 rfl h hP
    · have h := sx_neg c18 h
      refine sx_aload_n (pc := 53) dX12_pass_53 sx_m2 ?_
      refine sx_iconst (pc := 54) (v := 4) dX12_pass_54 (by decide) ?_
      obtain ⟨V23, g24, h⟩ := sx_bnd h
      refine sv_cV (pc := 55) (y := qX12_fail) (o := none) (as := [.int (4 : Int32)]) (V1 := V23) hG dX12_pass_55 l_X12_421 y0X12_fail yvX12_fail rfl (Nat.le_of_ble_eq_true rfl) lay_146 kr_12 (by decide) (Nat.le_of_ble_eq_true rfl) rfl rfl rfl (t_X12_fail hG ⟨rfl, rfl⟩ g24) ?_
      refine sx_iconst (pc := 58) (v := (-1)) dX12_pass_58 (by decide) ?_
      exact sv_iret (pc := 59) dX12_pass_59 rfl h hP
theorem tL_X12_pass_6 {g : sx_G} (hG : sx_Go g) {P : Option Value → sv_V → Prop} {r : Int32} {Vr : sv_V} (hP : P (some (.int r)) Vr) {N : Nat}   : ∀ (n : Nat) (l2 : Int32) (l3 : Int32) (l4 : Int32) (l5 : Int32) (l6 : Int32) (V : sv_V), sx_lp6 (B_X12_pass_6 N ) n l2 l3 l4 l5 l6 V = some (r, Vr) → sv_N g qX12_pass 3 6 [(0, .ref 146), (2, .int l2), (3, .int l3), (4, .int l4), (5, .int l5), (6, .int l6)] [] V P :=
  sx_lp6_ind (fun k0 ih _ _ _ _ _ V h => tB_X12_pass_6 hG hP ih h)
def F_X12_pass (N : Nat) (l1 : Int32) (l2 : Int32) (l3 : Int32) (l4 : Int32) (V : sv_V) : Option (Int32 × sv_V) := sx_lp6 (B_X12_pass_6 N ) N l2 l3 l4 l1 (0 : Int32) V
set_option maxRecDepth 20000 in
theorem t_X12_pass {g : sx_G} (hG : sx_Go g) {P : Option Value → sv_V → Prop} {r : Int32} {Vr : sv_V} (hP : P (some (.int r)) Vr) {N : Nat} {l1 : Int32} {l2 : Int32} {l3 : Int32} {l4 : Int32} {V : sv_V} (h : F_X12_pass N l1 l2 l3 l4 V = some (r, Vr)) : sv_N g qX12_pass 3 0 [(0, .ref 146), (1, .int l1), (2, .int l2), (3, .int l3), (4, .int l4)] [] V P := by
  unfold F_X12_pass at h
  refine sx_iload_n (pc := 0) dX12_pass_0 sx_m1 ?_
  refine sx_istore (pc := 1) (lo' := [(5, .int l1), (0, .ref 146), (1, .int l1), (2, .int l2), (3, .int l3), (4, .int l4)]) dX12_pass_1 (by decide) rfl ?_
  refine sx_iconst (pc := 3) (v := 0) dX12_pass_3 (by decide) ?_
  refine sx_istore (pc := 4) (lo' := [(6, .int (0 : Int32)), (5, .int l1), (0, .ref 146), (1, .int l1), (2, .int l2), (3, .int l3), (4, .int l4)]) dX12_pass_4 (by decide) rfl ?_
  refine sx_wk (sx_s1 sx_m2 (sx_s1 sx_m4 (sx_s1 sx_m5 (sx_s1 sx_m6 (sx_s1 sx_m1 (sx_s1 sx_m0 sx_s0)))))) ?_
  exact tL_X12_pass_6 hG hP  N _ _ _ _ _ _ h
theorem dX12_call_0 : decode cX12_call 0 = .ok (.aload_n 0, 1) := by decide +kernel
theorem dX12_call_1 : decode cX12_call 1 = .ok (.getfield 499, 3) := by decide +kernel
theorem dX12_call_4 : decode cX12_call 4 = .ok (.bipush 32, 2) := by decide +kernel
theorem dX12_call_6 : decode cX12_call 6 = .ok (.if_icmp .ne 10, 3) := by decide +kernel
theorem dX12_call_9 : decode cX12_call 9 = .ok (.aload_n 0, 1) := by decide +kernel
theorem dX12_call_10 : decode cX12_call 10 = .ok (.bipush 9, 2) := by decide +kernel
theorem dX12_call_12 : decode cX12_call 12 = .ok (.invokevirtual 421, 3) := by decide +kernel
theorem dX12_call_15 : decode cX12_call 15 = .ok (.return_, 1) := by decide +kernel
theorem dX12_call_16 : decode cX12_call 16 = .ok (.aload_n 0, 1) := by decide +kernel
theorem dX12_call_17 : decode cX12_call 17 = .ok (.getfield 112, 3) := by decide +kernel
theorem dX12_call_20 : decode cX12_call 20 = .ok (.aload_n 0, 1) := by decide +kernel
theorem dX12_call_21 : decode cX12_call 21 = .ok (.getfield 499, 3) := by decide +kernel
theorem dX12_call_24 : decode cX12_call 24 = .ok (.aload_n 0, 1) := by decide +kernel
theorem dX12_call_25 : decode cX12_call 25 = .ok (.getfield 427, 3) := by decide +kernel
theorem dX12_call_28 : decode cX12_call 28 = .ok (.iastore, 1) := by decide +kernel
theorem dX12_call_29 : decode cX12_call 29 = .ok (.aload_n 0, 1) := by decide +kernel
theorem dX12_call_30 : decode cX12_call 30 = .ok (.getfield 115, 3) := by decide +kernel
theorem dX12_call_33 : decode cX12_call 33 = .ok (.aload_n 0, 1) := by decide +kernel
theorem dX12_call_34 : decode cX12_call 34 = .ok (.getfield 499, 3) := by decide +kernel
theorem dX12_call_37 : decode cX12_call 37 = .ok (.aload_n 0, 1) := by decide +kernel
theorem dX12_call_38 : decode cX12_call 38 = .ok (.getfield 496, 3) := by decide +kernel
theorem dX12_call_41 : decode cX12_call 41 = .ok (.iastore, 1) := by decide +kernel
theorem dX12_call_42 : decode cX12_call 42 = .ok (.aload_n 0, 1) := by decide +kernel
theorem dX12_call_43 : decode cX12_call 43 = .ok (.getfield 118, 3) := by decide +kernel
theorem dX12_call_46 : decode cX12_call 46 = .ok (.aload_n 0, 1) := by decide +kernel
theorem dX12_call_47 : decode cX12_call 47 = .ok (.getfield 499, 3) := by decide +kernel
theorem dX12_call_50 : decode cX12_call 50 = .ok (.iload_n 1, 1) := by decide +kernel
theorem dX12_call_51 : decode cX12_call 51 = .ok (.iastore, 1) := by decide +kernel
theorem dX12_call_52 : decode cX12_call 52 = .ok (.aload_n 0, 1) := by decide +kernel
theorem dX12_call_53 : decode cX12_call 53 = .ok (.getfield 121, 3) := by decide +kernel
theorem dX12_call_56 : decode cX12_call 56 = .ok (.aload_n 0, 1) := by decide +kernel
theorem dX12_call_57 : decode cX12_call 57 = .ok (.getfield 499, 3) := by decide +kernel
theorem dX12_call_60 : decode cX12_call 60 = .ok (.iload_n 2, 1) := by decide +kernel
theorem dX12_call_61 : decode cX12_call 61 = .ok (.iastore, 1) := by decide +kernel
theorem dX12_call_62 : decode cX12_call 62 = .ok (.aload_n 0, 1) := by decide +kernel
theorem dX12_call_63 : decode cX12_call 63 = .ok (.getfield 124, 3) := by decide +kernel
theorem dX12_call_66 : decode cX12_call 66 = .ok (.aload_n 0, 1) := by decide +kernel
theorem dX12_call_67 : decode cX12_call 67 = .ok (.getfield 499, 3) := by decide +kernel
theorem dX12_call_70 : decode cX12_call 70 = .ok (.iload_n 3, 1) := by decide +kernel
theorem dX12_call_71 : decode cX12_call 71 = .ok (.iconst 1, 1) := by decide +kernel
theorem dX12_call_72 : decode cX12_call 72 = .ok (.isub, 1) := by decide +kernel
theorem dX12_call_73 : decode cX12_call 73 = .ok (.iastore, 1) := by decide +kernel
theorem dX12_call_74 : decode cX12_call 74 = .ok (.aload_n 0, 1) := by decide +kernel
theorem dX12_call_75 : decode cX12_call 75 = .ok (.dup, 1) := by decide +kernel
theorem dX12_call_76 : decode cX12_call 76 = .ok (.getfield 499, 3) := by decide +kernel
theorem dX12_call_79 : decode cX12_call 79 = .ok (.iconst 1, 1) := by decide +kernel
theorem dX12_call_80 : decode cX12_call 80 = .ok (.iadd, 1) := by decide +kernel
theorem dX12_call_81 : decode cX12_call 81 = .ok (.putfield 499, 3) := by decide +kernel
theorem dX12_call_84 : decode cX12_call 84 = .ok (.aload_n 0, 1) := by decide +kernel
theorem dX12_call_85 : decode cX12_call 85 = .ok (.iload_n 1, 1) := by decide +kernel
theorem dX12_call_86 : decode cX12_call 86 = .ok (.putfield 427, 3) := by decide +kernel
theorem dX12_call_89 : decode cX12_call 89 = .ok (.aload_n 0, 1) := by decide +kernel
theorem dX12_call_90 : decode cX12_call 90 = .ok (.iload_n 2, 1) := by decide +kernel
theorem dX12_call_91 : decode cX12_call 91 = .ok (.putfield 496, 3) := by decide +kernel
theorem dX12_call_94 : decode cX12_call 94 = .ok (.return_, 1) := by decide +kernel
def F_X12_call (l1 : Int32) (l2 : Int32) (l3 : Int32) (V : sv_V) : Option sv_V := if (V.1 146 99) = (32 : Int32) then ((F_X12_fail (9 : Int32) V).bind (fun V15 => some V15)) else (if sx_in (V.1 146 99) 32 = true then sx_let (sv_I V 180 (V.1 146 99).toNatClampNeg (V.1 146 92)) (fun V3 => if sx_in (V3.1 146 99) 32 = true then sx_let (sv_I V3 181 (V3.1 146 99).toNatClampNeg (V3.1 146 93)) (fun V5 => if sx_in (V5.1 146 99) 32 = true then sx_let (sv_I V5 182 (V5.1 146 99).toNatClampNeg l1) (fun V7 => if sx_in (V7.1 146 99) 32 = true then sx_let (sv_I V7 183 (V7.1 146 99).toNatClampNeg l2) (fun V9 => if sx_in (V9.1 146 99) 32 = true then sx_let (sv_I V9 184 (V9.1 146 99).toNatClampNeg (l3 - (1 : Int32))) (fun V11 => sx_let (sv_I V11 146 99 ((V11.1 146 99) + (1 : Int32))) (fun V12 => sx_let (sv_I V12 146 92 l1) (fun V13 => sx_let (sv_I V13 146 93 l2) (fun V14 => some V14)))) else none) else none) else none) else none) else none)
set_option maxRecDepth 20000 in
theorem t_X12_call {g : sx_G} (hG : sx_Go g) {P : Option Value → sv_V → Prop} {Vr : sv_V} (hP : P none Vr) {l1 : Int32} {l2 : Int32} {l3 : Int32} {V : sv_V} (h : F_X12_call l1 l2 l3 V = some Vr) : sv_N g qX12_call 1 0 [(0, .ref 146), (1, .int l1), (2, .int l2), (3, .int l3)] [] V P := by
  unfold F_X12_call at h
  refine sx_aload_n (pc := 0) dX12_call_0 sx_m0 ?_
  refine sv_getI (pc := 1) hG dX12_call_1 f_12_499 lay_146 rfl ?_
  refine sx_bipush (pc := 4) (v := 32) dX12_call_4 (by decide) ?_
  refine sx_icmp_ne (pc := 6) (tgt := 16) dX12_call_6 (by decide) (fun c1 => ?_) (fun c1 => ?_)
  · have h := sx_neg c1 h
    refine sx_aload_n (pc := 16) dX12_call_16 sx_m0 ?_
    refine sv_getA (pc := 17) hG dX12_call_17 f_12_112 lay_146 rfl cr_146_100 ?_
    refine sx_aload_n (pc := 20) dX12_call_20 sx_m0 ?_
    refine sv_getI (pc := 21) hG dX12_call_21 f_12_499 lay_146 rfl ?_
    refine sx_aload_n (pc := 24) dX12_call_24 sx_m0 ?_
    refine sv_getI (pc := 25) hG dX12_call_25 f_12_427 lay_146 rfl ?_
    obtain ⟨g2, h⟩ := sx_grd h
    obtain ⟨V3, hV3⟩ : ∃ z : sv_V, z = sv_I V 180 (V.1 146 99).toNatClampNeg (V.1 146 92) := ⟨_, rfl⟩
    have h := sx_letE hV3 h
    refine sv_iast (pc := 28) hG dX12_call_28 lay_180 g2 hV3 ?_
    refine sx_aload_n (pc := 29) dX12_call_29 sx_m0 ?_
    refine sv_getA (pc := 30) hG dX12_call_30 f_12_115 lay_146 rfl cr_146_101 ?_
    refine sx_aload_n (pc := 33) dX12_call_33 sx_m0 ?_
    refine sv_getI (pc := 34) hG dX12_call_34 f_12_499 lay_146 rfl ?_
    refine sx_aload_n (pc := 37) dX12_call_37 sx_m0 ?_
    refine sv_getI (pc := 38) hG dX12_call_38 f_12_496 lay_146 rfl ?_
    obtain ⟨g4, h⟩ := sx_grd h
    obtain ⟨V5, hV5⟩ : ∃ z : sv_V, z = sv_I V3 181 (V3.1 146 99).toNatClampNeg (V3.1 146 93) := ⟨_, rfl⟩
    have h := sx_letE hV5 h
    refine sv_iast (pc := 41) hG dX12_call_41 lay_181 g4 hV5 ?_
    refine sx_aload_n (pc := 42) dX12_call_42 sx_m0 ?_
    refine sv_getA (pc := 43) hG dX12_call_43 f_12_118 lay_146 rfl cr_146_102 ?_
    refine sx_aload_n (pc := 46) dX12_call_46 sx_m0 ?_
    refine sv_getI (pc := 47) hG dX12_call_47 f_12_499 lay_146 rfl ?_
    refine sx_iload_n (pc := 50) dX12_call_50 sx_m1 ?_
    obtain ⟨g6, h⟩ := sx_grd h
    obtain ⟨V7, hV7⟩ : ∃ z : sv_V, z = sv_I V5 182 (V5.1 146 99).toNatClampNeg l1 := ⟨_, rfl⟩
    have h := sx_letE hV7 h
    refine sv_iast (pc := 51) hG dX12_call_51 lay_182 g6 hV7 ?_
    refine sx_aload_n (pc := 52) dX12_call_52 sx_m0 ?_
    refine sv_getA (pc := 53) hG dX12_call_53 f_12_121 lay_146 rfl cr_146_103 ?_
    refine sx_aload_n (pc := 56) dX12_call_56 sx_m0 ?_
    refine sv_getI (pc := 57) hG dX12_call_57 f_12_499 lay_146 rfl ?_
    refine sx_iload_n (pc := 60) dX12_call_60 sx_m2 ?_
    obtain ⟨g8, h⟩ := sx_grd h
    obtain ⟨V9, hV9⟩ : ∃ z : sv_V, z = sv_I V7 183 (V7.1 146 99).toNatClampNeg l2 := ⟨_, rfl⟩
    have h := sx_letE hV9 h
    refine sv_iast (pc := 61) hG dX12_call_61 lay_183 g8 hV9 ?_
    refine sx_aload_n (pc := 62) dX12_call_62 sx_m0 ?_
    refine sv_getA (pc := 63) hG dX12_call_63 f_12_124 lay_146 rfl cr_146_104 ?_
    refine sx_aload_n (pc := 66) dX12_call_66 sx_m0 ?_
    refine sv_getI (pc := 67) hG dX12_call_67 f_12_499 lay_146 rfl ?_
    refine sx_iload_n (pc := 70) dX12_call_70 sx_m3 ?_
    refine sx_iconst (pc := 71) (v := 1) dX12_call_71 (by decide) ?_
    refine sx_isub (pc := 72) dX12_call_72 ?_
    obtain ⟨g10, h⟩ := sx_grd h
    obtain ⟨V11, hV11⟩ : ∃ z : sv_V, z = sv_I V9 184 (V9.1 146 99).toNatClampNeg (l3 - (1 : Int32)) := ⟨_, rfl⟩
    have h := sx_letE hV11 h
    refine sv_iast (pc := 73) hG dX12_call_73 lay_184 g10 hV11 ?_
    refine sx_aload_n (pc := 74) dX12_call_74 sx_m0 ?_
    refine sx_dup (pc := 75) dX12_call_75 rfl ?_
    refine sv_getI (pc := 76) hG dX12_call_76 f_12_499 lay_146 rfl ?_
    refine sx_iconst (pc := 79) (v := 1) dX12_call_79 (by decide) ?_
    refine sx_iadd (pc := 80) dX12_call_80 ?_
    obtain ⟨V12, hV12⟩ : ∃ z : sv_V, z = sv_I V11 146 99 ((V11.1 146 99) + (1 : Int32)) := ⟨_, rfl⟩
    have h := sx_letE hV12 h
    refine sv_putI (pc := 81) hG dX12_call_81 f_12_499 lay_146 rfl hV12 ?_
    refine sx_aload_n (pc := 84) dX12_call_84 sx_m0 ?_
    refine sx_iload_n (pc := 85) dX12_call_85 sx_m1 ?_
    obtain ⟨V13, hV13⟩ : ∃ z : sv_V, z = sv_I V12 146 92 l1 := ⟨_, rfl⟩
    have h := sx_letE hV13 h
    refine sv_putI (pc := 86) hG dX12_call_86 f_12_427 lay_146 rfl hV13 ?_
    refine sx_aload_n (pc := 89) dX12_call_89 sx_m0 ?_
    refine sx_iload_n (pc := 90) dX12_call_90 sx_m2 ?_
    obtain ⟨V14, hV14⟩ : ∃ z : sv_V, z = sv_I V13 146 93 l2 := ⟨_, rfl⟩
    have h := sx_letE hV14 h
    refine sv_putI (pc := 91) hG dX12_call_91 f_12_496 lay_146 rfl hV14 ?_
    exact sv_vret (pc := 94) dX12_call_94 rfl h hP
  · have h := sx_pos c1 h
    refine sx_aload_n (pc := 9) dX12_call_9 sx_m0 ?_
    refine sx_bipush (pc := 10) (v := 9) dX12_call_10 (by decide) ?_
    obtain ⟨V15, g16, h⟩ := sx_bnd h
    refine sv_cV (pc := 12) (y := qX12_fail) (o := none) (as := [.int (9 : Int32)]) (V1 := V15) hG dX12_call_12 l_X12_421 y0X12_fail yvX12_fail rfl (Nat.le_of_ble_eq_true rfl) lay_146 kr_12 (by decide) (Nat.le_of_ble_eq_true rfl) rfl rfl rfl (t_X12_fail hG ⟨rfl, rfl⟩ g16) ?_
    exact sv_vret (pc := 15) dX12_call_15 rfl h hP
theorem dX12_endFunction_0 : decode cX12_endFunction 0 = .ok (.aload_n 0, 1) := by decide +kernel
theorem dX12_endFunction_1 : decode cX12_endFunction 1 = .ok (.getfield 499, 3) := by decide +kernel
theorem dX12_endFunction_4 : decode cX12_endFunction 4 = .ok (.ifCond .ne 9, 3) := by decide +kernel
theorem dX12_endFunction_7 : decode cX12_endFunction 7 = .ok (.aload_n 0, 1) := by decide +kernel
theorem dX12_endFunction_8 : decode cX12_endFunction 8 = .ok (.iconst 4, 1) := by decide +kernel
theorem dX12_endFunction_9 : decode cX12_endFunction 9 = .ok (.invokevirtual 421, 3) := by decide +kernel
theorem dX12_endFunction_12 : decode cX12_endFunction 12 = .ok (.return_, 1) := by decide +kernel
theorem dX12_endFunction_13 : decode cX12_endFunction 13 = .ok (.aload_n 0, 1) := by decide +kernel
theorem dX12_endFunction_14 : decode cX12_endFunction 14 = .ok (.getfield 499, 3) := by decide +kernel
theorem dX12_endFunction_17 : decode cX12_endFunction 17 = .ok (.iconst 1, 1) := by decide +kernel
theorem dX12_endFunction_18 : decode cX12_endFunction 18 = .ok (.isub, 1) := by decide +kernel
theorem dX12_endFunction_19 : decode cX12_endFunction 19 = .ok (.istore_n 1, 1) := by decide +kernel
theorem dX12_endFunction_20 : decode cX12_endFunction 20 = .ok (.aload_n 0, 1) := by decide +kernel
theorem dX12_endFunction_21 : decode cX12_endFunction 21 = .ok (.getfield 124, 3) := by decide +kernel
theorem dX12_endFunction_24 : decode cX12_endFunction 24 = .ok (.iload_n 1, 1) := by decide +kernel
theorem dX12_endFunction_25 : decode cX12_endFunction 25 = .ok (.iaload, 1) := by decide +kernel
theorem dX12_endFunction_26 : decode cX12_endFunction 26 = .ok (.ifCond .le 34, 3) := by decide +kernel
theorem dX12_endFunction_29 : decode cX12_endFunction 29 = .ok (.aload_n 0, 1) := by decide +kernel
theorem dX12_endFunction_30 : decode cX12_endFunction 30 = .ok (.getfield 124, 3) := by decide +kernel
theorem dX12_endFunction_33 : decode cX12_endFunction 33 = .ok (.iload_n 1, 1) := by decide +kernel
theorem dX12_endFunction_34 : decode cX12_endFunction 34 = .ok (.dup2, 1) := by decide +kernel
theorem dX12_endFunction_35 : decode cX12_endFunction 35 = .ok (.iaload, 1) := by decide +kernel
theorem dX12_endFunction_36 : decode cX12_endFunction 36 = .ok (.iconst 1, 1) := by decide +kernel
theorem dX12_endFunction_37 : decode cX12_endFunction 37 = .ok (.isub, 1) := by decide +kernel
theorem dX12_endFunction_38 : decode cX12_endFunction 38 = .ok (.iastore, 1) := by decide +kernel
theorem dX12_endFunction_39 : decode cX12_endFunction 39 = .ok (.aload_n 0, 1) := by decide +kernel
theorem dX12_endFunction_40 : decode cX12_endFunction 40 = .ok (.aload_n 0, 1) := by decide +kernel
theorem dX12_endFunction_41 : decode cX12_endFunction 41 = .ok (.getfield 118, 3) := by decide +kernel
theorem dX12_endFunction_44 : decode cX12_endFunction 44 = .ok (.iload_n 1, 1) := by decide +kernel
theorem dX12_endFunction_45 : decode cX12_endFunction 45 = .ok (.iaload, 1) := by decide +kernel
theorem dX12_endFunction_46 : decode cX12_endFunction 46 = .ok (.putfield 427, 3) := by decide +kernel
theorem dX12_endFunction_49 : decode cX12_endFunction 49 = .ok (.aload_n 0, 1) := by decide +kernel
theorem dX12_endFunction_50 : decode cX12_endFunction 50 = .ok (.aload_n 0, 1) := by decide +kernel
theorem dX12_endFunction_51 : decode cX12_endFunction 51 = .ok (.getfield 121, 3) := by decide +kernel
theorem dX12_endFunction_54 : decode cX12_endFunction 54 = .ok (.iload_n 1, 1) := by decide +kernel
theorem dX12_endFunction_55 : decode cX12_endFunction 55 = .ok (.iaload, 1) := by decide +kernel
theorem dX12_endFunction_56 : decode cX12_endFunction 56 = .ok (.putfield 496, 3) := by decide +kernel
theorem dX12_endFunction_59 : decode cX12_endFunction 59 = .ok (.return_, 1) := by decide +kernel
theorem dX12_endFunction_60 : decode cX12_endFunction 60 = .ok (.aload_n 0, 1) := by decide +kernel
theorem dX12_endFunction_61 : decode cX12_endFunction 61 = .ok (.dup, 1) := by decide +kernel
theorem dX12_endFunction_62 : decode cX12_endFunction 62 = .ok (.getfield 499, 3) := by decide +kernel
theorem dX12_endFunction_65 : decode cX12_endFunction 65 = .ok (.iconst 1, 1) := by decide +kernel
theorem dX12_endFunction_66 : decode cX12_endFunction 66 = .ok (.isub, 1) := by decide +kernel
theorem dX12_endFunction_67 : decode cX12_endFunction 67 = .ok (.putfield 499, 3) := by decide +kernel
theorem dX12_endFunction_70 : decode cX12_endFunction 70 = .ok (.aload_n 0, 1) := by decide +kernel
theorem dX12_endFunction_71 : decode cX12_endFunction 71 = .ok (.aload_n 0, 1) := by decide +kernel
theorem dX12_endFunction_72 : decode cX12_endFunction 72 = .ok (.getfield 112, 3) := by decide +kernel
theorem dX12_endFunction_75 : decode cX12_endFunction 75 = .ok (.iload_n 1, 1) := by decide +kernel
theorem dX12_endFunction_76 : decode cX12_endFunction 76 = .ok (.iaload, 1) := by decide +kernel
theorem dX12_endFunction_77 : decode cX12_endFunction 77 = .ok (.putfield 427, 3) := by decide +kernel
theorem dX12_endFunction_80 : decode cX12_endFunction 80 = .ok (.aload_n 0, 1) := by decide +kernel
theorem dX12_endFunction_81 : decode cX12_endFunction 81 = .ok (.aload_n 0, 1) := by decide +kernel
theorem dX12_endFunction_82 : decode cX12_endFunction 82 = .ok (.getfield 115, 3) := by decide +kernel
theorem dX12_endFunction_85 : decode cX12_endFunction 85 = .ok (.iload_n 1, 1) := by decide +kernel
theorem dX12_endFunction_86 : decode cX12_endFunction 86 = .ok (.iaload, 1) := by decide +kernel
theorem dX12_endFunction_87 : decode cX12_endFunction 87 = .ok (.putfield 496, 3) := by decide +kernel
theorem dX12_endFunction_90 : decode cX12_endFunction 90 = .ok (.return_, 1) := by decide +kernel
def F_X12_endFunction  (V : sv_V) : Option sv_V := if (V.1 146 99) = 0 then ((F_X12_fail (4 : Int32) V).bind (fun V17 => some V17)) else (sx_let ((V.1 146 99) - (1 : Int32)) (fun x2 => if sx_in x2 32 = true then if (V.1 184 x2.toNatClampNeg) ≤ 0 then (sx_let (sv_I V 146 99 ((V.1 146 99) - (1 : Int32))) (fun V5 => if sx_in x2 32 = true then sx_let (sv_I V5 146 92 (V5.1 180 x2.toNatClampNeg)) (fun V7 => if sx_in x2 32 = true then sx_let (sv_I V7 146 93 (V7.1 181 x2.toNatClampNeg)) (fun V9 => some V9) else none) else none)) else (if sx_in x2 32 = true then if sx_in x2 32 = true then sx_let (sv_I V 184 x2.toNatClampNeg ((V.1 184 x2.toNatClampNeg) - (1 : Int32))) (fun V12 => if sx_in x2 32 = true then sx_let (sv_I V12 146 92 (V12.1 182 x2.toNatClampNeg)) (fun V14 => if sx_in x2 32 = true then sx_let (sv_I V14 146 93 (V14.1 183 x2.toNatClampNeg)) (fun V16 => some V16) else none) else none) else none else none) else none))
set_option maxRecDepth 20000 in
theorem t_X12_endFunction {g : sx_G} (hG : sx_Go g) {P : Option Value → sv_V → Prop} {Vr : sv_V} (hP : P none Vr)  {V : sv_V} (h : F_X12_endFunction  V = some Vr) : sv_N g qX12_endFunction 1 0 [(0, .ref 146)] [] V P := by
  unfold F_X12_endFunction at h
  refine sx_aload_n (pc := 0) dX12_endFunction_0 sx_m0 ?_
  refine sv_getI (pc := 1) hG dX12_endFunction_1 f_12_499 lay_146 rfl ?_
  refine sx_if_ne (pc := 4) (tgt := 13) dX12_endFunction_4 (by decide) (fun c1 => ?_) (fun c1 => ?_)
  · have h := sx_neg c1 h
    refine sx_aload_n (pc := 13) dX12_endFunction_13 sx_m0 ?_
    refine sv_getI (pc := 14) hG dX12_endFunction_14 f_12_499 lay_146 rfl ?_
    refine sx_iconst (pc := 17) (v := 1) dX12_endFunction_17 (by decide) ?_
    refine sx_isub (pc := 18) dX12_endFunction_18 ?_
    refine sv_tI (fun x2 hx2 => ?_)
    have h := sx_letE hx2 h
    refine sx_istore_n (pc := 19) (lo' := [(1, .int x2), (0, .ref 146)]) dX12_endFunction_19 (by decide) rfl ?_
    refine sx_aload_n (pc := 20) dX12_endFunction_20 sx_m1 ?_
    refine sv_getA (pc := 21) hG dX12_endFunction_21 f_12_124 lay_146 rfl cr_146_104 ?_
    refine sx_iload_n (pc := 24) dX12_endFunction_24 sx_m0 ?_
    obtain ⟨g3, h⟩ := sx_grd h
    refine sv_iald (pc := 25) hG dX12_endFunction_25 lay_184 g3 ?_
    refine sx_if_le (pc := 26) (tgt := 60) dX12_endFunction_26 (by decide) (fun c4 => ?_) (fun c4 => ?_)
    · have h := sx_pos c4 h
      refine sx_aload_n (pc := 60) dX12_endFunction_60 sx_m1 ?_
      refine sx_dup (pc := 61) dX12_endFunction_61 rfl ?_
      refine sv_getI (pc := 62) hG dX12_endFunction_62 f_12_499 lay_146 rfl ?_
      refine sx_iconst (pc := 65) (v := 1) dX12_endFunction_65 (by decide) ?_
      refine sx_isub (pc := 66) dX12_endFunction_66 ?_
      obtain ⟨V5, hV5⟩ : ∃ z : sv_V, z = sv_I V 146 99 ((V.1 146 99) - (1 : Int32)) := ⟨_, rfl⟩
      have h := sx_letE hV5 h
      refine sv_putI (pc := 67) hG dX12_endFunction_67 f_12_499 lay_146 rfl hV5 ?_
      refine sx_aload_n (pc := 70) dX12_endFunction_70 sx_m1 ?_
      refine sx_aload_n (pc := 71) dX12_endFunction_71 sx_m1 ?_
      refine sv_getA (pc := 72) hG dX12_endFunction_72 f_12_112 lay_146 rfl cr_146_100 ?_
      refine sx_iload_n (pc := 75) dX12_endFunction_75 sx_m0 ?_
      obtain ⟨g6, h⟩ := sx_grd h
      refine sv_iald (pc := 76) hG dX12_endFunction_76 lay_180 g6 ?_
      obtain ⟨V7, hV7⟩ : ∃ z : sv_V, z = sv_I V5 146 92 (V5.1 180 x2.toNatClampNeg) := ⟨_, rfl⟩
      have h := sx_letE hV7 h
      refine sv_putI (pc := 77) hG dX12_endFunction_77 f_12_427 lay_146 rfl hV7 ?_
      refine sx_aload_n (pc := 80) dX12_endFunction_80 sx_m1 ?_
      refine sx_aload_n (pc := 81) dX12_endFunction_81 sx_m1 ?_
      refine sv_getA (pc := 82) hG dX12_endFunction_82 f_12_115 lay_146 rfl cr_146_101 ?_
      refine sx_iload_n (pc := 85) dX12_endFunction_85 sx_m0 ?_
      obtain ⟨g8, h⟩ := sx_grd h
      refine sv_iald (pc := 86) hG dX12_endFunction_86 lay_181 g8 ?_
      obtain ⟨V9, hV9⟩ : ∃ z : sv_V, z = sv_I V7 146 93 (V7.1 181 x2.toNatClampNeg) := ⟨_, rfl⟩
      have h := sx_letE hV9 h
      refine sv_putI (pc := 87) hG dX12_endFunction_87 f_12_496 lay_146 rfl hV9 ?_
      exact sv_vret (pc := 90) dX12_endFunction_90 rfl h hP
    · have h := sx_neg c4 h
      refine sx_aload_n (pc := 29) dX12_endFunction_29 sx_m1 ?_
      refine sv_getA (pc := 30) hG dX12_endFunction_30 f_12_124 lay_146 rfl cr_146_104 ?_
      refine sx_iload_n (pc := 33) dX12_endFunction_33 sx_m0 ?_
      refine sx_dup2 (pc := 34) dX12_endFunction_34 rfl rfl ?_
      obtain ⟨g10, h⟩ := sx_grd h
      refine sv_iald (pc := 35) hG dX12_endFunction_35 lay_184 g10 ?_
      refine sx_iconst (pc := 36) (v := 1) dX12_endFunction_36 (by decide) ?_
      refine sx_isub (pc := 37) dX12_endFunction_37 ?_
      obtain ⟨g11, h⟩ := sx_grd h
      obtain ⟨V12, hV12⟩ : ∃ z : sv_V, z = sv_I V 184 x2.toNatClampNeg ((V.1 184 x2.toNatClampNeg) - (1 : Int32)) := ⟨_, rfl⟩
      have h := sx_letE hV12 h
      refine sv_iast (pc := 38) hG dX12_endFunction_38 lay_184 g11 hV12 ?_
      refine sx_aload_n (pc := 39) dX12_endFunction_39 sx_m1 ?_
      refine sx_aload_n (pc := 40) dX12_endFunction_40 sx_m1 ?_
      refine sv_getA (pc := 41) hG dX12_endFunction_41 f_12_118 lay_146 rfl cr_146_102 ?_
      refine sx_iload_n (pc := 44) dX12_endFunction_44 sx_m0 ?_
      obtain ⟨g13, h⟩ := sx_grd h
      refine sv_iald (pc := 45) hG dX12_endFunction_45 lay_182 g13 ?_
      obtain ⟨V14, hV14⟩ : ∃ z : sv_V, z = sv_I V12 146 92 (V12.1 182 x2.toNatClampNeg) := ⟨_, rfl⟩
      have h := sx_letE hV14 h
      refine sv_putI (pc := 46) hG dX12_endFunction_46 f_12_427 lay_146 rfl hV14 ?_
      refine sx_aload_n (pc := 49) dX12_endFunction_49 sx_m1 ?_
      refine sx_aload_n (pc := 50) dX12_endFunction_50 sx_m1 ?_
      refine sv_getA (pc := 51) hG dX12_endFunction_51 f_12_121 lay_146 rfl cr_146_103 ?_
      refine sx_iload_n (pc := 54) dX12_endFunction_54 sx_m0 ?_
      obtain ⟨g15, h⟩ := sx_grd h
      refine sv_iald (pc := 55) hG dX12_endFunction_55 lay_183 g15 ?_
      obtain ⟨V16, hV16⟩ : ∃ z : sv_V, z = sv_I V14 146 93 (V14.1 183 x2.toNatClampNeg) := ⟨_, rfl⟩
      have h := sx_letE hV16 h
      refine sv_putI (pc := 56) hG dX12_endFunction_56 f_12_496 lay_146 rfl hV16 ?_
      exact sv_vret (pc := 59) dX12_endFunction_59 rfl h hP
  · have h := sx_pos c1 h
    refine sx_aload_n (pc := 7) dX12_endFunction_7 sx_m0 ?_
    refine sx_iconst (pc := 8) (v := 4) dX12_endFunction_8 (by decide) ?_
    obtain ⟨V17, g18, h⟩ := sx_bnd h
    refine sv_cV (pc := 9) (y := qX12_fail) (o := none) (as := [.int (4 : Int32)]) (V1 := V17) hG dX12_endFunction_9 l_X12_421 y0X12_fail yvX12_fail rfl (Nat.le_of_ble_eq_true rfl) lay_146 kr_12 (by decide) (Nat.le_of_ble_eq_true rfl) rfl rfl rfl (t_X12_fail hG ⟨rfl, rfl⟩ g18) ?_
    exact sv_vret (pc := 12) dX12_endFunction_12 rfl h hP
theorem dX12_jump_0 : decode cX12_jump 0 = .ok (.aload_n 0, 1) := by decide +kernel
theorem dX12_jump_1 : decode cX12_jump 1 = .ok (.getfield 412, 3) := by decide +kernel
theorem dX12_jump_4 : decode cX12_jump 4 = .ok (.i2l, 1) := by decide +kernel
theorem dX12_jump_5 : decode cX12_jump 5 = .ok (.lload_n 1, 1) := by decide +kernel
theorem dX12_jump_6 : decode cX12_jump 6 = .ok (.ladd, 1) := by decide +kernel
theorem dX12_jump_7 : decode cX12_jump 7 = .ok (.lstore_n 3, 1) := by decide +kernel
theorem dX12_jump_8 : decode cX12_jump 8 = .ok (.lload_n 3, 1) := by decide +kernel
theorem dX12_jump_9 : decode cX12_jump 9 = .ok (.lconst 0, 1) := by decide +kernel
theorem dX12_jump_10 : decode cX12_jump 10 = .ok (.lcmp, 1) := by decide +kernel
theorem dX12_jump_11 : decode cX12_jump 11 = .ok (.ifCond .lt 18, 3) := by decide +kernel
theorem dX12_jump_14 : decode cX12_jump 14 = .ok (.lload_n 3, 1) := by decide +kernel
theorem dX12_jump_15 : decode cX12_jump 15 = .ok (.aload_n 0, 1) := by decide +kernel
theorem dX12_jump_16 : decode cX12_jump 16 = .ok (.getfield 97, 3) := by decide +kernel
theorem dX12_jump_19 : decode cX12_jump 19 = .ok (.aload_n 0, 1) := by decide +kernel
theorem dX12_jump_20 : decode cX12_jump 20 = .ok (.getfield 427, 3) := by decide +kernel
theorem dX12_jump_23 : decode cX12_jump 23 = .ok (.iaload, 1) := by decide +kernel
theorem dX12_jump_24 : decode cX12_jump 24 = .ok (.i2l, 1) := by decide +kernel
theorem dX12_jump_25 : decode cX12_jump 25 = .ok (.lcmp, 1) := by decide +kernel
theorem dX12_jump_26 : decode cX12_jump 26 = .ok (.ifCond .le 10, 3) := by decide +kernel
theorem dX12_jump_29 : decode cX12_jump 29 = .ok (.aload_n 0, 1) := by decide +kernel
theorem dX12_jump_30 : decode cX12_jump 30 = .ok (.bipush 8, 2) := by decide +kernel
theorem dX12_jump_32 : decode cX12_jump 32 = .ok (.invokevirtual 421, 3) := by decide +kernel
theorem dX12_jump_35 : decode cX12_jump 35 = .ok (.return_, 1) := by decide +kernel
theorem dX12_jump_36 : decode cX12_jump 36 = .ok (.aload_n 0, 1) := by decide +kernel
theorem dX12_jump_37 : decode cX12_jump 37 = .ok (.lload_n 3, 1) := by decide +kernel
theorem dX12_jump_38 : decode cX12_jump 38 = .ok (.l2i, 1) := by decide +kernel
theorem dX12_jump_39 : decode cX12_jump 39 = .ok (.putfield 496, 3) := by decide +kernel
theorem dX12_jump_42 : decode cX12_jump 42 = .ok (.return_, 1) := by decide +kernel
def B_X12_jump_29   (V : sv_V) : Option sv_V := (F_X12_fail (8 : Int32) V).bind (fun V1 => some V1)
set_option maxRecDepth 20000 in
theorem tB_X12_jump_29 {g : sx_G} (hG : sx_Go g) {P : Option Value → sv_V → Prop} {Vr : sv_V} (hP : P none Vr)    {V : sv_V} (h : B_X12_jump_29   V = some Vr) : sv_N g qX12_jump 1 29 [(0, .ref 146)] [] V P := by
  unfold B_X12_jump_29 at h
  refine sx_aload_n (pc := 29) dX12_jump_29 sx_m0 ?_
  refine sx_bipush (pc := 30) (v := 8) dX12_jump_30 (by decide) ?_
  obtain ⟨V1, g2, h⟩ := sx_bnd h
  refine sv_cV (pc := 32) (y := qX12_fail) (o := none) (as := [.int (8 : Int32)]) (V1 := V1) hG dX12_jump_32 l_X12_421 y0X12_fail yvX12_fail rfl (Nat.le_of_ble_eq_true rfl) lay_146 kr_12 (by decide) (Nat.le_of_ble_eq_true rfl) rfl rfl rfl (t_X12_fail hG ⟨rfl, rfl⟩ g2) ?_
  exact sv_vret (pc := 35) dX12_jump_35 rfl h hP
def F_X12_jump (l1 : Int64) (V : sv_V) : Option sv_V := sx_let (((V.1 146 61).toInt64) + l1) (fun x3 => if (lg_cmp x3 (0 : Int64)) < 0 then (B_X12_jump_29   V) else (if sx_in (V.1 146 92) 3 = true then if (lg_cmp x3 ((V.1 175 (V.1 146 92).toNatClampNeg).toInt64)) ≤ 0 then (sx_let (sv_I V 146 93 x3.toInt32) (fun V7 => some V7)) else (B_X12_jump_29   V) else none))
set_option maxRecDepth 20000 in
theorem t_X12_jump {g : sx_G} (hG : sx_Go g) {P : Option Value → sv_V → Prop} {Vr : sv_V} (hP : P none Vr) {l1 : Int64} {V : sv_V} (h : F_X12_jump l1 V = some Vr) : sv_N g qX12_jump 1 0 [(0, .ref 146), (1, .long l1)] [] V P := by
  unfold F_X12_jump at h
  refine sx_aload_n (pc := 0) dX12_jump_0 sx_m0 ?_
  refine sv_getI (pc := 1) hG dX12_jump_1 f_12_412 lay_146 rfl ?_
  refine sx_i2l (pc := 4) dX12_jump_4 ?_
  refine sx_lload_n (pc := 5) dX12_jump_5 sx_m1 ?_
  refine sx_ladd (pc := 6) dX12_jump_6 ?_
  refine sv_tJ (fun x3 hx3 => ?_)
  have h := sx_letE hx3 h
  refine sx_lstore_n (pc := 7) (lo' := [(3, .long x3), (0, .ref 146), (1, .long l1)]) dX12_jump_7 (by decide) rfl ?_
  refine sx_lload_n (pc := 8) dX12_jump_8 sx_m0 ?_
  refine sx_lconst (pc := 9) (v := 0) dX12_jump_9 rfl ?_
  refine sx_lcmp (pc := 10) dX12_jump_10 ?_
  refine sx_if_lt (pc := 11) (tgt := 29) dX12_jump_11 (by decide) (fun c4 => ?_) (fun c4 => ?_)
  · have h := sx_pos c4 h
    refine sx_wk (sx_s1 sx_m1 sx_s0) ?_
    exact tB_X12_jump_29 hG hP  h
  · have h := sx_neg c4 h
    refine sx_lload_n (pc := 14) dX12_jump_14 sx_m0 ?_
    refine sx_aload_n (pc := 15) dX12_jump_15 sx_m1 ?_
    refine sv_getA (pc := 16) hG dX12_jump_16 f_12_97 lay_146 rfl cr_146_90 ?_
    refine sx_aload_n (pc := 19) dX12_jump_19 sx_m1 ?_
    refine sv_getI (pc := 20) hG dX12_jump_20 f_12_427 lay_146 rfl ?_
    obtain ⟨g5, h⟩ := sx_grd h
    refine sv_iald (pc := 23) hG dX12_jump_23 lay_175 g5 ?_
    refine sx_i2l (pc := 24) dX12_jump_24 ?_
    refine sx_lcmp (pc := 25) dX12_jump_25 ?_
    refine sx_if_le (pc := 26) (tgt := 36) dX12_jump_26 (by decide) (fun c6 => ?_) (fun c6 => ?_)
    · have h := sx_pos c6 h
      refine sx_aload_n (pc := 36) dX12_jump_36 sx_m1 ?_
      refine sx_lload_n (pc := 37) dX12_jump_37 sx_m0 ?_
      refine sx_l2i (pc := 38) dX12_jump_38 ?_
      obtain ⟨V7, hV7⟩ : ∃ z : sv_V, z = sv_I V 146 93 x3.toInt32 := ⟨_, rfl⟩
      have h := sx_letE hV7 h
      refine sv_putI (pc := 39) hG dX12_jump_39 f_12_496 lay_146 rfl hV7 ?_
      exact sv_vret (pc := 42) dX12_jump_42 rfl h hP
    · have h := sx_neg c6 h
      refine sx_wk (sx_s1 sx_m1 sx_s0) ?_
      exact tB_X12_jump_29 hG hP  h
theorem dX12_pointOf_0 : decode cX12_pointOf 0 = .ok (.iload_n 1, 1) := by decide +kernel
theorem dX12_pointOf_1 : decode cX12_pointOf 1 = .ok (.ifCond .ne 10, 3) := by decide +kernel
theorem dX12_pointOf_4 : decode cX12_pointOf 4 = .ok (.aload_n 0, 1) := by decide +kernel
theorem dX12_pointOf_5 : decode cX12_pointOf 5 = .ok (.getfield 316, 3) := by decide +kernel
theorem dX12_pointOf_8 : decode cX12_pointOf 8 = .ok (.goto 7, 3) := by decide +kernel
theorem dX12_pointOf_11 : decode cX12_pointOf 11 = .ok (.aload_n 0, 1) := by decide +kernel
theorem dX12_pointOf_12 : decode cX12_pointOf 12 = .ok (.getfield 514, 3) := by decide +kernel
theorem dX12_pointOf_15 : decode cX12_pointOf 15 = .ok (.istore_n 3, 1) := by decide +kernel
theorem dX12_pointOf_16 : decode cX12_pointOf 16 = .ok (.iload_n 2, 1) := by decide +kernel
theorem dX12_pointOf_17 : decode cX12_pointOf 17 = .ok (.ifCond .lt 8, 3) := by decide +kernel
theorem dX12_pointOf_20 : decode cX12_pointOf 20 = .ok (.iload_n 2, 1) := by decide +kernel
theorem dX12_pointOf_21 : decode cX12_pointOf 21 = .ok (.iload_n 3, 1) := by decide +kernel
theorem dX12_pointOf_22 : decode cX12_pointOf 22 = .ok (.if_icmp .lt 10, 3) := by decide +kernel
theorem dX12_pointOf_25 : decode cX12_pointOf 25 = .ok (.aload_n 0, 1) := by decide +kernel
theorem dX12_pointOf_26 : decode cX12_pointOf 26 = .ok (.iconst 5, 1) := by decide +kernel
theorem dX12_pointOf_27 : decode cX12_pointOf 27 = .ok (.invokevirtual 421, 3) := by decide +kernel
theorem dX12_pointOf_30 : decode cX12_pointOf 30 = .ok (.iconst (-1), 1) := by decide +kernel
theorem dX12_pointOf_31 : decode cX12_pointOf 31 = .ok (.ireturn, 1) := by decide +kernel
theorem dX12_pointOf_32 : decode cX12_pointOf 32 = .ok (.bipush 102, 2) := by decide +kernel
theorem dX12_pointOf_34 : decode cX12_pointOf 34 = .ok (.iload_n 1, 1) := by decide +kernel
theorem dX12_pointOf_35 : decode cX12_pointOf 35 = .ok (.imul, 1) := by decide +kernel
theorem dX12_pointOf_36 : decode cX12_pointOf 36 = .ok (.iload_n 2, 1) := by decide +kernel
theorem dX12_pointOf_37 : decode cX12_pointOf 37 = .ok (.iadd, 1) := by decide +kernel
theorem dX12_pointOf_38 : decode cX12_pointOf 38 = .ok (.ireturn, 1) := by decide +kernel
def B_X12_pointOf_25   (V : sv_V) : Option (Int32 × sv_V) := (F_X12_fail (5 : Int32) V).bind (fun V1 => some ((-1 : Int32), V1))
set_option maxRecDepth 20000 in
theorem tB_X12_pointOf_25 {g : sx_G} (hG : sx_Go g) {P : Option Value → sv_V → Prop} {r : Int32} {Vr : sv_V} (hP : P (some (.int r)) Vr)    {V : sv_V} (h : B_X12_pointOf_25   V = some (r, Vr)) : sv_N g qX12_pointOf 1 25 [(0, .ref 146)] [] V P := by
  unfold B_X12_pointOf_25 at h
  refine sx_aload_n (pc := 25) dX12_pointOf_25 sx_m0 ?_
  refine sx_iconst (pc := 26) (v := 5) dX12_pointOf_26 (by decide) ?_
  obtain ⟨V1, g2, h⟩ := sx_bnd h
  refine sv_cV (pc := 27) (y := qX12_fail) (o := none) (as := [.int (5 : Int32)]) (V1 := V1) hG dX12_pointOf_27 l_X12_421 y0X12_fail yvX12_fail rfl (Nat.le_of_ble_eq_true rfl) lay_146 kr_12 (by decide) (Nat.le_of_ble_eq_true rfl) rfl rfl rfl (t_X12_fail hG ⟨rfl, rfl⟩ g2) ?_
  refine sx_iconst (pc := 30) (v := (-1)) dX12_pointOf_30 (by decide) ?_
  exact sv_iret (pc := 31) dX12_pointOf_31 rfl h hP
def B_X12_pointOf_15  (l1 : Int32) (l2 : Int32) (s0 : Int32) (V : sv_V) : Option (Int32 × sv_V) := if l2 < 0 then (B_X12_pointOf_25   V) else (if l2 < s0 then (some (((102 : Int32) * l1) + l2, V)) else (B_X12_pointOf_25   V))
set_option maxRecDepth 20000 in
theorem tB_X12_pointOf_15 {g : sx_G} (hG : sx_Go g) {P : Option Value → sv_V → Prop} {r : Int32} {Vr : sv_V} (hP : P (some (.int r)) Vr)   {l1 : Int32} {l2 : Int32} {s0 : Int32} {V : sv_V} (h : B_X12_pointOf_15  l1 l2 s0 V = some (r, Vr)) : sv_N g qX12_pointOf 1 15 [(0, .ref 146), (1, .int l1), (2, .int l2)] [.int s0] V P := by
  unfold B_X12_pointOf_15 at h
  refine sx_istore_n (pc := 15) (lo' := [(3, .int s0), (0, .ref 146), (1, .int l1), (2, .int l2)]) dX12_pointOf_15 (by decide) rfl ?_
  refine sx_iload_n (pc := 16) dX12_pointOf_16 sx_m3 ?_
  refine sx_if_lt (pc := 17) (tgt := 25) dX12_pointOf_17 (by decide) (fun c3 => ?_) (fun c3 => ?_)
  · have h := sx_pos c3 h
    refine sx_wk (sx_s1 sx_m1 sx_s0) ?_
    exact tB_X12_pointOf_25 hG hP  h
  · have h := sx_neg c3 h
    refine sx_iload_n (pc := 20) dX12_pointOf_20 sx_m3 ?_
    refine sx_iload_n (pc := 21) dX12_pointOf_21 sx_m0 ?_
    refine sx_icmp_lt (pc := 22) (tgt := 32) dX12_pointOf_22 (by decide) (fun c4 => ?_) (fun c4 => ?_)
    · have h := sx_pos c4 h
      refine sx_bipush (pc := 32) (v := 102) dX12_pointOf_32 (by decide) ?_
      refine sx_iload_n (pc := 34) dX12_pointOf_34 sx_m2 ?_
      refine sx_imul (pc := 35) dX12_pointOf_35 ?_
      refine sx_iload_n (pc := 36) dX12_pointOf_36 sx_m3 ?_
      refine sx_iadd (pc := 37) dX12_pointOf_37 ?_
      exact sv_iret (pc := 38) dX12_pointOf_38 rfl h hP
    · have h := sx_neg c4 h
      refine sx_wk (sx_s1 sx_m1 sx_s0) ?_
      exact tB_X12_pointOf_25 hG hP  h
def F_X12_pointOf (l1 : Int32) (l2 : Int32) (V : sv_V) : Option (Int32 × sv_V) := if l1 = 0 then (B_X12_pointOf_15  l1 l2 (V.1 146 14) V) else (B_X12_pointOf_15  l1 l2 (V.1 146 52) V)
set_option maxRecDepth 20000 in
theorem t_X12_pointOf {g : sx_G} (hG : sx_Go g) {P : Option Value → sv_V → Prop} {r : Int32} {Vr : sv_V} (hP : P (some (.int r)) Vr) {l1 : Int32} {l2 : Int32} {V : sv_V} (h : F_X12_pointOf l1 l2 V = some (r, Vr)) : sv_N g qX12_pointOf 1 0 [(0, .ref 146), (1, .int l1), (2, .int l2)] [] V P := by
  unfold F_X12_pointOf at h
  refine sx_iload_n (pc := 0) dX12_pointOf_0 sx_m1 ?_
  refine sx_if_ne (pc := 1) (tgt := 11) dX12_pointOf_1 (by decide) (fun c5 => ?_) (fun c5 => ?_)
  · have h := sx_neg c5 h
    refine sx_aload_n (pc := 11) dX12_pointOf_11 sx_m0 ?_
    refine sv_getI (pc := 12) hG dX12_pointOf_12 f_12_514 lay_146 rfl ?_
    refine sx_wk (sx_s1 sx_m0 (sx_s1 sx_m1 (sx_s1 sx_m2 sx_s0))) ?_
    exact tB_X12_pointOf_15 hG hP  h
  · have h := sx_pos c5 h
    refine sx_aload_n (pc := 4) dX12_pointOf_4 sx_m0 ?_
    refine sv_getI (pc := 5) hG dX12_pointOf_5 f_12_316 lay_146 rfl ?_
    refine sx_goto (pc := 8) (tgt := 15) dX12_pointOf_8 (by decide) ?_
    refine sx_wk (sx_s1 sx_m0 (sx_s1 sx_m1 (sx_s1 sx_m2 sx_s0))) ?_
    exact tB_X12_pointOf_15 hG hP  h
theorem dX12_touch_0 : decode cX12_touch 0 = .ok (.aload_n 0, 1) := by decide +kernel
theorem dX12_touch_1 : decode cX12_touch 1 = .ok (.getfield 82, 3) := by decide +kernel
theorem dX12_touch_4 : decode cX12_touch 4 = .ok (.iload_n 1, 1) := by decide +kernel
theorem dX12_touch_5 : decode cX12_touch 5 = .ok (.aload_n 0, 1) := by decide +kernel
theorem dX12_touch_6 : decode cX12_touch 6 = .ok (.getfield 82, 3) := by decide +kernel
theorem dX12_touch_9 : decode cX12_touch 9 = .ok (.iload_n 1, 1) := by decide +kernel
theorem dX12_touch_10 : decode cX12_touch 10 = .ok (.iaload, 1) := by decide +kernel
theorem dX12_touch_11 : decode cX12_touch 11 = .ok (.aload_n 0, 1) := by decide +kernel
theorem dX12_touch_12 : decode cX12_touch 12 = .ok (.getfield 433, 3) := by decide +kernel
theorem dX12_touch_15 : decode cX12_touch 15 = .ok (.ifCond .eq 7, 3) := by decide +kernel
theorem dX12_touch_18 : decode cX12_touch 18 = .ok (.iconst 1, 1) := by decide +kernel
theorem dX12_touch_19 : decode cX12_touch 19 = .ok (.goto 4, 3) := by decide +kernel
theorem dX12_touch_22 : decode cX12_touch 22 = .ok (.iconst 0, 1) := by decide +kernel
theorem dX12_touch_23 : decode cX12_touch 23 = .ok (.ior, 1) := by decide +kernel
theorem dX12_touch_24 : decode cX12_touch 24 = .ok (.aload_n 0, 1) := by decide +kernel
theorem dX12_touch_25 : decode cX12_touch 25 = .ok (.getfield 436, 3) := by decide +kernel
theorem dX12_touch_28 : decode cX12_touch 28 = .ok (.ifCond .eq 7, 3) := by decide +kernel
theorem dX12_touch_31 : decode cX12_touch 31 = .ok (.iconst 2, 1) := by decide +kernel
theorem dX12_touch_32 : decode cX12_touch 32 = .ok (.goto 4, 3) := by decide +kernel
theorem dX12_touch_35 : decode cX12_touch 35 = .ok (.iconst 0, 1) := by decide +kernel
theorem dX12_touch_36 : decode cX12_touch 36 = .ok (.ior, 1) := by decide +kernel
theorem dX12_touch_37 : decode cX12_touch 37 = .ok (.iastore, 1) := by decide +kernel
theorem dX12_touch_38 : decode cX12_touch 38 = .ok (.return_, 1) := by decide +kernel
def B_X12_touch_23  (s1 : Int32) (s2 : Int32) (s3 : Int32) (V : sv_V) : Option sv_V := if (V.1 146 64) = 0 then (if sx_in s1 204 = true then sx_let (sv_I V 170 s1.toNatClampNeg ((s2 ||| s3) ||| (0 : Int32))) (fun V3 => some V3) else none) else (if sx_in s1 204 = true then sx_let (sv_I V 170 s1.toNatClampNeg ((s2 ||| s3) ||| (2 : Int32))) (fun V5 => some V5) else none)
set_option maxRecDepth 20000 in
theorem tB_X12_touch_23 {g : sx_G} (hG : sx_Go g) {P : Option Value → sv_V → Prop} {Vr : sv_V} (hP : P none Vr)   {s1 : Int32} {s2 : Int32} {s3 : Int32} {V : sv_V} (h : B_X12_touch_23  s1 s2 s3 V = some Vr) : sv_N g qX12_touch 0 23 [(0, .ref 146)] [.int s3, .int s2, .int s1, .ref 170] V P := by
  unfold B_X12_touch_23 at h
  refine sx_ior (pc := 23) dX12_touch_23 ?_
  refine sx_aload_n (pc := 24) dX12_touch_24 sx_m0 ?_
  refine sv_getI (pc := 25) hG dX12_touch_25 f_12_436 lay_146 rfl ?_
  refine sx_if_eq (pc := 28) (tgt := 35) dX12_touch_28 (by decide) (fun c1 => ?_) (fun c1 => ?_)
  · have h := sx_pos c1 h
    refine sx_iconst (pc := 35) (v := 0) dX12_touch_35 (by decide) ?_
    refine sx_ior (pc := 36) dX12_touch_36 ?_
    obtain ⟨g2, h⟩ := sx_grd h
    obtain ⟨V3, hV3⟩ : ∃ z : sv_V, z = sv_I V 170 s1.toNatClampNeg ((s2 ||| s3) ||| (0 : Int32)) := ⟨_, rfl⟩
    have h := sx_letE hV3 h
    refine sv_iast (pc := 37) hG dX12_touch_37 lay_170 g2 hV3 ?_
    exact sv_vret (pc := 38) dX12_touch_38 rfl h hP
  · have h := sx_neg c1 h
    refine sx_iconst (pc := 31) (v := 2) dX12_touch_31 (by decide) ?_
    refine sx_goto (pc := 32) (tgt := 36) dX12_touch_32 (by decide) ?_
    refine sx_ior (pc := 36) dX12_touch_36 ?_
    obtain ⟨g4, h⟩ := sx_grd h
    obtain ⟨V5, hV5⟩ : ∃ z : sv_V, z = sv_I V 170 s1.toNatClampNeg ((s2 ||| s3) ||| (2 : Int32)) := ⟨_, rfl⟩
    have h := sx_letE hV5 h
    refine sv_iast (pc := 37) hG dX12_touch_37 lay_170 g4 hV5 ?_
    exact sv_vret (pc := 38) dX12_touch_38 rfl h hP
def F_X12_touch (l1 : Int32) (V : sv_V) : Option sv_V := if sx_in l1 204 = true then if (V.1 146 63) = 0 then (B_X12_touch_23  l1 (V.1 170 l1.toNatClampNeg) (0 : Int32) V) else (B_X12_touch_23  l1 (V.1 170 l1.toNatClampNeg) (1 : Int32) V) else none
set_option maxRecDepth 20000 in
theorem t_X12_touch {g : sx_G} (hG : sx_Go g) {P : Option Value → sv_V → Prop} {Vr : sv_V} (hP : P none Vr) {l1 : Int32} {V : sv_V} (h : F_X12_touch l1 V = some Vr) : sv_N g qX12_touch 0 0 [(0, .ref 146), (1, .int l1)] [] V P := by
  unfold F_X12_touch at h
  refine sx_aload_n (pc := 0) dX12_touch_0 sx_m0 ?_
  refine sv_getA (pc := 1) hG dX12_touch_1 f_12_82 lay_146 rfl cr_146_50 ?_
  refine sx_iload_n (pc := 4) dX12_touch_4 sx_m1 ?_
  refine sx_aload_n (pc := 5) dX12_touch_5 sx_m0 ?_
  refine sv_getA (pc := 6) hG dX12_touch_6 f_12_82 lay_146 rfl cr_146_50 ?_
  refine sx_iload_n (pc := 9) dX12_touch_9 sx_m1 ?_
  obtain ⟨g6, h⟩ := sx_grd h
  refine sv_iald (pc := 10) hG dX12_touch_10 lay_170 g6 ?_
  refine sx_aload_n (pc := 11) dX12_touch_11 sx_m0 ?_
  refine sv_getI (pc := 12) hG dX12_touch_12 f_12_433 lay_146 rfl ?_
  refine sx_if_eq (pc := 15) (tgt := 22) dX12_touch_15 (by decide) (fun c7 => ?_) (fun c7 => ?_)
  · have h := sx_pos c7 h
    refine sx_iconst (pc := 22) (v := 0) dX12_touch_22 (by decide) ?_
    refine sx_wk (sx_s1 sx_m0 sx_s0) ?_
    exact tB_X12_touch_23 hG hP  h
  · have h := sx_neg c7 h
    refine sx_iconst (pc := 18) (v := 1) dX12_touch_18 (by decide) ?_
    refine sx_goto (pc := 19) (tgt := 23) dX12_touch_19 (by decide) ?_
    refine sx_wk (sx_s1 sx_m0 sx_s0) ?_
    exact tB_X12_touch_23 hG hP  h
theorem dX12_part_0 : decode cX12_part 0 = .ok (.ldc2_w 336, 3) := by decide +kernel
theorem dX12_part_3 : decode cX12_part 3 = .ok (.iload_n 0, 1) := by decide +kernel
theorem dX12_part_4 : decode cX12_part 4 = .ok (.i2l, 1) := by decide +kernel
theorem dX12_part_5 : decode cX12_part 5 = .ok (.invokestatic 198, 3) := by decide +kernel
theorem dX12_part_8 : decode cX12_part 8 = .ok (.lmul, 1) := by decide +kernel
theorem dX12_part_9 : decode cX12_part 9 = .ok (.ldc2_w 310, 3) := by decide +kernel
theorem dX12_part_12 : decode cX12_part 12 = .ok (.lmul, 1) := by decide +kernel
theorem dX12_part_13 : decode cX12_part 13 = .ok (.lstore_n 3, 1) := by decide +kernel
theorem dX12_part_14 : decode cX12_part 14 = .ok (.iconst 0, 1) := by decide +kernel
theorem dX12_part_15 : decode cX12_part 15 = .ok (.istore 5, 2) := by decide +kernel
theorem dX12_part_17 : decode cX12_part 17 = .ok (.sipush 16385, 3) := by decide +kernel
theorem dX12_part_20 : decode cX12_part 20 = .ok (.istore 6, 2) := by decide +kernel
theorem dX12_part_22 : decode cX12_part 22 = .ok (.iload 5, 2) := by decide +kernel
theorem dX12_part_24 : decode cX12_part 24 = .ok (.iconst 1, 1) := by decide +kernel
theorem dX12_part_25 : decode cX12_part 25 = .ok (.iadd, 1) := by decide +kernel
theorem dX12_part_26 : decode cX12_part 26 = .ok (.iload 6, 2) := by decide +kernel
theorem dX12_part_28 : decode cX12_part 28 = .ok (.if_icmp .ge 51, 3) := by decide +kernel
theorem dX12_part_31 : decode cX12_part 31 = .ok (.iload 5, 2) := by decide +kernel
theorem dX12_part_33 : decode cX12_part 33 = .ok (.iload 6, 2) := by decide +kernel
theorem dX12_part_35 : decode cX12_part 35 = .ok (.iadd, 1) := by decide +kernel
theorem dX12_part_36 : decode cX12_part 36 = .ok (.iconst 2, 1) := by decide +kernel
theorem dX12_part_37 : decode cX12_part 37 = .ok (.idiv, 1) := by decide +kernel
theorem dX12_part_38 : decode cX12_part 38 = .ok (.istore 7, 2) := by decide +kernel
theorem dX12_part_40 : decode cX12_part 40 = .ok (.ldc2_w 336, 3) := by decide +kernel
theorem dX12_part_43 : decode cX12_part 43 = .ok (.iload 7, 2) := by decide +kernel
theorem dX12_part_45 : decode cX12_part 45 = .ok (.i2l, 1) := by decide +kernel
theorem dX12_part_46 : decode cX12_part 46 = .ok (.lmul, 1) := by decide +kernel
theorem dX12_part_47 : decode cX12_part 47 = .ok (.lconst 1, 1) := by decide +kernel
theorem dX12_part_48 : decode cX12_part 48 = .ok (.lsub, 1) := by decide +kernel
theorem dX12_part_49 : decode cX12_part 49 = .ok (.lstore 8, 2) := by decide +kernel
theorem dX12_part_51 : decode cX12_part 51 = .ok (.lload 8, 2) := by decide +kernel
theorem dX12_part_53 : decode cX12_part 53 = .ok (.lload 8, 2) := by decide +kernel
theorem dX12_part_55 : decode cX12_part 55 = .ok (.lmul, 1) := by decide +kernel
theorem dX12_part_56 : decode cX12_part 56 = .ok (.lload_n 1, 1) := by decide +kernel
theorem dX12_part_57 : decode cX12_part 57 = .ok (.lmul, 1) := by decide +kernel
theorem dX12_part_58 : decode cX12_part 58 = .ok (.lload_n 3, 1) := by decide +kernel
theorem dX12_part_59 : decode cX12_part 59 = .ok (.lload_n 3, 1) := by decide +kernel
theorem dX12_part_60 : decode cX12_part 60 = .ok (.lmul, 1) := by decide +kernel
theorem dX12_part_61 : decode cX12_part 61 = .ok (.lcmp, 1) := by decide +kernel
theorem dX12_part_62 : decode cX12_part 62 = .ok (.ifCond .gt 10, 3) := by decide +kernel
theorem dX12_part_65 : decode cX12_part 65 = .ok (.iload 7, 2) := by decide +kernel
theorem dX12_part_67 : decode cX12_part 67 = .ok (.istore 5, 2) := by decide +kernel
theorem dX12_part_69 : decode cX12_part 69 = .ok (.goto 7, 3) := by decide +kernel
theorem dX12_part_72 : decode cX12_part 72 = .ok (.iload 7, 2) := by decide +kernel
theorem dX12_part_74 : decode cX12_part 74 = .ok (.istore 6, 2) := by decide +kernel
theorem dX12_part_76 : decode cX12_part 76 = .ok (.goto (-54), 3) := by decide +kernel
theorem dX12_part_79 : decode cX12_part 79 = .ok (.iload_n 0, 1) := by decide +kernel
theorem dX12_part_80 : decode cX12_part 80 = .ok (.ifCond .ge 9, 3) := by decide +kernel
theorem dX12_part_83 : decode cX12_part 83 = .ok (.iload 5, 2) := by decide +kernel
theorem dX12_part_85 : decode cX12_part 85 = .ok (.ineg, 1) := by decide +kernel
theorem dX12_part_86 : decode cX12_part 86 = .ok (.goto 5, 3) := by decide +kernel
theorem dX12_part_89 : decode cX12_part 89 = .ok (.iload 5, 2) := by decide +kernel
theorem dX12_part_91 : decode cX12_part 91 = .ok (.ireturn, 1) := by decide +kernel
def B_X12_part_76 (N : Nat) (k22 : Int32 → Int64 → Int64 → Int32 → Int32 → sv_V → Option (Int32 × sv_V)) (l0 : Int32) (l1 : Int64) (l3 : Int64) (l5 : Int32) (l6 : Int32) (V : sv_V) : Option (Int32 × sv_V) := k22 l0 l1 l3 l5 l6 V
set_option maxRecDepth 20000 in
theorem tB_X12_part_76 {g : sx_G} (hG : sx_Go g) {P : Option Value → sv_V → Prop} {r : Int32} {Vr : sv_V} (hP : P (some (.int r)) Vr) {N : Nat} {k22 : Int32 → Int64 → Int64 → Int32 → Int32 → sv_V → Option (Int32 × sv_V)} (hk22 : ∀ (l0 : Int32) (l1 : Int64) (l3 : Int64) (l5 : Int32) (l6 : Int32) (V : sv_V), k22 l0 l1 l3 l5 l6 V = some (r, Vr) → sv_N g qX12_part 1 22 [(0, .int l0), (1, .long l1), (3, .long l3), (5, .int l5), (6, .int l6)] [] V P) {l0 : Int32} {l1 : Int64} {l3 : Int64} {l5 : Int32} {l6 : Int32} {V : sv_V} (h : B_X12_part_76 N k22 l0 l1 l3 l5 l6 V = some (r, Vr)) : sv_N g qX12_part 1 76 [(0, .int l0), (1, .long l1), (3, .long l3), (5, .int l5), (6, .int l6)] [] V P := by
  unfold B_X12_part_76 at h
  refine sx_goto (pc := 76) (tgt := 22) dX12_part_76 (by decide) ?_
  refine sx_wk (sx_s1 sx_m0 (sx_s1 sx_m1 (sx_s1 sx_m2 (sx_s1 sx_m3 (sx_s1 sx_m4 sx_s0))))) ?_
  exact hk22 _ _ _ _ _ _ h
def B_X12_part_22 (N : Nat) (k22 : Int32 → Int64 → Int64 → Int32 → Int32 → sv_V → Option (Int32 × sv_V)) (l0 : Int32) (l1 : Int64) (l3 : Int64) (l5 : Int32) (l6 : Int32) (V : sv_V) : Option (Int32 × sv_V) := if l6 ≤ (l5 + (1 : Int32)) then (if 0 ≤ l0 then (some (l5, V)) else (some (-l5, V))) else (sx_let ((l5 + l6) / (2 : Int32)) (fun x3 => sx_let (((2 : Int64) * x3.toInt64) - (1 : Int64)) (fun x4 => if 0 < (lg_cmp ((x4 * x4) * l1) (l3 * l3)) then (B_X12_part_76 N k22 l0 l1 l3 l5 x3 V) else (B_X12_part_76 N k22 l0 l1 l3 x3 l6 V))))
set_option maxRecDepth 20000 in
theorem tB_X12_part_22 {g : sx_G} (hG : sx_Go g) {P : Option Value → sv_V → Prop} {r : Int32} {Vr : sv_V} (hP : P (some (.int r)) Vr) {N : Nat} {k22 : Int32 → Int64 → Int64 → Int32 → Int32 → sv_V → Option (Int32 × sv_V)} (hk22 : ∀ (l0 : Int32) (l1 : Int64) (l3 : Int64) (l5 : Int32) (l6 : Int32) (V : sv_V), k22 l0 l1 l3 l5 l6 V = some (r, Vr) → sv_N g qX12_part 1 22 [(0, .int l0), (1, .long l1), (3, .long l3), (5, .int l5), (6, .int l6)] [] V P) {l0 : Int32} {l1 : Int64} {l3 : Int64} {l5 : Int32} {l6 : Int32} {V : sv_V} (h : B_X12_part_22 N k22 l0 l1 l3 l5 l6 V = some (r, Vr)) : sv_N g qX12_part 1 22 [(0, .int l0), (1, .long l1), (3, .long l3), (5, .int l5), (6, .int l6)] [] V P := by
  unfold B_X12_part_22 at h
  refine sx_iload (pc := 22) dX12_part_22 sx_m3 ?_
  refine sx_iconst (pc := 24) (v := 1) dX12_part_24 (by decide) ?_
  refine sx_iadd (pc := 25) dX12_part_25 ?_
  refine sx_iload (pc := 26) dX12_part_26 sx_m4 ?_
  refine sx_icmp_ge (pc := 28) (tgt := 79) dX12_part_28 (by decide) (fun c1 => ?_) (fun c1 => ?_)
  · have h := sx_pos c1 h
    refine sx_iload_n (pc := 79) dX12_part_79 sx_m0 ?_
    refine sx_if_ge (pc := 80) (tgt := 89) dX12_part_80 (by decide) (fun c2 => ?_) (fun c2 => ?_)
    · have h := sx_pos c2 h
      refine sx_iload (pc := 89) dX12_part_89 sx_m3 ?_
      exact sv_iret (pc := 91) dX12_part_91 rfl h hP
    · have h := sx_neg c2 h
      refine sx_iload (pc := 83) dX12_part_83 sx_m3 ?_
      refine sx_ineg (pc := 85) dX12_part_85 ?_
      refine sx_goto (pc := 86) (tgt := 91) dX12_part_86 (by decide) ?_
      exact sv_iret (pc := 91) dX12_part_91 rfl h hP
  · have h := sx_neg c1 h
    refine sx_iload (pc := 31) dX12_part_31 sx_m3 ?_
    refine sx_iload (pc := 33) dX12_part_33 sx_m4 ?_
    refine sx_iadd (pc := 35) dX12_part_35 ?_
    refine sx_iconst (pc := 36) (v := 2) dX12_part_36 (by decide) ?_
    refine sx_idiv (pc := 37) dX12_part_37 (by decide) ?_
    refine sv_tI (fun x3 hx3 => ?_)
    have h := sx_letE hx3 h
    refine sx_istore (pc := 38) (lo' := [(7, .int x3), (0, .int l0), (1, .long l1), (3, .long l3), (5, .int l5), (6, .int l6)]) dX12_part_38 (by decide) rfl ?_
    refine sx_ldc2 (pc := 40) dX12_part_40 k_X12_336 ?_
    refine sx_iload (pc := 43) dX12_part_43 sx_m0 ?_
    refine sx_i2l (pc := 45) dX12_part_45 ?_
    refine sx_lmul (pc := 46) dX12_part_46 ?_
    refine sx_lconst (pc := 47) (v := 1) dX12_part_47 rfl ?_
    refine sx_lsub (pc := 48) dX12_part_48 ?_
    refine sv_tJ (fun x4 hx4 => ?_)
    have h := sx_letE hx4 h
    refine sx_lstore (pc := 49) (lo' := [(8, .long x4), (7, .int x3), (0, .int l0), (1, .long l1), (3, .long l3), (5, .int l5), (6, .int l6)]) dX12_part_49 (by decide) rfl ?_
    refine sx_lload (pc := 51) dX12_part_51 sx_m0 ?_
    refine sx_lload (pc := 53) dX12_part_53 sx_m0 ?_
    refine sx_lmul (pc := 55) dX12_part_55 ?_
    refine sx_lload_n (pc := 56) dX12_part_56 sx_m3 ?_
    refine sx_lmul (pc := 57) dX12_part_57 ?_
    refine sx_lload_n (pc := 58) dX12_part_58 sx_m4 ?_
    refine sx_lload_n (pc := 59) dX12_part_59 sx_m4 ?_
    refine sx_lmul (pc := 60) dX12_part_60 ?_
    refine sx_lcmp (pc := 61) dX12_part_61 ?_
    refine sx_if_gt (pc := 62) (tgt := 72) dX12_part_62 (by decide) (fun c5 => ?_) (fun c5 => ?_)
    · have h := sx_pos c5 h
      refine sx_iload (pc := 72) dX12_part_72 sx_m1 ?_
      refine sx_istore (pc := 74) (lo' := [(6, .int x3), (8, .long x4), (7, .int x3), (0, .int l0), (1, .long l1), (3, .long l3), (5, .int l5)]) dX12_part_74 (by decide) rfl ?_
      refine sx_wk (sx_s1 sx_m3 (sx_s1 sx_m4 (sx_s1 sx_m5 (sx_s1 sx_m6 (sx_s1 sx_m0 sx_s0))))) ?_
      exact tB_X12_part_76 hG hP hk22 h
    · have h := sx_neg c5 h
      refine sx_iload (pc := 65) dX12_part_65 sx_m1 ?_
      refine sx_istore (pc := 67) (lo' := [(5, .int x3), (8, .long x4), (7, .int x3), (0, .int l0), (1, .long l1), (3, .long l3), (6, .int l6)]) dX12_part_67 (by decide) rfl ?_
      refine sx_goto (pc := 69) (tgt := 76) dX12_part_69 (by decide) ?_
      refine sx_wk (sx_s1 sx_m3 (sx_s1 sx_m4 (sx_s1 sx_m5 (sx_s1 sx_m0 (sx_s1 sx_m6 sx_s0))))) ?_
      exact tB_X12_part_76 hG hP hk22 h
theorem tL_X12_part_22 {g : sx_G} (hG : sx_Go g) {P : Option Value → sv_V → Prop} {r : Int32} {Vr : sv_V} (hP : P (some (.int r)) Vr) {N : Nat}   : ∀ (n : Nat) (l0 : Int32) (l1 : Int64) (l3 : Int64) (l5 : Int32) (l6 : Int32) (V : sv_V), sx_lp6 (B_X12_part_22 N ) n l0 l1 l3 l5 l6 V = some (r, Vr) → sv_N g qX12_part 1 22 [(0, .int l0), (1, .long l1), (3, .long l3), (5, .int l5), (6, .int l6)] [] V P :=
  sx_lp6_ind (fun k0 ih _ _ _ _ _ V h => tB_X12_part_22 hG hP ih h)
def F_X12_part (N : Nat) (l0 : Int32) (l1 : Int64) (V : sv_V) : Option (Int32 × sv_V) := (F_X12_sizeOf l0.toInt64 V).bind (fun (x8, V6) => sx_let (((2 : Int64) * x8) * (16384 : Int64)) (fun x9 => sx_lp6 (B_X12_part_22 N ) N l0 l1 x9 (0 : Int32) (16385 : Int32) V6))
set_option maxRecDepth 20000 in
theorem t_X12_part {g : sx_G} (hG : sx_Go g) {P : Option Value → sv_V → Prop} {r : Int32} {Vr : sv_V} (hP : P (some (.int r)) Vr) {N : Nat} {l0 : Int32} {l1 : Int64} {V : sv_V} (h : F_X12_part N l0 l1 V = some (r, Vr)) : sv_N g qX12_part 1 0 [(0, .int l0), (1, .long l1)] [] V P := by
  unfold F_X12_part at h
  refine sx_ldc2 (pc := 0) dX12_part_0 k_X12_336 ?_
  refine sx_iload_n (pc := 3) dX12_part_3 sx_m0 ?_
  refine sx_i2l (pc := 4) dX12_part_4 ?_
  obtain ⟨⟨x8, V6⟩, g7, h⟩ := sx_bnd h
  refine sv_cS (pc := 5) (y := qX12_sizeOf) (o := (some (.long x8))) (as := [.long l0.toInt64]) (V1 := V6) dX12_part_5 l_X12_198 y0X12_sizeOf ysX12_sizeOf rfl (Nat.le_of_ble_eq_true rfl) (by decide) (Nat.le_of_ble_eq_true rfl) rfl rfl rfl (t_X12_sizeOf hG ⟨rfl, rfl⟩ g7) ?_
  refine sx_lmul (pc := 8) dX12_part_8 ?_
  refine sx_ldc2 (pc := 9) dX12_part_9 k_X12_310 ?_
  refine sx_lmul (pc := 12) dX12_part_12 ?_
  refine sv_tJ (fun x9 hx9 => ?_)
  have h := sx_letE hx9 h
  refine sx_lstore_n (pc := 13) (lo' := [(3, .long x9), (0, .int l0), (1, .long l1)]) dX12_part_13 (by decide) rfl ?_
  refine sx_iconst (pc := 14) (v := 0) dX12_part_14 (by decide) ?_
  refine sx_istore (pc := 15) (lo' := [(5, .int (0 : Int32)), (3, .long x9), (0, .int l0), (1, .long l1)]) dX12_part_15 (by decide) rfl ?_
  refine sx_sipush (pc := 17) (v := 16385) dX12_part_17 (by decide) ?_
  refine sx_istore (pc := 20) (lo' := [(6, .int (16385 : Int32)), (5, .int (0 : Int32)), (3, .long x9), (0, .int l0), (1, .long l1)]) dX12_part_20 (by decide) rfl ?_
  refine sx_wk (sx_s1 sx_m3 (sx_s1 sx_m4 (sx_s1 sx_m2 (sx_s1 sx_m1 (sx_s1 sx_m0 sx_s0))))) ?_
  exact tL_X12_part_22 hG hP  N _ _ _ _ _ _ h
theorem dX12_put_0 : decode cX12_put 0 = .ok (.aload_n 0, 1) := by decide +kernel
theorem dX12_put_1 : decode cX12_put 1 = .ok (.getfield 70, 3) := by decide +kernel
theorem dX12_put_4 : decode cX12_put 4 = .ok (.iload_n 1, 1) := by decide +kernel
theorem dX12_put_5 : decode cX12_put 5 = .ok (.lload_n 2, 1) := by decide +kernel
theorem dX12_put_6 : decode cX12_put 6 = .ok (.l2i, 1) := by decide +kernel
theorem dX12_put_7 : decode cX12_put 7 = .ok (.iastore, 1) := by decide +kernel
theorem dX12_put_8 : decode cX12_put 8 = .ok (.aload_n 0, 1) := by decide +kernel
theorem dX12_put_9 : decode cX12_put 9 = .ok (.getfield 73, 3) := by decide +kernel
theorem dX12_put_12 : decode cX12_put 12 = .ok (.iload_n 1, 1) := by decide +kernel
theorem dX12_put_13 : decode cX12_put 13 = .ok (.lload 4, 2) := by decide +kernel
theorem dX12_put_15 : decode cX12_put 15 = .ok (.l2i, 1) := by decide +kernel
theorem dX12_put_16 : decode cX12_put 16 = .ok (.iastore, 1) := by decide +kernel
theorem dX12_put_17 : decode cX12_put 17 = .ok (.aload_n 0, 1) := by decide +kernel
theorem dX12_put_18 : decode cX12_put 18 = .ok (.getfield 76, 3) := by decide +kernel
theorem dX12_put_21 : decode cX12_put 21 = .ok (.iload_n 1, 1) := by decide +kernel
theorem dX12_put_22 : decode cX12_put 22 = .ok (.aload_n 0, 1) := by decide +kernel
theorem dX12_put_23 : decode cX12_put 23 = .ok (.getfield 70, 3) := by decide +kernel
theorem dX12_put_26 : decode cX12_put 26 = .ok (.iload_n 1, 1) := by decide +kernel
theorem dX12_put_27 : decode cX12_put 27 = .ok (.iaload, 1) := by decide +kernel
theorem dX12_put_28 : decode cX12_put 28 = .ok (.iastore, 1) := by decide +kernel
theorem dX12_put_29 : decode cX12_put 29 = .ok (.aload_n 0, 1) := by decide +kernel
theorem dX12_put_30 : decode cX12_put 30 = .ok (.getfield 79, 3) := by decide +kernel
theorem dX12_put_33 : decode cX12_put 33 = .ok (.iload_n 1, 1) := by decide +kernel
theorem dX12_put_34 : decode cX12_put 34 = .ok (.aload_n 0, 1) := by decide +kernel
theorem dX12_put_35 : decode cX12_put 35 = .ok (.getfield 73, 3) := by decide +kernel
theorem dX12_put_38 : decode cX12_put 38 = .ok (.iload_n 1, 1) := by decide +kernel
theorem dX12_put_39 : decode cX12_put 39 = .ok (.iaload, 1) := by decide +kernel
theorem dX12_put_40 : decode cX12_put 40 = .ok (.iastore, 1) := by decide +kernel
theorem dX12_put_41 : decode cX12_put 41 = .ok (.return_, 1) := by decide +kernel
def F_X12_put (l1 : Int32) (l2 : Int64) (l4 : Int64) (V : sv_V) : Option sv_V := if sx_in l1 204 = true then sx_let (sv_I V 166 l1.toNatClampNeg l2.toInt32) (fun V2 => if sx_in l1 204 = true then sx_let (sv_I V2 167 l1.toNatClampNeg l4.toInt32) (fun V4 => if sx_in l1 204 = true then if sx_in l1 204 = true then sx_let (sv_I V4 168 l1.toNatClampNeg (V4.1 166 l1.toNatClampNeg)) (fun V7 => if sx_in l1 204 = true then if sx_in l1 204 = true then sx_let (sv_I V7 169 l1.toNatClampNeg (V7.1 167 l1.toNatClampNeg)) (fun V10 => some V10) else none else none) else none else none) else none) else none
set_option maxRecDepth 20000 in
theorem t_X12_put {g : sx_G} (hG : sx_Go g) {P : Option Value → sv_V → Prop} {Vr : sv_V} (hP : P none Vr) {l1 : Int32} {l2 : Int64} {l4 : Int64} {V : sv_V} (h : F_X12_put l1 l2 l4 V = some Vr) : sv_N g qX12_put 0 0 [(0, .ref 146), (1, .int l1), (2, .long l2), (4, .long l4)] [] V P := by
  unfold F_X12_put at h
  refine sx_aload_n (pc := 0) dX12_put_0 sx_m0 ?_
  refine sv_getA (pc := 1) hG dX12_put_1 f_12_70 lay_146 rfl cr_146_46 ?_
  refine sx_iload_n (pc := 4) dX12_put_4 sx_m1 ?_
  refine sx_lload_n (pc := 5) dX12_put_5 sx_m2 ?_
  refine sx_l2i (pc := 6) dX12_put_6 ?_
  obtain ⟨g1, h⟩ := sx_grd h
  obtain ⟨V2, hV2⟩ : ∃ z : sv_V, z = sv_I V 166 l1.toNatClampNeg l2.toInt32 := ⟨_, rfl⟩
  have h := sx_letE hV2 h
  refine sv_iast (pc := 7) hG dX12_put_7 lay_166 g1 hV2 ?_
  refine sx_aload_n (pc := 8) dX12_put_8 sx_m0 ?_
  refine sv_getA (pc := 9) hG dX12_put_9 f_12_73 lay_146 rfl cr_146_47 ?_
  refine sx_iload_n (pc := 12) dX12_put_12 sx_m1 ?_
  refine sx_lload (pc := 13) dX12_put_13 sx_m3 ?_
  refine sx_l2i (pc := 15) dX12_put_15 ?_
  obtain ⟨g3, h⟩ := sx_grd h
  obtain ⟨V4, hV4⟩ : ∃ z : sv_V, z = sv_I V2 167 l1.toNatClampNeg l4.toInt32 := ⟨_, rfl⟩
  have h := sx_letE hV4 h
  refine sv_iast (pc := 16) hG dX12_put_16 lay_167 g3 hV4 ?_
  refine sx_aload_n (pc := 17) dX12_put_17 sx_m0 ?_
  refine sv_getA (pc := 18) hG dX12_put_18 f_12_76 lay_146 rfl cr_146_48 ?_
  refine sx_iload_n (pc := 21) dX12_put_21 sx_m1 ?_
  refine sx_aload_n (pc := 22) dX12_put_22 sx_m0 ?_
  refine sv_getA (pc := 23) hG dX12_put_23 f_12_70 lay_146 rfl cr_146_46 ?_
  refine sx_iload_n (pc := 26) dX12_put_26 sx_m1 ?_
  obtain ⟨g5, h⟩ := sx_grd h
  refine sv_iald (pc := 27) hG dX12_put_27 lay_166 g5 ?_
  obtain ⟨g6, h⟩ := sx_grd h
  obtain ⟨V7, hV7⟩ : ∃ z : sv_V, z = sv_I V4 168 l1.toNatClampNeg (V4.1 166 l1.toNatClampNeg) := ⟨_, rfl⟩
  have h := sx_letE hV7 h
  refine sv_iast (pc := 28) hG dX12_put_28 lay_168 g6 hV7 ?_
  refine sx_aload_n (pc := 29) dX12_put_29 sx_m0 ?_
  refine sv_getA (pc := 30) hG dX12_put_30 f_12_79 lay_146 rfl cr_146_49 ?_
  refine sx_iload_n (pc := 33) dX12_put_33 sx_m1 ?_
  refine sx_aload_n (pc := 34) dX12_put_34 sx_m0 ?_
  refine sv_getA (pc := 35) hG dX12_put_35 f_12_73 lay_146 rfl cr_146_47 ?_
  refine sx_iload_n (pc := 38) dX12_put_38 sx_m1 ?_
  obtain ⟨g8, h⟩ := sx_grd h
  refine sv_iald (pc := 39) hG dX12_put_39 lay_167 g8 ?_
  obtain ⟨g9, h⟩ := sx_grd h
  obtain ⟨V10, hV10⟩ : ∃ z : sv_V, z = sv_I V7 169 l1.toNatClampNeg (V7.1 167 l1.toNatClampNeg) := ⟨_, rfl⟩
  have h := sx_letE hV10 h
  refine sv_iast (pc := 40) hG dX12_put_40 lay_169 g9 hV10 ?_
  exact sv_vret (pc := 41) dX12_put_41 rfl h hP
theorem dX12_cvtOf_0 : decode cX12_cvtOf 0 = .ok (.iload_n 1, 1) := by decide +kernel
theorem dX12_cvtOf_1 : decode cX12_cvtOf 1 = .ok (.ifCond .lt 11, 3) := by decide +kernel
theorem dX12_cvtOf_4 : decode cX12_cvtOf 4 = .ok (.iload_n 1, 1) := by decide +kernel
theorem dX12_cvtOf_5 : decode cX12_cvtOf 5 = .ok (.aload_n 0, 1) := by decide +kernel
theorem dX12_cvtOf_6 : decode cX12_cvtOf 6 = .ok (.getfield 294, 3) := by decide +kernel
theorem dX12_cvtOf_9 : decode cX12_cvtOf 9 = .ok (.if_icmp .lt 11, 3) := by decide +kernel
theorem dX12_cvtOf_12 : decode cX12_cvtOf 12 = .ok (.aload_n 0, 1) := by decide +kernel
theorem dX12_cvtOf_13 : decode cX12_cvtOf 13 = .ok (.bipush 6, 2) := by decide +kernel
theorem dX12_cvtOf_15 : decode cX12_cvtOf 15 = .ok (.invokevirtual 421, 3) := by decide +kernel
theorem dX12_cvtOf_18 : decode cX12_cvtOf 18 = .ok (.iconst 0, 1) := by decide +kernel
theorem dX12_cvtOf_19 : decode cX12_cvtOf 19 = .ok (.ireturn, 1) := by decide +kernel
theorem dX12_cvtOf_20 : decode cX12_cvtOf 20 = .ok (.aload_n 0, 1) := by decide +kernel
theorem dX12_cvtOf_21 : decode cX12_cvtOf 21 = .ok (.getfield 64, 3) := by decide +kernel
theorem dX12_cvtOf_24 : decode cX12_cvtOf 24 = .ok (.iload_n 1, 1) := by decide +kernel
theorem dX12_cvtOf_25 : decode cX12_cvtOf 25 = .ok (.iaload, 1) := by decide +kernel
theorem dX12_cvtOf_26 : decode cX12_cvtOf 26 = .ok (.ireturn, 1) := by decide +kernel
def B_X12_cvtOf_12   (V : sv_V) : Option (Int32 × sv_V) := (F_X12_fail (6 : Int32) V).bind (fun V1 => some ((0 : Int32), V1))
set_option maxRecDepth 20000 in
theorem tB_X12_cvtOf_12 {g : sx_G} (hG : sx_Go g) {P : Option Value → sv_V → Prop} {r : Int32} {Vr : sv_V} (hP : P (some (.int r)) Vr)    {V : sv_V} (h : B_X12_cvtOf_12   V = some (r, Vr)) : sv_N g qX12_cvtOf 1 12 [(0, .ref 146)] [] V P := by
  unfold B_X12_cvtOf_12 at h
  refine sx_aload_n (pc := 12) dX12_cvtOf_12 sx_m0 ?_
  refine sx_bipush (pc := 13) (v := 6) dX12_cvtOf_13 (by decide) ?_
  obtain ⟨V1, g2, h⟩ := sx_bnd h
  refine sv_cV (pc := 15) (y := qX12_fail) (o := none) (as := [.int (6 : Int32)]) (V1 := V1) hG dX12_cvtOf_15 l_X12_421 y0X12_fail yvX12_fail rfl (Nat.le_of_ble_eq_true rfl) lay_146 kr_12 (by decide) (Nat.le_of_ble_eq_true rfl) rfl rfl rfl (t_X12_fail hG ⟨rfl, rfl⟩ g2) ?_
  refine sx_iconst (pc := 18) (v := 0) dX12_cvtOf_18 (by decide) ?_
  exact sv_iret (pc := 19) dX12_cvtOf_19 rfl h hP
def F_X12_cvtOf (l1 : Int32) (V : sv_V) : Option (Int32 × sv_V) := if l1 < 0 then (B_X12_cvtOf_12   V) else (if l1 < (V.1 146 25) then (if sx_in l1 256 = true then some (V.1 164 l1.toNatClampNeg, V) else none) else (B_X12_cvtOf_12   V))
set_option maxRecDepth 20000 in
theorem t_X12_cvtOf {g : sx_G} (hG : sx_Go g) {P : Option Value → sv_V → Prop} {r : Int32} {Vr : sv_V} (hP : P (some (.int r)) Vr) {l1 : Int32} {V : sv_V} (h : F_X12_cvtOf l1 V = some (r, Vr)) : sv_N g qX12_cvtOf 1 0 [(0, .ref 146), (1, .int l1)] [] V P := by
  unfold F_X12_cvtOf at h
  refine sx_iload_n (pc := 0) dX12_cvtOf_0 sx_m1 ?_
  refine sx_if_lt (pc := 1) (tgt := 12) dX12_cvtOf_1 (by decide) (fun c3 => ?_) (fun c3 => ?_)
  · have h := sx_pos c3 h
    refine sx_wk (sx_s1 sx_m0 sx_s0) ?_
    exact tB_X12_cvtOf_12 hG hP  h
  · have h := sx_neg c3 h
    refine sx_iload_n (pc := 4) dX12_cvtOf_4 sx_m1 ?_
    refine sx_aload_n (pc := 5) dX12_cvtOf_5 sx_m0 ?_
    refine sv_getI (pc := 6) hG dX12_cvtOf_6 f_12_294 lay_146 rfl ?_
    refine sx_icmp_lt (pc := 9) (tgt := 20) dX12_cvtOf_9 (by decide) (fun c4 => ?_) (fun c4 => ?_)
    · have h := sx_pos c4 h
      refine sx_aload_n (pc := 20) dX12_cvtOf_20 sx_m0 ?_
      refine sv_getA (pc := 21) hG dX12_cvtOf_21 f_12_64 lay_146 rfl cr_146_44 ?_
      refine sx_iload_n (pc := 24) dX12_cvtOf_24 sx_m1 ?_
      obtain ⟨g5, h⟩ := sx_grd h
      refine sv_iald (pc := 25) hG dX12_cvtOf_25 lay_164 g5 ?_
      exact sv_iret (pc := 26) dX12_cvtOf_26 rfl h hP
    · have h := sx_neg c4 h
      refine sx_wk (sx_s1 sx_m0 sx_s0) ?_
      exact tB_X12_cvtOf_12 hG hP  h
