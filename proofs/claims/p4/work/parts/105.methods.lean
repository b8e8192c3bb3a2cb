/-! methods: X12_maxp, X12_loca, X12_bytesOf, X12_coordinates, X12_composed, X12_setMany, X12_segments, X12_groups -/
theorem dX12_maxp_0 : decode cX12_maxp 0 = .ok (.aload_n 0, 1) := by decide +kernel
theorem dX12_maxp_1 : decode cX12_maxp 1 = .ok (.ldc 244, 2) := by decide +kernel
theorem dX12_maxp_3 : decode cX12_maxp 3 = .ok (.invokevirtual 251, 3) := by decide +kernel
theorem dX12_maxp_6 : decode cX12_maxp 6 = .ok (.istore_n 1, 1) := by decide +kernel
theorem dX12_maxp_7 : decode cX12_maxp 7 = .ok (.aload_n 0, 1) := by decide +kernel
theorem dX12_maxp_8 : decode cX12_maxp 8 = .ok (.aload_n 0, 1) := by decide +kernel
theorem dX12_maxp_9 : decode cX12_maxp 9 = .ok (.iload_n 1, 1) := by decide +kernel
theorem dX12_maxp_10 : decode cX12_maxp 10 = .ok (.iconst 4, 1) := by decide +kernel
theorem dX12_maxp_11 : decode cX12_maxp 11 = .ok (.iadd, 1) := by decide +kernel
theorem dX12_maxp_12 : decode cX12_maxp 12 = .ok (.invokevirtual 213, 3) := by decide +kernel
theorem dX12_maxp_15 : decode cX12_maxp 15 = .ok (.putfield 260, 3) := by decide +kernel
theorem dX12_maxp_18 : decode cX12_maxp 18 = .ok (.aload_n 0, 1) := by decide +kernel
theorem dX12_maxp_19 : decode cX12_maxp 19 = .ok (.aload_n 0, 1) := by decide +kernel
theorem dX12_maxp_20 : decode cX12_maxp 20 = .ok (.iload_n 1, 1) := by decide +kernel
theorem dX12_maxp_21 : decode cX12_maxp 21 = .ok (.bipush 14, 2) := by decide +kernel
theorem dX12_maxp_23 : decode cX12_maxp 23 = .ok (.iadd, 1) := by decide +kernel
theorem dX12_maxp_24 : decode cX12_maxp 24 = .ok (.invokevirtual 213, 3) := by decide +kernel
theorem dX12_maxp_27 : decode cX12_maxp 27 = .ok (.putfield 313, 3) := by decide +kernel
theorem dX12_maxp_30 : decode cX12_maxp 30 = .ok (.aload_n 0, 1) := by decide +kernel
theorem dX12_maxp_31 : decode cX12_maxp 31 = .ok (.aload_n 0, 1) := by decide +kernel
theorem dX12_maxp_32 : decode cX12_maxp 32 = .ok (.iload_n 1, 1) := by decide +kernel
theorem dX12_maxp_33 : decode cX12_maxp 33 = .ok (.bipush 16, 2) := by decide +kernel
theorem dX12_maxp_35 : decode cX12_maxp 35 = .ok (.iadd, 1) := by decide +kernel
theorem dX12_maxp_36 : decode cX12_maxp 36 = .ok (.invokevirtual 213, 3) := by decide +kernel
theorem dX12_maxp_39 : decode cX12_maxp 39 = .ok (.putfield 316, 3) := by decide +kernel
theorem dX12_maxp_42 : decode cX12_maxp 42 = .ok (.aload_n 0, 1) := by decide +kernel
theorem dX12_maxp_43 : decode cX12_maxp 43 = .ok (.aload_n 0, 1) := by decide +kernel
theorem dX12_maxp_44 : decode cX12_maxp 44 = .ok (.iload_n 1, 1) := by decide +kernel
theorem dX12_maxp_45 : decode cX12_maxp 45 = .ok (.bipush 18, 2) := by decide +kernel
theorem dX12_maxp_47 : decode cX12_maxp 47 = .ok (.iadd, 1) := by decide +kernel
theorem dX12_maxp_48 : decode cX12_maxp 48 = .ok (.invokevirtual 213, 3) := by decide +kernel
theorem dX12_maxp_51 : decode cX12_maxp 51 = .ok (.putfield 319, 3) := by decide +kernel
theorem dX12_maxp_54 : decode cX12_maxp 54 = .ok (.aload_n 0, 1) := by decide +kernel
theorem dX12_maxp_55 : decode cX12_maxp 55 = .ok (.aload_n 0, 1) := by decide +kernel
theorem dX12_maxp_56 : decode cX12_maxp 56 = .ok (.iload_n 1, 1) := by decide +kernel
theorem dX12_maxp_57 : decode cX12_maxp 57 = .ok (.bipush 20, 2) := by decide +kernel
theorem dX12_maxp_59 : decode cX12_maxp 59 = .ok (.iadd, 1) := by decide +kernel
theorem dX12_maxp_60 : decode cX12_maxp 60 = .ok (.invokevirtual 213, 3) := by decide +kernel
theorem dX12_maxp_63 : decode cX12_maxp 63 = .ok (.putfield 322, 3) := by decide +kernel
theorem dX12_maxp_66 : decode cX12_maxp 66 = .ok (.aload_n 0, 1) := by decide +kernel
theorem dX12_maxp_67 : decode cX12_maxp 67 = .ok (.aload_n 0, 1) := by decide +kernel
theorem dX12_maxp_68 : decode cX12_maxp 68 = .ok (.iload_n 1, 1) := by decide +kernel
theorem dX12_maxp_69 : decode cX12_maxp 69 = .ok (.bipush 22, 2) := by decide +kernel
theorem dX12_maxp_71 : decode cX12_maxp 71 = .ok (.iadd, 1) := by decide +kernel
theorem dX12_maxp_72 : decode cX12_maxp 72 = .ok (.invokevirtual 213, 3) := by decide +kernel
theorem dX12_maxp_75 : decode cX12_maxp 75 = .ok (.putfield 325, 3) := by decide +kernel
theorem dX12_maxp_78 : decode cX12_maxp 78 = .ok (.aload_n 0, 1) := by decide +kernel
theorem dX12_maxp_79 : decode cX12_maxp 79 = .ok (.aload_n 0, 1) := by decide +kernel
theorem dX12_maxp_80 : decode cX12_maxp 80 = .ok (.iload_n 1, 1) := by decide +kernel
theorem dX12_maxp_81 : decode cX12_maxp 81 = .ok (.bipush 24, 2) := by decide +kernel
theorem dX12_maxp_83 : decode cX12_maxp 83 = .ok (.iadd, 1) := by decide +kernel
theorem dX12_maxp_84 : decode cX12_maxp 84 = .ok (.invokevirtual 213, 3) := by decide +kernel
theorem dX12_maxp_87 : decode cX12_maxp 87 = .ok (.putfield 328, 3) := by decide +kernel
theorem dX12_maxp_90 : decode cX12_maxp 90 = .ok (.aload_n 0, 1) := by decide +kernel
theorem dX12_maxp_91 : decode cX12_maxp 91 = .ok (.aload_n 0, 1) := by decide +kernel
theorem dX12_maxp_92 : decode cX12_maxp 92 = .ok (.iload_n 1, 1) := by decide +kernel
theorem dX12_maxp_93 : decode cX12_maxp 93 = .ok (.bipush 30, 2) := by decide +kernel
theorem dX12_maxp_95 : decode cX12_maxp 95 = .ok (.iadd, 1) := by decide +kernel
theorem dX12_maxp_96 : decode cX12_maxp 96 = .ok (.invokevirtual 213, 3) := by decide +kernel
theorem dX12_maxp_99 : decode cX12_maxp 99 = .ok (.putfield 331, 3) := by decide +kernel
theorem dX12_maxp_102 : decode cX12_maxp 102 = .ok (.aload_n 0, 1) := by decide +kernel
theorem dX12_maxp_103 : decode cX12_maxp 103 = .ok (.ldc 244, 2) := by decide +kernel
theorem dX12_maxp_105 : decode cX12_maxp 105 = .ok (.invokevirtual 257, 3) := by decide +kernel
theorem dX12_maxp_108 : decode cX12_maxp 108 = .ok (.bipush 32, 2) := by decide +kernel
theorem dX12_maxp_110 : decode cX12_maxp 110 = .ok (.if_icmp .ne 139, 3) := by decide +kernel
theorem dX12_maxp_113 : decode cX12_maxp 113 = .ok (.aload_n 0, 1) := by decide +kernel
theorem dX12_maxp_114 : decode cX12_maxp 114 = .ok (.iload_n 1, 1) := by decide +kernel
theorem dX12_maxp_115 : decode cX12_maxp 115 = .ok (.invokevirtual 297, 3) := by decide +kernel
theorem dX12_maxp_118 : decode cX12_maxp 118 = .ok (.ldc2_w 300, 3) := by decide +kernel
theorem dX12_maxp_121 : decode cX12_maxp 121 = .ok (.lcmp, 1) := by decide +kernel
theorem dX12_maxp_122 : decode cX12_maxp 122 = .ok (.ifCond .ne 127, 3) := by decide +kernel
theorem dX12_maxp_125 : decode cX12_maxp 125 = .ok (.aload_n 0, 1) := by decide +kernel
theorem dX12_maxp_126 : decode cX12_maxp 126 = .ok (.getfield 260, 3) := by decide +kernel
theorem dX12_maxp_129 : decode cX12_maxp 129 = .ok (.i2l, 1) := by decide +kernel
theorem dX12_maxp_130 : decode cX12_maxp 130 = .ok (.lconst 1, 1) := by decide +kernel
theorem dX12_maxp_131 : decode cX12_maxp 131 = .ok (.ldc2_w 334, 3) := by decide +kernel
theorem dX12_maxp_134 : decode cX12_maxp 134 = .ok (.invokestatic 263, 3) := by decide +kernel
theorem dX12_maxp_137 : decode cX12_maxp 137 = .ok (.ifCond .eq 112, 3) := by decide +kernel
theorem dX12_maxp_140 : decode cX12_maxp 140 = .ok (.aload_n 0, 1) := by decide +kernel
theorem dX12_maxp_141 : decode cX12_maxp 141 = .ok (.getfield 313, 3) := by decide +kernel
theorem dX12_maxp_144 : decode cX12_maxp 144 = .ok (.i2l, 1) := by decide +kernel
theorem dX12_maxp_145 : decode cX12_maxp 145 = .ok (.lconst 1, 1) := by decide +kernel
theorem dX12_maxp_146 : decode cX12_maxp 146 = .ok (.ldc2_w 336, 3) := by decide +kernel
theorem dX12_maxp_149 : decode cX12_maxp 149 = .ok (.invokestatic 263, 3) := by decide +kernel
theorem dX12_maxp_152 : decode cX12_maxp 152 = .ok (.ifCond .eq 97, 3) := by decide +kernel
theorem dX12_maxp_155 : decode cX12_maxp 155 = .ok (.aload_n 0, 1) := by decide +kernel
theorem dX12_maxp_156 : decode cX12_maxp 156 = .ok (.getfield 316, 3) := by decide +kernel
theorem dX12_maxp_159 : decode cX12_maxp 159 = .ok (.i2l, 1) := by decide +kernel
theorem dX12_maxp_160 : decode cX12_maxp 160 = .ok (.lconst 0, 1) := by decide +kernel
theorem dX12_maxp_161 : decode cX12_maxp 161 = .ok (.ldc2_w 338, 3) := by decide +kernel
theorem dX12_maxp_164 : decode cX12_maxp 164 = .ok (.invokestatic 263, 3) := by decide +kernel
theorem dX12_maxp_167 : decode cX12_maxp 167 = .ok (.ifCond .eq 82, 3) := by decide +kernel
theorem dX12_maxp_170 : decode cX12_maxp 170 = .ok (.aload_n 0, 1) := by decide +kernel
theorem dX12_maxp_171 : decode cX12_maxp 171 = .ok (.getfield 319, 3) := by decide +kernel
theorem dX12_maxp_174 : decode cX12_maxp 174 = .ok (.i2l, 1) := by decide +kernel
theorem dX12_maxp_175 : decode cX12_maxp 175 = .ok (.lconst 0, 1) := by decide +kernel
theorem dX12_maxp_176 : decode cX12_maxp 176 = .ok (.ldc2_w 338, 3) := by decide +kernel
theorem dX12_maxp_179 : decode cX12_maxp 179 = .ok (.invokestatic 263, 3) := by decide +kernel
theorem dX12_maxp_182 : decode cX12_maxp 182 = .ok (.ifCond .eq 67, 3) := by decide +kernel
theorem dX12_maxp_185 : decode cX12_maxp 185 = .ok (.aload_n 0, 1) := by decide +kernel
theorem dX12_maxp_186 : decode cX12_maxp 186 = .ok (.getfield 322, 3) := by decide +kernel
theorem dX12_maxp_189 : decode cX12_maxp 189 = .ok (.i2l, 1) := by decide +kernel
theorem dX12_maxp_190 : decode cX12_maxp 190 = .ok (.lconst 0, 1) := by decide +kernel
theorem dX12_maxp_191 : decode cX12_maxp 191 = .ok (.ldc2_w 338, 3) := by decide +kernel
theorem dX12_maxp_194 : decode cX12_maxp 194 = .ok (.invokestatic 263, 3) := by decide +kernel
theorem dX12_maxp_197 : decode cX12_maxp 197 = .ok (.ifCond .eq 52, 3) := by decide +kernel
theorem dX12_maxp_200 : decode cX12_maxp 200 = .ok (.aload_n 0, 1) := by decide +kernel
theorem dX12_maxp_201 : decode cX12_maxp 201 = .ok (.getfield 325, 3) := by decide +kernel
theorem dX12_maxp_204 : decode cX12_maxp 204 = .ok (.i2l, 1) := by decide +kernel
theorem dX12_maxp_205 : decode cX12_maxp 205 = .ok (.lconst 0, 1) := by decide +kernel
theorem dX12_maxp_206 : decode cX12_maxp 206 = .ok (.ldc2_w 232, 3) := by decide +kernel
theorem dX12_maxp_209 : decode cX12_maxp 209 = .ok (.invokestatic 263, 3) := by decide +kernel
theorem dX12_maxp_212 : decode cX12_maxp 212 = .ok (.ifCond .eq 37, 3) := by decide +kernel
theorem dX12_maxp_215 : decode cX12_maxp 215 = .ok (.aload_n 0, 1) := by decide +kernel
theorem dX12_maxp_216 : decode cX12_maxp 216 = .ok (.getfield 328, 3) := by decide +kernel
theorem dX12_maxp_219 : decode cX12_maxp 219 = .ok (.i2l, 1) := by decide +kernel
theorem dX12_maxp_220 : decode cX12_maxp 220 = .ok (.lconst 0, 1) := by decide +kernel
theorem dX12_maxp_221 : decode cX12_maxp 221 = .ok (.ldc2_w 340, 3) := by decide +kernel
theorem dX12_maxp_224 : decode cX12_maxp 224 = .ok (.invokestatic 263, 3) := by decide +kernel
theorem dX12_maxp_227 : decode cX12_maxp 227 = .ok (.ifCond .eq 22, 3) := by decide +kernel
theorem dX12_maxp_230 : decode cX12_maxp 230 = .ok (.aload_n 0, 1) := by decide +kernel
theorem dX12_maxp_231 : decode cX12_maxp 231 = .ok (.getfield 331, 3) := by decide +kernel
theorem dX12_maxp_234 : decode cX12_maxp 234 = .ok (.i2l, 1) := by decide +kernel
theorem dX12_maxp_235 : decode cX12_maxp 235 = .ok (.lconst 0, 1) := by decide +kernel
theorem dX12_maxp_236 : decode cX12_maxp 236 = .ok (.ldc2_w 228, 3) := by decide +kernel
theorem dX12_maxp_239 : decode cX12_maxp 239 = .ok (.invokestatic 263, 3) := by decide +kernel
theorem dX12_maxp_242 : decode cX12_maxp 242 = .ok (.ifCond .eq 7, 3) := by decide +kernel
theorem dX12_maxp_245 : decode cX12_maxp 245 = .ok (.iconst 1, 1) := by decide +kernel
theorem dX12_maxp_246 : decode cX12_maxp 246 = .ok (.goto 4, 3) := by decide +kernel
theorem dX12_maxp_249 : decode cX12_maxp 249 = .ok (.iconst 0, 1) := by decide +kernel
theorem dX12_maxp_250 : decode cX12_maxp 250 = .ok (.istore_n 2, 1) := by decide +kernel
theorem dX12_maxp_251 : decode cX12_maxp 251 = .ok (.iload_n 2, 1) := by decide +kernel
theorem dX12_maxp_252 : decode cX12_maxp 252 = .ok (.ifCond .eq 22, 3) := by decide +kernel
theorem dX12_maxp_255 : decode cX12_maxp 255 = .ok (.aload_n 0, 1) := by decide +kernel
theorem dX12_maxp_256 : decode cX12_maxp 256 = .ok (.getfield 313, 3) := by decide +kernel
theorem dX12_maxp_259 : decode cX12_maxp 259 = .ok (.iconst 2, 1) := by decide +kernel
theorem dX12_maxp_260 : decode cX12_maxp 260 = .ok (.if_icmp .eq 10, 3) := by decide +kernel
theorem dX12_maxp_263 : decode cX12_maxp 263 = .ok (.aload_n 0, 1) := by decide +kernel
theorem dX12_maxp_264 : decode cX12_maxp 264 = .ok (.getfield 316, 3) := by decide +kernel
theorem dX12_maxp_267 : decode cX12_maxp 267 = .ok (.ifCond .ne 7, 3) := by decide +kernel
theorem dX12_maxp_270 : decode cX12_maxp 270 = .ok (.iconst 1, 1) := by decide +kernel
theorem dX12_maxp_271 : decode cX12_maxp 271 = .ok (.goto 4, 3) := by decide +kernel
theorem dX12_maxp_274 : decode cX12_maxp 274 = .ok (.iconst 0, 1) := by decide +kernel
theorem dX12_maxp_275 : decode cX12_maxp 275 = .ok (.ireturn, 1) := by decide +kernel
def B_X12_maxp_270 (N : Nat)   (V : sv_V) : Option (Int32 × sv_V) := some ((1 : Int32), V)
set_option maxRecDepth 20000 in
theorem tB_X12_maxp_270 {g : sx_G} (hG : sx_Go g) {P : Option Value → sv_V → Prop} {r : Int32} {Vr : sv_V} (hP : P (some (.int r)) Vr) {N : Nat}    {V : sv_V} (h : B_X12_maxp_270 N   V = some (r, Vr)) : sv_N g qX12_maxp 3 270 [] [] V P := by
  unfold B_X12_maxp_270 at h
  refine sx_iconst (pc := 270) (v := 1) dX12_maxp_270 (by decide) ?_
  refine sx_goto (pc := 271) (tgt := 275) dX12_maxp_271 (by decide) ?_
  exact sv_zret (pc := 275) dX12_maxp_275 rfl rfl h hP
def B_X12_maxp_250 (N : Nat)  (s0 : Int32) (V : sv_V) : Option (Int32 × sv_V) := if s0 = 0 then (some ((0 : Int32), V)) else (if (V.1 146 13) = (2 : Int32) then (B_X12_maxp_270 N   V) else (if (V.1 146 14) = 0 then (B_X12_maxp_270 N   V) else (some ((0 : Int32), V))))
set_option maxRecDepth 20000 in
theorem tB_X12_maxp_250 {g : sx_G} (hG : sx_Go g) {P : Option Value → sv_V → Prop} {r : Int32} {Vr : sv_V} (hP : P (some (.int r)) Vr) {N : Nat}   {s0 : Int32} {V : sv_V} (h : B_X12_maxp_250 N  s0 V = some (r, Vr)) : sv_N g qX12_maxp 3 250 [(0, .ref 146)] [.int s0] V P := by
  unfold B_X12_maxp_250 at h
  refine sx_istore_n (pc := 250) (lo' := [(2, .int s0), (0, .ref 146)]) dX12_maxp_250 (by decide) rfl ?_
  refine sx_iload_n (pc := 251) dX12_maxp_251 sx_m0 ?_
  refine sx_if_eq (pc := 252) (tgt := 274) dX12_maxp_252 (by decide) (fun c1 => ?_) (fun c1 => ?_)
  · have h := sx_pos c1 h
    refine sx_iconst (pc := 274) (v := 0) dX12_maxp_274 (by decide) ?_
    exact sv_zret (pc := 275) dX12_maxp_275 rfl rfl h hP
  · have h := sx_neg c1 h
    refine sx_aload_n (pc := 255) dX12_maxp_255 sx_m1 ?_
    refine sv_getI (pc := 256) hG dX12_maxp_256 f_12_313 lay_146 rfl ?_
    refine sx_iconst (pc := 259) (v := 2) dX12_maxp_259 (by decide) ?_
    refine sx_icmp_eq (pc := 260) (tgt := 270) dX12_maxp_260 (by decide) (fun c2 => ?_) (fun c2 => ?_)
    · have h := sx_pos c2 h
      refine sx_wk sx_s0 ?_
      exact tB_X12_maxp_270 hG hP  h
    · have h := sx_neg c2 h
      refine sx_aload_n (pc := 263) dX12_maxp_263 sx_m1 ?_
      refine sv_getI (pc := 264) hG dX12_maxp_264 f_12_316 lay_146 rfl ?_
      refine sx_if_ne (pc := 267) (tgt := 274) dX12_maxp_267 (by decide) (fun c3 => ?_) (fun c3 => ?_)
      · have h := sx_neg c3 h
        refine sx_iconst (pc := 274) (v := 0) dX12_maxp_274 (by decide) ?_
        exact sv_zret (pc := 275) dX12_maxp_275 rfl rfl h hP
      · have h := sx_pos c3 h
        refine sx_wk sx_s0 ?_
        exact tB_X12_maxp_270 hG hP  h
def B_X12_maxp_249 (N : Nat)   (V : sv_V) : Option (Int32 × sv_V) := B_X12_maxp_250 N  (0 : Int32) V
set_option maxRecDepth 20000 in
theorem tB_X12_maxp_249 {g : sx_G} (hG : sx_Go g) {P : Option Value → sv_V → Prop} {r : Int32} {Vr : sv_V} (hP : P (some (.int r)) Vr) {N : Nat}    {V : sv_V} (h : B_X12_maxp_249 N   V = some (r, Vr)) : sv_N g qX12_maxp 3 249 [(0, .ref 146)] [] V P := by
  unfold B_X12_maxp_249 at h
  refine sx_iconst (pc := 249) (v := 0) dX12_maxp_249 (by decide) ?_
  refine sx_wk (sx_s1 sx_m0 sx_s0) ?_
  exact tB_X12_maxp_250 hG hP  h
def F_X12_maxp (N : Nat)  (V : sv_V) : Option (Int32 × sv_V) := (F_X12_beginOf N (1835104368 : Int32) V).bind (fun (x6, V4) => (F_X12_u2 (x6 + (4 : Int32)) V4).bind (fun (x9, V7) => sx_let (sv_I V7 146 12 x9) (fun V10 => (F_X12_u2 (x6 + (14 : Int32)) V10).bind (fun (x13, V11) => sx_let (sv_I V11 146 13 x13) (fun V14 => (F_X12_u2 (x6 + (16 : Int32)) V14).bind (fun (x17, V15) => sx_let (sv_I V15 146 14 x17) (fun V18 => (F_X12_u2 (x6 + (18 : Int32)) V18).bind (fun (x21, V19) => sx_let (sv_I V19 146 15 x21) (fun V22 => (F_X12_u2 (x6 + (20 : Int32)) V22).bind (fun (x25, V23) => sx_let (sv_I V23 146 16 x25) (fun V26 => (F_X12_u2 (x6 + (22 : Int32)) V26).bind (fun (x29, V27) => sx_let (sv_I V27 146 17 x29) (fun V30 => (F_X12_u2 (x6 + (24 : Int32)) V30).bind (fun (x33, V31) => sx_let (sv_I V31 146 18 x33) (fun V34 => (F_X12_u2 (x6 + (30 : Int32)) V34).bind (fun (x37, V35) => sx_let (sv_I V35 146 19 x37) (fun V38 => (F_X12_lengthOf N (1835104368 : Int32) V38).bind (fun (x41, V39) => if x41 = (32 : Int32) then ((F_X12_u4 x6 V39).bind (fun (x45, V43) => if (lg_cmp x45 (65536 : Int64)) = 0 then ((F_X12_in ((V43.1 146 12).toInt64) (1 : Int64) (200 : Int64) V43).bind (fun (x49, V47) => if x49 = 0 then (B_X12_maxp_249 N   V47) else ((F_X12_in ((V47.1 146 13).toInt64) (1 : Int64) (2 : Int64) V47).bind (fun (x53, V51) => if x53 = 0 then (B_X12_maxp_249 N   V51) else ((F_X12_in ((V51.1 146 14).toInt64) (0 : Int64) (64 : Int64) V51).bind (fun (x57, V55) => if x57 = 0 then (B_X12_maxp_249 N   V55) else ((F_X12_in ((V55.1 146 15).toInt64) (0 : Int64) (64 : Int64) V55).bind (fun (x61, V59) => if x61 = 0 then (B_X12_maxp_249 N   V59) else ((F_X12_in ((V59.1 146 16).toInt64) (0 : Int64) (64 : Int64) V59).bind (fun (x65, V63) => if x65 = 0 then (B_X12_maxp_249 N   V63) else ((F_X12_in ((V63.1 146 17).toInt64) (0 : Int64) (16 : Int64) V63).bind (fun (x69, V67) => if x69 = 0 then (B_X12_maxp_249 N   V67) else ((F_X12_in ((V67.1 146 18).toInt64) (0 : Int64) (256 : Int64) V67).bind (fun (x73, V71) => if x73 = 0 then (B_X12_maxp_249 N   V71) else ((F_X12_in ((V71.1 146 19).toInt64) (0 : Int64) (4 : Int64) V71).bind (fun (x77, V75) => if x77 = 0 then (B_X12_maxp_249 N   V75) else (B_X12_maxp_250 N  (1 : Int32) V75))))))))))))))))) else (B_X12_maxp_249 N   V43))) else (B_X12_maxp_249 N   V39)))))))))))))))))))
set_option maxRecDepth 20000 in
theorem t_X12_maxp {g : sx_G} (hG : sx_Go g) {P : Option Value → sv_V → Prop} {r : Int32} {Vr : sv_V} (hP : P (some (.int r)) Vr) {N : Nat}  {V : sv_V} (h : F_X12_maxp N  V = some (r, Vr)) : sv_N g qX12_maxp 3 0 [(0, .ref 146)] [] V P := by
  unfold F_X12_maxp at h
  refine sx_aload_n (pc := 0) dX12_maxp_0 sx_m0 ?_
  refine sx_ldc (pc := 1) dX12_maxp_1 k_X12_244 ?_
  obtain ⟨⟨x6, V4⟩, g5, h⟩ := sx_bnd h
  refine sv_cV (pc := 3) (y := qX12_beginOf) (o := (some (.int x6))) (as := [.int (1835104368 : Int32)]) (V1 := V4) hG dX12_maxp_3 l_X12_251 y0X12_beginOf yvX12_beginOf rfl (Nat.le_of_ble_eq_true rfl) lay_146 kr_12 (by decide) (Nat.le_of_ble_eq_true rfl) rfl rfl rfl (t_X12_beginOf hG ⟨rfl, rfl⟩ g5) ?_
  refine sx_istore_n (pc := 6) (lo' := [(1, .int x6), (0, .ref 146)]) dX12_maxp_6 (by decide) rfl ?_
  refine sx_aload_n (pc := 7) dX12_maxp_7 sx_m1 ?_
  refine sx_aload_n (pc := 8) dX12_maxp_8 sx_m1 ?_
  refine sx_iload_n (pc := 9) dX12_maxp_9 sx_m0 ?_
  refine sx_iconst (pc := 10) (v := 4) dX12_maxp_10 (by decide) ?_
  refine sx_iadd (pc := 11) dX12_maxp_11 ?_
  obtain ⟨⟨x9, V7⟩, g8, h⟩ := sx_bnd h
  refine sv_cV (pc := 12) (y := qX12_u2) (o := (some (.int x9))) (as := [.int (x6 + (4 : Int32))]) (V1 := V7) hG dX12_maxp_12 l_X12_213 y0X12_u2 yvX12_u2 rfl (Nat.le_of_ble_eq_true rfl) lay_146 kr_12 (by decide) (Nat.le_of_ble_eq_true rfl) rfl rfl rfl (t_X12_u2 hG ⟨rfl, rfl⟩ g8) ?_
  obtain ⟨V10, hV10⟩ : ∃ z : sv_V, z = sv_I V7 146 12 x9 := ⟨_, rfl⟩
  have h := sx_letE hV10 h
  refine sv_putI (pc := 15) hG dX12_maxp_15 f_12_260 lay_146 rfl hV10 ?_
  refine sx_aload_n (pc := 18) dX12_maxp_18 sx_m1 ?_
  refine sx_aload_n (pc := 19) dX12_maxp_19 sx_m1 ?_
  refine sx_iload_n (pc := 20) dX12_maxp_20 sx_m0 ?_
  refine sx_bipush (pc := 21) (v := 14) dX12_maxp_21 (by decide) ?_
  refine sx_iadd (pc := 23) dX12_maxp_23 ?_
  obtain ⟨⟨x13, V11⟩, g12, h⟩ := sx_bnd h
  refine sv_cV (pc := 24) (y := qX12_u2) (o := (some (.int x13))) (as := [.int (x6 + (14 : Int32))]) (V1 := V11) hG dX12_maxp_24 l_X12_213 y0X12_u2 yvX12_u2 rfl (Nat.le_of_ble_eq_true rfl) lay_146 kr_12 (by decide) (Nat.le_of_ble_eq_true rfl) rfl rfl rfl (t_X12_u2 hG ⟨rfl, rfl⟩ g12) ?_
  obtain ⟨V14, hV14⟩ : ∃ z : sv_V, z = sv_I V11 146 13 x13 := ⟨_, rfl⟩
  have h := sx_letE hV14 h
  refine sv_putI (pc := 27) hG dX12_maxp_27 f_12_313 lay_146 rfl hV14 ?_
  refine sx_aload_n (pc := 30) dX12_maxp_30 sx_m1 ?_
  refine sx_aload_n (pc := 31) dX12_maxp_31 sx_m1 ?_
  refine sx_iload_n (pc := 32) dX12_maxp_32 sx_m0 ?_
  refine sx_bipush (pc := 33) (v := 16) dX12_maxp_33 (by decide) ?_
  refine sx_iadd (pc := 35) dX12_maxp_35 ?_
  obtain ⟨⟨x17, V15⟩, g16, h⟩ := sx_bnd h
  refine sv_cV (pc := 36) (y := qX12_u2) (o := (some (.int x17))) (as := [.int (x6 + (16 : Int32))]) (V1 := V15) hG dX12_maxp_36 l_X12_213 y0X12_u2 yvX12_u2 rfl (Nat.le_of_ble_eq_true rfl) lay_146 kr_12 (by decide) (Nat.le_of_ble_eq_true rfl) rfl rfl rfl (t_X12_u2 hG ⟨rfl, rfl⟩ g16) ?_
  obtain ⟨V18, hV18⟩ : ∃ z : sv_V, z = sv_I V15 146 14 x17 := ⟨_, rfl⟩
  have h := sx_letE hV18 h
  refine sv_putI (pc := 39) hG dX12_maxp_39 f_12_316 lay_146 rfl hV18 ?_
  refine sx_aload_n (pc := 42) dX12_maxp_42 sx_m1 ?_
  refine sx_aload_n (pc := 43) dX12_maxp_43 sx_m1 ?_
  refine sx_iload_n (pc := 44) dX12_maxp_44 sx_m0 ?_
  refine sx_bipush (pc := 45) (v := 18) dX12_maxp_45 (by decide) ?_
  refine sx_iadd (pc := 47) dX12_maxp_47 ?_
  obtain ⟨⟨x21, V19⟩, g20, h⟩ := sx_bnd h
  refine sv_cV (pc := 48) (y := qX12_u2) (o := (some (.int x21))) (as := [.int (x6 + (18 : Int32))]) (V1 := V19) hG dX12_maxp_48 l_X12_213 y0X12_u2 yvX12_u2 rfl (Nat.le_of_ble_eq_true rfl) lay_146 kr_12 (by decide) (Nat.le_of_ble_eq_true rfl) rfl rfl rfl (t_X12_u2 hG ⟨rfl, rfl⟩ g20) ?_
  obtain ⟨V22, hV22⟩ : ∃ z : sv_V, z = sv_I V19 146 15 x21 := ⟨_, rfl⟩
  have h := sx_letE hV22 h
  refine sv_putI (pc := 51) hG dX12_maxp_51 f_12_319 lay_146 rfl hV22 ?_
  refine sx_aload_n (pc := 54) dX12_maxp_54 sx_m1 ?_
  refine sx_aload_n (pc := 55) dX12_maxp_55 sx_m1 ?_
  refine sx_iload_n (pc := 56) dX12_maxp_56 sx_m0 ?_
  refine sx_bipush (pc := 57) (v := 20) dX12_maxp_57 (by decide) ?_
  refine sx_iadd (pc := 59) dX12_maxp_59 ?_
  obtain ⟨⟨x25, V23⟩, g24, h⟩ := sx_bnd h
  refine sv_cV (pc := 60) (y := qX12_u2) (o := (some (.int x25))) (as := [.int (x6 + (20 : Int32))]) (V1 := V23) hG dX12_maxp_60 l_X12_213 y0X12_u2 yvX12_u2 rfl (Nat.le_of_ble_eq_true rfl) lay_146 kr_12 (by decide) (Nat.le_of_ble_eq_true rfl) rfl rfl rfl (t_X12_u2 hG ⟨rfl, rfl⟩ g24) ?_
  obtain ⟨V26, hV26⟩ : ∃ z : sv_V, z = sv_I V23 146 16 x25 := ⟨_, rfl⟩
  have h := sx_letE hV26 h
  refine sv_putI (pc := 63) hG dX12_maxp_63 f_12_322 lay_146 rfl hV26 ?_
  refine sx_aload_n (pc := 66) dX12_maxp_66 sx_m1 ?_
  refine sx_aload_n (pc := 67) dX12_maxp_67 sx_m1 ?_
  refine sx_iload_n (pc := 68) dX12_maxp_68 sx_m0 ?_
  refine sx_bipush (pc := 69) (v := 22) dX12_maxp_69 (by decide) ?_
  refine sx_iadd (pc := 71) dX12_maxp_71 ?_
  obtain ⟨⟨x29, V27⟩, g28, h⟩ := sx_bnd h
  refine sv_cV (pc := 72) (y := qX12_u2) (o := (some (.int x29))) (as := [.int (x6 + (22 : Int32))]) (V1 := V27) hG dX12_maxp_72 l_X12_213 y0X12_u2 yvX12_u2 rfl (Nat.le_of_ble_eq_true rfl) lay_146 kr_12 (by decide) (Nat.le_of_ble_eq_true rfl) rfl rfl rfl (t_X12_u2 hG ⟨rfl, rfl⟩ g28) ?_
  obtain ⟨V30, hV30⟩ : ∃ z : sv_V, z = sv_I V27 146 17 x29 := ⟨_, rfl⟩
  have h := sx_letE hV30 h
  refine sv_putI (pc := 75) hG dX12_maxp_75 f_12_325 lay_146 rfl hV30 ?_
  refine sx_aload_n (pc := 78) dX12_maxp_78 sx_m1 ?_
  refine sx_aload_n (pc := 79) dX12_maxp_79 sx_m1 ?_
  refine sx_iload_n (pc := 80) dX12_maxp_80 sx_m0 ?_
  refine sx_bipush (pc := 81) (v := 24) dX12_maxp_81 (by decide) ?_
  refine sx_iadd (pc := 83) dX12_maxp_83 ?_
  obtain ⟨⟨x33, V31⟩, g32, h⟩ := sx_bnd h
  refine sv_cV (pc := 84) (y := qX12_u2) (o := (some (.int x33))) (as := [.int (x6 + (24 : Int32))]) (V1 := V31) hG dX12_maxp_84 l_X12_213 y0X12_u2 yvX12_u2 rfl (Nat.le_of_ble_eq_true rfl) lay_146 kr_12 (by decide) (Nat.le_of_ble_eq_true rfl) rfl rfl rfl (t_X12_u2 hG ⟨rfl, rfl⟩ g32) ?_
  obtain ⟨V34, hV34⟩ : ∃ z : sv_V, z = sv_I V31 146 18 x33 := ⟨_, rfl⟩
  have h := sx_letE hV34 h
  refine sv_putI (pc := 87) hG dX12_maxp_87 f_12_328 lay_146 rfl hV34 ?_
  refine sx_aload_n (pc := 90) dX12_maxp_90 sx_m1 ?_
  refine sx_aload_n (pc := 91) dX12_maxp_91 sx_m1 ?_
  refine sx_iload_n (pc := 92) dX12_maxp_92 sx_m0 ?_
  refine sx_bipush (pc := 93) (v := 30) dX12_maxp_93 (by decide) ?_
  refine sx_iadd (pc := 95) dX12_maxp_95 ?_
  obtain ⟨⟨x37, V35⟩, g36, h⟩ := sx_bnd h
  refine sv_cV (pc := 96) (y := qX12_u2) (o := (some (.int x37))) (as := [.int (x6 + (30 : Int32))]) (V1 := V35) hG dX12_maxp_96 l_X12_213 y0X12_u2 yvX12_u2 rfl (Nat.le_of_ble_eq_true rfl) lay_146 kr_12 (by decide) (Nat.le_of_ble_eq_true rfl) rfl rfl rfl (t_X12_u2 hG ⟨rfl, rfl⟩ g36) ?_
  obtain ⟨V38, hV38⟩ : ∃ z : sv_V, z = sv_I V35 146 19 x37 := ⟨_, rfl⟩
  have h := sx_letE hV38 h
  refine sv_putI (pc := 99) hG dX12_maxp_99 f_12_331 lay_146 rfl hV38 ?_
  refine sx_aload_n (pc := 102) dX12_maxp_102 sx_m1 ?_
  refine sx_ldc (pc := 103) dX12_maxp_103 k_X12_244 ?_
  obtain ⟨⟨x41, V39⟩, g40, h⟩ := sx_bnd h
  refine sv_cV (pc := 105) (y := qX12_lengthOf) (o := (some (.int x41))) (as := [.int (1835104368 : Int32)]) (V1 := V39) hG dX12_maxp_105 l_X12_257 y0X12_lengthOf yvX12_lengthOf rfl (Nat.le_of_ble_eq_true rfl) lay_146 kr_12 (by decide) (Nat.le_of_ble_eq_true rfl) rfl rfl rfl (t_X12_lengthOf hG ⟨rfl, rfl⟩ g40) ?_
  refine sx_bipush (pc := 108) (v := 32) dX12_maxp_108 (by decide) ?_
  refine sx_icmp_ne (pc := 110) (tgt := 249) dX12_maxp_110 (by decide) (fun c42 => ?_) (fun c42 => ?_)
  · have h := sx_neg c42 h
    refine sx_wk (sx_s1 sx_m1 sx_s0) ?_
    exact tB_X12_maxp_249 hG hP  h
  · have h := sx_pos c42 h
    refine sx_aload_n (pc := 113) dX12_maxp_113 sx_m1 ?_
    refine sx_iload_n (pc := 114) dX12_maxp_114 sx_m0 ?_
    obtain ⟨⟨x45, V43⟩, g44, h⟩ := sx_bnd h
    refine sv_cV (pc := 115) (y := qX12_u4) (o := (some (.long x45))) (as := [.int x6]) (V1 := V43) hG dX12_maxp_115 l_X12_297 y0X12_u4 yvX12_u4 rfl (Nat.le_of_ble_eq_true rfl) lay_146 kr_12 (by decide) (Nat.le_of_ble_eq_true rfl) rfl rfl rfl (t_X12_u4 hG ⟨rfl, rfl⟩ g44) ?_
    refine sx_ldc2 (pc := 118) dX12_maxp_118 k_X12_300 ?_
    refine sx_lcmp (pc := 121) dX12_maxp_121 ?_
    refine sx_if_ne (pc := 122) (tgt := 249) dX12_maxp_122 (by decide) (fun c46 => ?_) (fun c46 => ?_)
    · have h := sx_neg c46 h
      refine sx_wk (sx_s1 sx_m1 sx_s0) ?_
      exact tB_X12_maxp_249 hG hP  h
    · have h := sx_pos c46 h
      refine sx_aload_n (pc := 125) dX12_maxp_125 sx_m1 ?_
      refine sv_getI (pc := 126) hG dX12_maxp_126 f_12_260 lay_146 rfl ?_
      refine sx_i2l (pc := 129) dX12_maxp_129 ?_
      refine sx_lconst (pc := 130) (v := 1) dX12_maxp_130 rfl ?_
      refine sx_ldc2 (pc := 131) dX12_maxp_131 k_X12_334 ?_
      obtain ⟨⟨x49, V47⟩, g48, h⟩ := sx_bnd h
      refine sv_cS (pc := 134) (y := qX12_in) (o := (some (.int x49))) (as := [.long ((V43.1 146 12).toInt64), .long (1 : Int64), .long (200 : Int64)]) (V1 := V47) dX12_maxp_134 l_X12_263 y0X12_in ysX12_in rfl (Nat.le_of_ble_eq_true rfl) (by decide) (Nat.le_of_ble_eq_true rfl) rfl rfl rfl (t_X12_in hG ⟨rfl, rfl⟩ g48) ?_
      refine sx_if_eq (pc := 137) (tgt := 249) dX12_maxp_137 (by decide) (fun c50 => ?_) (fun c50 => ?_)
      · have h := sx_pos c50 h
        refine sx_wk (sx_s1 sx_m1 sx_s0) ?_
        exact tB_X12_maxp_249 hG hP  h
      · have h := sx_neg c50 h
        refine sx_aload_n (pc := 140) dX12_maxp_140 sx_m1 ?_
        refine sv_getI (pc := 141) hG dX12_maxp_141 f_12_313 lay_146 rfl ?_
        refine sx_i2l (pc := 144) dX12_maxp_144 ?_
        refine sx_lconst (pc := 145) (v := 1) dX12_maxp_145 rfl ?_
        refine sx_ldc2 (pc := 146) dX12_maxp_146 k_X12_336 ?_
        obtain ⟨⟨x53, V51⟩, g52, h⟩ := sx_bnd h
        refine sv_cS (pc := 149) (y := qX12_in) (o := (some (.int x53))) (as := [.long ((V47.1 146 13).toInt64), .long (1 : Int64), .long (2 : Int64)]) (V1 := V51) dX12_maxp_149 l_X12_263 y0X12_in ysX12_in rfl (Nat.le_of_ble_eq_true rfl) (by decide) (Nat.le_of_ble_eq_true rfl) rfl rfl rfl (t_X12_in hG ⟨rfl, rfl⟩ g52) ?_
        refine sx_if_eq (pc := 152) (tgt := 249) dX12_maxp_152 (by decide) (fun c54 => ?_) (fun c54 => ?_)
        · have h := sx_pos c54 h
          refine sx_wk (sx_s1 sx_m1 sx_s0) ?_
          exact tB_X12_maxp_249 hG hP  h
        · have h := sx_neg c54 h
          refine sx_aload_n (pc := 155) dX12_maxp_155 sx_m1 ?_
          refine sv_getI (pc := 156) hG dX12_maxp_156 f_12_316 lay_146 rfl ?_
          refine sx_i2l (pc := 159) dX12_maxp_159 ?_
          refine sx_lconst (pc := 160) (v := 0) dX12_maxp_160 rfl ?_
          refine sx_ldc2 (pc := 161) dX12_maxp_161 k_X12_338 ?_
          obtain ⟨⟨x57, V55⟩, g56, h⟩ := sx_bnd h
          refine sv_cS (pc := 164) (y := qX12_in) (o := (some (.int x57))) (as := [.long ((V51.1 146 14).toInt64), .long (0 : Int64), .long (64 : Int64)]) (V1 := V55) dX12_maxp_164 l_X12_263 y0X12_in ysX12_in rfl (Nat.le_of_ble_eq_true rfl) (by decide) (Nat.le_of_ble_eq_true rfl) rfl rfl rfl (t_X12_in hG ⟨rfl, rfl⟩ g56) ?_
          refine sx_if_eq (pc := 167) (tgt := 249) dX12_maxp_167 (by decide) (fun c58 => ?_) (fun c58 => ?_)
          · have h := sx_pos c58 h
            refine sx_wk (sx_s1 sx_m1 sx_s0) ?_
            exact tB_X12_maxp_249 hG hP  h
          · have h := sx_neg c58 h
            refine sx_aload_n (pc := 170) dX12_maxp_170 sx_m1 ?_
            refine sv_getI (pc := 171) hG dX12_maxp_171 f_12_319 lay_146 rfl ?_
            refine sx_i2l (pc := 174) dX12_maxp_174 ?_
            refine sx_lconst (pc := 175) (v := 0) dX12_maxp_175 rfl ?_
            refine sx_ldc2 (pc := 176) dX12_maxp_176 k_X12_338 ?_
            obtain ⟨⟨x61, V59⟩, g60, h⟩ := sx_bnd h
            refine sv_cS (pc := 179) (y := qX12_in) (o := (some (.int x61))) (as := [.long ((V55.1 146 15).toInt64), .long (0 : Int64), .long (64 : Int64)]) (V1 := V59) dX12_maxp_179 l_X12_263 y0X12_in ysX12_in rfl (Nat.le_of_ble_eq_true rfl) (by decide) (Nat.le_of_ble_eq_true rfl) rfl rfl rfl (t_X12_in hG ⟨rfl, rfl⟩ g60) ?_
            refine sx_if_eq (pc := 182) (tgt := 249) dX12_maxp_182 (by decide) (fun c62 => ?_) (fun c62 => ?_)
            · have h := sx_pos c62 h
              refine sx_wk (sx_s1 sx_m1 sx_s0) ?_
              exact tB_X12_maxp_249 hG hP  h
            · have h := sx_neg c62 h
              refine sx_aload_n (pc := 185) dX12_maxp_185 sx_m1 ?_
              refine sv_getI (pc := 186) hG dX12_maxp_186 f_12_322 lay_146 rfl ?_
              refine sx_i2l (pc := 189) dX12_maxp_189 ?_
              refine sx_lconst (pc := 190) (v := 0) dX12_maxp_190 rfl ?_
              refine sx_ldc2 (pc := 191) dX12_maxp_191 k_X12_338 ?_
              obtain ⟨⟨x65, V63⟩, g64, h⟩ := sx_bnd h
              refine sv_cS (pc := 194) (y := qX12_in) (o := (some (.int x65))) (as := [.long ((V59.1 146 16).toInt64), .long (0 : Int64), .long (64 : Int64)]) (V1 := V63) dX12_maxp_194 l_X12_263 y0X12_in ysX12_in rfl (Nat.le_of_ble_eq_true rfl) (by decide) (Nat.le_of_ble_eq_true rfl) rfl rfl rfl (t_X12_in hG ⟨rfl, rfl⟩ g64) ?_
              refine sx_if_eq (pc := 197) (tgt := 249) dX12_maxp_197 (by decide) (fun c66 => ?_) (fun c66 => ?_)
              · have h := sx_pos c66 h
                refine sx_wk (sx_s1 sx_m1 sx_s0) ?_
                exact tB_X12_maxp_249 hG hP  h
              · have h := sx_neg c66 h
                refine sx_aload_n (pc := 200) dX12_maxp_200 sx_m1 ?_
                refine sv_getI (pc := 201) hG dX12_maxp_201 f_12_325 lay_146 rfl ?_
                refine sx_i2l (pc := 204) dX12_maxp_204 ?_
                refine sx_lconst (pc := 205) (v := 0) dX12_maxp_205 rfl ?_
                refine sx_ldc2 (pc := 206) dX12_maxp_206 k_X12_232 ?_
                obtain ⟨⟨x69, V67⟩, g68, h⟩ := sx_bnd h
                refine sv_cS (pc := 209) (y := qX12_in) (o := (some (.int x69))) (as := [.long ((V63.1 146 17).toInt64), .long (0 : Int64), .long (16 : Int64)]) (V1 := V67) dX12_maxp_209 l_X12_263 y0X12_in ysX12_in rfl (Nat.le_of_ble_eq_true rfl) (by decide) (Nat.le_of_ble_eq_true rfl) rfl rfl rfl (t_X12_in hG ⟨rfl, rfl⟩ g68) ?_
                refine sx_if_eq (pc := 212) (tgt := 249) dX12_maxp_212 (by decide) (fun c70 => ?_) (fun c70 => ?_)
                · have h := sx_pos c70 h
                  refine sx_wk (sx_s1 sx_m1 sx_s0) ?_
                  exact tB_X12_maxp_249 hG hP  h
                · have h := sx_neg c70 h
                  refine sx_aload_n (pc := 215) dX12_maxp_215 sx_m1 ?_
                  refine sv_getI (pc := 216) hG dX12_maxp_216 f_12_328 lay_146 rfl ?_
                  refine sx_i2l (pc := 219) dX12_maxp_219 ?_
                  refine sx_lconst (pc := 220) (v := 0) dX12_maxp_220 rfl ?_
                  refine sx_ldc2 (pc := 221) dX12_maxp_221 k_X12_340 ?_
                  obtain ⟨⟨x73, V71⟩, g72, h⟩ := sx_bnd h
                  refine sv_cS (pc := 224) (y := qX12_in) (o := (some (.int x73))) (as := [.long ((V67.1 146 18).toInt64), .long (0 : Int64), .long (256 : Int64)]) (V1 := V71) dX12_maxp_224 l_X12_263 y0X12_in ysX12_in rfl (Nat.le_of_ble_eq_true rfl) (by decide) (Nat.le_of_ble_eq_true rfl) rfl rfl rfl (t_X12_in hG ⟨rfl, rfl⟩ g72) ?_
                  refine sx_if_eq (pc := 227) (tgt := 249) dX12_maxp_227 (by decide) (fun c74 => ?_) (fun c74 => ?_)
                  · have h := sx_pos c74 h
                    refine sx_wk (sx_s1 sx_m1 sx_s0) ?_
                    exact tB_X12_maxp_249 hG hP  h
                  · have h := sx_neg c74 h
                    refine sx_aload_n (pc := 230) dX12_maxp_230 sx_m1 ?_
                    refine sv_getI (pc := 231) hG dX12_maxp_231 f_12_331 lay_146 rfl ?_
                    refine sx_i2l (pc := 234) dX12_maxp_234 ?_
                    refine sx_lconst (pc := 235) (v := 0) dX12_maxp_235 rfl ?_
                    refine sx_ldc2 (pc := 236) dX12_maxp_236 k_X12_228 ?_
                    obtain ⟨⟨x77, V75⟩, g76, h⟩ := sx_bnd h
                    refine sv_cS (pc := 239) (y := qX12_in) (o := (some (.int x77))) (as := [.long ((V71.1 146 19).toInt64), .long (0 : Int64), .long (4 : Int64)]) (V1 := V75) dX12_maxp_239 l_X12_263 y0X12_in ysX12_in rfl (Nat.le_of_ble_eq_true rfl) (by decide) (Nat.le_of_ble_eq_true rfl) rfl rfl rfl (t_X12_in hG ⟨rfl, rfl⟩ g76) ?_
                    refine sx_if_eq (pc := 242) (tgt := 249) dX12_maxp_242 (by decide) (fun c78 => ?_) (fun c78 => ?_)
                    · have h := sx_pos c78 h
                      refine sx_wk (sx_s1 sx_m1 sx_s0) ?_
                      exact tB_X12_maxp_249 hG hP  h
                    · have h := sx_neg c78 h
                      refine sx_iconst (pc := 245) (v := 1) dX12_maxp_245 (by decide) ?_
                      refine sx_goto (pc := 246) (tgt := 250) dX12_maxp_246 (by decide) ?_
                      refine sx_wk (sx_s1 sx_m1 sx_s0) ?_
                      exact tB_X12_maxp_250 hG hP  h
theorem dX12_loca_0 : decode cX12_loca 0 = .ok (.aload_n 0, 1) := by decide +kernel
theorem dX12_loca_1 : decode cX12_loca 1 = .ok (.ldc 243, 2) := by decide +kernel
theorem dX12_loca_3 : decode cX12_loca 3 = .ok (.invokevirtual 251, 3) := by decide +kernel
theorem dX12_loca_6 : decode cX12_loca 6 = .ok (.istore_n 2, 1) := by decide +kernel
theorem dX12_loca_7 : decode cX12_loca 7 = .ok (.aload_n 0, 1) := by decide +kernel
theorem dX12_loca_8 : decode cX12_loca 8 = .ok (.getfield 271, 3) := by decide +kernel
theorem dX12_loca_11 : decode cX12_loca 11 = .ok (.ifCond .ne 20, 3) := by decide +kernel
theorem dX12_loca_14 : decode cX12_loca 14 = .ok (.ldc2_w 336, 3) := by decide +kernel
theorem dX12_loca_17 : decode cX12_loca 17 = .ok (.aload_n 0, 1) := by decide +kernel
theorem dX12_loca_18 : decode cX12_loca 18 = .ok (.iload_n 2, 1) := by decide +kernel
theorem dX12_loca_19 : decode cX12_loca 19 = .ok (.iconst 2, 1) := by decide +kernel
theorem dX12_loca_20 : decode cX12_loca 20 = .ok (.iload_n 1, 1) := by decide +kernel
theorem dX12_loca_21 : decode cX12_loca 21 = .ok (.imul, 1) := by decide +kernel
theorem dX12_loca_22 : decode cX12_loca 22 = .ok (.iadd, 1) := by decide +kernel
theorem dX12_loca_23 : decode cX12_loca 23 = .ok (.invokevirtual 213, 3) := by decide +kernel
theorem dX12_loca_26 : decode cX12_loca 26 = .ok (.i2l, 1) := by decide +kernel
theorem dX12_loca_27 : decode cX12_loca 27 = .ok (.lmul, 1) := by decide +kernel
theorem dX12_loca_28 : decode cX12_loca 28 = .ok (.goto 12, 3) := by decide +kernel
theorem dX12_loca_31 : decode cX12_loca 31 = .ok (.aload_n 0, 1) := by decide +kernel
theorem dX12_loca_32 : decode cX12_loca 32 = .ok (.iload_n 2, 1) := by decide +kernel
theorem dX12_loca_33 : decode cX12_loca 33 = .ok (.iconst 4, 1) := by decide +kernel
theorem dX12_loca_34 : decode cX12_loca 34 = .ok (.iload_n 1, 1) := by decide +kernel
theorem dX12_loca_35 : decode cX12_loca 35 = .ok (.imul, 1) := by decide +kernel
theorem dX12_loca_36 : decode cX12_loca 36 = .ok (.iadd, 1) := by decide +kernel
theorem dX12_loca_37 : decode cX12_loca 37 = .ok (.invokevirtual 297, 3) := by decide +kernel
theorem dX12_loca_40 : decode cX12_loca 40 = .ok (.lreturn, 1) := by decide +kernel
def F_X12_loca (N : Nat) (l1 : Int32) (V : sv_V) : Option (Int64 × sv_V) := (F_X12_beginOf N (1819239265 : Int32) V).bind (fun (x3, V1) => if (V1.1 146 11) = 0 then ((F_X12_u2 (x3 + ((2 : Int32) * l1)) V1).bind (fun (x10, V8) => some ((2 : Int64) * x10.toInt64, V8))) else ((F_X12_u4 (x3 + ((4 : Int32) * l1)) V1).bind (fun (x7, V5) => some (x7, V5))))
set_option maxRecDepth 20000 in
theorem t_X12_loca {g : sx_G} (hG : sx_Go g) {P : Option Value → sv_V → Prop} {r : Int64} {Vr : sv_V} (hP : P (some (.long r)) Vr) {N : Nat} {l1 : Int32} {V : sv_V} (h : F_X12_loca N l1 V = some (r, Vr)) : sv_N g qX12_loca 3 0 [(0, .ref 146), (1, .int l1)] [] V P := by
  unfold F_X12_loca at h
  refine sx_aload_n (pc := 0) dX12_loca_0 sx_m0 ?_
  refine sx_ldc (pc := 1) dX12_loca_1 k_X12_243 ?_
  obtain ⟨⟨x3, V1⟩, g2, h⟩ := sx_bnd h
  refine sv_cV (pc := 3) (y := qX12_beginOf) (o := (some (.int x3))) (as := [.int (1819239265 : Int32)]) (V1 := V1) hG dX12_loca_3 l_X12_251 y0X12_beginOf yvX12_beginOf rfl (Nat.le_of_ble_eq_true rfl) lay_146 kr_12 (by decide) (Nat.le_of_ble_eq_true rfl) rfl rfl rfl (t_X12_beginOf hG ⟨rfl, rfl⟩ g2) ?_
  refine sx_istore_n (pc := 6) (lo' := [(2, .int x3), (0, .ref 146), (1, .int l1)]) dX12_loca_6 (by decide) rfl ?_
  refine sx_aload_n (pc := 7) dX12_loca_7 sx_m1 ?_
  refine sv_getI (pc := 8) hG dX12_loca_8 f_12_271 lay_146 rfl ?_
  refine sx_if_ne (pc := 11) (tgt := 31) dX12_loca_11 (by decide) (fun c4 => ?_) (fun c4 => ?_)
  · have h := sx_neg c4 h
    refine sx_aload_n (pc := 31) dX12_loca_31 sx_m1 ?_
    refine sx_iload_n (pc := 32) dX12_loca_32 sx_m0 ?_
    refine sx_iconst (pc := 33) (v := 4) dX12_loca_33 (by decide) ?_
    refine sx_iload_n (pc := 34) dX12_loca_34 sx_m2 ?_
    refine sx_imul (pc := 35) dX12_loca_35 ?_
    refine sx_iadd (pc := 36) dX12_loca_36 ?_
    obtain ⟨⟨x7, V5⟩, g6, h⟩ := sx_bnd h
    refine sv_cV (pc := 37) (y := qX12_u4) (o := (some (.long x7))) (as := [.int (x3 + ((4 : Int32) * l1))]) (V1 := V5) hG dX12_loca_37 l_X12_297 y0X12_u4 yvX12_u4 rfl (Nat.le_of_ble_eq_true rfl) lay_146 kr_12 (by decide) (Nat.le_of_ble_eq_true rfl) rfl rfl rfl (t_X12_u4 hG ⟨rfl, rfl⟩ g6) ?_
    exact sv_lret (pc := 40) dX12_loca_40 rfl h hP
  · have h := sx_pos c4 h
    refine sx_ldc2 (pc := 14) dX12_loca_14 k_X12_336 ?_
    refine sx_aload_n (pc := 17) dX12_loca_17 sx_m1 ?_
    refine sx_iload_n (pc := 18) dX12_loca_18 sx_m0 ?_
    refine sx_iconst (pc := 19) (v := 2) dX12_loca_19 (by decide) ?_
    refine sx_iload_n (pc := 20) dX12_loca_20 sx_m2 ?_
    refine sx_imul (pc := 21) dX12_loca_21 ?_
    refine sx_iadd (pc := 22) dX12_loca_22 ?_
    obtain ⟨⟨x10, V8⟩, g9, h⟩ := sx_bnd h
    refine sv_cV (pc := 23) (y := qX12_u2) (o := (some (.int x10))) (as := [.int (x3 + ((2 : Int32) * l1))]) (V1 := V8) hG dX12_loca_23 l_X12_213 y0X12_u2 yvX12_u2 rfl (Nat.le_of_ble_eq_true rfl) lay_146 kr_12 (by decide) (Nat.le_of_ble_eq_true rfl) rfl rfl rfl (t_X12_u2 hG ⟨rfl, rfl⟩ g9) ?_
    refine sx_i2l (pc := 26) dX12_loca_26 ?_
    refine sx_lmul (pc := 27) dX12_loca_27 ?_
    refine sx_goto (pc := 28) (tgt := 40) dX12_loca_28 (by decide) ?_
    exact sv_lret (pc := 40) dX12_loca_40 rfl h hP
theorem dX12_bytesOf_0 : decode cX12_bytesOf 0 = .ok (.aload_n 0, 1) := by decide +kernel
theorem dX12_bytesOf_1 : decode cX12_bytesOf 1 = .ok (.aload_n 0, 1) := by decide +kernel
theorem dX12_bytesOf_2 : decode cX12_bytesOf 2 = .ok (.ldc 240, 2) := by decide +kernel
theorem dX12_bytesOf_4 : decode cX12_bytesOf 4 = .ok (.invokevirtual 251, 3) := by decide +kernel
theorem dX12_bytesOf_7 : decode cX12_bytesOf 7 = .ok (.aload_n 0, 1) := by decide +kernel
theorem dX12_bytesOf_8 : decode cX12_bytesOf 8 = .ok (.iload_n 1, 1) := by decide +kernel
theorem dX12_bytesOf_9 : decode cX12_bytesOf 9 = .ok (.invokevirtual 274, 3) := by decide +kernel
theorem dX12_bytesOf_12 : decode cX12_bytesOf 12 = .ok (.l2i, 1) := by decide +kernel
theorem dX12_bytesOf_13 : decode cX12_bytesOf 13 = .ok (.iadd, 1) := by decide +kernel
theorem dX12_bytesOf_14 : decode cX12_bytesOf 14 = .ok (.putfield 342, 3) := by decide +kernel
theorem dX12_bytesOf_17 : decode cX12_bytesOf 17 = .ok (.aload_n 0, 1) := by decide +kernel
theorem dX12_bytesOf_18 : decode cX12_bytesOf 18 = .ok (.aload_n 0, 1) := by decide +kernel
theorem dX12_bytesOf_19 : decode cX12_bytesOf 19 = .ok (.ldc 240, 2) := by decide +kernel
theorem dX12_bytesOf_21 : decode cX12_bytesOf 21 = .ok (.invokevirtual 251, 3) := by decide +kernel
theorem dX12_bytesOf_24 : decode cX12_bytesOf 24 = .ok (.aload_n 0, 1) := by decide +kernel
theorem dX12_bytesOf_25 : decode cX12_bytesOf 25 = .ok (.iload_n 1, 1) := by decide +kernel
theorem dX12_bytesOf_26 : decode cX12_bytesOf 26 = .ok (.iconst 1, 1) := by decide +kernel
theorem dX12_bytesOf_27 : decode cX12_bytesOf 27 = .ok (.iadd, 1) := by decide +kernel
theorem dX12_bytesOf_28 : decode cX12_bytesOf 28 = .ok (.invokevirtual 274, 3) := by decide +kernel
theorem dX12_bytesOf_31 : decode cX12_bytesOf 31 = .ok (.l2i, 1) := by decide +kernel
theorem dX12_bytesOf_32 : decode cX12_bytesOf 32 = .ok (.iadd, 1) := by decide +kernel
theorem dX12_bytesOf_33 : decode cX12_bytesOf 33 = .ok (.putfield 345, 3) := by decide +kernel
theorem dX12_bytesOf_36 : decode cX12_bytesOf 36 = .ok (.aload_n 0, 1) := by decide +kernel
theorem dX12_bytesOf_37 : decode cX12_bytesOf 37 = .ok (.aload_n 0, 1) := by decide +kernel
theorem dX12_bytesOf_38 : decode cX12_bytesOf 38 = .ok (.getfield 342, 3) := by decide +kernel
theorem dX12_bytesOf_41 : decode cX12_bytesOf 41 = .ok (.aload_n 0, 1) := by decide +kernel
theorem dX12_bytesOf_42 : decode cX12_bytesOf 42 = .ok (.getfield 345, 3) := by decide +kernel
theorem dX12_bytesOf_45 : decode cX12_bytesOf 45 = .ok (.if_icmp .ne 7, 3) := by decide +kernel
theorem dX12_bytesOf_48 : decode cX12_bytesOf 48 = .ok (.iconst 0, 1) := by decide +kernel
theorem dX12_bytesOf_49 : decode cX12_bytesOf 49 = .ok (.goto 11, 3) := by decide +kernel
theorem dX12_bytesOf_52 : decode cX12_bytesOf 52 = .ok (.aload_n 0, 1) := by decide +kernel
theorem dX12_bytesOf_53 : decode cX12_bytesOf 53 = .ok (.aload_n 0, 1) := by decide +kernel
theorem dX12_bytesOf_54 : decode cX12_bytesOf 54 = .ok (.getfield 342, 3) := by decide +kernel
theorem dX12_bytesOf_57 : decode cX12_bytesOf 57 = .ok (.invokevirtual 305, 3) := by decide +kernel
theorem dX12_bytesOf_60 : decode cX12_bytesOf 60 = .ok (.putfield 348, 3) := by decide +kernel
theorem dX12_bytesOf_63 : decode cX12_bytesOf 63 = .ok (.aload_n 0, 1) := by decide +kernel
theorem dX12_bytesOf_64 : decode cX12_bytesOf 64 = .ok (.iconst 0, 1) := by decide +kernel
theorem dX12_bytesOf_65 : decode cX12_bytesOf 65 = .ok (.putfield 351, 3) := by decide +kernel
theorem dX12_bytesOf_68 : decode cX12_bytesOf 68 = .ok (.aload_n 0, 1) := by decide +kernel
theorem dX12_bytesOf_69 : decode cX12_bytesOf 69 = .ok (.iconst 0, 1) := by decide +kernel
theorem dX12_bytesOf_70 : decode cX12_bytesOf 70 = .ok (.putfield 354, 3) := by decide +kernel
theorem dX12_bytesOf_73 : decode cX12_bytesOf 73 = .ok (.aload_n 0, 1) := by decide +kernel
theorem dX12_bytesOf_74 : decode cX12_bytesOf 74 = .ok (.aload_n 0, 1) := by decide +kernel
theorem dX12_bytesOf_75 : decode cX12_bytesOf 75 = .ok (.getfield 345, 3) := by decide +kernel
theorem dX12_bytesOf_78 : decode cX12_bytesOf 78 = .ok (.putfield 357, 3) := by decide +kernel
theorem dX12_bytesOf_81 : decode cX12_bytesOf 81 = .ok (.aload_n 0, 1) := by decide +kernel
theorem dX12_bytesOf_82 : decode cX12_bytesOf 82 = .ok (.iconst 0, 1) := by decide +kernel
theorem dX12_bytesOf_83 : decode cX12_bytesOf 83 = .ok (.putfield 360, 3) := by decide +kernel
theorem dX12_bytesOf_86 : decode cX12_bytesOf 86 = .ok (.return_, 1) := by decide +kernel
def B_X12_bytesOf_60 (N : Nat)  (s1 : Int32) (V : sv_V) : Option sv_V := sx_let (sv_I V 146 28 s1) (fun V1 => sx_let (sv_I V1 146 29 (0 : Int32)) (fun V2 => sx_let (sv_I V2 146 30 (0 : Int32)) (fun V3 => sx_let (sv_I V3 146 31 (V3.1 146 27)) (fun V4 => sx_let (sv_I V4 146 32 (0 : Int32)) (fun V5 => some V5)))))
set_option maxRecDepth 20000 in
theorem tB_X12_bytesOf_60 {g : sx_G} (hG : sx_Go g) {P : Option Value → sv_V → Prop} {Vr : sv_V} (hP : P none Vr) {N : Nat}   {s1 : Int32} {V : sv_V} (h : B_X12_bytesOf_60 N  s1 V = some Vr) : sv_N g qX12_bytesOf 4 60 [(0, .ref 146)] [.int s1, .ref 146] V P := by
  unfold B_X12_bytesOf_60 at h
  obtain ⟨V1, hV1⟩ : ∃ z : sv_V, z = sv_I V 146 28 s1 := ⟨_, rfl⟩
  have h := sx_letE hV1 h
  refine sv_putI (pc := 60) hG dX12_bytesOf_60 f_12_348 lay_146 rfl hV1 ?_
  refine sx_aload_n (pc := 63) dX12_bytesOf_63 sx_m0 ?_
  refine sx_iconst (pc := 64) (v := 0) dX12_bytesOf_64 (by decide) ?_
  obtain ⟨V2, hV2⟩ : ∃ z : sv_V, z = sv_I V1 146 29 (0 : Int32) := ⟨_, rfl⟩
  have h := sx_letE hV2 h
  refine sv_putI (pc := 65) hG dX12_bytesOf_65 f_12_351 lay_146 rfl hV2 ?_
  refine sx_aload_n (pc := 68) dX12_bytesOf_68 sx_m0 ?_
  refine sx_iconst (pc := 69) (v := 0) dX12_bytesOf_69 (by decide) ?_
  obtain ⟨V3, hV3⟩ : ∃ z : sv_V, z = sv_I V2 146 30 (0 : Int32) := ⟨_, rfl⟩
  have h := sx_letE hV3 h
  refine sv_putI (pc := 70) hG dX12_bytesOf_70 f_12_354 lay_146 rfl hV3 ?_
  refine sx_aload_n (pc := 73) dX12_bytesOf_73 sx_m0 ?_
  refine sx_aload_n (pc := 74) dX12_bytesOf_74 sx_m0 ?_
  refine sv_getI (pc := 75) hG dX12_bytesOf_75 f_12_345 lay_146 rfl ?_
  obtain ⟨V4, hV4⟩ : ∃ z : sv_V, z = sv_I V3 146 31 (V3.1 146 27) := ⟨_, rfl⟩
  have h := sx_letE hV4 h
  refine sv_putI (pc := 78) hG dX12_bytesOf_78 f_12_357 lay_146 rfl hV4 ?_
  refine sx_aload_n (pc := 81) dX12_bytesOf_81 sx_m0 ?_
  refine sx_iconst (pc := 82) (v := 0) dX12_bytesOf_82 (by decide) ?_
  obtain ⟨V5, hV5⟩ : ∃ z : sv_V, z = sv_I V4 146 32 (0 : Int32) := ⟨_, rfl⟩
  have h := sx_letE hV5 h
  refine sv_putI (pc := 83) hG dX12_bytesOf_83 f_12_360 lay_146 rfl hV5 ?_
  exact sv_vret (pc := 86) dX12_bytesOf_86 rfl h hP
def F_X12_bytesOf (N : Nat) (l1 : Int32) (V : sv_V) : Option sv_V := (F_X12_beginOf N (1735162214 : Int32) V).bind (fun (x8, V6) => (F_X12_loca N l1 V6).bind (fun (x11, V9) => sx_let (sv_I V9 146 26 (x8 + x11.toInt32)) (fun V12 => (F_X12_beginOf N (1735162214 : Int32) V12).bind (fun (x15, V13) => (F_X12_loca N (l1 + (1 : Int32)) V13).bind (fun (x18, V16) => sx_let (sv_I V16 146 27 (x15 + x18.toInt32)) (fun V19 => if (V19.1 146 26) = (V19.1 146 27) then (B_X12_bytesOf_60 N  (0 : Int32) V19) else ((F_X12_s2 (V19.1 146 26) V19).bind (fun (x23, V21) => B_X12_bytesOf_60 N  x23 V21))))))))
set_option maxRecDepth 20000 in
theorem t_X12_bytesOf {g : sx_G} (hG : sx_Go g) {P : Option Value → sv_V → Prop} {Vr : sv_V} (hP : P none Vr) {N : Nat} {l1 : Int32} {V : sv_V} (h : F_X12_bytesOf N l1 V = some Vr) : sv_N g qX12_bytesOf 4 0 [(0, .ref 146), (1, .int l1)] [] V P := by
  unfold F_X12_bytesOf at h
  refine sx_aload_n (pc := 0) dX12_bytesOf_0 sx_m0 ?_
  refine sx_aload_n (pc := 1) dX12_bytesOf_1 sx_m0 ?_
  refine sx_ldc (pc := 2) dX12_bytesOf_2 k_X12_240 ?_
  obtain ⟨⟨x8, V6⟩, g7, h⟩ := sx_bnd h
  refine sv_cV (pc := 4) (y := qX12_beginOf) (o := (some (.int x8))) (as := [.int (1735162214 : Int32)]) (V1 := V6) hG dX12_bytesOf_4 l_X12_251 y0X12_beginOf yvX12_beginOf rfl (Nat.le_of_ble_eq_true rfl) lay_146 kr_12 (by decide) (Nat.le_of_ble_eq_true rfl) rfl rfl rfl (t_X12_beginOf hG ⟨rfl, rfl⟩ g7) ?_
  refine sx_aload_n (pc := 7) dX12_bytesOf_7 sx_m0 ?_
  refine sx_iload_n (pc := 8) dX12_bytesOf_8 sx_m1 ?_
  obtain ⟨⟨x11, V9⟩, g10, h⟩ := sx_bnd h
  refine sv_cV (pc := 9) (y := qX12_loca) (o := (some (.long x11))) (as := [.int l1]) (V1 := V9) hG dX12_bytesOf_9 l_X12_274 y0X12_loca yvX12_loca rfl (Nat.le_of_ble_eq_true rfl) lay_146 kr_12 (by decide) (Nat.le_of_ble_eq_true rfl) rfl rfl rfl (t_X12_loca hG ⟨rfl, rfl⟩ g10) ?_
  refine sx_l2i (pc := 12) dX12_bytesOf_12 ?_
  refine sx_iadd (pc := 13) dX12_bytesOf_13 ?_
  obtain ⟨V12, hV12⟩ : ∃ z : sv_V, z = sv_I V9 146 26 (x8 + x11.toInt32) := ⟨_, rfl⟩
  have h := sx_letE hV12 h
  refine sv_putI (pc := 14) hG dX12_bytesOf_14 f_12_342 lay_146 rfl hV12 ?_
  refine sx_aload_n (pc := 17) dX12_bytesOf_17 sx_m0 ?_
  refine sx_aload_n (pc := 18) dX12_bytesOf_18 sx_m0 ?_
  refine sx_ldc (pc := 19) dX12_bytesOf_19 k_X12_240 ?_
  obtain ⟨⟨x15, V13⟩, g14, h⟩ := sx_bnd h
  refine sv_cV (pc := 21) (y := qX12_beginOf) (o := (some (.int x15))) (as := [.int (1735162214 : Int32)]) (V1 := V13) hG dX12_bytesOf_21 l_X12_251 y0X12_beginOf yvX12_beginOf rfl (Nat.le_of_ble_eq_true rfl) lay_146 kr_12 (by decide) (Nat.le_of_ble_eq_true rfl) rfl rfl rfl (t_X12_beginOf hG ⟨rfl, rfl⟩ g14) ?_
  refine sx_aload_n (pc := 24) dX12_bytesOf_24 sx_m0 ?_
  refine sx_iload_n (pc := 25) dX12_bytesOf_25 sx_m1 ?_
  refine sx_iconst (pc := 26) (v := 1) dX12_bytesOf_26 (by decide) ?_
  refine sx_iadd (pc := 27) dX12_bytesOf_27 ?_
  obtain ⟨⟨x18, V16⟩, g17, h⟩ := sx_bnd h
  refine sv_cV (pc := 28) (y := qX12_loca) (o := (some (.long x18))) (as := [.int (l1 + (1 : Int32))]) (V1 := V16) hG dX12_bytesOf_28 l_X12_274 y0X12_loca yvX12_loca rfl (Nat.le_of_ble_eq_true rfl) lay_146 kr_12 (by decide) (Nat.le_of_ble_eq_true rfl) rfl rfl rfl (t_X12_loca hG ⟨rfl, rfl⟩ g17) ?_
  refine sx_l2i (pc := 31) dX12_bytesOf_31 ?_
  refine sx_iadd (pc := 32) dX12_bytesOf_32 ?_
  obtain ⟨V19, hV19⟩ : ∃ z : sv_V, z = sv_I V16 146 27 (x15 + x18.toInt32) := ⟨_, rfl⟩
  have h := sx_letE hV19 h
  refine sv_putI (pc := 33) hG dX12_bytesOf_33 f_12_345 lay_146 rfl hV19 ?_
  refine sx_aload_n (pc := 36) dX12_bytesOf_36 sx_m0 ?_
  refine sx_aload_n (pc := 37) dX12_bytesOf_37 sx_m0 ?_
  refine sv_getI (pc := 38) hG dX12_bytesOf_38 f_12_342 lay_146 rfl ?_
  refine sx_aload_n (pc := 41) dX12_bytesOf_41 sx_m0 ?_
  refine sv_getI (pc := 42) hG dX12_bytesOf_42 f_12_345 lay_146 rfl ?_
  refine sx_icmp_ne (pc := 45) (tgt := 52) dX12_bytesOf_45 (by decide) (fun c20 => ?_) (fun c20 => ?_)
  · have h := sx_neg c20 h
    refine sx_aload_n (pc := 52) dX12_bytesOf_52 sx_m0 ?_
    refine sx_aload_n (pc := 53) dX12_bytesOf_53 sx_m0 ?_
    refine sv_getI (pc := 54) hG dX12_bytesOf_54 f_12_342 lay_146 rfl ?_
    obtain ⟨⟨x23, V21⟩, g22, h⟩ := sx_bnd h
    refine sv_cV (pc := 57) (y := qX12_s2) (o := (some (.int x23))) (as := [.int (V19.1 146 26)]) (V1 := V21) hG dX12_bytesOf_57 l_X12_305 y0X12_s2 yvX12_s2 rfl (Nat.le_of_ble_eq_true rfl) lay_146 kr_12 (by decide) (Nat.le_of_ble_eq_true rfl) rfl rfl rfl (t_X12_s2 hG ⟨rfl, rfl⟩ g22) ?_
    refine sx_wk (sx_s1 sx_m0 sx_s0) ?_
    exact tB_X12_bytesOf_60 hG hP  h
  · have h := sx_pos c20 h
    refine sx_iconst (pc := 48) (v := 0) dX12_bytesOf_48 (by decide) ?_
    refine sx_goto (pc := 49) (tgt := 60) dX12_bytesOf_49 (by decide) ?_
    refine sx_wk (sx_s1 sx_m0 sx_s0) ?_
    exact tB_X12_bytesOf_60 hG hP  h
theorem dX12_coordinates_0 : decode cX12_coordinates 0 = .ok (.iload_n 1, 1) := by decide +kernel
theorem dX12_coordinates_1 : decode cX12_coordinates 1 = .ok (.istore 5, 2) := by decide +kernel
theorem dX12_coordinates_3 : decode cX12_coordinates 3 = .ok (.iconst 0, 1) := by decide +kernel
theorem dX12_coordinates_4 : decode cX12_coordinates 4 = .ok (.istore 6, 2) := by decide +kernel
theorem dX12_coordinates_6 : decode cX12_coordinates 6 = .ok (.iconst 0, 1) := by decide +kernel
theorem dX12_coordinates_7 : decode cX12_coordinates 7 = .ok (.istore 7, 2) := by decide +kernel
theorem dX12_coordinates_9 : decode cX12_coordinates 9 = .ok (.iload 7, 2) := by decide +kernel
theorem dX12_coordinates_11 : decode cX12_coordinates 11 = .ok (.aload_n 0, 1) := by decide +kernel
theorem dX12_coordinates_12 : decode cX12_coordinates 12 = .ok (.getfield 351, 3) := by decide +kernel
theorem dX12_coordinates_15 : decode cX12_coordinates 15 = .ok (.if_icmp .ge 135, 3) := by decide +kernel
theorem dX12_coordinates_18 : decode cX12_coordinates 18 = .ok (.aload_n 0, 1) := by decide +kernel
theorem dX12_coordinates_19 : decode cX12_coordinates 19 = .ok (.getfield 39, 3) := by decide +kernel
theorem dX12_coordinates_22 : decode cX12_coordinates 22 = .ok (.iload 7, 2) := by decide +kernel
theorem dX12_coordinates_24 : decode cX12_coordinates 24 = .ok (.iaload, 1) := by decide +kernel
theorem dX12_coordinates_25 : decode cX12_coordinates 25 = .ok (.iload 4, 2) := by decide +kernel
theorem dX12_coordinates_27 : decode cX12_coordinates 27 = .ok (.iand, 1) := by decide +kernel
theorem dX12_coordinates_28 : decode cX12_coordinates 28 = .ok (.ifCond .eq 7, 3) := by decide +kernel
theorem dX12_coordinates_31 : decode cX12_coordinates 31 = .ok (.iconst 1, 1) := by decide +kernel
theorem dX12_coordinates_32 : decode cX12_coordinates 32 = .ok (.goto 4, 3) := by decide +kernel
theorem dX12_coordinates_35 : decode cX12_coordinates 35 = .ok (.iconst 0, 1) := by decide +kernel
theorem dX12_coordinates_36 : decode cX12_coordinates 36 = .ok (.istore 8, 2) := by decide +kernel
theorem dX12_coordinates_38 : decode cX12_coordinates 38 = .ok (.aload_n 0, 1) := by decide +kernel
theorem dX12_coordinates_39 : decode cX12_coordinates 39 = .ok (.getfield 39, 3) := by decide +kernel
theorem dX12_coordinates_42 : decode cX12_coordinates 42 = .ok (.iload 7, 2) := by decide +kernel
theorem dX12_coordinates_44 : decode cX12_coordinates 44 = .ok (.iaload, 1) := by decide +kernel
theorem dX12_coordinates_45 : decode cX12_coordinates 45 = .ok (.iload_n 3, 1) := by decide +kernel
theorem dX12_coordinates_46 : decode cX12_coordinates 46 = .ok (.iand, 1) := by decide +kernel
theorem dX12_coordinates_47 : decode cX12_coordinates 47 = .ok (.ifCond .eq 7, 3) := by decide +kernel
theorem dX12_coordinates_50 : decode cX12_coordinates 50 = .ok (.iconst 1, 1) := by decide +kernel
theorem dX12_coordinates_51 : decode cX12_coordinates 51 = .ok (.goto 13, 3) := by decide +kernel
theorem dX12_coordinates_54 : decode cX12_coordinates 54 = .ok (.iload 8, 2) := by decide +kernel
theorem dX12_coordinates_56 : decode cX12_coordinates 56 = .ok (.ifCond .eq 7, 3) := by decide +kernel
theorem dX12_coordinates_59 : decode cX12_coordinates 59 = .ok (.iconst 0, 1) := by decide +kernel
theorem dX12_coordinates_60 : decode cX12_coordinates 60 = .ok (.goto 4, 3) := by decide +kernel
theorem dX12_coordinates_63 : decode cX12_coordinates 63 = .ok (.iconst 2, 1) := by decide +kernel
theorem dX12_coordinates_64 : decode cX12_coordinates 64 = .ok (.istore 9, 2) := by decide +kernel
theorem dX12_coordinates_66 : decode cX12_coordinates 66 = .ok (.iload 5, 2) := by decide +kernel
theorem dX12_coordinates_68 : decode cX12_coordinates 68 = .ok (.iload 9, 2) := by decide +kernel
theorem dX12_coordinates_70 : decode cX12_coordinates 70 = .ok (.iadd, 1) := by decide +kernel
theorem dX12_coordinates_71 : decode cX12_coordinates 71 = .ok (.aload_n 0, 1) := by decide +kernel
theorem dX12_coordinates_72 : decode cX12_coordinates 72 = .ok (.getfield 345, 3) := by decide +kernel
theorem dX12_coordinates_75 : decode cX12_coordinates 75 = .ok (.if_icmp .le 5, 3) := by decide +kernel
theorem dX12_coordinates_78 : decode cX12_coordinates 78 = .ok (.iconst (-1), 1) := by decide +kernel
theorem dX12_coordinates_79 : decode cX12_coordinates 79 = .ok (.ireturn, 1) := by decide +kernel
theorem dX12_coordinates_80 : decode cX12_coordinates 80 = .ok (.iload 6, 2) := by decide +kernel
theorem dX12_coordinates_82 : decode cX12_coordinates 82 = .ok (.iload 9, 2) := by decide +kernel
theorem dX12_coordinates_84 : decode cX12_coordinates 84 = .ok (.iconst 1, 1) := by decide +kernel
theorem dX12_coordinates_85 : decode cX12_coordinates 85 = .ok (.if_icmp .ne 27, 3) := by decide +kernel
theorem dX12_coordinates_88 : decode cX12_coordinates 88 = .ok (.iload 8, 2) := by decide +kernel
theorem dX12_coordinates_90 : decode cX12_coordinates 90 = .ok (.ifCond .eq 12, 3) := by decide +kernel
theorem dX12_coordinates_93 : decode cX12_coordinates 93 = .ok (.aload_n 0, 1) := by decide +kernel
theorem dX12_coordinates_94 : decode cX12_coordinates 94 = .ok (.iload 5, 2) := by decide +kernel
theorem dX12_coordinates_96 : decode cX12_coordinates 96 = .ok (.invokevirtual 209, 3) := by decide +kernel
theorem dX12_coordinates_99 : decode cX12_coordinates 99 = .ok (.goto 29, 3) := by decide +kernel
theorem dX12_coordinates_102 : decode cX12_coordinates 102 = .ok (.aload_n 0, 1) := by decide +kernel
theorem dX12_coordinates_103 : decode cX12_coordinates 103 = .ok (.iload 5, 2) := by decide +kernel
theorem dX12_coordinates_105 : decode cX12_coordinates 105 = .ok (.invokevirtual 209, 3) := by decide +kernel
theorem dX12_coordinates_108 : decode cX12_coordinates 108 = .ok (.ineg, 1) := by decide +kernel
theorem dX12_coordinates_109 : decode cX12_coordinates 109 = .ok (.goto 19, 3) := by decide +kernel
theorem dX12_coordinates_112 : decode cX12_coordinates 112 = .ok (.iload 9, 2) := by decide +kernel
theorem dX12_coordinates_114 : decode cX12_coordinates 114 = .ok (.iconst 2, 1) := by decide +kernel
theorem dX12_coordinates_115 : decode cX12_coordinates 115 = .ok (.if_icmp .ne 12, 3) := by decide +kernel
theorem dX12_coordinates_118 : decode cX12_coordinates 118 = .ok (.aload_n 0, 1) := by decide +kernel
theorem dX12_coordinates_119 : decode cX12_coordinates 119 = .ok (.iload 5, 2) := by decide +kernel
theorem dX12_coordinates_121 : decode cX12_coordinates 121 = .ok (.invokevirtual 305, 3) := by decide +kernel
theorem dX12_coordinates_124 : decode cX12_coordinates 124 = .ok (.goto 4, 3) := by decide +kernel
theorem dX12_coordinates_127 : decode cX12_coordinates 127 = .ok (.iconst 0, 1) := by decide +kernel
theorem dX12_coordinates_128 : decode cX12_coordinates 128 = .ok (.iadd, 1) := by decide +kernel
theorem dX12_coordinates_129 : decode cX12_coordinates 129 = .ok (.istore 6, 2) := by decide +kernel
theorem dX12_coordinates_131 : decode cX12_coordinates 131 = .ok (.aload_n 2, 1) := by decide +kernel
theorem dX12_coordinates_132 : decode cX12_coordinates 132 = .ok (.iload 7, 2) := by decide +kernel
theorem dX12_coordinates_134 : decode cX12_coordinates 134 = .ok (.iload 6, 2) := by decide +kernel
theorem dX12_coordinates_136 : decode cX12_coordinates 136 = .ok (.iastore, 1) := by decide +kernel
theorem dX12_coordinates_137 : decode cX12_coordinates 137 = .ok (.iload 5, 2) := by decide +kernel
theorem dX12_coordinates_139 : decode cX12_coordinates 139 = .ok (.iload 9, 2) := by decide +kernel
theorem dX12_coordinates_141 : decode cX12_coordinates 141 = .ok (.iadd, 1) := by decide +kernel
theorem dX12_coordinates_142 : decode cX12_coordinates 142 = .ok (.istore 5, 2) := by decide +kernel
theorem dX12_coordinates_144 : decode cX12_coordinates 144 = .ok (.iinc 7 1, 3) := by decide +kernel
theorem dX12_coordinates_147 : decode cX12_coordinates 147 = .ok (.goto (-138), 3) := by decide +kernel
theorem dX12_coordinates_150 : decode cX12_coordinates 150 = .ok (.iload 5, 2) := by decide +kernel
theorem dX12_coordinates_152 : decode cX12_coordinates 152 = .ok (.ireturn, 1) := by decide +kernel
def B_X12_coordinates_128 (N : Nat) (k9 : Nat → Int32 → Int32 → Int32 → Int32 → Int32 → sv_V → Option (Int32 × sv_V)) (l2 : Nat) (l3 : Int32) (l4 : Int32) (l5 : Int32) (l7 : Int32) (l9 : Int32) (s0 : Int32) (s1 : Int32) (V : sv_V) : Option (Int32 × sv_V) := sx_let (s0 + s1) (fun x1 => (sv_len 0 l2).bind (fun n2 => if sx_in l7 n2 = true then sx_let (sv_I V l2 l7.toNatClampNeg x1) (fun V5 => sx_let (l5 + l9) (fun x6 => sx_let (l7 + 1) (fun x7 => k9 l2 l3 l4 x6 x1 x7 V5))) else none))
set_option maxRecDepth 20000 in
theorem tB_X12_coordinates_128 {g : sx_G} (hG : sx_Go g) {P : Option Value → sv_V → Prop} {r : Int32} {Vr : sv_V} (hP : P (some (.int r)) Vr) {N : Nat} {k9 : Nat → Int32 → Int32 → Int32 → Int32 → Int32 → sv_V → Option (Int32 × sv_V)} (hk9 : ∀ (l2 : Nat) (l3 : Int32) (l4 : Int32) (l5 : Int32) (l6 : Int32) (l7 : Int32) (V : sv_V), k9 l2 l3 l4 l5 l6 l7 V = some (r, Vr) → sv_N g qX12_coordinates 3 9 [(0, .ref 146), (2, .ref l2), (3, .int l3), (4, .int l4), (5, .int l5), (6, .int l6), (7, .int l7)] [] V P) {l2 : Nat} {l3 : Int32} {l4 : Int32} {l5 : Int32} {l7 : Int32} {l9 : Int32} {s0 : Int32} {s1 : Int32} {V : sv_V} (h : B_X12_coordinates_128 N k9 l2 l3 l4 l5 l7 l9 s0 s1 V = some (r, Vr)) : sv_N g qX12_coordinates 3 128 [(0, .ref 146), (2, .ref l2), (3, .int l3), (4, .int l4), (5, .int l5), (7, .int l7), (9, .int l9)] [.int s1, .int s0] V P := by
  unfold B_X12_coordinates_128 at h
  refine sx_iadd (pc := 128) dX12_coordinates_128 ?_
  refine sv_tI (fun x1 hx1 => ?_)
  have h := sx_letE hx1 h
  refine sx_istore (pc := 129) (lo' := [(6, .int x1), (0, .ref 146), (2, .ref l2), (3, .int l3), (4, .int l4), (5, .int l5), (7, .int l7), (9, .int l9)]) dX12_coordinates_129 (by decide) rfl ?_
  refine sx_aload_n (pc := 131) dX12_coordinates_131 sx_m2 ?_
  refine sx_iload (pc := 132) dX12_coordinates_132 sx_m6 ?_
  refine sx_iload (pc := 134) dX12_coordinates_134 sx_m0 ?_
  obtain ⟨n2, g3, h⟩ := sx_bnd h
  obtain ⟨g4, h⟩ := sx_grd h
  obtain ⟨V5, hV5⟩ : ∃ z : sv_V, z = sv_I V l2 l7.toNatClampNeg x1 := ⟨_, rfl⟩
  have h := sx_letE hV5 h
  refine sv_iast (pc := 136) hG dX12_coordinates_136 (sv_len_e g3) g4 hV5 ?_
  refine sx_iload (pc := 137) dX12_coordinates_137 sx_m5 ?_
  refine sx_iload (pc := 139) dX12_coordinates_139 sx_m7 ?_
  refine sx_iadd (pc := 141) dX12_coordinates_141 ?_
  refine sv_tI (fun x6 hx6 => ?_)
  have h := sx_letE hx6 h
  refine sx_istore (pc := 142) (lo' := [(5, .int x6), (6, .int x1), (0, .ref 146), (2, .ref l2), (3, .int l3), (4, .int l4), (7, .int l7), (9, .int l9)]) dX12_coordinates_142 (by decide) rfl ?_
  obtain ⟨x7, hx7⟩ : ∃ z : Int32, z = l7 + 1 := ⟨_, rfl⟩
  have h := sx_letE hx7 h
  refine sx_iinc (pc := 144) (v := x7) (lo' := [(7, .int x7), (5, .int x6), (6, .int x1), (0, .ref 146), (2, .ref l2), (3, .int l3), (4, .int l4), (9, .int l9)]) dX12_coordinates_144 sx_m6 (by rw [hx7]; rfl) (by decide) rfl ?_
  refine sx_goto (pc := 147) (tgt := 9) dX12_coordinates_147 (by decide) ?_
  refine sx_wk (sx_s1 sx_m3 (sx_s1 sx_m4 (sx_s1 sx_m5 (sx_s1 sx_m6 (sx_s1 sx_m1 (sx_s1 sx_m2 (sx_s1 sx_m0 sx_s0))))))) ?_
  exact hk9 _ _ _ _ _ _ _ h
def B_X12_coordinates_64 (N : Nat) (k9 : Nat → Int32 → Int32 → Int32 → Int32 → Int32 → sv_V → Option (Int32 × sv_V)) (l2 : Nat) (l3 : Int32) (l4 : Int32) (l5 : Int32) (l6 : Int32) (l7 : Int32) (l8 : Int32) (s0 : Int32) (V : sv_V) : Option (Int32 × sv_V) := if (l5 + s0) ≤ (V.1 146 27) then (if s0 = (1 : Int32) then (if l8 = 0 then ((F_X12_u1 l5 V).bind (fun (x17, V15) => B_X12_coordinates_128 N k9 l2 l3 l4 l5 l7 s0 l6 (-x17) V15)) else ((F_X12_u1 l5 V).bind (fun (x20, V18) => B_X12_coordinates_128 N k9 l2 l3 l4 l5 l7 s0 l6 x20 V18))) else (if s0 = (2 : Int32) then ((F_X12_s2 l5 V).bind (fun (x13, V11) => B_X12_coordinates_128 N k9 l2 l3 l4 l5 l7 s0 l6 x13 V11)) else (B_X12_coordinates_128 N k9 l2 l3 l4 l5 l7 s0 l6 (0 : Int32) V))) else (some ((-1 : Int32), V))
set_option maxRecDepth 20000 in
theorem tB_X12_coordinates_64 {g : sx_G} (hG : sx_Go g) {P : Option Value → sv_V → Prop} {r : Int32} {Vr : sv_V} (hP : P (some (.int r)) Vr) {N : Nat} {k9 : Nat → Int32 → Int32 → Int32 → Int32 → Int32 → sv_V → Option (Int32 × sv_V)} (hk9 : ∀ (l2 : Nat) (l3 : Int32) (l4 : Int32) (l5 : Int32) (l6 : Int32) (l7 : Int32) (V : sv_V), k9 l2 l3 l4 l5 l6 l7 V = some (r, Vr) → sv_N g qX12_coordinates 3 9 [(0, .ref 146), (2, .ref l2), (3, .int l3), (4, .int l4), (5, .int l5), (6, .int l6), (7, .int l7)] [] V P) {l2 : Nat} {l3 : Int32} {l4 : Int32} {l5 : Int32} {l6 : Int32} {l7 : Int32} {l8 : Int32} {s0 : Int32} {V : sv_V} (h : B_X12_coordinates_64 N k9 l2 l3 l4 l5 l6 l7 l8 s0 V = some (r, Vr)) : sv_N g qX12_coordinates 3 64 [(0, .ref 146), (2, .ref l2), (3, .int l3), (4, .int l4), (5, .int l5), (6, .int l6), (7, .int l7), (8, .int l8)] [.int s0] V P := by
  unfold B_X12_coordinates_64 at h
  refine sx_istore (pc := 64) (lo' := [(9, .int s0), (0, .ref 146), (2, .ref l2), (3, .int l3), (4, .int l4), (5, .int l5), (6, .int l6), (7, .int l7), (8, .int l8)]) dX12_coordinates_64 (by decide) rfl ?_
  refine sx_iload (pc := 66) dX12_coordinates_66 sx_m5 ?_
  refine sx_iload (pc := 68) dX12_coordinates_68 sx_m0 ?_
  refine sx_iadd (pc := 70) dX12_coordinates_70 ?_
  refine sx_aload_n (pc := 71) dX12_coordinates_71 sx_m1 ?_
  refine sv_getI (pc := 72) hG dX12_coordinates_72 f_12_345 lay_146 rfl ?_
  refine sx_icmp_le (pc := 75) (tgt := 80) dX12_coordinates_75 (by decide) (fun c8 => ?_) (fun c8 => ?_)
  · have h := sx_pos c8 h
    refine sx_iload (pc := 80) dX12_coordinates_80 sx_m6 ?_
    refine sx_iload (pc := 82) dX12_coordinates_82 sx_m0 ?_
    refine sx_iconst (pc := 84) (v := 1) dX12_coordinates_84 (by decide) ?_
    refine sx_icmp_ne (pc := 85) (tgt := 112) dX12_coordinates_85 (by decide) (fun c9 => ?_) (fun c9 => ?_)
    · have h := sx_neg c9 h
      refine sx_iload (pc := 112) dX12_coordinates_112 sx_m0 ?_
      refine sx_iconst (pc := 114) (v := 2) dX12_coordinates_114 (by decide) ?_
      refine sx_icmp_ne (pc := 115) (tgt := 127) dX12_coordinates_115 (by decide) (fun c10 => ?_) (fun c10 => ?_)
      · have h := sx_neg c10 h
        refine sx_iconst (pc := 127) (v := 0) dX12_coordinates_127 (by decide) ?_
        refine sx_wk (sx_s1 sx_m1 (sx_s1 sx_m2 (sx_s1 sx_m3 (sx_s1 sx_m4 (sx_s1 sx_m5 (sx_s1 sx_m7 (sx_s1 sx_m0 sx_s0))))))) ?_
        exact tB_X12_coordinates_128 hG hP hk9 h
      · have h := sx_pos c10 h
        refine sx_aload_n (pc := 118) dX12_coordinates_118 sx_m1 ?_
        refine sx_iload (pc := 119) dX12_coordinates_119 sx_m5 ?_
        obtain ⟨⟨x13, V11⟩, g12, h⟩ := sx_bnd h
        refine sv_cV (pc := 121) (y := qX12_s2) (o := (some (.int x13))) (as := [.int l5]) (V1 := V11) hG dX12_coordinates_121 l_X12_305 y0X12_s2 yvX12_s2 rfl (Nat.le_of_ble_eq_true rfl) lay_146 kr_12 (by decide) (Nat.le_of_ble_eq_true rfl) rfl rfl rfl (t_X12_s2 hG ⟨rfl, rfl⟩ g12) ?_
        refine sx_goto (pc := 124) (tgt := 128) dX12_coordinates_124 (by decide) ?_
        refine sx_wk (sx_s1 sx_m1 (sx_s1 sx_m2 (sx_s1 sx_m3 (sx_s1 sx_m4 (sx_s1 sx_m5 (sx_s1 sx_m7 (sx_s1 sx_m0 sx_s0))))))) ?_
        exact tB_X12_coordinates_128 hG hP hk9 h
    · have h := sx_pos c9 h
      refine sx_iload (pc := 88) dX12_coordinates_88 sx_m8 ?_
      refine sx_if_eq (pc := 90) (tgt := 102) dX12_coordinates_90 (by decide) (fun c14 => ?_) (fun c14 => ?_)
      · have h := sx_pos c14 h
        refine sx_aload_n (pc := 102) dX12_coordinates_102 sx_m1 ?_
        refine sx_iload (pc := 103) dX12_coordinates_103 sx_m5 ?_
        obtain ⟨⟨x17, V15⟩, g16, h⟩ := sx_bnd h
        refine sv_cV (pc := 105) (y := qX12_u1) (o := (some (.int x17))) (as := [.int l5]) (V1 := V15) hG dX12_coordinates_105 l_X12_209 y0X12_u1 yvX12_u1 rfl (Nat.le_of_ble_eq_true rfl) lay_146 kr_12 (by decide) (Nat.le_of_ble_eq_true rfl) rfl rfl rfl (t_X12_u1 hG ⟨rfl, rfl⟩ g16) ?_
        refine sx_ineg (pc := 108) dX12_coordinates_108 ?_
        refine sx_goto (pc := 109) (tgt := 128) dX12_coordinates_109 (by decide) ?_
        refine sx_wk (sx_s1 sx_m1 (sx_s1 sx_m2 (sx_s1 sx_m3 (sx_s1 sx_m4 (sx_s1 sx_m5 (sx_s1 sx_m7 (sx_s1 sx_m0 sx_s0))))))) ?_
        exact tB_X12_coordinates_128 hG hP hk9 h
      · have h := sx_neg c14 h
        refine sx_aload_n (pc := 93) dX12_coordinates_93 sx_m1 ?_
        refine sx_iload (pc := 94) dX12_coordinates_94 sx_m5 ?_
        obtain ⟨⟨x20, V18⟩, g19, h⟩ := sx_bnd h
        refine sv_cV (pc := 96) (y := qX12_u1) (o := (some (.int x20))) (as := [.int l5]) (V1 := V18) hG dX12_coordinates_96 l_X12_209 y0X12_u1 yvX12_u1 rfl (Nat.le_of_ble_eq_true rfl) lay_146 kr_12 (by decide) (Nat.le_of_ble_eq_true rfl) rfl rfl rfl (t_X12_u1 hG ⟨rfl, rfl⟩ g19) ?_
        refine sx_goto (pc := 99) (tgt := 128) dX12_coordinates_99 (by decide) ?_
        refine sx_wk (sx_s1 sx_m1 (sx_s1 sx_m2 (sx_s1 sx_m3 (sx_s1 sx_m4 (sx_s1 sx_m5 (sx_s1 sx_m7 (sx_s1 sx_m0 sx_s0))))))) ?_
        exact tB_X12_coordinates_128 hG hP hk9 h
  · have h := sx_neg c8 h
    refine sx_iconst (pc := 78) (v := (-1)) dX12_coordinates_78 (by decide) ?_
    exact sv_iret (pc := 79) dX12_coordinates_79 rfl h hP
def B_X12_coordinates_36 (N : Nat) (k9 : Nat → Int32 → Int32 → Int32 → Int32 → Int32 → sv_V → Option (Int32 × sv_V)) (l2 : Nat) (l3 : Int32) (l4 : Int32) (l5 : Int32) (l6 : Int32) (l7 : Int32) (s0 : Int32) (V : sv_V) : Option (Int32 × sv_V) := if sx_in l7 100 = true then if ((V.1 156 l7.toNatClampNeg) &&& l3) = 0 then (if s0 = 0 then (B_X12_coordinates_64 N k9 l2 l3 l4 l5 l6 l7 s0 (2 : Int32) V) else (B_X12_coordinates_64 N k9 l2 l3 l4 l5 l6 l7 s0 (0 : Int32) V)) else (B_X12_coordinates_64 N k9 l2 l3 l4 l5 l6 l7 s0 (1 : Int32) V) else none
set_option maxRecDepth 20000 in
theorem tB_X12_coordinates_36 {g : sx_G} (hG : sx_Go g) {P : Option Value → sv_V → Prop} {r : Int32} {Vr : sv_V} (hP : P (some (.int r)) Vr) {N : Nat} {k9 : Nat → Int32 → Int32 → Int32 → Int32 → Int32 → sv_V → Option (Int32 × sv_V)} (hk9 : ∀ (l2 : Nat) (l3 : Int32) (l4 : Int32) (l5 : Int32) (l6 : Int32) (l7 : Int32) (V : sv_V), k9 l2 l3 l4 l5 l6 l7 V = some (r, Vr) → sv_N g qX12_coordinates 3 9 [(0, .ref 146), (2, .ref l2), (3, .int l3), (4, .int l4), (5, .int l5), (6, .int l6), (7, .int l7)] [] V P) {l2 : Nat} {l3 : Int32} {l4 : Int32} {l5 : Int32} {l6 : Int32} {l7 : Int32} {s0 : Int32} {V : sv_V} (h : B_X12_coordinates_36 N k9 l2 l3 l4 l5 l6 l7 s0 V = some (r, Vr)) : sv_N g qX12_coordinates 3 36 [(0, .ref 146), (2, .ref l2), (3, .int l3), (4, .int l4), (5, .int l5), (6, .int l6), (7, .int l7)] [.int s0] V P := by
  unfold B_X12_coordinates_36 at h
  refine sx_istore (pc := 36) (lo' := [(8, .int s0), (0, .ref 146), (2, .ref l2), (3, .int l3), (4, .int l4), (5, .int l5), (6, .int l6), (7, .int l7)]) dX12_coordinates_36 (by decide) rfl ?_
  refine sx_aload_n (pc := 38) dX12_coordinates_38 sx_m1 ?_
  refine sv_getA (pc := 39) hG dX12_coordinates_39 f_12_39 lay_146 rfl cr_146_36 ?_
  refine sx_iload (pc := 42) dX12_coordinates_42 sx_m7 ?_
  obtain ⟨g21, h⟩ := sx_grd h
  refine sv_iald (pc := 44) hG dX12_coordinates_44 lay_156 g21 ?_
  refine sx_iload_n (pc := 45) dX12_coordinates_45 sx_m3 ?_
  refine sx_iand (pc := 46) dX12_coordinates_46 ?_
  refine sx_if_eq (pc := 47) (tgt := 54) dX12_coordinates_47 (by decide) (fun c22 => ?_) (fun c22 => ?_)
  · have h := sx_pos c22 h
    refine sx_iload (pc := 54) dX12_coordinates_54 sx_m0 ?_
    refine sx_if_eq (pc := 56) (tgt := 63) dX12_coordinates_56 (by decide) (fun c23 => ?_) (fun c23 => ?_)
    · have h := sx_pos c23 h
      refine sx_iconst (pc := 63) (v := 2) dX12_coordinates_63 (by decide) ?_
      refine sx_wk (sx_s1 sx_m1 (sx_s1 sx_m2 (sx_s1 sx_m3 (sx_s1 sx_m4 (sx_s1 sx_m5 (sx_s1 sx_m6 (sx_s1 sx_m7 (sx_s1 sx_m0 sx_s0)))))))) ?_
      exact tB_X12_coordinates_64 hG hP hk9 h
    · have h := sx_neg c23 h
      refine sx_iconst (pc := 59) (v := 0) dX12_coordinates_59 (by decide) ?_
      refine sx_goto (pc := 60) (tgt := 64) dX12_coordinates_60 (by decide) ?_
      refine sx_wk (sx_s1 sx_m1 (sx_s1 sx_m2 (sx_s1 sx_m3 (sx_s1 sx_m4 (sx_s1 sx_m5 (sx_s1 sx_m6 (sx_s1 sx_m7 (sx_s1 sx_m0 sx_s0)))))))) ?_
      exact tB_X12_coordinates_64 hG hP hk9 h
  · have h := sx_neg c22 h
    refine sx_iconst (pc := 50) (v := 1) dX12_coordinates_50 (by decide) ?_
    refine sx_goto (pc := 51) (tgt := 64) dX12_coordinates_51 (by decide) ?_
    refine sx_wk (sx_s1 sx_m1 (sx_s1 sx_m2 (sx_s1 sx_m3 (sx_s1 sx_m4 (sx_s1 sx_m5 (sx_s1 sx_m6 (sx_s1 sx_m7 (sx_s1 sx_m0 sx_s0)))))))) ?_
    exact tB_X12_coordinates_64 hG hP hk9 h
def B_X12_coordinates_9 (N : Nat) (k9 : Nat → Int32 → Int32 → Int32 → Int32 → Int32 → sv_V → Option (Int32 × sv_V)) (l2 : Nat) (l3 : Int32) (l4 : Int32) (l5 : Int32) (l6 : Int32) (l7 : Int32) (V : sv_V) : Option (Int32 × sv_V) := if (V.1 146 29) ≤ l7 then (some (l5, V)) else (if sx_in l7 100 = true then if ((V.1 156 l7.toNatClampNeg) &&& l4) = 0 then (B_X12_coordinates_36 N k9 l2 l3 l4 l5 l6 l7 (0 : Int32) V) else (B_X12_coordinates_36 N k9 l2 l3 l4 l5 l6 l7 (1 : Int32) V) else none)
set_option maxRecDepth 20000 in
theorem tB_X12_coordinates_9 {g : sx_G} (hG : sx_Go g) {P : Option Value → sv_V → Prop} {r : Int32} {Vr : sv_V} (hP : P (some (.int r)) Vr) {N : Nat} {k9 : Nat → Int32 → Int32 → Int32 → Int32 → Int32 → sv_V → Option (Int32 × sv_V)} (hk9 : ∀ (l2 : Nat) (l3 : Int32) (l4 : Int32) (l5 : Int32) (l6 : Int32) (l7 : Int32) (V : sv_V), k9 l2 l3 l4 l5 l6 l7 V = some (r, Vr) → sv_N g qX12_coordinates 3 9 [(0, .ref 146), (2, .ref l2), (3, .int l3), (4, .int l4), (5, .int l5), (6, .int l6), (7, .int l7)] [] V P) {l2 : Nat} {l3 : Int32} {l4 : Int32} {l5 : Int32} {l6 : Int32} {l7 : Int32} {V : sv_V} (h : B_X12_coordinates_9 N k9 l2 l3 l4 l5 l6 l7 V = some (r, Vr)) : sv_N g qX12_coordinates 3 9 [(0, .ref 146), (2, .ref l2), (3, .int l3), (4, .int l4), (5, .int l5), (6, .int l6), (7, .int l7)] [] V P := by
  unfold B_X12_coordinates_9 at h
  refine sx_iload (pc := 9) dX12_coordinates_9 sx_m6 ?_
  refine sx_aload_n (pc := 11) dX12_coordinates_11 sx_m0 ?_
  refine sv_getI (pc := 12) hG dX12_coordinates_12 f_12_351 lay_146 rfl ?_
  refine sx_icmp_ge (pc := 15) (tgt := 150) dX12_coordinates_15 (by decide) (fun c24 => ?_) (fun c24 => ?_)
  · have h := sx_pos c24 h
    refine sx_iload (pc := 150) dX12_coordinates_150 sx_m4 ?_
    exact sv_iret (pc := 152) dX12_coordinates_152 rfl h hP
  · have h := sx_neg c24 h
    refine sx_aload_n (pc := 18) dX12_coordinates_18 sx_m0 ?_
    refine sv_getA (pc := 19) hG dX12_coordinates_19 f_12_39 lay_146 rfl cr_146_36 ?_
    refine sx_iload (pc := 22) dX12_coordinates_22 sx_m6 ?_
    obtain ⟨g25, h⟩ := sx_grd h
    refine sv_iald (pc := 24) hG dX12_coordinates_24 lay_156 g25 ?_
    refine sx_iload (pc := 25) dX12_coordinates_25 sx_m3 ?_
    refine sx_iand (pc := 27) dX12_coordinates_27 ?_
    refine sx_if_eq (pc := 28) (tgt := 35) dX12_coordinates_28 (by decide) (fun c26 => ?_) (fun c26 => ?_)
    · have h := sx_pos c26 h
      refine sx_iconst (pc := 35) (v := 0) dX12_coordinates_35 (by decide) ?_
      refine sx_wk (sx_s1 sx_m0 (sx_s1 sx_m1 (sx_s1 sx_m2 (sx_s1 sx_m3 (sx_s1 sx_m4 (sx_s1 sx_m5 (sx_s1 sx_m6 sx_s0))))))) ?_
      exact tB_X12_coordinates_36 hG hP hk9 h
    · have h := sx_neg c26 h
      refine sx_iconst (pc := 31) (v := 1) dX12_coordinates_31 (by decide) ?_
      refine sx_goto (pc := 32) (tgt := 36) dX12_coordinates_32 (by decide) ?_
      refine sx_wk (sx_s1 sx_m0 (sx_s1 sx_m1 (sx_s1 sx_m2 (sx_s1 sx_m3 (sx_s1 sx_m4 (sx_s1 sx_m5 (sx_s1 sx_m6 sx_s0))))))) ?_
      exact tB_X12_coordinates_36 hG hP hk9 h
theorem tL_X12_coordinates_9 {g : sx_G} (hG : sx_Go g) {P : Option Value → sv_V → Prop} {r : Int32} {Vr : sv_V} (hP : P (some (.int r)) Vr) {N : Nat}   : ∀ (n : Nat) (l2 : Nat) (l3 : Int32) (l4 : Int32) (l5 : Int32) (l6 : Int32) (l7 : Int32) (V : sv_V), sx_lp7 (B_X12_coordinates_9 N ) n l2 l3 l4 l5 l6 l7 V = some (r, Vr) → sv_N g qX12_coordinates 3 9 [(0, .ref 146), (2, .ref l2), (3, .int l3), (4, .int l4), (5, .int l5), (6, .int l6), (7, .int l7)] [] V P :=
  sx_lp7_ind (fun k0 ih _ _ _ _ _ _ V h => tB_X12_coordinates_9 hG hP ih h)
def F_X12_coordinates (N : Nat) (l1 : Int32) (l2 : Nat) (l3 : Int32) (l4 : Int32) (V : sv_V) : Option (Int32 × sv_V) := sx_lp7 (B_X12_coordinates_9 N ) N l2 l3 l4 l1 (0 : Int32) (0 : Int32) V
set_option maxRecDepth 20000 in
theorem t_X12_coordinates {g : sx_G} (hG : sx_Go g) {P : Option Value → sv_V → Prop} {r : Int32} {Vr : sv_V} (hP : P (some (.int r)) Vr) {N : Nat} {l1 : Int32} {l2 : Nat} {l3 : Int32} {l4 : Int32} {V : sv_V} (h : F_X12_coordinates N l1 l2 l3 l4 V = some (r, Vr)) : sv_N g qX12_coordinates 3 0 [(0, .ref 146), (1, .int l1), (2, .ref l2), (3, .int l3), (4, .int l4)] [] V P := by
  unfold F_X12_coordinates at h
  refine sx_iload_n (pc := 0) dX12_coordinates_0 sx_m1 ?_
  refine sx_istore (pc := 1) (lo' := [(5, .int l1), (0, .ref 146), (1, .int l1), (2, .ref l2), (3, .int l3), (4, .int l4)]) dX12_coordinates_1 (by decide) rfl ?_
  refine sx_iconst (pc := 3) (v := 0) dX12_coordinates_3 (by decide) ?_
  refine sx_istore (pc := 4) (lo' := [(6, .int (0 : Int32)), (5, .int l1), (0, .ref 146), (1, .int l1), (2, .ref l2), (3, .int l3), (4, .int l4)]) dX12_coordinates_4 (by decide) rfl ?_
  refine sx_iconst (pc := 6) (v := 0) dX12_coordinates_6 (by decide) ?_
  refine sx_istore (pc := 7) (lo' := [(7, .int (0 : Int32)), (6, .int (0 : Int32)), (5, .int l1), (0, .ref 146), (1, .int l1), (2, .ref l2), (3, .int l3), (4, .int l4)]) dX12_coordinates_7 (by decide) rfl ?_
  refine sx_wk (sx_s1 sx_m3 (sx_s1 sx_m5 (sx_s1 sx_m6 (sx_s1 sx_m7 (sx_s1 sx_m2 (sx_s1 sx_m1 (sx_s1 sx_m0 sx_s0))))))) ?_
  exact tL_X12_coordinates_9 hG hP  N _ _ _ _ _ _ _ h
theorem dX12_composed_0 : decode cX12_composed 0 = .ok (.aload_n 0, 1) := by decide +kernel
theorem dX12_composed_1 : decode cX12_composed 1 = .ok (.getfield 342, 3) := by decide +kernel
theorem dX12_composed_4 : decode cX12_composed 4 = .ok (.bipush 10, 2) := by decide +kernel
theorem dX12_composed_6 : decode cX12_composed 6 = .ok (.iadd, 1) := by decide +kernel
theorem dX12_composed_7 : decode cX12_composed 7 = .ok (.istore_n 1, 1) := by decide +kernel
theorem dX12_composed_8 : decode cX12_composed 8 = .ok (.iconst 1, 1) := by decide +kernel
theorem dX12_composed_9 : decode cX12_composed 9 = .ok (.istore_n 2, 1) := by decide +kernel
theorem dX12_composed_10 : decode cX12_composed 10 = .ok (.iconst 0, 1) := by decide +kernel
theorem dX12_composed_11 : decode cX12_composed 11 = .ok (.istore_n 3, 1) := by decide +kernel
theorem dX12_composed_12 : decode cX12_composed 12 = .ok (.iload_n 2, 1) := by decide +kernel
theorem dX12_composed_13 : decode cX12_composed 13 = .ok (.ifCond .eq 489, 3) := by decide +kernel
theorem dX12_composed_16 : decode cX12_composed 16 = .ok (.aload_n 0, 1) := by decide +kernel
theorem dX12_composed_17 : decode cX12_composed 17 = .ok (.getfield 354, 3) := by decide +kernel
theorem dX12_composed_20 : decode cX12_composed 20 = .ok (.bipush 8, 2) := by decide +kernel
theorem dX12_composed_22 : decode cX12_composed 22 = .ok (.if_icmp .eq 13, 3) := by decide +kernel
theorem dX12_composed_25 : decode cX12_composed 25 = .ok (.iload_n 1, 1) := by decide +kernel
theorem dX12_composed_26 : decode cX12_composed 26 = .ok (.iconst 4, 1) := by decide +kernel
theorem dX12_composed_27 : decode cX12_composed 27 = .ok (.iadd, 1) := by decide +kernel
theorem dX12_composed_28 : decode cX12_composed 28 = .ok (.aload_n 0, 1) := by decide +kernel
theorem dX12_composed_29 : decode cX12_composed 29 = .ok (.getfield 345, 3) := by decide +kernel
theorem dX12_composed_32 : decode cX12_composed 32 = .ok (.if_icmp .le 5, 3) := by decide +kernel
theorem dX12_composed_35 : decode cX12_composed 35 = .ok (.iconst 0, 1) := by decide +kernel
theorem dX12_composed_36 : decode cX12_composed 36 = .ok (.ireturn, 1) := by decide +kernel
theorem dX12_composed_37 : decode cX12_composed 37 = .ok (.aload_n 0, 1) := by decide +kernel
theorem dX12_composed_38 : decode cX12_composed 38 = .ok (.iload_n 1, 1) := by decide +kernel
theorem dX12_composed_39 : decode cX12_composed 39 = .ok (.invokevirtual 213, 3) := by decide +kernel
theorem dX12_composed_42 : decode cX12_composed 42 = .ok (.istore_n 3, 1) := by decide +kernel
theorem dX12_composed_43 : decode cX12_composed 43 = .ok (.aload_n 0, 1) := by decide +kernel
theorem dX12_composed_44 : decode cX12_composed 44 = .ok (.getfield 354, 3) := by decide +kernel
theorem dX12_composed_47 : decode cX12_composed 47 = .ok (.istore 4, 2) := by decide +kernel
theorem dX12_composed_49 : decode cX12_composed 49 = .ok (.aload_n 0, 1) := by decide +kernel
theorem dX12_composed_50 : decode cX12_composed 50 = .ok (.getfield 42, 3) := by decide +kernel
theorem dX12_composed_53 : decode cX12_composed 53 = .ok (.iload 4, 2) := by decide +kernel
theorem dX12_composed_55 : decode cX12_composed 55 = .ok (.iload_n 3, 1) := by decide +kernel
theorem dX12_composed_56 : decode cX12_composed 56 = .ok (.iastore, 1) := by decide +kernel
theorem dX12_composed_57 : decode cX12_composed 57 = .ok (.aload_n 0, 1) := by decide +kernel
theorem dX12_composed_58 : decode cX12_composed 58 = .ok (.getfield 45, 3) := by decide +kernel
theorem dX12_composed_61 : decode cX12_composed 61 = .ok (.iload 4, 2) := by decide +kernel
theorem dX12_composed_63 : decode cX12_composed 63 = .ok (.aload_n 0, 1) := by decide +kernel
theorem dX12_composed_64 : decode cX12_composed 64 = .ok (.iload_n 1, 1) := by decide +kernel
theorem dX12_composed_65 : decode cX12_composed 65 = .ok (.iconst 2, 1) := by decide +kernel
theorem dX12_composed_66 : decode cX12_composed 66 = .ok (.iadd, 1) := by decide +kernel
theorem dX12_composed_67 : decode cX12_composed 67 = .ok (.invokevirtual 213, 3) := by decide +kernel
theorem dX12_composed_70 : decode cX12_composed 70 = .ok (.iastore, 1) := by decide +kernel
theorem dX12_composed_71 : decode cX12_composed 71 = .ok (.iinc 1 4, 3) := by decide +kernel
theorem dX12_composed_74 : decode cX12_composed 74 = .ok (.iload_n 3, 1) := by decide +kernel
theorem dX12_composed_75 : decode cX12_composed 75 = .ok (.iconst 1, 1) := by decide +kernel
theorem dX12_composed_76 : decode cX12_composed 76 = .ok (.iand, 1) := by decide +kernel
theorem dX12_composed_77 : decode cX12_composed 77 = .ok (.ifCond .eq 7, 3) := by decide +kernel
theorem dX12_composed_80 : decode cX12_composed 80 = .ok (.iconst 1, 1) := by decide +kernel
theorem dX12_composed_81 : decode cX12_composed 81 = .ok (.goto 4, 3) := by decide +kernel
theorem dX12_composed_84 : decode cX12_composed 84 = .ok (.iconst 0, 1) := by decide +kernel
theorem dX12_composed_85 : decode cX12_composed 85 = .ok (.istore 5, 2) := by decide +kernel
theorem dX12_composed_87 : decode cX12_composed 87 = .ok (.iload_n 3, 1) := by decide +kernel
theorem dX12_composed_88 : decode cX12_composed 88 = .ok (.iconst 2, 1) := by decide +kernel
theorem dX12_composed_89 : decode cX12_composed 89 = .ok (.iand, 1) := by decide +kernel
theorem dX12_composed_90 : decode cX12_composed 90 = .ok (.ifCond .eq 7, 3) := by decide +kernel
theorem dX12_composed_93 : decode cX12_composed 93 = .ok (.iconst 1, 1) := by decide +kernel
theorem dX12_composed_94 : decode cX12_composed 94 = .ok (.goto 4, 3) := by decide +kernel
theorem dX12_composed_97 : decode cX12_composed 97 = .ok (.iconst 0, 1) := by decide +kernel
theorem dX12_composed_98 : decode cX12_composed 98 = .ok (.istore 6, 2) := by decide +kernel
theorem dX12_composed_100 : decode cX12_composed 100 = .ok (.iload_n 3, 1) := by decide +kernel
theorem dX12_composed_101 : decode cX12_composed 101 = .ok (.bipush 8, 2) := by decide +kernel
theorem dX12_composed_103 : decode cX12_composed 103 = .ok (.iand, 1) := by decide +kernel
theorem dX12_composed_104 : decode cX12_composed 104 = .ok (.ifCond .eq 7, 3) := by decide +kernel
theorem dX12_composed_107 : decode cX12_composed 107 = .ok (.iconst 1, 1) := by decide +kernel
theorem dX12_composed_108 : decode cX12_composed 108 = .ok (.goto 27, 3) := by decide +kernel
theorem dX12_composed_111 : decode cX12_composed 111 = .ok (.iload_n 3, 1) := by decide +kernel
theorem dX12_composed_112 : decode cX12_composed 112 = .ok (.bipush 64, 2) := by decide +kernel
theorem dX12_composed_114 : decode cX12_composed 114 = .ok (.iand, 1) := by decide +kernel
theorem dX12_composed_115 : decode cX12_composed 115 = .ok (.ifCond .eq 7, 3) := by decide +kernel
theorem dX12_composed_118 : decode cX12_composed 118 = .ok (.iconst 2, 1) := by decide +kernel
theorem dX12_composed_119 : decode cX12_composed 119 = .ok (.goto 16, 3) := by decide +kernel
theorem dX12_composed_122 : decode cX12_composed 122 = .ok (.iload_n 3, 1) := by decide +kernel
theorem dX12_composed_123 : decode cX12_composed 123 = .ok (.sipush 128, 3) := by decide +kernel
theorem dX12_composed_126 : decode cX12_composed 126 = .ok (.iand, 1) := by decide +kernel
theorem dX12_composed_127 : decode cX12_composed 127 = .ok (.ifCond .eq 7, 3) := by decide +kernel
theorem dX12_composed_130 : decode cX12_composed 130 = .ok (.iconst 4, 1) := by decide +kernel
theorem dX12_composed_131 : decode cX12_composed 131 = .ok (.goto 4, 3) := by decide +kernel
theorem dX12_composed_134 : decode cX12_composed 134 = .ok (.iconst 0, 1) := by decide +kernel
theorem dX12_composed_135 : decode cX12_composed 135 = .ok (.istore 7, 2) := by decide +kernel
theorem dX12_composed_137 : decode cX12_composed 137 = .ok (.aload_n 0, 1) := by decide +kernel
theorem dX12_composed_138 : decode cX12_composed 138 = .ok (.getfield 45, 3) := by decide +kernel
theorem dX12_composed_141 : decode cX12_composed 141 = .ok (.iload 4, 2) := by decide +kernel
theorem dX12_composed_143 : decode cX12_composed 143 = .ok (.iaload, 1) := by decide +kernel
theorem dX12_composed_144 : decode cX12_composed 144 = .ok (.aload_n 0, 1) := by decide +kernel
theorem dX12_composed_145 : decode cX12_composed 145 = .ok (.getfield 260, 3) := by decide +kernel
theorem dX12_composed_148 : decode cX12_composed 148 = .ok (.if_icmp .ge 27, 3) := by decide +kernel
theorem dX12_composed_151 : decode cX12_composed 151 = .ok (.iload_n 1, 1) := by decide +kernel
theorem dX12_composed_152 : decode cX12_composed 152 = .ok (.iload 5, 2) := by decide +kernel
theorem dX12_composed_154 : decode cX12_composed 154 = .ok (.ifCond .eq 7, 3) := by decide +kernel
theorem dX12_composed_157 : decode cX12_composed 157 = .ok (.iconst 4, 1) := by decide +kernel
theorem dX12_composed_158 : decode cX12_composed 158 = .ok (.goto 4, 3) := by decide +kernel
theorem dX12_composed_161 : decode cX12_composed 161 = .ok (.iconst 2, 1) := by decide +kernel
theorem dX12_composed_162 : decode cX12_composed 162 = .ok (.iadd, 1) := by decide +kernel
theorem dX12_composed_163 : decode cX12_composed 163 = .ok (.iconst 2, 1) := by decide +kernel
theorem dX12_composed_164 : decode cX12_composed 164 = .ok (.iload 7, 2) := by decide +kernel
theorem dX12_composed_166 : decode cX12_composed 166 = .ok (.imul, 1) := by decide +kernel
theorem dX12_composed_167 : decode cX12_composed 167 = .ok (.iadd, 1) := by decide +kernel
theorem dX12_composed_168 : decode cX12_composed 168 = .ok (.aload_n 0, 1) := by decide +kernel
theorem dX12_composed_169 : decode cX12_composed 169 = .ok (.getfield 345, 3) := by decide +kernel
theorem dX12_composed_172 : decode cX12_composed 172 = .ok (.if_icmp .le 5, 3) := by decide +kernel
theorem dX12_composed_175 : decode cX12_composed 175 = .ok (.iconst 0, 1) := by decide +kernel
theorem dX12_composed_176 : decode cX12_composed 176 = .ok (.ireturn, 1) := by decide +kernel
theorem dX12_composed_177 : decode cX12_composed 177 = .ok (.aload_n 0, 1) := by decide +kernel
theorem dX12_composed_178 : decode cX12_composed 178 = .ok (.getfield 48, 3) := by decide +kernel
theorem dX12_composed_181 : decode cX12_composed 181 = .ok (.iload 4, 2) := by decide +kernel
theorem dX12_composed_183 : decode cX12_composed 183 = .ok (.iload 5, 2) := by decide +kernel
theorem dX12_composed_185 : decode cX12_composed 185 = .ok (.ifCond .eq 24, 3) := by decide +kernel
theorem dX12_composed_188 : decode cX12_composed 188 = .ok (.iload 6, 2) := by decide +kernel
theorem dX12_composed_190 : decode cX12_composed 190 = .ok (.ifCond .eq 11, 3) := by decide +kernel
theorem dX12_composed_193 : decode cX12_composed 193 = .ok (.aload_n 0, 1) := by decide +kernel
theorem dX12_composed_194 : decode cX12_composed 194 = .ok (.iload_n 1, 1) := by decide +kernel
theorem dX12_composed_195 : decode cX12_composed 195 = .ok (.invokevirtual 305, 3) := by decide +kernel
theorem dX12_composed_198 : decode cX12_composed 198 = .ok (.goto 29, 3) := by decide +kernel
theorem dX12_composed_201 : decode cX12_composed 201 = .ok (.aload_n 0, 1) := by decide +kernel
theorem dX12_composed_202 : decode cX12_composed 202 = .ok (.iload_n 1, 1) := by decide +kernel
theorem dX12_composed_203 : decode cX12_composed 203 = .ok (.invokevirtual 213, 3) := by decide +kernel
theorem dX12_composed_206 : decode cX12_composed 206 = .ok (.goto 21, 3) := by decide +kernel
theorem dX12_composed_209 : decode cX12_composed 209 = .ok (.iload 6, 2) := by decide +kernel
theorem dX12_composed_211 : decode cX12_composed 211 = .ok (.ifCond .eq 11, 3) := by decide +kernel
theorem dX12_composed_214 : decode cX12_composed 214 = .ok (.aload_n 0, 1) := by decide +kernel
theorem dX12_composed_215 : decode cX12_composed 215 = .ok (.iload_n 1, 1) := by decide +kernel
theorem dX12_composed_216 : decode cX12_composed 216 = .ok (.invokevirtual 377, 3) := by decide +kernel
theorem dX12_composed_219 : decode cX12_composed 219 = .ok (.goto 8, 3) := by decide +kernel
theorem dX12_composed_222 : decode cX12_composed 222 = .ok (.aload_n 0, 1) := by decide +kernel
theorem dX12_composed_223 : decode cX12_composed 223 = .ok (.iload_n 1, 1) := by decide +kernel
theorem dX12_composed_224 : decode cX12_composed 224 = .ok (.invokevirtual 209, 3) := by decide +kernel
theorem dX12_composed_227 : decode cX12_composed 227 = .ok (.iastore, 1) := by decide +kernel
theorem dX12_composed_228 : decode cX12_composed 228 = .ok (.aload_n 0, 1) := by decide +kernel
theorem dX12_composed_229 : decode cX12_composed 229 = .ok (.getfield 51, 3) := by decide +kernel
theorem dX12_composed_232 : decode cX12_composed 232 = .ok (.iload 4, 2) := by decide +kernel
theorem dX12_composed_234 : decode cX12_composed 234 = .ok (.iload 5, 2) := by decide +kernel
theorem dX12_composed_236 : decode cX12_composed 236 = .ok (.ifCond .eq 28, 3) := by decide +kernel
theorem dX12_composed_239 : decode cX12_composed 239 = .ok (.iload 6, 2) := by decide +kernel
theorem dX12_composed_241 : decode cX12_composed 241 = .ok (.ifCond .eq 13, 3) := by decide +kernel
theorem dX12_composed_244 : decode cX12_composed 244 = .ok (.aload_n 0, 1) := by decide +kernel
theorem dX12_composed_245 : decode cX12_composed 245 = .ok (.iload_n 1, 1) := by decide +kernel
theorem dX12_composed_246 : decode cX12_composed 246 = .ok (.iconst 2, 1) := by decide +kernel
theorem dX12_composed_247 : decode cX12_composed 247 = .ok (.iadd, 1) := by decide +kernel
theorem dX12_composed_248 : decode cX12_composed 248 = .ok (.invokevirtual 305, 3) := by decide +kernel
theorem dX12_composed_251 : decode cX12_composed 251 = .ok (.goto 35, 3) := by decide +kernel
theorem dX12_composed_254 : decode cX12_composed 254 = .ok (.aload_n 0, 1) := by decide +kernel
theorem dX12_composed_255 : decode cX12_composed 255 = .ok (.iload_n 1, 1) := by decide +kernel
theorem dX12_composed_256 : decode cX12_composed 256 = .ok (.iconst 2, 1) := by decide +kernel
theorem dX12_composed_257 : decode cX12_composed 257 = .ok (.iadd, 1) := by decide +kernel
theorem dX12_composed_258 : decode cX12_composed 258 = .ok (.invokevirtual 213, 3) := by decide +kernel
theorem dX12_composed_261 : decode cX12_composed 261 = .ok (.goto 25, 3) := by decide +kernel
theorem dX12_composed_264 : decode cX12_composed 264 = .ok (.iload 6, 2) := by decide +kernel
theorem dX12_composed_266 : decode cX12_composed 266 = .ok (.ifCond .eq 13, 3) := by decide +kernel
theorem dX12_composed_269 : decode cX12_composed 269 = .ok (.aload_n 0, 1) := by decide +kernel
theorem dX12_composed_270 : decode cX12_composed 270 = .ok (.iload_n 1, 1) := by decide +kernel
theorem dX12_composed_271 : decode cX12_composed 271 = .ok (.iconst 1, 1) := by decide +kernel
theorem dX12_composed_272 : decode cX12_composed 272 = .ok (.iadd, 1) := by decide +kernel
theorem dX12_composed_273 : decode cX12_composed 273 = .ok (.invokevirtual 377, 3) := by decide +kernel
theorem dX12_composed_276 : decode cX12_composed 276 = .ok (.goto 10, 3) := by decide +kernel
theorem dX12_composed_279 : decode cX12_composed 279 = .ok (.aload_n 0, 1) := by decide +kernel
theorem dX12_composed_280 : decode cX12_composed 280 = .ok (.iload_n 1, 1) := by decide +kernel
theorem dX12_composed_281 : decode cX12_composed 281 = .ok (.iconst 1, 1) := by decide +kernel
theorem dX12_composed_282 : decode cX12_composed 282 = .ok (.iadd, 1) := by decide +kernel
theorem dX12_composed_283 : decode cX12_composed 283 = .ok (.invokevirtual 209, 3) := by decide +kernel
theorem dX12_composed_286 : decode cX12_composed 286 = .ok (.iastore, 1) := by decide +kernel
theorem dX12_composed_287 : decode cX12_composed 287 = .ok (.iload_n 1, 1) := by decide +kernel
theorem dX12_composed_288 : decode cX12_composed 288 = .ok (.iload 5, 2) := by decide +kernel
theorem dX12_composed_290 : decode cX12_composed 290 = .ok (.ifCond .eq 7, 3) := by decide +kernel
theorem dX12_composed_293 : decode cX12_composed 293 = .ok (.iconst 4, 1) := by decide +kernel
theorem dX12_composed_294 : decode cX12_composed 294 = .ok (.goto 4, 3) := by decide +kernel
theorem dX12_composed_297 : decode cX12_composed 297 = .ok (.iconst 2, 1) := by decide +kernel
theorem dX12_composed_298 : decode cX12_composed 298 = .ok (.iadd, 1) := by decide +kernel
theorem dX12_composed_299 : decode cX12_composed 299 = .ok (.istore_n 1, 1) := by decide +kernel
theorem dX12_composed_300 : decode cX12_composed 300 = .ok (.iconst 0, 1) := by decide +kernel
theorem dX12_composed_301 : decode cX12_composed 301 = .ok (.istore 8, 2) := by decide +kernel
theorem dX12_composed_303 : decode cX12_composed 303 = .ok (.iload 8, 2) := by decide +kernel
theorem dX12_composed_305 : decode cX12_composed 305 = .ok (.iconst 4, 1) := by decide +kernel
theorem dX12_composed_306 : decode cX12_composed 306 = .ok (.if_icmp .ge 22, 3) := by decide +kernel
theorem dX12_composed_309 : decode cX12_composed 309 = .ok (.aload_n 0, 1) := by decide +kernel
theorem dX12_composed_310 : decode cX12_composed 310 = .ok (.getfield 54, 3) := by decide +kernel
theorem dX12_composed_313 : decode cX12_composed 313 = .ok (.iconst 4, 1) := by decide +kernel
theorem dX12_composed_314 : decode cX12_composed 314 = .ok (.iload 4, 2) := by decide +kernel
theorem dX12_composed_316 : decode cX12_composed 316 = .ok (.imul, 1) := by decide +kernel
theorem dX12_composed_317 : decode cX12_composed 317 = .ok (.iload 8, 2) := by decide +kernel
theorem dX12_composed_319 : decode cX12_composed 319 = .ok (.iadd, 1) := by decide +kernel
theorem dX12_composed_320 : decode cX12_composed 320 = .ok (.iconst 0, 1) := by decide +kernel
theorem dX12_composed_321 : decode cX12_composed 321 = .ok (.iastore, 1) := by decide +kernel
theorem dX12_composed_322 : decode cX12_composed 322 = .ok (.iinc 8 1, 3) := by decide +kernel
theorem dX12_composed_325 : decode cX12_composed 325 = .ok (.goto (-22), 3) := by decide +kernel
theorem dX12_composed_328 : decode cX12_composed 328 = .ok (.aload_n 0, 1) := by decide +kernel
theorem dX12_composed_329 : decode cX12_composed 329 = .ok (.getfield 54, 3) := by decide +kernel
theorem dX12_composed_332 : decode cX12_composed 332 = .ok (.iconst 4, 1) := by decide +kernel
theorem dX12_composed_333 : decode cX12_composed 333 = .ok (.iload 4, 2) := by decide +kernel
theorem dX12_composed_335 : decode cX12_composed 335 = .ok (.imul, 1) := by decide +kernel
theorem dX12_composed_336 : decode cX12_composed 336 = .ok (.iload 7, 2) := by decide +kernel
theorem dX12_composed_338 : decode cX12_composed 338 = .ok (.ifCond .ne 9, 3) := by decide +kernel
theorem dX12_composed_341 : decode cX12_composed 341 = .ok (.sipush 16384, 3) := by decide +kernel
theorem dX12_composed_344 : decode cX12_composed 344 = .ok (.goto 8, 3) := by decide +kernel
theorem dX12_composed_347 : decode cX12_composed 347 = .ok (.aload_n 0, 1) := by decide +kernel
theorem dX12_composed_348 : decode cX12_composed 348 = .ok (.iload_n 1, 1) := by decide +kernel
theorem dX12_composed_349 : decode cX12_composed 349 = .ok (.invokevirtual 305, 3) := by decide +kernel
theorem dX12_composed_352 : decode cX12_composed 352 = .ok (.iastore, 1) := by decide +kernel
theorem dX12_composed_353 : decode cX12_composed 353 = .ok (.aload_n 0, 1) := by decide +kernel
theorem dX12_composed_354 : decode cX12_composed 354 = .ok (.getfield 54, 3) := by decide +kernel
theorem dX12_composed_357 : decode cX12_composed 357 = .ok (.iconst 4, 1) := by decide +kernel
theorem dX12_composed_358 : decode cX12_composed 358 = .ok (.iload 4, 2) := by decide +kernel
theorem dX12_composed_360 : decode cX12_composed 360 = .ok (.imul, 1) := by decide +kernel
theorem dX12_composed_361 : decode cX12_composed 361 = .ok (.iconst 3, 1) := by decide +kernel
theorem dX12_composed_362 : decode cX12_composed 362 = .ok (.iadd, 1) := by decide +kernel
theorem dX12_composed_363 : decode cX12_composed 363 = .ok (.iload 7, 2) := by decide +kernel
theorem dX12_composed_365 : decode cX12_composed 365 = .ok (.ifCond .ne 9, 3) := by decide +kernel
theorem dX12_composed_368 : decode cX12_composed 368 = .ok (.sipush 16384, 3) := by decide +kernel
theorem dX12_composed_371 : decode cX12_composed 371 = .ok (.goto 41, 3) := by decide +kernel
theorem dX12_composed_374 : decode cX12_composed 374 = .ok (.iload 7, 2) := by decide +kernel
theorem dX12_composed_376 : decode cX12_composed 376 = .ok (.iconst 1, 1) := by decide +kernel
theorem dX12_composed_377 : decode cX12_composed 377 = .ok (.if_icmp .ne 11, 3) := by decide +kernel
theorem dX12_composed_380 : decode cX12_composed 380 = .ok (.aload_n 0, 1) := by decide +kernel
theorem dX12_composed_381 : decode cX12_composed 381 = .ok (.iload_n 1, 1) := by decide +kernel
theorem dX12_composed_382 : decode cX12_composed 382 = .ok (.invokevirtual 305, 3) := by decide +kernel
theorem dX12_composed_385 : decode cX12_composed 385 = .ok (.goto 27, 3) := by decide +kernel
theorem dX12_composed_388 : decode cX12_composed 388 = .ok (.iload 7, 2) := by decide +kernel
theorem dX12_composed_390 : decode cX12_composed 390 = .ok (.iconst 2, 1) := by decide +kernel
theorem dX12_composed_391 : decode cX12_composed 391 = .ok (.if_icmp .ne 13, 3) := by decide +kernel
theorem dX12_composed_394 : decode cX12_composed 394 = .ok (.aload_n 0, 1) := by decide +kernel
theorem dX12_composed_395 : decode cX12_composed 395 = .ok (.iload_n 1, 1) := by decide +kernel
theorem dX12_composed_396 : decode cX12_composed 396 = .ok (.iconst 2, 1) := by decide +kernel
theorem dX12_composed_397 : decode cX12_composed 397 = .ok (.iadd, 1) := by decide +kernel
theorem dX12_composed_398 : decode cX12_composed 398 = .ok (.invokevirtual 305, 3) := by decide +kernel
theorem dX12_composed_401 : decode cX12_composed 401 = .ok (.goto 11, 3) := by decide +kernel
theorem dX12_composed_404 : decode cX12_composed 404 = .ok (.aload_n 0, 1) := by decide +kernel
theorem dX12_composed_405 : decode cX12_composed 405 = .ok (.iload_n 1, 1) := by decide +kernel
theorem dX12_composed_406 : decode cX12_composed 406 = .ok (.bipush 6, 2) := by decide +kernel
theorem dX12_composed_408 : decode cX12_composed 408 = .ok (.iadd, 1) := by decide +kernel
theorem dX12_composed_409 : decode cX12_composed 409 = .ok (.invokevirtual 305, 3) := by decide +kernel
theorem dX12_composed_412 : decode cX12_composed 412 = .ok (.iastore, 1) := by decide +kernel
theorem dX12_composed_413 : decode cX12_composed 413 = .ok (.aload_n 0, 1) := by decide +kernel
theorem dX12_composed_414 : decode cX12_composed 414 = .ok (.getfield 54, 3) := by decide +kernel
theorem dX12_composed_417 : decode cX12_composed 417 = .ok (.iconst 4, 1) := by decide +kernel
theorem dX12_composed_418 : decode cX12_composed 418 = .ok (.iload 4, 2) := by decide +kernel
theorem dX12_composed_420 : decode cX12_composed 420 = .ok (.imul, 1) := by decide +kernel
theorem dX12_composed_421 : decode cX12_composed 421 = .ok (.iconst 1, 1) := by decide +kernel
theorem dX12_composed_422 : decode cX12_composed 422 = .ok (.iadd, 1) := by decide +kernel
theorem dX12_composed_423 : decode cX12_composed 423 = .ok (.iload 7, 2) := by decide +kernel
theorem dX12_composed_425 : decode cX12_composed 425 = .ok (.iconst 4, 1) := by decide +kernel
theorem dX12_composed_426 : decode cX12_composed 426 = .ok (.if_icmp .ne 13, 3) := by decide +kernel
theorem dX12_composed_429 : decode cX12_composed 429 = .ok (.aload_n 0, 1) := by decide +kernel
theorem dX12_composed_430 : decode cX12_composed 430 = .ok (.iload_n 1, 1) := by decide +kernel
theorem dX12_composed_431 : decode cX12_composed 431 = .ok (.iconst 2, 1) := by decide +kernel
theorem dX12_composed_432 : decode cX12_composed 432 = .ok (.iadd, 1) := by decide +kernel
theorem dX12_composed_433 : decode cX12_composed 433 = .ok (.invokevirtual 305, 3) := by decide +kernel
theorem dX12_composed_436 : decode cX12_composed 436 = .ok (.goto 4, 3) := by decide +kernel
theorem dX12_composed_439 : decode cX12_composed 439 = .ok (.iconst 0, 1) := by decide +kernel
theorem dX12_composed_440 : decode cX12_composed 440 = .ok (.iastore, 1) := by decide +kernel
theorem dX12_composed_441 : decode cX12_composed 441 = .ok (.aload_n 0, 1) := by decide +kernel
theorem dX12_composed_442 : decode cX12_composed 442 = .ok (.getfield 54, 3) := by decide +kernel
theorem dX12_composed_445 : decode cX12_composed 445 = .ok (.iconst 4, 1) := by decide +kernel
theorem dX12_composed_446 : decode cX12_composed 446 = .ok (.iload 4, 2) := by decide +kernel
theorem dX12_composed_448 : decode cX12_composed 448 = .ok (.imul, 1) := by decide +kernel
theorem dX12_composed_449 : decode cX12_composed 449 = .ok (.iconst 2, 1) := by decide +kernel
theorem dX12_composed_450 : decode cX12_composed 450 = .ok (.iadd, 1) := by decide +kernel
theorem dX12_composed_451 : decode cX12_composed 451 = .ok (.iload 7, 2) := by decide +kernel
theorem dX12_composed_453 : decode cX12_composed 453 = .ok (.iconst 4, 1) := by decide +kernel
theorem dX12_composed_454 : decode cX12_composed 454 = .ok (.if_icmp .ne 13, 3) := by decide +kernel
theorem dX12_composed_457 : decode cX12_composed 457 = .ok (.aload_n 0, 1) := by decide +kernel
theorem dX12_composed_458 : decode cX12_composed 458 = .ok (.iload_n 1, 1) := by decide +kernel
theorem dX12_composed_459 : decode cX12_composed 459 = .ok (.iconst 4, 1) := by decide +kernel
theorem dX12_composed_460 : decode cX12_composed 460 = .ok (.iadd, 1) := by decide +kernel
theorem dX12_composed_461 : decode cX12_composed 461 = .ok (.invokevirtual 305, 3) := by decide +kernel
theorem dX12_composed_464 : decode cX12_composed 464 = .ok (.goto 4, 3) := by decide +kernel
theorem dX12_composed_467 : decode cX12_composed 467 = .ok (.iconst 0, 1) := by decide +kernel
theorem dX12_composed_468 : decode cX12_composed 468 = .ok (.iastore, 1) := by decide +kernel
theorem dX12_composed_469 : decode cX12_composed 469 = .ok (.iload_n 1, 1) := by decide +kernel
theorem dX12_composed_470 : decode cX12_composed 470 = .ok (.iconst 2, 1) := by decide +kernel
theorem dX12_composed_471 : decode cX12_composed 471 = .ok (.iload 7, 2) := by decide +kernel
theorem dX12_composed_473 : decode cX12_composed 473 = .ok (.imul, 1) := by decide +kernel
theorem dX12_composed_474 : decode cX12_composed 474 = .ok (.iadd, 1) := by decide +kernel
theorem dX12_composed_475 : decode cX12_composed 475 = .ok (.istore_n 1, 1) := by decide +kernel
theorem dX12_composed_476 : decode cX12_composed 476 = .ok (.aload_n 0, 1) := by decide +kernel
theorem dX12_composed_477 : decode cX12_composed 477 = .ok (.dup, 1) := by decide +kernel
theorem dX12_composed_478 : decode cX12_composed 478 = .ok (.getfield 354, 3) := by decide +kernel
theorem dX12_composed_481 : decode cX12_composed 481 = .ok (.iconst 1, 1) := by decide +kernel
theorem dX12_composed_482 : decode cX12_composed 482 = .ok (.iadd, 1) := by decide +kernel
theorem dX12_composed_483 : decode cX12_composed 483 = .ok (.putfield 354, 3) := by decide +kernel
theorem dX12_composed_486 : decode cX12_composed 486 = .ok (.iload_n 3, 1) := by decide +kernel
theorem dX12_composed_487 : decode cX12_composed 487 = .ok (.bipush 32, 2) := by decide +kernel
theorem dX12_composed_489 : decode cX12_composed 489 = .ok (.iand, 1) := by decide +kernel
theorem dX12_composed_490 : decode cX12_composed 490 = .ok (.ifCond .eq 7, 3) := by decide +kernel
theorem dX12_composed_493 : decode cX12_composed 493 = .ok (.iconst 1, 1) := by decide +kernel
theorem dX12_composed_494 : decode cX12_composed 494 = .ok (.goto 4, 3) := by decide +kernel
theorem dX12_composed_497 : decode cX12_composed 497 = .ok (.iconst 0, 1) := by decide +kernel
theorem dX12_composed_498 : decode cX12_composed 498 = .ok (.istore_n 2, 1) := by decide +kernel
theorem dX12_composed_499 : decode cX12_composed 499 = .ok (.goto (-487), 3) := by decide +kernel
theorem dX12_composed_502 : decode cX12_composed 502 = .ok (.iload_n 3, 1) := by decide +kernel
theorem dX12_composed_503 : decode cX12_composed 503 = .ok (.sipush 256, 3) := by decide +kernel
theorem dX12_composed_506 : decode cX12_composed 506 = .ok (.iand, 1) := by decide +kernel
theorem dX12_composed_507 : decode cX12_composed 507 = .ok (.ifCond .eq 59, 3) := by decide +kernel
theorem dX12_composed_510 : decode cX12_composed 510 = .ok (.iload_n 1, 1) := by decide +kernel
theorem dX12_composed_511 : decode cX12_composed 511 = .ok (.iconst 2, 1) := by decide +kernel
theorem dX12_composed_512 : decode cX12_composed 512 = .ok (.iadd, 1) := by decide +kernel
theorem dX12_composed_513 : decode cX12_composed 513 = .ok (.aload_n 0, 1) := by decide +kernel
theorem dX12_composed_514 : decode cX12_composed 514 = .ok (.getfield 345, 3) := by decide +kernel
theorem dX12_composed_517 : decode cX12_composed 517 = .ok (.if_icmp .le 5, 3) := by decide +kernel
theorem dX12_composed_520 : decode cX12_composed 520 = .ok (.iconst 0, 1) := by decide +kernel
theorem dX12_composed_521 : decode cX12_composed 521 = .ok (.ireturn, 1) := by decide +kernel
theorem dX12_composed_522 : decode cX12_composed 522 = .ok (.aload_n 0, 1) := by decide +kernel
theorem dX12_composed_523 : decode cX12_composed 523 = .ok (.aload_n 0, 1) := by decide +kernel
theorem dX12_composed_524 : decode cX12_composed 524 = .ok (.iload_n 1, 1) := by decide +kernel
theorem dX12_composed_525 : decode cX12_composed 525 = .ok (.invokevirtual 213, 3) := by decide +kernel
theorem dX12_composed_528 : decode cX12_composed 528 = .ok (.putfield 360, 3) := by decide +kernel
theorem dX12_composed_531 : decode cX12_composed 531 = .ok (.aload_n 0, 1) := by decide +kernel
theorem dX12_composed_532 : decode cX12_composed 532 = .ok (.iload_n 1, 1) := by decide +kernel
theorem dX12_composed_533 : decode cX12_composed 533 = .ok (.iconst 2, 1) := by decide +kernel
theorem dX12_composed_534 : decode cX12_composed 534 = .ok (.iadd, 1) := by decide +kernel
theorem dX12_composed_535 : decode cX12_composed 535 = .ok (.putfield 357, 3) := by decide +kernel
theorem dX12_composed_538 : decode cX12_composed 538 = .ok (.aload_n 0, 1) := by decide +kernel
theorem dX12_composed_539 : decode cX12_composed 539 = .ok (.getfield 360, 3) := by decide +kernel
theorem dX12_composed_542 : decode cX12_composed 542 = .ok (.sipush 400, 3) := by decide +kernel
theorem dX12_composed_545 : decode cX12_composed 545 = .ok (.if_icmp .gt 19, 3) := by decide +kernel
theorem dX12_composed_548 : decode cX12_composed 548 = .ok (.aload_n 0, 1) := by decide +kernel
theorem dX12_composed_549 : decode cX12_composed 549 = .ok (.getfield 357, 3) := by decide +kernel
theorem dX12_composed_552 : decode cX12_composed 552 = .ok (.aload_n 0, 1) := by decide +kernel
theorem dX12_composed_553 : decode cX12_composed 553 = .ok (.getfield 360, 3) := by decide +kernel
theorem dX12_composed_556 : decode cX12_composed 556 = .ok (.iadd, 1) := by decide +kernel
theorem dX12_composed_557 : decode cX12_composed 557 = .ok (.aload_n 0, 1) := by decide +kernel
theorem dX12_composed_558 : decode cX12_composed 558 = .ok (.getfield 345, 3) := by decide +kernel
theorem dX12_composed_561 : decode cX12_composed 561 = .ok (.if_icmp .le 5, 3) := by decide +kernel
theorem dX12_composed_564 : decode cX12_composed 564 = .ok (.iconst 0, 1) := by decide +kernel
theorem dX12_composed_565 : decode cX12_composed 565 = .ok (.ireturn, 1) := by decide +kernel
theorem dX12_composed_566 : decode cX12_composed 566 = .ok (.iconst 1, 1) := by decide +kernel
theorem dX12_composed_567 : decode cX12_composed 567 = .ok (.ireturn, 1) := by decide +kernel
def B_X12_composed_498 (N : Nat) (k12 : Int32 → Int32 → Int32 → sv_V → Option (Int32 × sv_V)) (l1 : Int32) (l3 : Int32) (s0 : Int32) (V : sv_V) : Option (Int32 × sv_V) := k12 l1 s0 l3 V
set_option maxRecDepth 20000 in
theorem tB_X12_composed_498 {g : sx_G} (hG : sx_Go g) {P : Option Value → sv_V → Prop} {r : Int32} {Vr : sv_V} (hP : P (some (.int r)) Vr) {N : Nat} {k12 : Int32 → Int32 → Int32 → sv_V → Option (Int32 × sv_V)} (hk12 : ∀ (l1 : Int32) (l2 : Int32) (l3 : Int32) (V : sv_V), k12 l1 l2 l3 V = some (r, Vr) → sv_N g qX12_composed 3 12 [(0, .ref 146), (1, .int l1), (2, .int l2), (3, .int l3)] [] V P) {l1 : Int32} {l3 : Int32} {s0 : Int32} {V : sv_V} (h : B_X12_composed_498 N k12 l1 l3 s0 V = some (r, Vr)) : sv_N g qX12_composed 3 498 [(0, .ref 146), (1, .int l1), (3, .int l3)] [.int s0] V P := by
  unfold B_X12_composed_498 at h
  refine sx_istore_n (pc := 498) (lo' := [(2, .int s0), (0, .ref 146), (1, .int l1), (3, .int l3)]) dX12_composed_498 (by decide) rfl ?_
  refine sx_goto (pc := 499) (tgt := 12) dX12_composed_499 (by decide) ?_
  refine sx_wk (sx_s1 sx_m1 (sx_s1 sx_m2 (sx_s1 sx_m0 (sx_s1 sx_m3 sx_s0)))) ?_
  exact hk12 _ _ _ _ h
def B_X12_composed_468 (N : Nat) (k12 : Int32 → Int32 → Int32 → sv_V → Option (Int32 × sv_V)) (l1 : Int32) (l3 : Int32) (l7 : Int32) (s1 : Int32) (s2 : Int32) (V : sv_V) : Option (Int32 × sv_V) := if sx_in s1 32 = true then sx_let (sv_I V 161 s1.toNatClampNeg s2) (fun V2 => sx_let (l1 + ((2 : Int32) * l7)) (fun x3 => sx_let (sv_I V2 146 30 ((V2.1 146 30) + (1 : Int32))) (fun V4 => if (l3 &&& (32 : Int32)) = 0 then (B_X12_composed_498 N k12 x3 l3 (0 : Int32) V4) else (B_X12_composed_498 N k12 x3 l3 (1 : Int32) V4)))) else none
set_option maxRecDepth 20000 in
theorem tB_X12_composed_468 {g : sx_G} (hG : sx_Go g) {P : Option Value → sv_V → Prop} {r : Int32} {Vr : sv_V} (hP : P (some (.int r)) Vr) {N : Nat} {k12 : Int32 → Int32 → Int32 → sv_V → Option (Int32 × sv_V)} (hk12 : ∀ (l1 : Int32) (l2 : Int32) (l3 : Int32) (V : sv_V), k12 l1 l2 l3 V = some (r, Vr) → sv_N g qX12_composed 3 12 [(0, .ref 146), (1, .int l1), (2, .int l2), (3, .int l3)] [] V P) {l1 : Int32} {l3 : Int32} {l7 : Int32} {s1 : Int32} {s2 : Int32} {V : sv_V} (h : B_X12_composed_468 N k12 l1 l3 l7 s1 s2 V = some (r, Vr)) : sv_N g qX12_composed 3 468 [(0, .ref 146), (1, .int l1), (3, .int l3), (7, .int l7)] [.int s2, .int s1, .ref 161] V P := by
  unfold B_X12_composed_468 at h
  obtain ⟨g1, h⟩ := sx_grd h
  obtain ⟨V2, hV2⟩ : ∃ z : sv_V, z = sv_I V 161 s1.toNatClampNeg s2 := ⟨_, rfl⟩
  have h := sx_letE hV2 h
  refine sv_iast (pc := 468) hG dX12_composed_468 lay_161 g1 hV2 ?_
  refine sx_iload_n (pc := 469) dX12_composed_469 sx_m1 ?_
  refine sx_iconst (pc := 470) (v := 2) dX12_composed_470 (by decide) ?_
  refine sx_iload (pc := 471) dX12_composed_471 sx_m3 ?_
  refine sx_imul (pc := 473) dX12_composed_473 ?_
  refine sx_iadd (pc := 474) dX12_composed_474 ?_
  refine sv_tI (fun x3 hx3 => ?_)
  have h := sx_letE hx3 h
  refine sx_istore_n (pc := 475) (lo' := [(1, .int x3), (0, .ref 146), (3, .int l3), (7, .int l7)]) dX12_composed_475 (by decide) rfl ?_
  refine sx_aload_n (pc := 476) dX12_composed_476 sx_m1 ?_
  refine sx_dup (pc := 477) dX12_composed_477 rfl ?_
  refine sv_getI (pc := 478) hG dX12_composed_478 f_12_354 lay_146 rfl ?_
  refine sx_iconst (pc := 481) (v := 1) dX12_composed_481 (by decide) ?_
  refine sx_iadd (pc := 482) dX12_composed_482 ?_
  obtain ⟨V4, hV4⟩ : ∃ z : sv_V, z = sv_I V2 146 30 ((V2.1 146 30) + (1 : Int32)) := ⟨_, rfl⟩
  have h := sx_letE hV4 h
  refine sv_putI (pc := 483) hG dX12_composed_483 f_12_354 lay_146 rfl hV4 ?_
  refine sx_iload_n (pc := 486) dX12_composed_486 sx_m2 ?_
  refine sx_bipush (pc := 487) (v := 32) dX12_composed_487 (by decide) ?_
  refine sx_iand (pc := 489) dX12_composed_489 ?_
  refine sx_if_eq (pc := 490) (tgt := 497) dX12_composed_490 (by decide) (fun c5 => ?_) (fun c5 => ?_)
  · have h := sx_pos c5 h
    refine sx_iconst (pc := 497) (v := 0) dX12_composed_497 (by decide) ?_
    refine sx_wk (sx_s1 sx_m1 (sx_s1 sx_m0 (sx_s1 sx_m2 sx_s0))) ?_
    exact tB_X12_composed_498 hG hP hk12 h
  · have h := sx_neg c5 h
    refine sx_iconst (pc := 493) (v := 1) dX12_composed_493 (by decide) ?_
    refine sx_goto (pc := 494) (tgt := 498) dX12_composed_494 (by decide) ?_
    refine sx_wk (sx_s1 sx_m1 (sx_s1 sx_m0 (sx_s1 sx_m2 sx_s0))) ?_
    exact tB_X12_composed_498 hG hP hk12 h
def B_X12_composed_440 (N : Nat) (k12 : Int32 → Int32 → Int32 → sv_V → Option (Int32 × sv_V)) (l1 : Int32) (l3 : Int32) (l4 : Int32) (l7 : Int32) (s1 : Int32) (s2 : Int32) (V : sv_V) : Option (Int32 × sv_V) := if sx_in s1 32 = true then sx_let (sv_I V 161 s1.toNatClampNeg s2) (fun V7 => if l7 = (4 : Int32) then ((F_X12_s2 (l1 + (4 : Int32)) V7).bind (fun (x11, V9) => B_X12_composed_468 N k12 l1 l3 l7 (((4 : Int32) * l4) + (2 : Int32)) x11 V9)) else (B_X12_composed_468 N k12 l1 l3 l7 (((4 : Int32) * l4) + (2 : Int32)) (0 : Int32) V7)) else none
set_option maxRecDepth 20000 in
theorem tB_X12_composed_440 {g : sx_G} (hG : sx_Go g) {P : Option Value → sv_V → Prop} {r : Int32} {Vr : sv_V} (hP : P (some (.int r)) Vr) {N : Nat} {k12 : Int32 → Int32 → Int32 → sv_V → Option (Int32 × sv_V)} (hk12 : ∀ (l1 : Int32) (l2 : Int32) (l3 : Int32) (V : sv_V), k12 l1 l2 l3 V = some (r, Vr) → sv_N g qX12_composed 3 12 [(0, .ref 146), (1, .int l1), (2, .int l2), (3, .int l3)] [] V P) {l1 : Int32} {l3 : Int32} {l4 : Int32} {l7 : Int32} {s1 : Int32} {s2 : Int32} {V : sv_V} (h : B_X12_composed_440 N k12 l1 l3 l4 l7 s1 s2 V = some (r, Vr)) : sv_N g qX12_composed 3 440 [(0, .ref 146), (1, .int l1), (3, .int l3), (4, .int l4), (7, .int l7)] [.int s2, .int s1, .ref 161] V P := by
  unfold B_X12_composed_440 at h
  obtain ⟨g6, h⟩ := sx_grd h
  obtain ⟨V7, hV7⟩ : ∃ z : sv_V, z = sv_I V 161 s1.toNatClampNeg s2 := ⟨_, rfl⟩
  have h := sx_letE hV7 h
  refine sv_iast (pc := 440) hG dX12_composed_440 lay_161 g6 hV7 ?_
  refine sx_aload_n (pc := 441) dX12_composed_441 sx_m0 ?_
  refine sv_getA (pc := 442) hG dX12_composed_442 f_12_54 lay_146 rfl cr_146_41 ?_
  refine sx_iconst (pc := 445) (v := 4) dX12_composed_445 (by decide) ?_
  refine sx_iload (pc := 446) dX12_composed_446 sx_m3 ?_
  refine sx_imul (pc := 448) dX12_composed_448 ?_
  refine sx_iconst (pc := 449) (v := 2) dX12_composed_449 (by decide) ?_
  refine sx_iadd (pc := 450) dX12_composed_450 ?_
  refine sx_iload (pc := 451) dX12_composed_451 sx_m4 ?_
  refine sx_iconst (pc := 453) (v := 4) dX12_composed_453 (by decide) ?_
  refine sx_icmp_ne (pc := 454) (tgt := 467) dX12_composed_454 (by decide) (fun c8 => ?_) (fun c8 => ?_)
  · have h := sx_neg c8 h
    refine sx_iconst (pc := 467) (v := 0) dX12_composed_467 (by decide) ?_
    refine sx_wk (sx_s1 sx_m0 (sx_s1 sx_m1 (sx_s1 sx_m2 (sx_s1 sx_m4 sx_s0)))) ?_
    exact tB_X12_composed_468 hG hP hk12 h
  · have h := sx_pos c8 h
    refine sx_aload_n (pc := 457) dX12_composed_457 sx_m0 ?_
    refine sx_iload_n (pc := 458) dX12_composed_458 sx_m1 ?_
    refine sx_iconst (pc := 459) (v := 4) dX12_composed_459 (by decide) ?_
    refine sx_iadd (pc := 460) dX12_composed_460 ?_
    obtain ⟨⟨x11, V9⟩, g10, h⟩ := sx_bnd h
    refine sv_cV (pc := 461) (y := qX12_s2) (o := (some (.int x11))) (as := [.int (l1 + (4 : Int32))]) (V1 := V9) hG dX12_composed_461 l_X12_305 y0X12_s2 yvX12_s2 rfl (Nat.le_of_ble_eq_true rfl) lay_146 kr_12 (by decide) (Nat.le_of_ble_eq_true rfl) rfl rfl rfl (t_X12_s2 hG ⟨rfl, rfl⟩ g10) ?_
    refine sx_goto (pc := 464) (tgt := 468) dX12_composed_464 (by decide) ?_
    refine sx_wk (sx_s1 sx_m0 (sx_s1 sx_m1 (sx_s1 sx_m2 (sx_s1 sx_m4 sx_s0)))) ?_
    exact tB_X12_composed_468 hG hP hk12 h
def B_X12_composed_412 (N : Nat) (k12 : Int32 → Int32 → Int32 → sv_V → Option (Int32 × sv_V)) (l1 : Int32) (l3 : Int32) (l4 : Int32) (l7 : Int32) (s1 : Int32) (s2 : Int32) (V : sv_V) : Option (Int32 × sv_V) := if sx_in s1 32 = true then sx_let (sv_I V 161 s1.toNatClampNeg s2) (fun V13 => if l7 = (4 : Int32) then ((F_X12_s2 (l1 + (2 : Int32)) V13).bind (fun (x17, V15) => B_X12_composed_440 N k12 l1 l3 l4 l7 (((4 : Int32) * l4) + (1 : Int32)) x17 V15)) else (B_X12_composed_440 N k12 l1 l3 l4 l7 (((4 : Int32) * l4) + (1 : Int32)) (0 : Int32) V13)) else none
set_option maxRecDepth 20000 in
theorem tB_X12_composed_412 {g : sx_G} (hG : sx_Go g) {P : Option Value → sv_V → Prop} {r : Int32} {Vr : sv_V} (hP : P (some (.int r)) Vr) {N : Nat} {k12 : Int32 → Int32 → Int32 → sv_V → Option (Int32 × sv_V)} (hk12 : ∀ (l1 : Int32) (l2 : Int32) (l3 : Int32) (V : sv_V), k12 l1 l2 l3 V = some (r, Vr) → sv_N g qX12_composed 3 12 [(0, .ref 146), (1, .int l1), (2, .int l2), (3, .int l3)] [] V P) {l1 : Int32} {l3 : Int32} {l4 : Int32} {l7 : Int32} {s1 : Int32} {s2 : Int32} {V : sv_V} (h : B_X12_composed_412 N k12 l1 l3 l4 l7 s1 s2 V = some (r, Vr)) : sv_N g qX12_composed 3 412 [(0, .ref 146), (1, .int l1), (3, .int l3), (4, .int l4), (7, .int l7)] [.int s2, .int s1, .ref 161] V P := by
  unfold B_X12_composed_412 at h
  obtain ⟨g12, h⟩ := sx_grd h
  obtain ⟨V13, hV13⟩ : ∃ z : sv_V, z = sv_I V 161 s1.toNatClampNeg s2 := ⟨_, rfl⟩
  have h := sx_letE hV13 h
  refine sv_iast (pc := 412) hG dX12_composed_412 lay_161 g12 hV13 ?_
  refine sx_aload_n (pc := 413) dX12_composed_413 sx_m0 ?_
  refine sv_getA (pc := 414) hG dX12_composed_414 f_12_54 lay_146 rfl cr_146_41 ?_
  refine sx_iconst (pc := 417) (v := 4) dX12_composed_417 (by decide) ?_
  refine sx_iload (pc := 418) dX12_composed_418 sx_m3 ?_
  refine sx_imul (pc := 420) dX12_composed_420 ?_
  refine sx_iconst (pc := 421) (v := 1) dX12_composed_421 (by decide) ?_
  refine sx_iadd (pc := 422) dX12_composed_422 ?_
  refine sx_iload (pc := 423) dX12_composed_423 sx_m4 ?_
  refine sx_iconst (pc := 425) (v := 4) dX12_composed_425 (by decide) ?_
  refine sx_icmp_ne (pc := 426) (tgt := 439) dX12_composed_426 (by decide) (fun c14 => ?_) (fun c14 => ?_)
  · have h := sx_neg c14 h
    refine sx_iconst (pc := 439) (v := 0) dX12_composed_439 (by decide) ?_
    refine sx_wk (sx_s1 sx_m0 (sx_s1 sx_m1 (sx_s1 sx_m2 (sx_s1 sx_m3 (sx_s1 sx_m4 sx_s0))))) ?_
    exact tB_X12_composed_440 hG hP hk12 h
  · have h := sx_pos c14 h
    refine sx_aload_n (pc := 429) dX12_composed_429 sx_m0 ?_
    refine sx_iload_n (pc := 430) dX12_composed_430 sx_m1 ?_
    refine sx_iconst (pc := 431) (v := 2) dX12_composed_431 (by decide) ?_
    refine sx_iadd (pc := 432) dX12_composed_432 ?_
    obtain ⟨⟨x17, V15⟩, g16, h⟩ := sx_bnd h
    refine sv_cV (pc := 433) (y := qX12_s2) (o := (some (.int x17))) (as := [.int (l1 + (2 : Int32))]) (V1 := V15) hG dX12_composed_433 l_X12_305 y0X12_s2 yvX12_s2 rfl (Nat.le_of_ble_eq_true rfl) lay_146 kr_12 (by decide) (Nat.le_of_ble_eq_true rfl) rfl rfl rfl (t_X12_s2 hG ⟨rfl, rfl⟩ g16) ?_
    refine sx_goto (pc := 436) (tgt := 440) dX12_composed_436 (by decide) ?_
    refine sx_wk (sx_s1 sx_m0 (sx_s1 sx_m1 (sx_s1 sx_m2 (sx_s1 sx_m3 (sx_s1 sx_m4 sx_s0))))) ?_
    exact tB_X12_composed_440 hG hP hk12 h
def B_X12_composed_352 (N : Nat) (k12 : Int32 → Int32 → Int32 → sv_V → Option (Int32 × sv_V)) (l1 : Int32) (l3 : Int32) (l4 : Int32) (l7 : Int32) (s1 : Int32) (s2 : Int32) (V : sv_V) : Option (Int32 × sv_V) := if sx_in s1 32 = true then sx_let (sv_I V 161 s1.toNatClampNeg s2) (fun V19 => if l7 = 0 then (B_X12_composed_412 N k12 l1 l3 l4 l7 (((4 : Int32) * l4) + (3 : Int32)) (16384 : Int32) V19) else (if l7 = (1 : Int32) then ((F_X12_s2 l1 V19).bind (fun (x31, V29) => B_X12_composed_412 N k12 l1 l3 l4 l7 (((4 : Int32) * l4) + (3 : Int32)) x31 V29)) else (if l7 = (2 : Int32) then ((F_X12_s2 (l1 + (2 : Int32)) V19).bind (fun (x28, V26) => B_X12_composed_412 N k12 l1 l3 l4 l7 (((4 : Int32) * l4) + (3 : Int32)) x28 V26)) else ((F_X12_s2 (l1 + (6 : Int32)) V19).bind (fun (x25, V23) => B_X12_composed_412 N k12 l1 l3 l4 l7 (((4 : Int32) * l4) + (3 : Int32)) x25 V23))))) else none
set_option maxRecDepth 20000 in
theorem tB_X12_composed_352 {g : sx_G} (hG : sx_Go g) {P : Option Value → sv_V → Prop} {r : Int32} {Vr : sv_V} (hP : P (some (.int r)) Vr) {N : Nat} {k12 : Int32 → Int32 → Int32 → sv_V → Option (Int32 × sv_V)} (hk12 : ∀ (l1 : Int32) (l2 : Int32) (l3 : Int32) (V : sv_V), k12 l1 l2 l3 V = some (r, Vr) → sv_N g qX12_composed 3 12 [(0, .ref 146), (1, .int l1), (2, .int l2), (3, .int l3)] [] V P) {l1 : Int32} {l3 : Int32} {l4 : Int32} {l7 : Int32} {s1 : Int32} {s2 : Int32} {V : sv_V} (h : B_X12_composed_352 N k12 l1 l3 l4 l7 s1 s2 V = some (r, Vr)) : sv_N g qX12_composed 3 352 [(0, .ref 146), (1, .int l1), (3, .int l3), (4, .int l4), (7, .int l7)] [.int s2, .int s1, .ref 161] V P := by
  unfold B_X12_composed_352 at h
  obtain ⟨g18, h⟩ := sx_grd h
  obtain ⟨V19, hV19⟩ : ∃ z : sv_V, z = sv_I V 161 s1.toNatClampNeg s2 := ⟨_, rfl⟩
  have h := sx_letE hV19 h
  refine sv_iast (pc := 352) hG dX12_composed_352 lay_161 g18 hV19 ?_
  refine sx_aload_n (pc := 353) dX12_composed_353 sx_m0 ?_
  refine sv_getA (pc := 354) hG dX12_composed_354 f_12_54 lay_146 rfl cr_146_41 ?_
  refine sx_iconst (pc := 357) (v := 4) dX12_composed_357 (by decide) ?_
  refine sx_iload (pc := 358) dX12_composed_358 sx_m3 ?_
  refine sx_imul (pc := 360) dX12_composed_360 ?_
  refine sx_iconst (pc := 361) (v := 3) dX12_composed_361 (by decide) ?_
  refine sx_iadd (pc := 362) dX12_composed_362 ?_
  refine sx_iload (pc := 363) dX12_composed_363 sx_m4 ?_
  refine sx_if_ne (pc := 365) (tgt := 374) dX12_composed_365 (by decide) (fun c20 => ?_) (fun c20 => ?_)
  · have h := sx_neg c20 h
    refine sx_iload (pc := 374) dX12_composed_374 sx_m4 ?_
    refine sx_iconst (pc := 376) (v := 1) dX12_composed_376 (by decide) ?_
    refine sx_icmp_ne (pc := 377) (tgt := 388) dX12_composed_377 (by decide) (fun c21 => ?_) (fun c21 => ?_)
    · have h := sx_neg c21 h
      refine sx_iload (pc := 388) dX12_composed_388 sx_m4 ?_
      refine sx_iconst (pc := 390) (v := 2) dX12_composed_390 (by decide) ?_
      refine sx_icmp_ne (pc := 391) (tgt := 404) dX12_composed_391 (by decide) (fun c22 => ?_) (fun c22 => ?_)
      · have h := sx_neg c22 h
        refine sx_aload_n (pc := 404) dX12_composed_404 sx_m0 ?_
        refine sx_iload_n (pc := 405) dX12_composed_405 sx_m1 ?_
        refine sx_bipush (pc := 406) (v := 6) dX12_composed_406 (by decide) ?_
        refine sx_iadd (pc := 408) dX12_composed_408 ?_
        obtain ⟨⟨x25, V23⟩, g24, h⟩ := sx_bnd h
        refine sv_cV (pc := 409) (y := qX12_s2) (o := (some (.int x25))) (as := [.int (l1 + (6 : Int32))]) (V1 := V23) hG dX12_composed_409 l_X12_305 y0X12_s2 yvX12_s2 rfl (Nat.le_of_ble_eq_true rfl) lay_146 kr_12 (by decide) (Nat.le_of_ble_eq_true rfl) rfl rfl rfl (t_X12_s2 hG ⟨rfl, rfl⟩ g24) ?_
        refine sx_wk (sx_s1 sx_m0 (sx_s1 sx_m1 (sx_s1 sx_m2 (sx_s1 sx_m3 (sx_s1 sx_m4 sx_s0))))) ?_
        exact tB_X12_composed_412 hG hP hk12 h
      · have h := sx_pos c22 h
        refine sx_aload_n (pc := 394) dX12_composed_394 sx_m0 ?_
        refine sx_iload_n (pc := 395) dX12_composed_395 sx_m1 ?_
        refine sx_iconst (pc := 396) (v := 2) dX12_composed_396 (by decide) ?_
        refine sx_iadd (pc := 397) dX12_composed_397 ?_
        obtain ⟨⟨x28, V26⟩, g27, h⟩ := sx_bnd h
        refine sv_cV (pc := 398) (y := qX12_s2) (o := (some (.int x28))) (as := [.int (l1 + (2 : Int32))]) (V1 := V26) hG dX12_composed_398 l_X12_305 y0X12_s2 yvX12_s2 rfl (Nat.le_of_ble_eq_true rfl) lay_146 kr_12 (by decide) (Nat.le_of_ble_eq_true rfl) rfl rfl rfl (t_X12_s2 hG ⟨rfl, rfl⟩ g27) ?_
        refine sx_goto (pc := 401) (tgt := 412) dX12_composed_401 (by decide) ?_
        refine sx_wk (sx_s1 sx_m0 (sx_s1 sx_m1 (sx_s1 sx_m2 (sx_s1 sx_m3 (sx_s1 sx_m4 sx_s0))))) ?_
        exact tB_X12_composed_412 hG hP hk12 h
    · have h := sx_pos c21 h
      refine sx_aload_n (pc := 380) dX12_composed_380 sx_m0 ?_
      refine sx_iload_n (pc := 381) dX12_composed_381 sx_m1 ?_
      obtain ⟨⟨x31, V29⟩, g30, h⟩ := sx_bnd h
      refine sv_cV (pc := 382) (y := qX12_s2) (o := (some (.int x31))) (as := [.int l1]) (V1 := V29) hG dX12_composed_382 l_X12_305 y0X12_s2 yvX12_s2 rfl (Nat.le_of_ble_eq_true rfl) lay_146 kr_12 (by decide) (Nat.le_of_ble_eq_true rfl) rfl rfl rfl (t_X12_s2 hG ⟨rfl, rfl⟩ g30) ?_
      refine sx_goto (pc := 385) (tgt := 412) dX12_composed_385 (by decide) ?_
      refine sx_wk (sx_s1 sx_m0 (sx_s1 sx_m1 (sx_s1 sx_m2 (sx_s1 sx_m3 (sx_s1 sx_m4 sx_s0))))) ?_
      exact tB_X12_composed_412 hG hP hk12 h
  · have h := sx_pos c20 h
    refine sx_sipush (pc := 368) (v := 16384) dX12_composed_368 (by decide) ?_
    refine sx_goto (pc := 371) (tgt := 412) dX12_composed_371 (by decide) ?_
    refine sx_wk (sx_s1 sx_m0 (sx_s1 sx_m1 (sx_s1 sx_m2 (sx_s1 sx_m3 (sx_s1 sx_m4 sx_s0))))) ?_
    exact tB_X12_composed_412 hG hP hk12 h
def B_X12_composed_303 (N : Nat) (k12 : Int32 → Int32 → Int32 → sv_V → Option (Int32 × sv_V)) (k303 : Int32 → Int32 → Int32 → Int32 → Int32 → sv_V → Option (Int32 × sv_V)) (l1 : Int32) (l3 : Int32) (l4 : Int32) (l7 : Int32) (l8 : Int32) (V : sv_V) : Option (Int32 × sv_V) := if (4 : Int32) ≤ l8 then (if l7 = 0 then (B_X12_composed_352 N k12 l1 l3 l4 l7 ((4 : Int32) * l4) (16384 : Int32) V) else ((F_X12_s2 l1 V).bind (fun (x36, V34) => B_X12_composed_352 N k12 l1 l3 l4 l7 ((4 : Int32) * l4) x36 V34))) else (if sx_in (((4 : Int32) * l4) + l8) 32 = true then sx_let (sv_I V 161 (((4 : Int32) * l4) + l8).toNatClampNeg (0 : Int32)) (fun V38 => sx_let (l8 + 1) (fun x39 => k303 l1 l3 l4 l7 x39 V38)) else none)
set_option maxRecDepth 20000 in
theorem tB_X12_composed_303 {g : sx_G} (hG : sx_Go g) {P : Option Value → sv_V → Prop} {r : Int32} {Vr : sv_V} (hP : P (some (.int r)) Vr) {N : Nat} {k12 : Int32 → Int32 → Int32 → sv_V → Option (Int32 × sv_V)} {k303 : Int32 → Int32 → Int32 → Int32 → Int32 → sv_V → Option (Int32 × sv_V)} (hk12 : ∀ (l1 : Int32) (l2 : Int32) (l3 : Int32) (V : sv_V), k12 l1 l2 l3 V = some (r, Vr) → sv_N g qX12_composed 3 12 [(0, .ref 146), (1, .int l1), (2, .int l2), (3, .int l3)] [] V P) (hk303 : ∀ (l1 : Int32) (l3 : Int32) (l4 : Int32) (l7 : Int32) (l8 : Int32) (V : sv_V), k303 l1 l3 l4 l7 l8 V = some (r, Vr) → sv_N g qX12_composed 3 303 [(0, .ref 146), (1, .int l1), (3, .int l3), (4, .int l4), (7, .int l7), (8, .int l8)] [] V P) {l1 : Int32} {l3 : Int32} {l4 : Int32} {l7 : Int32} {l8 : Int32} {V : sv_V} (h : B_X12_composed_303 N k12 k303 l1 l3 l4 l7 l8 V = some (r, Vr)) : sv_N g qX12_composed 3 303 [(0, .ref 146), (1, .int l1), (3, .int l3), (4, .int l4), (7, .int l7), (8, .int l8)] [] V P := by
  unfold B_X12_composed_303 at h
  refine sx_iload (pc := 303) dX12_composed_303 sx_m5 ?_
  refine sx_iconst (pc := 305) (v := 4) dX12_composed_305 (by decide) ?_
  refine sx_icmp_ge (pc := 306) (tgt := 328) dX12_composed_306 (by decide) (fun c32 => ?_) (fun c32 => ?_)
  · have h := sx_pos c32 h
    refine sx_aload_n (pc := 328) dX12_composed_328 sx_m0 ?_
    refine sv_getA (pc := 329) hG dX12_composed_329 f_12_54 lay_146 rfl cr_146_41 ?_
    refine sx_iconst (pc := 332) (v := 4) dX12_composed_332 (by decide) ?_
    refine sx_iload (pc := 333) dX12_composed_333 sx_m3 ?_
    refine sx_imul (pc := 335) dX12_composed_335 ?_
    refine sx_iload (pc := 336) dX12_composed_336 sx_m4 ?_
    refine sx_if_ne (pc := 338) (tgt := 347) dX12_composed_338 (by decide) (fun c33 => ?_) (fun c33 => ?_)
    · have h := sx_neg c33 h
      refine sx_aload_n (pc := 347) dX12_composed_347 sx_m0 ?_
      refine sx_iload_n (pc := 348) dX12_composed_348 sx_m1 ?_
      obtain ⟨⟨x36, V34⟩, g35, h⟩ := sx_bnd h
      refine sv_cV (pc := 349) (y := qX12_s2) (o := (some (.int x36))) (as := [.int l1]) (V1 := V34) hG dX12_composed_349 l_X12_305 y0X12_s2 yvX12_s2 rfl (Nat.le_of_ble_eq_true rfl) lay_146 kr_12 (by decide) (Nat.le_of_ble_eq_true rfl) rfl rfl rfl (t_X12_s2 hG ⟨rfl, rfl⟩ g35) ?_
      refine sx_wk (sx_s1 sx_m0 (sx_s1 sx_m1 (sx_s1 sx_m2 (sx_s1 sx_m3 (sx_s1 sx_m4 sx_s0))))) ?_
      exact tB_X12_composed_352 hG hP hk12 h
    · have h := sx_pos c33 h
      refine sx_sipush (pc := 341) (v := 16384) dX12_composed_341 (by decide) ?_
      refine sx_goto (pc := 344) (tgt := 352) dX12_composed_344 (by decide) ?_
      refine sx_wk (sx_s1 sx_m0 (sx_s1 sx_m1 (sx_s1 sx_m2 (sx_s1 sx_m3 (sx_s1 sx_m4 sx_s0))))) ?_
      exact tB_X12_composed_352 hG hP hk12 h
  · have h := sx_neg c32 h
    refine sx_aload_n (pc := 309) dX12_composed_309 sx_m0 ?_
    refine sv_getA (pc := 310) hG dX12_composed_310 f_12_54 lay_146 rfl cr_146_41 ?_
    refine sx_iconst (pc := 313) (v := 4) dX12_composed_313 (by decide) ?_
    refine sx_iload (pc := 314) dX12_composed_314 sx_m3 ?_
    refine sx_imul (pc := 316) dX12_composed_316 ?_
    refine sx_iload (pc := 317) dX12_composed_317 sx_m5 ?_
    refine sx_iadd (pc := 319) dX12_composed_319 ?_
    refine sx_iconst (pc := 320) (v := 0) dX12_composed_320 (by decide) ?_
    obtain ⟨g37, h⟩ := sx_grd h
    obtain ⟨V38, hV38⟩ : ∃ z : sv_V, z = sv_I V 161 (((4 : Int32) * l4) + l8).toNatClampNeg (0 : Int32) := ⟨_, rfl⟩
    have h := sx_letE hV38 h
    refine sv_iast (pc := 321) hG dX12_composed_321 lay_161 g37 hV38 ?_
    obtain ⟨x39, hx39⟩ : ∃ z : Int32, z = l8 + 1 := ⟨_, rfl⟩
    have h := sx_letE hx39 h
    refine sx_iinc (pc := 322) (v := x39) (lo' := [(8, .int x39), (0, .ref 146), (1, .int l1), (3, .int l3), (4, .int l4), (7, .int l7)]) dX12_composed_322 sx_m5 (by rw [hx39]; rfl) (by decide) rfl ?_
    refine sx_goto (pc := 325) (tgt := 303) dX12_composed_325 (by decide) ?_
    refine sx_wk (sx_s1 sx_m1 (sx_s1 sx_m2 (sx_s1 sx_m3 (sx_s1 sx_m4 (sx_s1 sx_m5 (sx_s1 sx_m0 sx_s0)))))) ?_
    exact hk303 _ _ _ _ _ _ h
theorem tL_X12_composed_303 {g : sx_G} (hG : sx_Go g) {P : Option Value → sv_V → Prop} {r : Int32} {Vr : sv_V} (hP : P (some (.int r)) Vr) {N : Nat} {k12 : Int32 → Int32 → Int32 → sv_V → Option (Int32 × sv_V)} (hk12 : ∀ (l1 : Int32) (l2 : Int32) (l3 : Int32) (V : sv_V), k12 l1 l2 l3 V = some (r, Vr) → sv_N g qX12_composed 3 12 [(0, .ref 146), (1, .int l1), (2, .int l2), (3, .int l3)] [] V P) : ∀ (n : Nat) (l1 : Int32) (l3 : Int32) (l4 : Int32) (l7 : Int32) (l8 : Int32) (V : sv_V), sx_lp6 (B_X12_composed_303 N k12) n l1 l3 l4 l7 l8 V = some (r, Vr) → sv_N g qX12_composed 3 303 [(0, .ref 146), (1, .int l1), (3, .int l3), (4, .int l4), (7, .int l7), (8, .int l8)] [] V P :=
  sx_lp6_ind (fun k0 ih _ _ _ _ _ V h => tB_X12_composed_303 hG hP hk12 ih h)
def B_X12_composed_298 (N : Nat) (k12 : Int32 → Int32 → Int32 → sv_V → Option (Int32 × sv_V)) (l3 : Int32) (l4 : Int32) (l7 : Int32) (s0 : Int32) (s1 : Int32) (V : sv_V) : Option (Int32 × sv_V) := sx_let (s0 + s1) (fun x40 => sx_lp6 (B_X12_composed_303 N k12) N x40 l3 l4 l7 (0 : Int32) V)
set_option maxRecDepth 20000 in
theorem tB_X12_composed_298 {g : sx_G} (hG : sx_Go g) {P : Option Value → sv_V → Prop} {r : Int32} {Vr : sv_V} (hP : P (some (.int r)) Vr) {N : Nat} {k12 : Int32 → Int32 → Int32 → sv_V → Option (Int32 × sv_V)} (hk12 : ∀ (l1 : Int32) (l2 : Int32) (l3 : Int32) (V : sv_V), k12 l1 l2 l3 V = some (r, Vr) → sv_N g qX12_composed 3 12 [(0, .ref 146), (1, .int l1), (2, .int l2), (3, .int l3)] [] V P) {l3 : Int32} {l4 : Int32} {l7 : Int32} {s0 : Int32} {s1 : Int32} {V : sv_V} (h : B_X12_composed_298 N k12 l3 l4 l7 s0 s1 V = some (r, Vr)) : sv_N g qX12_composed 3 298 [(0, .ref 146), (3, .int l3), (4, .int l4), (7, .int l7)] [.int s1, .int s0] V P := by
  unfold B_X12_composed_298 at h
  refine sx_iadd (pc := 298) dX12_composed_298 ?_
  refine sv_tI (fun x40 hx40 => ?_)
  have h := sx_letE hx40 h
  refine sx_istore_n (pc := 299) (lo' := [(1, .int x40), (0, .ref 146), (3, .int l3), (4, .int l4), (7, .int l7)]) dX12_composed_299 (by decide) rfl ?_
  refine sx_iconst (pc := 300) (v := 0) dX12_composed_300 (by decide) ?_
  refine sx_istore (pc := 301) (lo' := [(8, .int (0 : Int32)), (1, .int x40), (0, .ref 146), (3, .int l3), (4, .int l4), (7, .int l7)]) dX12_composed_301 (by decide) rfl ?_
  refine sx_wk (sx_s1 sx_m2 (sx_s1 sx_m1 (sx_s1 sx_m3 (sx_s1 sx_m4 (sx_s1 sx_m5 (sx_s1 sx_m0 sx_s0)))))) ?_
  exact tL_X12_composed_303 hG hP hk12 N _ _ _ _ _ _ h
def B_X12_composed_286 (N : Nat) (k12 : Int32 → Int32 → Int32 → sv_V → Option (Int32 × sv_V)) (l1 : Int32) (l3 : Int32) (l4 : Int32) (l5 : Int32) (l7 : Int32) (s1 : Int32) (s2 : Int32) (V : sv_V) : Option (Int32 × sv_V) := if sx_in s1 8 = true then sx_let (sv_I V 160 s1.toNatClampNeg s2) (fun V42 => if l5 = 0 then (B_X12_composed_298 N k12 l3 l4 l7 l1 (2 : Int32) V42) else (B_X12_composed_298 N k12 l3 l4 l7 l1 (4 : Int32) V42)) else none
set_option maxRecDepth 20000 in
theorem tB_X12_composed_286 {g : sx_G} (hG : sx_Go g) {P : Option Value → sv_V → Prop} {r : Int32} {Vr : sv_V} (hP : P (some (.int r)) Vr) {N : Nat} {k12 : Int32 → Int32 → Int32 → sv_V → Option (Int32 × sv_V)} (hk12 : ∀ (l1 : Int32) (l2 : Int32) (l3 : Int32) (V : sv_V), k12 l1 l2 l3 V = some (r, Vr) → sv_N g qX12_composed 3 12 [(0, .ref 146), (1, .int l1), (2, .int l2), (3, .int l3)] [] V P) {l1 : Int32} {l3 : Int32} {l4 : Int32} {l5 : Int32} {l7 : Int32} {s1 : Int32} {s2 : Int32} {V : sv_V} (h : B_X12_composed_286 N k12 l1 l3 l4 l5 l7 s1 s2 V = some (r, Vr)) : sv_N g qX12_composed 3 286 [(0, .ref 146), (1, .int l1), (3, .int l3), (4, .int l4), (5, .int l5), (7, .int l7)] [.int s2, .int s1, .ref 160] V P := by
  unfold B_X12_composed_286 at h
  obtain ⟨g41, h⟩ := sx_grd h
  obtain ⟨V42, hV42⟩ : ∃ z : sv_V, z = sv_I V 160 s1.toNatClampNeg s2 := ⟨_, rfl⟩
  have h := sx_letE hV42 h
  refine sv_iast (pc := 286) hG dX12_composed_286 lay_160 g41 hV42 ?_
  refine sx_iload_n (pc := 287) dX12_composed_287 sx_m1 ?_
  refine sx_iload (pc := 288) dX12_composed_288 sx_m4 ?_
  refine sx_if_eq (pc := 290) (tgt := 297) dX12_composed_290 (by decide) (fun c43 => ?_) (fun c43 => ?_)
  · have h := sx_pos c43 h
    refine sx_iconst (pc := 297) (v := 2) dX12_composed_297 (by decide) ?_
    refine sx_wk (sx_s1 sx_m0 (sx_s1 sx_m2 (sx_s1 sx_m3 (sx_s1 sx_m5 sx_s0)))) ?_
    exact tB_X12_composed_298 hG hP hk12 h
  · have h := sx_neg c43 h
    refine sx_iconst (pc := 293) (v := 4) dX12_composed_293 (by decide) ?_
    refine sx_goto (pc := 294) (tgt := 298) dX12_composed_294 (by decide) ?_
    refine sx_wk (sx_s1 sx_m0 (sx_s1 sx_m2 (sx_s1 sx_m3 (sx_s1 sx_m5 sx_s0)))) ?_
    exact tB_X12_composed_298 hG hP hk12 h
def B_X12_composed_227 (N : Nat) (k12 : Int32 → Int32 → Int32 → sv_V → Option (Int32 × sv_V)) (l1 : Int32) (l3 : Int32) (l4 : Int32) (l5 : Int32) (l6 : Int32) (l7 : Int32) (s1 : Int32) (s2 : Int32) (V : sv_V) : Option (Int32 × sv_V) := if sx_in s1 8 = true then sx_let (sv_I V 159 s1.toNatClampNeg s2) (fun V45 => if l5 = 0 then (if l6 = 0 then ((F_X12_u1 (l1 + (1 : Int32)) V45).bind (fun (x50, V48) => B_X12_composed_286 N k12 l1 l3 l4 l5 l7 l4 x50 V48)) else ((F_X12_s1 (l1 + (1 : Int32)) V45).bind (fun (x53, V51) => B_X12_composed_286 N k12 l1 l3 l4 l5 l7 l4 x53 V51))) else (if l6 = 0 then ((F_X12_u2 (l1 + (2 : Int32)) V45).bind (fun (x57, V55) => B_X12_composed_286 N k12 l1 l3 l4 l5 l7 l4 x57 V55)) else ((F_X12_s2 (l1 + (2 : Int32)) V45).bind (fun (x60, V58) => B_X12_composed_286 N k12 l1 l3 l4 l5 l7 l4 x60 V58)))) else none
set_option maxRecDepth 20000 in
theorem tB_X12_composed_227 {g : sx_G} (hG : sx_Go g) {P : Option Value → sv_V → Prop} {r : Int32} {Vr : sv_V} (hP : P (some (.int r)) Vr) {N : Nat} {k12 : Int32 → Int32 → Int32 → sv_V → Option (Int32 × sv_V)} (hk12 : ∀ (l1 : Int32) (l2 : Int32) (l3 : Int32) (V : sv_V), k12 l1 l2 l3 V = some (r, Vr) → sv_N g qX12_composed 3 12 [(0, .ref 146), (1, .int l1), (2, .int l2), (3, .int l3)] [] V P) {l1 : Int32} {l3 : Int32} {l4 : Int32} {l5 : Int32} {l6 : Int32} {l7 : Int32} {s1 : Int32} {s2 : Int32} {V : sv_V} (h : B_X12_composed_227 N k12 l1 l3 l4 l5 l6 l7 s1 s2 V = some (r, Vr)) : sv_N g qX12_composed 3 227 [(0, .ref 146), (1, .int l1), (3, .int l3), (4, .int l4), (5, .int l5), (6, .int l6), (7, .int l7)] [.int s2, .int s1, .ref 159] V P := by
  unfold B_X12_composed_227 at h
  obtain ⟨g44, h⟩ := sx_grd h
  obtain ⟨V45, hV45⟩ : ∃ z : sv_V, z = sv_I V 159 s1.toNatClampNeg s2 := ⟨_, rfl⟩
  have h := sx_letE hV45 h
  refine sv_iast (pc := 227) hG dX12_composed_227 lay_159 g44 hV45 ?_
  refine sx_aload_n (pc := 228) dX12_composed_228 sx_m0 ?_
  refine sv_getA (pc := 229) hG dX12_composed_229 f_12_51 lay_146 rfl cr_146_40 ?_
  refine sx_iload (pc := 232) dX12_composed_232 sx_m3 ?_
  refine sx_iload (pc := 234) dX12_composed_234 sx_m4 ?_
  refine sx_if_eq (pc := 236) (tgt := 264) dX12_composed_236 (by decide) (fun c46 => ?_) (fun c46 => ?_)
  · have h := sx_pos c46 h
    refine sx_iload (pc := 264) dX12_composed_264 sx_m5 ?_
    refine sx_if_eq (pc := 266) (tgt := 279) dX12_composed_266 (by decide) (fun c47 => ?_) (fun c47 => ?_)
    · have h := sx_pos c47 h
      refine sx_aload_n (pc := 279) dX12_composed_279 sx_m0 ?_
      refine sx_iload_n (pc := 280) dX12_composed_280 sx_m1 ?_
      refine sx_iconst (pc := 281) (v := 1) dX12_composed_281 (by decide) ?_
      refine sx_iadd (pc := 282) dX12_composed_282 ?_
      obtain ⟨⟨x50, V48⟩, g49, h⟩ := sx_bnd h
      refine sv_cV (pc := 283) (y := qX12_u1) (o := (some (.int x50))) (as := [.int (l1 + (1 : Int32))]) (V1 := V48) hG dX12_composed_283 l_X12_209 y0X12_u1 yvX12_u1 rfl (Nat.le_of_ble_eq_true rfl) lay_146 kr_12 (by decide) (Nat.le_of_ble_eq_true rfl) rfl rfl rfl (t_X12_u1 hG ⟨rfl, rfl⟩ g49) ?_
      refine sx_wk (sx_s1 sx_m0 (sx_s1 sx_m1 (sx_s1 sx_m2 (sx_s1 sx_m3 (sx_s1 sx_m4 (sx_s1 sx_m6 sx_s0)))))) ?_
      exact tB_X12_composed_286 hG hP hk12 h
    · have h := sx_neg c47 h
      refine sx_aload_n (pc := 269) dX12_composed_269 sx_m0 ?_
      refine sx_iload_n (pc := 270) dX12_composed_270 sx_m1 ?_
      refine sx_iconst (pc := 271) (v := 1) dX12_composed_271 (by decide) ?_
      refine sx_iadd (pc := 272) dX12_composed_272 ?_
      obtain ⟨⟨x53, V51⟩, g52, h⟩ := sx_bnd h
      refine sv_cV (pc := 273) (y := qX12_s1) (o := (some (.int x53))) (as := [.int (l1 + (1 : Int32))]) (V1 := V51) hG dX12_composed_273 l_X12_377 y0X12_s1 yvX12_s1 rfl (Nat.le_of_ble_eq_true rfl) lay_146 kr_12 (by decide) (Nat.le_of_ble_eq_true rfl) rfl rfl rfl (t_X12_s1 hG ⟨rfl, rfl⟩ g52) ?_
      refine sx_goto (pc := 276) (tgt := 286) dX12_composed_276 (by decide) ?_
      refine sx_wk (sx_s1 sx_m0 (sx_s1 sx_m1 (sx_s1 sx_m2 (sx_s1 sx_m3 (sx_s1 sx_m4 (sx_s1 sx_m6 sx_s0)))))) ?_
      exact tB_X12_composed_286 hG hP hk12 h
  · have h := sx_neg c46 h
    refine sx_iload (pc := 239) dX12_composed_239 sx_m5 ?_
    refine sx_if_eq (pc := 241) (tgt := 254) dX12_composed_241 (by decide) (fun c54 => ?_) (fun c54 => ?_)
    · have h := sx_pos c54 h
      refine sx_aload_n (pc := 254) dX12_composed_254 sx_m0 ?_
      refine sx_iload_n (pc := 255) dX12_composed_255 sx_m1 ?_
      refine sx_iconst (pc := 256) (v := 2) dX12_composed_256 (by decide) ?_
      refine sx_iadd (pc := 257) dX12_composed_257 ?_
      obtain ⟨⟨x57, V55⟩, g56, h⟩ := sx_bnd h
      refine sv_cV (pc := 258) (y := qX12_u2) (o := (some (.int x57))) (as := [.int (l1 + (2 : Int32))]) (V1 := V55) hG dX12_composed_258 l_X12_213 y0X12_u2 yvX12_u2 rfl (Nat.le_of_ble_eq_true rfl) lay_146 kr_12 (by decide) (Nat.le_of_ble_eq_true rfl) rfl rfl rfl (t_X12_u2 hG ⟨rfl, rfl⟩ g56) ?_
      refine sx_goto (pc := 261) (tgt := 286) dX12_composed_261 (by decide) ?_
      refine sx_wk (sx_s1 sx_m0 (sx_s1 sx_m1 (sx_s1 sx_m2 (sx_s1 sx_m3 (sx_s1 sx_m4 (sx_s1 sx_m6 sx_s0)))))) ?_
      exact tB_X12_composed_286 hG hP hk12 h
    · have h := sx_neg c54 h
      refine sx_aload_n (pc := 244) dX12_composed_244 sx_m0 ?_
      refine sx_iload_n (pc := 245) dX12_composed_245 sx_m1 ?_
      refine sx_iconst (pc := 246) (v := 2) dX12_composed_246 (by decide) ?_
      refine sx_iadd (pc := 247) dX12_composed_247 ?_
      obtain ⟨⟨x60, V58⟩, g59, h⟩ := sx_bnd h
      refine sv_cV (pc := 248) (y := qX12_s2) (o := (some (.int x60))) (as := [.int (l1 + (2 : Int32))]) (V1 := V58) hG dX12_composed_248 l_X12_305 y0X12_s2 yvX12_s2 rfl (Nat.le_of_ble_eq_true rfl) lay_146 kr_12 (by decide) (Nat.le_of_ble_eq_true rfl) rfl rfl rfl (t_X12_s2 hG ⟨rfl, rfl⟩ g59) ?_
      refine sx_goto (pc := 251) (tgt := 286) dX12_composed_251 (by decide) ?_
      refine sx_wk (sx_s1 sx_m0 (sx_s1 sx_m1 (sx_s1 sx_m2 (sx_s1 sx_m3 (sx_s1 sx_m4 (sx_s1 sx_m6 sx_s0)))))) ?_
      exact tB_X12_composed_286 hG hP hk12 h
def B_X12_composed_162 (N : Nat) (k12 : Int32 → Int32 → Int32 → sv_V → Option (Int32 × sv_V)) (l1 : Int32) (l3 : Int32) (l4 : Int32) (l5 : Int32) (l6 : Int32) (l7 : Int32) (s0 : Int32) (s1 : Int32) (V : sv_V) : Option (Int32 × sv_V) := if ((s0 + s1) + ((2 : Int32) * l7)) ≤ (V.1 146 27) then (if l5 = 0 then (if l6 = 0 then ((F_X12_u1 l1 V).bind (fun (x66, V64) => B_X12_composed_227 N k12 l1 l3 l4 l5 l6 l7 l4 x66 V64)) else ((F_X12_s1 l1 V).bind (fun (x69, V67) => B_X12_composed_227 N k12 l1 l3 l4 l5 l6 l7 l4 x69 V67))) else (if l6 = 0 then ((F_X12_u2 l1 V).bind (fun (x73, V71) => B_X12_composed_227 N k12 l1 l3 l4 l5 l6 l7 l4 x73 V71)) else ((F_X12_s2 l1 V).bind (fun (x76, V74) => B_X12_composed_227 N k12 l1 l3 l4 l5 l6 l7 l4 x76 V74)))) else (some ((0 : Int32), V))
set_option maxRecDepth 20000 in
theorem tB_X12_composed_162 {g : sx_G} (hG : sx_Go g) {P : Option Value → sv_V → Prop} {r : Int32} {Vr : sv_V} (hP : P (some (.int r)) Vr) {N : Nat} {k12 : Int32 → Int32 → Int32 → sv_V → Option (Int32 × sv_V)} (hk12 : ∀ (l1 : Int32) (l2 : Int32) (l3 : Int32) (V : sv_V), k12 l1 l2 l3 V = some (r, Vr) → sv_N g qX12_composed 3 12 [(0, .ref 146), (1, .int l1), (2, .int l2), (3, .int l3)] [] V P) {l1 : Int32} {l3 : Int32} {l4 : Int32} {l5 : Int32} {l6 : Int32} {l7 : Int32} {s0 : Int32} {s1 : Int32} {V : sv_V} (h : B_X12_composed_162 N k12 l1 l3 l4 l5 l6 l7 s0 s1 V = some (r, Vr)) : sv_N g qX12_composed 3 162 [(0, .ref 146), (1, .int l1), (3, .int l3), (4, .int l4), (5, .int l5), (6, .int l6), (7, .int l7)] [.int s1, .int s0] V P := by
  unfold B_X12_composed_162 at h
  refine sx_iadd (pc := 162) dX12_composed_162 ?_
  refine sx_iconst (pc := 163) (v := 2) dX12_composed_163 (by decide) ?_
  refine sx_iload (pc := 164) dX12_composed_164 sx_m6 ?_
  refine sx_imul (pc := 166) dX12_composed_166 ?_
  refine sx_iadd (pc := 167) dX12_composed_167 ?_
  refine sx_aload_n (pc := 168) dX12_composed_168 sx_m0 ?_
  refine sv_getI (pc := 169) hG dX12_composed_169 f_12_345 lay_146 rfl ?_
  refine sx_icmp_le (pc := 172) (tgt := 177) dX12_composed_172 (by decide) (fun c61 => ?_) (fun c61 => ?_)
  · have h := sx_pos c61 h
    refine sx_aload_n (pc := 177) dX12_composed_177 sx_m0 ?_
    refine sv_getA (pc := 178) hG dX12_composed_178 f_12_48 lay_146 rfl cr_146_39 ?_
    refine sx_iload (pc := 181) dX12_composed_181 sx_m3 ?_
    refine sx_iload (pc := 183) dX12_composed_183 sx_m4 ?_
    refine sx_if_eq (pc := 185) (tgt := 209) dX12_composed_185 (by decide) (fun c62 => ?_) (fun c62 => ?_)
    · have h := sx_pos c62 h
      refine sx_iload (pc := 209) dX12_composed_209 sx_m5 ?_
      refine sx_if_eq (pc := 211) (tgt := 222) dX12_composed_211 (by decide) (fun c63 => ?_) (fun c63 => ?_)
      · have h := sx_pos c63 h
        refine sx_aload_n (pc := 222) dX12_composed_222 sx_m0 ?_
        refine sx_iload_n (pc := 223) dX12_composed_223 sx_m1 ?_
        obtain ⟨⟨x66, V64⟩, g65, h⟩ := sx_bnd h
        refine sv_cV (pc := 224) (y := qX12_u1) (o := (some (.int x66))) (as := [.int l1]) (V1 := V64) hG dX12_composed_224 l_X12_209 y0X12_u1 yvX12_u1 rfl (Nat.le_of_ble_eq_true rfl) lay_146 kr_12 (by decide) (Nat.le_of_ble_eq_true rfl) rfl rfl rfl (t_X12_u1 hG ⟨rfl, rfl⟩ g65) ?_
        refine sx_wk (sx_s1 sx_m0 (sx_s1 sx_m1 (sx_s1 sx_m2 (sx_s1 sx_m3 (sx_s1 sx_m4 (sx_s1 sx_m5 (sx_s1 sx_m6 sx_s0))))))) ?_
        exact tB_X12_composed_227 hG hP hk12 h
      · have h := sx_neg c63 h
        refine sx_aload_n (pc := 214) dX12_composed_214 sx_m0 ?_
        refine sx_iload_n (pc := 215) dX12_composed_215 sx_m1 ?_
        obtain ⟨⟨x69, V67⟩, g68, h⟩ := sx_bnd h
        refine sv_cV (pc := 216) (y := qX12_s1) (o := (some (.int x69))) (as := [.int l1]) (V1 := V67) hG dX12_composed_216 l_X12_377 y0X12_s1 yvX12_s1 rfl (Nat.le_of_ble_eq_true rfl) lay_146 kr_12 (by decide) (Nat.le_of_ble_eq_true rfl) rfl rfl rfl (t_X12_s1 hG ⟨rfl, rfl⟩ g68) ?_
        refine sx_goto (pc := 219) (tgt := 227) dX12_composed_219 (by decide) ?_
        refine sx_wk (sx_s1 sx_m0 (sx_s1 sx_m1 (sx_s1 sx_m2 (sx_s1 sx_m3 (sx_s1 sx_m4 (sx_s1 sx_m5 (sx_s1 sx_m6 sx_s0))))))) ?_
        exact tB_X12_composed_227 hG hP hk12 h
    · have h := sx_neg c62 h
      refine sx_iload (pc := 188) dX12_composed_188 sx_m5 ?_
      refine sx_if_eq (pc := 190) (tgt := 201) dX12_composed_190 (by decide) (fun c70 => ?_) (fun c70 => ?_)
      · have h := sx_pos c70 h
        refine sx_aload_n (pc := 201) dX12_composed_201 sx_m0 ?_
        refine sx_iload_n (pc := 202) dX12_composed_202 sx_m1 ?_
        obtain ⟨⟨x73, V71⟩, g72, h⟩ := sx_bnd h
        refine sv_cV (pc := 203) (y := qX12_u2) (o := (some (.int x73))) (as := [.int l1]) (V1 := V71) hG dX12_composed_203 l_X12_213 y0X12_u2 yvX12_u2 rfl (Nat.le_of_ble_eq_true rfl) lay_146 kr_12 (by decide) (Nat.le_of_ble_eq_true rfl) rfl rfl rfl (t_X12_u2 hG ⟨rfl, rfl⟩ g72) ?_
        refine sx_goto (pc := 206) (tgt := 227) dX12_composed_206 (by decide) ?_
        refine sx_wk (sx_s1 sx_m0 (sx_s1 sx_m1 (sx_s1 sx_m2 (sx_s1 sx_m3 (sx_s1 sx_m4 (sx_s1 sx_m5 (sx_s1 sx_m6 sx_s0))))))) ?_
        exact tB_X12_composed_227 hG hP hk12 h
      · have h := sx_neg c70 h
        refine sx_aload_n (pc := 193) dX12_composed_193 sx_m0 ?_
        refine sx_iload_n (pc := 194) dX12_composed_194 sx_m1 ?_
        obtain ⟨⟨x76, V74⟩, g75, h⟩ := sx_bnd h
        refine sv_cV (pc := 195) (y := qX12_s2) (o := (some (.int x76))) (as := [.int l1]) (V1 := V74) hG dX12_composed_195 l_X12_305 y0X12_s2 yvX12_s2 rfl (Nat.le_of_ble_eq_true rfl) lay_146 kr_12 (by decide) (Nat.le_of_ble_eq_true rfl) rfl rfl rfl (t_X12_s2 hG ⟨rfl, rfl⟩ g75) ?_
        refine sx_goto (pc := 198) (tgt := 227) dX12_composed_198 (by decide) ?_
        refine sx_wk (sx_s1 sx_m0 (sx_s1 sx_m1 (sx_s1 sx_m2 (sx_s1 sx_m3 (sx_s1 sx_m4 (sx_s1 sx_m5 (sx_s1 sx_m6 sx_s0))))))) ?_
        exact tB_X12_composed_227 hG hP hk12 h
  · have h := sx_neg c61 h
    refine sx_iconst (pc := 175) (v := 0) dX12_composed_175 (by decide) ?_
    exact sv_zret (pc := 176) dX12_composed_176 rfl rfl h hP
def B_X12_composed_135 (N : Nat) (k12 : Int32 → Int32 → Int32 → sv_V → Option (Int32 × sv_V)) (l1 : Int32) (l3 : Int32) (l4 : Int32) (l5 : Int32) (l6 : Int32) (s0 : Int32) (V : sv_V) : Option (Int32 × sv_V) := if sx_in l4 8 = true then if (V.1 146 12) ≤ (V.1 158 l4.toNatClampNeg) then (some ((0 : Int32), V)) else (if l5 = 0 then (B_X12_composed_162 N k12 l1 l3 l4 l5 l6 s0 l1 (2 : Int32) V) else (B_X12_composed_162 N k12 l1 l3 l4 l5 l6 s0 l1 (4 : Int32) V)) else none
set_option maxRecDepth 20000 in
theorem tB_X12_composed_135 {g : sx_G} (hG : sx_Go g) {P : Option Value → sv_V → Prop} {r : Int32} {Vr : sv_V} (hP : P (some (.int r)) Vr) {N : Nat} {k12 : Int32 → Int32 → Int32 → sv_V → Option (Int32 × sv_V)} (hk12 : ∀ (l1 : Int32) (l2 : Int32) (l3 : Int32) (V : sv_V), k12 l1 l2 l3 V = some (r, Vr) → sv_N g qX12_composed 3 12 [(0, .ref 146), (1, .int l1), (2, .int l2), (3, .int l3)] [] V P) {l1 : Int32} {l3 : Int32} {l4 : Int32} {l5 : Int32} {l6 : Int32} {s0 : Int32} {V : sv_V} (h : B_X12_composed_135 N k12 l1 l3 l4 l5 l6 s0 V = some (r, Vr)) : sv_N g qX12_composed 3 135 [(0, .ref 146), (1, .int l1), (3, .int l3), (4, .int l4), (5, .int l5), (6, .int l6)] [.int s0] V P := by
  unfold B_X12_composed_135 at h
  refine sx_istore (pc := 135) (lo' := [(7, .int s0), (0, .ref 146), (1, .int l1), (3, .int l3), (4, .int l4), (5, .int l5), (6, .int l6)]) dX12_composed_135 (by decide) rfl ?_
  refine sx_aload_n (pc := 137) dX12_composed_137 sx_m1 ?_
  refine sv_getA (pc := 138) hG dX12_composed_138 f_12_45 lay_146 rfl cr_146_38 ?_
  refine sx_iload (pc := 141) dX12_composed_141 sx_m4 ?_
  obtain ⟨g77, h⟩ := sx_grd h
  refine sv_iald (pc := 143) hG dX12_composed_143 lay_158 g77 ?_
  refine sx_aload_n (pc := 144) dX12_composed_144 sx_m1 ?_
  refine sv_getI (pc := 145) hG dX12_composed_145 f_12_260 lay_146 rfl ?_
  refine sx_icmp_ge (pc := 148) (tgt := 175) dX12_composed_148 (by decide) (fun c78 => ?_) (fun c78 => ?_)
  · have h := sx_pos c78 h
    refine sx_iconst (pc := 175) (v := 0) dX12_composed_175 (by decide) ?_
    exact sv_zret (pc := 176) dX12_composed_176 rfl rfl h hP
  · have h := sx_neg c78 h
    refine sx_iload_n (pc := 151) dX12_composed_151 sx_m2 ?_
    refine sx_iload (pc := 152) dX12_composed_152 sx_m5 ?_
    refine sx_if_eq (pc := 154) (tgt := 161) dX12_composed_154 (by decide) (fun c79 => ?_) (fun c79 => ?_)
    · have h := sx_pos c79 h
      refine sx_iconst (pc := 161) (v := 2) dX12_composed_161 (by decide) ?_
      refine sx_wk (sx_s1 sx_m1 (sx_s1 sx_m2 (sx_s1 sx_m3 (sx_s1 sx_m4 (sx_s1 sx_m5 (sx_s1 sx_m6 (sx_s1 sx_m0 sx_s0))))))) ?_
      exact tB_X12_composed_162 hG hP hk12 h
    · have h := sx_neg c79 h
      refine sx_iconst (pc := 157) (v := 4) dX12_composed_157 (by decide) ?_
      refine sx_goto (pc := 158) (tgt := 162) dX12_composed_158 (by decide) ?_
      refine sx_wk (sx_s1 sx_m1 (sx_s1 sx_m2 (sx_s1 sx_m3 (sx_s1 sx_m4 (sx_s1 sx_m5 (sx_s1 sx_m6 (sx_s1 sx_m0 sx_s0))))))) ?_
      exact tB_X12_composed_162 hG hP hk12 h
def B_X12_composed_98 (N : Nat) (k12 : Int32 → Int32 → Int32 → sv_V → Option (Int32 × sv_V)) (l1 : Int32) (l3 : Int32) (l4 : Int32) (l5 : Int32) (s0 : Int32) (V : sv_V) : Option (Int32 × sv_V) := if (l3 &&& (8 : Int32)) = 0 then (if (l3 &&& (64 : Int32)) = 0 then (if (l3 &&& (128 : Int32)) = 0 then (B_X12_composed_135 N k12 l1 l3 l4 l5 s0 (0 : Int32) V) else (B_X12_composed_135 N k12 l1 l3 l4 l5 s0 (4 : Int32) V)) else (B_X12_composed_135 N k12 l1 l3 l4 l5 s0 (2 : Int32) V)) else (B_X12_composed_135 N k12 l1 l3 l4 l5 s0 (1 : Int32) V)
set_option maxRecDepth 20000 in
theorem tB_X12_composed_98 {g : sx_G} (hG : sx_Go g) {P : Option Value → sv_V → Prop} {r : Int32} {Vr : sv_V} (hP : P (some (.int r)) Vr) {N : Nat} {k12 : Int32 → Int32 → Int32 → sv_V → Option (Int32 × sv_V)} (hk12 : ∀ (l1 : Int32) (l2 : Int32) (l3 : Int32) (V : sv_V), k12 l1 l2 l3 V = some (r, Vr) → sv_N g qX12_composed 3 12 [(0, .ref 146), (1, .int l1), (2, .int l2), (3, .int l3)] [] V P) {l1 : Int32} {l3 : Int32} {l4 : Int32} {l5 : Int32} {s0 : Int32} {V : sv_V} (h : B_X12_composed_98 N k12 l1 l3 l4 l5 s0 V = some (r, Vr)) : sv_N g qX12_composed 3 98 [(0, .ref 146), (1, .int l1), (3, .int l3), (4, .int l4), (5, .int l5)] [.int s0] V P := by
  unfold B_X12_composed_98 at h
  refine sx_istore (pc := 98) (lo' := [(6, .int s0), (0, .ref 146), (1, .int l1), (3, .int l3), (4, .int l4), (5, .int l5)]) dX12_composed_98 (by decide) rfl ?_
  refine sx_iload_n (pc := 100) dX12_composed_100 sx_m3 ?_
  refine sx_bipush (pc := 101) (v := 8) dX12_composed_101 (by decide) ?_
  refine sx_iand (pc := 103) dX12_composed_103 ?_
  refine sx_if_eq (pc := 104) (tgt := 111) dX12_composed_104 (by decide) (fun c80 => ?_) (fun c80 => ?_)
  · have h := sx_pos c80 h
    refine sx_iload_n (pc := 111) dX12_composed_111 sx_m3 ?_
    refine sx_bipush (pc := 112) (v := 64) dX12_composed_112 (by decide) ?_
    refine sx_iand (pc := 114) dX12_composed_114 ?_
    refine sx_if_eq (pc := 115) (tgt := 122) dX12_composed_115 (by decide) (fun c81 => ?_) (fun c81 => ?_)
    · have h := sx_pos c81 h
      refine sx_iload_n (pc := 122) dX12_composed_122 sx_m3 ?_
      refine sx_sipush (pc := 123) (v := 128) dX12_composed_123 (by decide) ?_
      refine sx_iand (pc := 126) dX12_composed_126 ?_
      refine sx_if_eq (pc := 127) (tgt := 134) dX12_composed_127 (by decide) (fun c82 => ?_) (fun c82 => ?_)
      · have h := sx_pos c82 h
        refine sx_iconst (pc := 134) (v := 0) dX12_composed_134 (by decide) ?_
        refine sx_wk (sx_s1 sx_m1 (sx_s1 sx_m2 (sx_s1 sx_m3 (sx_s1 sx_m4 (sx_s1 sx_m5 (sx_s1 sx_m0 sx_s0)))))) ?_
        exact tB_X12_composed_135 hG hP hk12 h
      · have h := sx_neg c82 h
        refine sx_iconst (pc := 130) (v := 4) dX12_composed_130 (by decide) ?_
        refine sx_goto (pc := 131) (tgt := 135) dX12_composed_131 (by decide) ?_
        refine sx_wk (sx_s1 sx_m1 (sx_s1 sx_m2 (sx_s1 sx_m3 (sx_s1 sx_m4 (sx_s1 sx_m5 (sx_s1 sx_m0 sx_s0)))))) ?_
        exact tB_X12_composed_135 hG hP hk12 h
    · have h := sx_neg c81 h
      refine sx_iconst (pc := 118) (v := 2) dX12_composed_118 (by decide) ?_
      refine sx_goto (pc := 119) (tgt := 135) dX12_composed_119 (by decide) ?_
      refine sx_wk (sx_s1 sx_m1 (sx_s1 sx_m2 (sx_s1 sx_m3 (sx_s1 sx_m4 (sx_s1 sx_m5 (sx_s1 sx_m0 sx_s0)))))) ?_
      exact tB_X12_composed_135 hG hP hk12 h
  · have h := sx_neg c80 h
    refine sx_iconst (pc := 107) (v := 1) dX12_composed_107 (by decide) ?_
    refine sx_goto (pc := 108) (tgt := 135) dX12_composed_108 (by decide) ?_
    refine sx_wk (sx_s1 sx_m1 (sx_s1 sx_m2 (sx_s1 sx_m3 (sx_s1 sx_m4 (sx_s1 sx_m5 (sx_s1 sx_m0 sx_s0)))))) ?_
    exact tB_X12_composed_135 hG hP hk12 h
def B_X12_composed_85 (N : Nat) (k12 : Int32 → Int32 → Int32 → sv_V → Option (Int32 × sv_V)) (l1 : Int32) (l3 : Int32) (l4 : Int32) (s0 : Int32) (V : sv_V) : Option (Int32 × sv_V) := if (l3 &&& (2 : Int32)) = 0 then (B_X12_composed_98 N k12 l1 l3 l4 s0 (0 : Int32) V) else (B_X12_composed_98 N k12 l1 l3 l4 s0 (1 : Int32) V)
set_option maxRecDepth 20000 in
theorem tB_X12_composed_85 {g : sx_G} (hG : sx_Go g) {P : Option Value → sv_V → Prop} {r : Int32} {Vr : sv_V} (hP : P (some (.int r)) Vr) {N : Nat} {k12 : Int32 → Int32 → Int32 → sv_V → Option (Int32 × sv_V)} (hk12 : ∀ (l1 : Int32) (l2 : Int32) (l3 : Int32) (V : sv_V), k12 l1 l2 l3 V = some (r, Vr) → sv_N g qX12_composed 3 12 [(0, .ref 146), (1, .int l1), (2, .int l2), (3, .int l3)] [] V P) {l1 : Int32} {l3 : Int32} {l4 : Int32} {s0 : Int32} {V : sv_V} (h : B_X12_composed_85 N k12 l1 l3 l4 s0 V = some (r, Vr)) : sv_N g qX12_composed 3 85 [(0, .ref 146), (1, .int l1), (3, .int l3), (4, .int l4)] [.int s0] V P := by
  unfold B_X12_composed_85 at h
  refine sx_istore (pc := 85) (lo' := [(5, .int s0), (0, .ref 146), (1, .int l1), (3, .int l3), (4, .int l4)]) dX12_composed_85 (by decide) rfl ?_
  refine sx_iload_n (pc := 87) dX12_composed_87 sx_m3 ?_
  refine sx_iconst (pc := 88) (v := 2) dX12_composed_88 (by decide) ?_
  refine sx_iand (pc := 89) dX12_composed_89 ?_
  refine sx_if_eq (pc := 90) (tgt := 97) dX12_composed_90 (by decide) (fun c83 => ?_) (fun c83 => ?_)
  · have h := sx_pos c83 h
    refine sx_iconst (pc := 97) (v := 0) dX12_composed_97 (by decide) ?_
    refine sx_wk (sx_s1 sx_m1 (sx_s1 sx_m2 (sx_s1 sx_m3 (sx_s1 sx_m4 (sx_s1 sx_m0 sx_s0))))) ?_
    exact tB_X12_composed_98 hG hP hk12 h
  · have h := sx_neg c83 h
    refine sx_iconst (pc := 93) (v := 1) dX12_composed_93 (by decide) ?_
    refine sx_goto (pc := 94) (tgt := 98) dX12_composed_94 (by decide) ?_
    refine sx_wk (sx_s1 sx_m1 (sx_s1 sx_m2 (sx_s1 sx_m3 (sx_s1 sx_m4 (sx_s1 sx_m0 sx_s0))))) ?_
    exact tB_X12_composed_98 hG hP hk12 h
def B_X12_composed_12 (N : Nat) (k12 : Int32 → Int32 → Int32 → sv_V → Option (Int32 × sv_V)) (l1 : Int32) (l2 : Int32) (l3 : Int32) (V : sv_V) : Option (Int32 × sv_V) := if l2 = 0 then (if (l3 &&& (256 : Int32)) = 0 then (some ((1 : Int32), V)) else (if (l1 + (2 : Int32)) ≤ (V.1 146 27) then ((F_X12_u2 l1 V).bind (fun (x89, V87) => sx_let (sv_I V87 146 32 x89) (fun V90 => sx_let (sv_I V90 146 31 (l1 + (2 : Int32))) (fun V91 => if (400 : Int32) < (V91.1 146 32) then (some ((0 : Int32), V91)) else (if ((V91.1 146 31) + (V91.1 146 32)) ≤ (V91.1 146 27) then (some ((1 : Int32), V91)) else (some ((0 : Int32), V91))))))) else (some ((0 : Int32), V)))) else (if (V.1 146 30) = (8 : Int32) then (some ((0 : Int32), V)) else (if (l1 + (4 : Int32)) ≤ (V.1 146 27) then ((F_X12_u2 l1 V).bind (fun (x98, V96) => sx_let (V96.1 146 30) (fun x99 => if sx_in x99 8 = true then sx_let (sv_I V96 157 x99.toNatClampNeg x98) (fun V101 => (F_X12_u2 (l1 + (2 : Int32)) V101).bind (fun (x104, V102) => if sx_in x99 8 = true then sx_let (sv_I V102 158 x99.toNatClampNeg x104) (fun V106 => sx_let (l1 + 4) (fun x107 => if (x98 &&& (1 : Int32)) = 0 then (B_X12_composed_85 N k12 x107 x98 x99 (0 : Int32) V106) else (B_X12_composed_85 N k12 x107 x98 x99 (1 : Int32) V106))) else none)) else none))) else (some ((0 : Int32), V))))
set_option maxRecDepth 20000 in
theorem tB_X12_composed_12 {g : sx_G} (hG : sx_Go g) {P : Option Value → sv_V → Prop} {r : Int32} {Vr : sv_V} (hP : P (some (.int r)) Vr) {N : Nat} {k12 : Int32 → Int32 → Int32 → sv_V → Option (Int32 × sv_V)} (hk12 : ∀ (l1 : Int32) (l2 : Int32) (l3 : Int32) (V : sv_V), k12 l1 l2 l3 V = some (r, Vr) → sv_N g qX12_composed 3 12 [(0, .ref 146), (1, .int l1), (2, .int l2), (3, .int l3)] [] V P) {l1 : Int32} {l2 : Int32} {l3 : Int32} {V : sv_V} (h : B_X12_composed_12 N k12 l1 l2 l3 V = some (r, Vr)) : sv_N g qX12_composed 3 12 [(0, .ref 146), (1, .int l1), (2, .int l2), (3, .int l3)] [] V P := by
  unfold B_X12_composed_12 at h
  refine sx_iload_n (pc := 12) dX12_composed_12 sx_m2 ?_
  refine sx_if_eq (pc := 13) (tgt := 502) dX12_composed_13 (by decide) (fun c84 => ?_) (fun c84 => ?_)
  · have h := sx_pos c84 h
    refine sx_iload_n (pc := 502) dX12_composed_502 sx_m3 ?_
    refine sx_sipush (pc := 503) (v := 256) dX12_composed_503 (by decide) ?_
    refine sx_iand (pc := 506) dX12_composed_506 ?_
    refine sx_if_eq (pc := 507) (tgt := 566) dX12_composed_507 (by decide) (fun c85 => ?_) (fun c85 => ?_)
    · have h := sx_pos c85 h
      refine sx_iconst (pc := 566) (v := 1) dX12_composed_566 (by decide) ?_
      exact sv_zret (pc := 567) dX12_composed_567 rfl rfl h hP
    · have h := sx_neg c85 h
      refine sx_iload_n (pc := 510) dX12_composed_510 sx_m1 ?_
      refine sx_iconst (pc := 511) (v := 2) dX12_composed_511 (by decide) ?_
      refine sx_iadd (pc := 512) dX12_composed_512 ?_
      refine sx_aload_n (pc := 513) dX12_composed_513 sx_m0 ?_
      refine sv_getI (pc := 514) hG dX12_composed_514 f_12_345 lay_146 rfl ?_
      refine sx_icmp_le (pc := 517) (tgt := 522) dX12_composed_517 (by decide) (fun c86 => ?_) (fun c86 => ?_)
      · have h := sx_pos c86 h
        refine sx_aload_n (pc := 522) dX12_composed_522 sx_m0 ?_
        refine sx_aload_n (pc := 523) dX12_composed_523 sx_m0 ?_
        refine sx_iload_n (pc := 524) dX12_composed_524 sx_m1 ?_
        obtain ⟨⟨x89, V87⟩, g88, h⟩ := sx_bnd h
        refine sv_cV (pc := 525) (y := qX12_u2) (o := (some (.int x89))) (as := [.int l1]) (V1 := V87) hG dX12_composed_525 l_X12_213 y0X12_u2 yvX12_u2 rfl (Nat.le_of_ble_eq_true rfl) lay_146 kr_12 (by decide) (Nat.le_of_ble_eq_true rfl) rfl rfl rfl (t_X12_u2 hG ⟨rfl, rfl⟩ g88) ?_
        obtain ⟨V90, hV90⟩ : ∃ z : sv_V, z = sv_I V87 146 32 x89 := ⟨_, rfl⟩
        have h := sx_letE hV90 h
        refine sv_putI (pc := 528) hG dX12_composed_528 f_12_360 lay_146 rfl hV90 ?_
        refine sx_aload_n (pc := 531) dX12_composed_531 sx_m0 ?_
        refine sx_iload_n (pc := 532) dX12_composed_532 sx_m1 ?_
        refine sx_iconst (pc := 533) (v := 2) dX12_composed_533 (by decide) ?_
        refine sx_iadd (pc := 534) dX12_composed_534 ?_
        obtain ⟨V91, hV91⟩ : ∃ z : sv_V, z = sv_I V90 146 31 (l1 + (2 : Int32)) := ⟨_, rfl⟩
        have h := sx_letE hV91 h
        refine sv_putI (pc := 535) hG dX12_composed_535 f_12_357 lay_146 rfl hV91 ?_
        refine sx_aload_n (pc := 538) dX12_composed_538 sx_m0 ?_
        refine sv_getI (pc := 539) hG dX12_composed_539 f_12_360 lay_146 rfl ?_
        refine sx_sipush (pc := 542) (v := 400) dX12_composed_542 (by decide) ?_
        refine sx_icmp_gt (pc := 545) (tgt := 564) dX12_composed_545 (by decide) (fun c92 => ?_) (fun c92 => ?_)
        · have h := sx_pos c92 h
          refine sx_iconst (pc := 564) (v := 0) dX12_composed_564 (by decide) ?_
          exact sv_zret (pc := 565) dX12_composed_565 rfl rfl h hP
        · have h := sx_neg c92 h
          refine sx_aload_n (pc := 548) dX12_composed_548 sx_m0 ?_
          refine sv_getI (pc := 549) hG dX12_composed_549 f_12_357 lay_146 rfl ?_
          refine sx_aload_n (pc := 552) dX12_composed_552 sx_m0 ?_
          refine sv_getI (pc := 553) hG dX12_composed_553 f_12_360 lay_146 rfl ?_
          refine sx_iadd (pc := 556) dX12_composed_556 ?_
          refine sx_aload_n (pc := 557) dX12_composed_557 sx_m0 ?_
          refine sv_getI (pc := 558) hG dX12_composed_558 f_12_345 lay_146 rfl ?_
          refine sx_icmp_le (pc := 561) (tgt := 566) dX12_composed_561 (by decide) (fun c93 => ?_) (fun c93 => ?_)
          · have h := sx_pos c93 h
            refine sx_iconst (pc := 566) (v := 1) dX12_composed_566 (by decide) ?_
            exact sv_zret (pc := 567) dX12_composed_567 rfl rfl h hP
          · have h := sx_neg c93 h
            refine sx_iconst (pc := 564) (v := 0) dX12_composed_564 (by decide) ?_
            exact sv_zret (pc := 565) dX12_composed_565 rfl rfl h hP
      · have h := sx_neg c86 h
        refine sx_iconst (pc := 520) (v := 0) dX12_composed_520 (by decide) ?_
        exact sv_zret (pc := 521) dX12_composed_521 rfl rfl h hP
  · have h := sx_neg c84 h
    refine sx_aload_n (pc := 16) dX12_composed_16 sx_m0 ?_
    refine sv_getI (pc := 17) hG dX12_composed_17 f_12_354 lay_146 rfl ?_
    refine sx_bipush (pc := 20) (v := 8) dX12_composed_20 (by decide) ?_
    refine sx_icmp_eq (pc := 22) (tgt := 35) dX12_composed_22 (by decide) (fun c94 => ?_) (fun c94 => ?_)
    · have h := sx_pos c94 h
      refine sx_iconst (pc := 35) (v := 0) dX12_composed_35 (by decide) ?_
      exact sv_zret (pc := 36) dX12_composed_36 rfl rfl h hP
    · have h := sx_neg c94 h
      refine sx_iload_n (pc := 25) dX12_composed_25 sx_m1 ?_
      refine sx_iconst (pc := 26) (v := 4) dX12_composed_26 (by decide) ?_
      refine sx_iadd (pc := 27) dX12_composed_27 ?_
      refine sx_aload_n (pc := 28) dX12_composed_28 sx_m0 ?_
      refine sv_getI (pc := 29) hG dX12_composed_29 f_12_345 lay_146 rfl ?_
      refine sx_icmp_le (pc := 32) (tgt := 37) dX12_composed_32 (by decide) (fun c95 => ?_) (fun c95 => ?_)
      · have h := sx_pos c95 h
        refine sx_aload_n (pc := 37) dX12_composed_37 sx_m0 ?_
        refine sx_iload_n (pc := 38) dX12_composed_38 sx_m1 ?_
        obtain ⟨⟨x98, V96⟩, g97, h⟩ := sx_bnd h
        refine sv_cV (pc := 39) (y := qX12_u2) (o := (some (.int x98))) (as := [.int l1]) (V1 := V96) hG dX12_composed_39 l_X12_213 y0X12_u2 yvX12_u2 rfl (Nat.le_of_ble_eq_true rfl) lay_146 kr_12 (by decide) (Nat.le_of_ble_eq_true rfl) rfl rfl rfl (t_X12_u2 hG ⟨rfl, rfl⟩ g97) ?_
        refine sx_istore_n (pc := 42) (lo' := [(3, .int x98), (0, .ref 146), (1, .int l1), (2, .int l2)]) dX12_composed_42 (by decide) rfl ?_
        refine sx_aload_n (pc := 43) dX12_composed_43 sx_m1 ?_
        refine sv_getI (pc := 44) hG dX12_composed_44 f_12_354 lay_146 rfl ?_
        refine sv_tI (fun x99 hx99 => ?_)
        have h := sx_letE hx99 h
        refine sx_istore (pc := 47) (lo' := [(4, .int x99), (3, .int x98), (0, .ref 146), (1, .int l1), (2, .int l2)]) dX12_composed_47 (by decide) rfl ?_
        refine sx_aload_n (pc := 49) dX12_composed_49 sx_m2 ?_
        refine sv_getA (pc := 50) hG dX12_composed_50 f_12_42 lay_146 rfl cr_146_37 ?_
        refine sx_iload (pc := 53) dX12_composed_53 sx_m0 ?_
        refine sx_iload_n (pc := 55) dX12_composed_55 sx_m1 ?_
        obtain ⟨g100, h⟩ := sx_grd h
        obtain ⟨V101, hV101⟩ : ∃ z : sv_V, z = sv_I V96 157 x99.toNatClampNeg x98 := ⟨_, rfl⟩
        have h := sx_letE hV101 h
        refine sv_iast (pc := 56) hG dX12_composed_56 lay_157 g100 hV101 ?_
        refine sx_aload_n (pc := 57) dX12_composed_57 sx_m2 ?_
        refine sv_getA (pc := 58) hG dX12_composed_58 f_12_45 lay_146 rfl cr_146_38 ?_
        refine sx_iload (pc := 61) dX12_composed_61 sx_m0 ?_
        refine sx_aload_n (pc := 63) dX12_composed_63 sx_m2 ?_
        refine sx_iload_n (pc := 64) dX12_composed_64 sx_m3 ?_
        refine sx_iconst (pc := 65) (v := 2) dX12_composed_65 (by decide) ?_
        refine sx_iadd (pc := 66) dX12_composed_66 ?_
        obtain ⟨⟨x104, V102⟩, g103, h⟩ := sx_bnd h
        refine sv_cV (pc := 67) (y := qX12_u2) (o := (some (.int x104))) (as := [.int (l1 + (2 : Int32))]) (V1 := V102) hG dX12_composed_67 l_X12_213 y0X12_u2 yvX12_u2 rfl (Nat.le_of_ble_eq_true rfl) lay_146 kr_12 (by decide) (Nat.le_of_ble_eq_true rfl) rfl rfl rfl (t_X12_u2 hG ⟨rfl, rfl⟩ g103) ?_
        obtain ⟨g105, h⟩ := sx_grd h
        obtain ⟨V106, hV106⟩ : ∃ z : sv_V, z = sv_I V102 158 x99.toNatClampNeg x104 := ⟨_, rfl⟩
        have h := sx_letE hV106 h
        refine sv_iast (pc := 70) hG dX12_composed_70 lay_158 g105 hV106 ?_
        obtain ⟨x107, hx107⟩ : ∃ z : Int32, z = l1 + 4 := ⟨_, rfl⟩
        have h := sx_letE hx107 h
        refine sx_iinc (pc := 71) (v := x107) (lo' := [(1, .int x107), (4, .int x99), (3, .int x98), (0, .ref 146), (2, .int l2)]) dX12_composed_71 sx_m3 (by rw [hx107]; rfl) (by decide) rfl ?_
        refine sx_iload_n (pc := 74) dX12_composed_74 sx_m2 ?_
        refine sx_iconst (pc := 75) (v := 1) dX12_composed_75 (by decide) ?_
        refine sx_iand (pc := 76) dX12_composed_76 ?_
        refine sx_if_eq (pc := 77) (tgt := 84) dX12_composed_77 (by decide) (fun c108 => ?_) (fun c108 => ?_)
        · have h := sx_pos c108 h
          refine sx_iconst (pc := 84) (v := 0) dX12_composed_84 (by decide) ?_
          refine sx_wk (sx_s1 sx_m3 (sx_s1 sx_m0 (sx_s1 sx_m2 (sx_s1 sx_m1 sx_s0)))) ?_
          exact tB_X12_composed_85 hG hP hk12 h
        · have h := sx_neg c108 h
          refine sx_iconst (pc := 80) (v := 1) dX12_composed_80 (by decide) ?_
          refine sx_goto (pc := 81) (tgt := 85) dX12_composed_81 (by decide) ?_
          refine sx_wk (sx_s1 sx_m3 (sx_s1 sx_m0 (sx_s1 sx_m2 (sx_s1 sx_m1 sx_s0)))) ?_
          exact tB_X12_composed_85 hG hP hk12 h
      · have h := sx_neg c95 h
        refine sx_iconst (pc := 35) (v := 0) dX12_composed_35 (by decide) ?_
        exact sv_zret (pc := 36) dX12_composed_36 rfl rfl h hP
theorem tL_X12_composed_12 {g : sx_G} (hG : sx_Go g) {P : Option Value → sv_V → Prop} {r : Int32} {Vr : sv_V} (hP : P (some (.int r)) Vr) {N : Nat}   : ∀ (n : Nat) (l1 : Int32) (l2 : Int32) (l3 : Int32) (V : sv_V), sx_lp4 (B_X12_composed_12 N ) n l1 l2 l3 V = some (r, Vr) → sv_N g qX12_composed 3 12 [(0, .ref 146), (1, .int l1), (2, .int l2), (3, .int l3)] [] V P :=
  sx_lp4_ind (fun k0 ih _ _ _ V h => tB_X12_composed_12 hG hP ih h)
def F_X12_composed (N : Nat)  (V : sv_V) : Option (Int32 × sv_V) := sx_let ((V.1 146 26) + (10 : Int32)) (fun x109 => sx_lp4 (B_X12_composed_12 N ) N x109 (1 : Int32) (0 : Int32) V)
set_option maxRecDepth 20000 in
theorem t_X12_composed {g : sx_G} (hG : sx_Go g) {P : Option Value → sv_V → Prop} {r : Int32} {Vr : sv_V} (hP : P (some (.int r)) Vr) {N : Nat}  {V : sv_V} (h : F_X12_composed N  V = some (r, Vr)) : sv_N g qX12_composed 3 0 [(0, .ref 146)] [] V P := by
  unfold F_X12_composed at h
  refine sx_aload_n (pc := 0) dX12_composed_0 sx_m0 ?_
  refine sv_getI (pc := 1) hG dX12_composed_1 f_12_342 lay_146 rfl ?_
  refine sx_bipush (pc := 4) (v := 10) dX12_composed_4 (by decide) ?_
  refine sx_iadd (pc := 6) dX12_composed_6 ?_
  refine sv_tI (fun x109 hx109 => ?_)
  have h := sx_letE hx109 h
  refine sx_istore_n (pc := 7) (lo' := [(1, .int x109), (0, .ref 146)]) dX12_composed_7 (by decide) rfl ?_
  refine sx_iconst (pc := 8) (v := 1) dX12_composed_8 (by decide) ?_
  refine sx_istore_n (pc := 9) (lo' := [(2, .int (1 : Int32)), (1, .int x109), (0, .ref 146)]) dX12_composed_9 (by decide) rfl ?_
  refine sx_iconst (pc := 10) (v := 0) dX12_composed_10 (by decide) ?_
  refine sx_istore_n (pc := 11) (lo' := [(3, .int (0 : Int32)), (2, .int (1 : Int32)), (1, .int x109), (0, .ref 146)]) dX12_composed_11 (by decide) rfl ?_
  refine sx_wk (sx_s1 sx_m3 (sx_s1 sx_m2 (sx_s1 sx_m1 (sx_s1 sx_m0 sx_s0)))) ?_
  exact tL_X12_composed_12 hG hP  N _ _ _ _ h
theorem dX12_setMany_0 : decode cX12_setMany 0 = .ok (.aload_n 0, 1) := by decide +kernel
theorem dX12_setMany_1 : decode cX12_setMany 1 = .ok (.iload_n 1, 1) := by decide +kernel
theorem dX12_setMany_2 : decode cX12_setMany 2 = .ok (.putfield 399, 3) := by decide +kernel
theorem dX12_setMany_5 : decode cX12_setMany 5 = .ok (.iconst 1, 1) := by decide +kernel
theorem dX12_setMany_6 : decode cX12_setMany 6 = .ok (.ireturn, 1) := by decide +kernel
def F_X12_setMany (l1 : Int32) (V : sv_V) : Option (Int32 × sv_V) := sx_let (sv_I V 146 23 l1) (fun V1 => some ((1 : Int32), V1))
set_option maxRecDepth 20000 in
theorem t_X12_setMany {g : sx_G} (hG : sx_Go g) {P : Option Value → sv_V → Prop} {r : Int32} {Vr : sv_V} (hP : P (some (.int r)) Vr) {l1 : Int32} {V : sv_V} (h : F_X12_setMany l1 V = some (r, Vr)) : sv_N g qX12_setMany 0 0 [(0, .ref 146), (1, .int l1)] [] V P := by
  unfold F_X12_setMany at h
  refine sx_aload_n (pc := 0) dX12_setMany_0 sx_m0 ?_
  refine sx_iload_n (pc := 1) dX12_setMany_1 sx_m1 ?_
  obtain ⟨V1, hV1⟩ : ∃ z : sv_V, z = sv_I V 146 23 l1 := ⟨_, rfl⟩
  have h := sx_letE hV1 h
  refine sv_putI (pc := 2) hG dX12_setMany_2 f_12_399 lay_146 rfl hV1 ?_
  refine sx_iconst (pc := 5) (v := 1) dX12_setMany_5 (by decide) ?_
  exact sv_zret (pc := 6) dX12_setMany_6 rfl rfl h hP
theorem dX12_segments_0 : decode cX12_segments 0 = .ok (.aload_n 0, 1) := by decide +kernel
theorem dX12_segments_1 : decode cX12_segments 1 = .ok (.aload_n 0, 1) := by decide +kernel
theorem dX12_segments_2 : decode cX12_segments 2 = .ok (.getfield 384, 3) := by decide +kernel
theorem dX12_segments_5 : decode cX12_segments 5 = .ok (.iconst 2, 1) := by decide +kernel
theorem dX12_segments_6 : decode cX12_segments 6 = .ok (.iadd, 1) := by decide +kernel
theorem dX12_segments_7 : decode cX12_segments 7 = .ok (.invokevirtual 213, 3) := by decide +kernel
theorem dX12_segments_10 : decode cX12_segments 10 = .ok (.istore_n 2, 1) := by decide +kernel
theorem dX12_segments_11 : decode cX12_segments 11 = .ok (.iload_n 2, 1) := by decide +kernel
theorem dX12_segments_12 : decode cX12_segments 12 = .ok (.iload_n 1, 1) := by decide +kernel
theorem dX12_segments_13 : decode cX12_segments 13 = .ok (.if_icmp .gt 9, 3) := by decide +kernel
theorem dX12_segments_16 : decode cX12_segments 16 = .ok (.iload_n 2, 1) := by decide +kernel
theorem dX12_segments_17 : decode cX12_segments 17 = .ok (.bipush 16, 2) := by decide +kernel
theorem dX12_segments_19 : decode cX12_segments 19 = .ok (.if_icmp .ge 5, 3) := by decide +kernel
theorem dX12_segments_22 : decode cX12_segments 22 = .ok (.iconst 0, 1) := by decide +kernel
theorem dX12_segments_23 : decode cX12_segments 23 = .ok (.ireturn, 1) := by decide +kernel
theorem dX12_segments_24 : decode cX12_segments 24 = .ok (.aload_n 0, 1) := by decide +kernel
theorem dX12_segments_25 : decode cX12_segments 25 = .ok (.aload_n 0, 1) := by decide +kernel
theorem dX12_segments_26 : decode cX12_segments 26 = .ok (.getfield 384, 3) := by decide +kernel
theorem dX12_segments_29 : decode cX12_segments 29 = .ok (.bipush 6, 2) := by decide +kernel
theorem dX12_segments_31 : decode cX12_segments 31 = .ok (.iadd, 1) := by decide +kernel
theorem dX12_segments_32 : decode cX12_segments 32 = .ok (.invokevirtual 213, 3) := by decide +kernel
theorem dX12_segments_35 : decode cX12_segments 35 = .ok (.istore_n 3, 1) := by decide +kernel
theorem dX12_segments_36 : decode cX12_segments 36 = .ok (.iload_n 3, 1) := by decide +kernel
theorem dX12_segments_37 : decode cX12_segments 37 = .ok (.iconst 2, 1) := by decide +kernel
theorem dX12_segments_38 : decode cX12_segments 38 = .ok (.idiv, 1) := by decide +kernel
theorem dX12_segments_39 : decode cX12_segments 39 = .ok (.istore 4, 2) := by decide +kernel
theorem dX12_segments_41 : decode cX12_segments 41 = .ok (.iload_n 3, 1) := by decide +kernel
theorem dX12_segments_42 : decode cX12_segments 42 = .ok (.iconst 2, 1) := by decide +kernel
theorem dX12_segments_43 : decode cX12_segments 43 = .ok (.irem, 1) := by decide +kernel
theorem dX12_segments_44 : decode cX12_segments 44 = .ok (.ifCond .ne 28, 3) := by decide +kernel
theorem dX12_segments_47 : decode cX12_segments 47 = .ok (.iload 4, 2) := by decide +kernel
theorem dX12_segments_49 : decode cX12_segments 49 = .ok (.i2l, 1) := by decide +kernel
theorem dX12_segments_50 : decode cX12_segments 50 = .ok (.lconst 1, 1) := by decide +kernel
theorem dX12_segments_51 : decode cX12_segments 51 = .ok (.ldc2_w 402, 3) := by decide +kernel
theorem dX12_segments_54 : decode cX12_segments 54 = .ok (.invokestatic 263, 3) := by decide +kernel
theorem dX12_segments_57 : decode cX12_segments 57 = .ok (.ifCond .eq 15, 3) := by decide +kernel
theorem dX12_segments_60 : decode cX12_segments 60 = .ok (.bipush 16, 2) := by decide +kernel
theorem dX12_segments_62 : decode cX12_segments 62 = .ok (.bipush 8, 2) := by decide +kernel
theorem dX12_segments_64 : decode cX12_segments 64 = .ok (.iload 4, 2) := by decide +kernel
theorem dX12_segments_66 : decode cX12_segments 66 = .ok (.imul, 1) := by decide +kernel
theorem dX12_segments_67 : decode cX12_segments 67 = .ok (.iadd, 1) := by decide +kernel
theorem dX12_segments_68 : decode cX12_segments 68 = .ok (.iload_n 2, 1) := by decide +kernel
theorem dX12_segments_69 : decode cX12_segments 69 = .ok (.if_icmp .le 5, 3) := by decide +kernel
theorem dX12_segments_72 : decode cX12_segments 72 = .ok (.iconst 0, 1) := by decide +kernel
theorem dX12_segments_73 : decode cX12_segments 73 = .ok (.ireturn, 1) := by decide +kernel
theorem dX12_segments_74 : decode cX12_segments 74 = .ok (.aload_n 0, 1) := by decide +kernel
theorem dX12_segments_75 : decode cX12_segments 75 = .ok (.iload 4, 2) := by decide +kernel
theorem dX12_segments_77 : decode cX12_segments 77 = .ok (.putfield 399, 3) := by decide +kernel
theorem dX12_segments_80 : decode cX12_segments 80 = .ok (.iconst (-1), 1) := by decide +kernel
theorem dX12_segments_81 : decode cX12_segments 81 = .ok (.istore 5, 2) := by decide +kernel
theorem dX12_segments_83 : decode cX12_segments 83 = .ok (.iconst 0, 1) := by decide +kernel
theorem dX12_segments_84 : decode cX12_segments 84 = .ok (.istore 6, 2) := by decide +kernel
theorem dX12_segments_86 : decode cX12_segments 86 = .ok (.iload 6, 2) := by decide +kernel
theorem dX12_segments_88 : decode cX12_segments 88 = .ok (.iload 4, 2) := by decide +kernel
theorem dX12_segments_90 : decode cX12_segments 90 = .ok (.if_icmp .ge 93, 3) := by decide +kernel
theorem dX12_segments_93 : decode cX12_segments 93 = .ok (.aload_n 0, 1) := by decide +kernel
theorem dX12_segments_94 : decode cX12_segments 94 = .ok (.aload_n 0, 1) := by decide +kernel
theorem dX12_segments_95 : decode cX12_segments 95 = .ok (.getfield 384, 3) := by decide +kernel
theorem dX12_segments_98 : decode cX12_segments 98 = .ok (.bipush 14, 2) := by decide +kernel
theorem dX12_segments_100 : decode cX12_segments 100 = .ok (.iadd, 1) := by decide +kernel
theorem dX12_segments_101 : decode cX12_segments 101 = .ok (.iconst 2, 1) := by decide +kernel
theorem dX12_segments_102 : decode cX12_segments 102 = .ok (.iload 6, 2) := by decide +kernel
theorem dX12_segments_104 : decode cX12_segments 104 = .ok (.imul, 1) := by decide +kernel
theorem dX12_segments_105 : decode cX12_segments 105 = .ok (.iadd, 1) := by decide +kernel
theorem dX12_segments_106 : decode cX12_segments 106 = .ok (.invokevirtual 213, 3) := by decide +kernel
theorem dX12_segments_109 : decode cX12_segments 109 = .ok (.istore 7, 2) := by decide +kernel
theorem dX12_segments_111 : decode cX12_segments 111 = .ok (.iload 7, 2) := by decide +kernel
theorem dX12_segments_113 : decode cX12_segments 113 = .ok (.iload 5, 2) := by decide +kernel
theorem dX12_segments_115 : decode cX12_segments 115 = .ok (.if_icmp .le 56, 3) := by decide +kernel
theorem dX12_segments_118 : decode cX12_segments 118 = .ok (.aload_n 0, 1) := by decide +kernel
theorem dX12_segments_119 : decode cX12_segments 119 = .ok (.aload_n 0, 1) := by decide +kernel
theorem dX12_segments_120 : decode cX12_segments 120 = .ok (.getfield 384, 3) := by decide +kernel
theorem dX12_segments_123 : decode cX12_segments 123 = .ok (.bipush 16, 2) := by decide +kernel
theorem dX12_segments_125 : decode cX12_segments 125 = .ok (.iadd, 1) := by decide +kernel
theorem dX12_segments_126 : decode cX12_segments 126 = .ok (.iconst 2, 1) := by decide +kernel
theorem dX12_segments_127 : decode cX12_segments 127 = .ok (.iload 4, 2) := by decide +kernel
theorem dX12_segments_129 : decode cX12_segments 129 = .ok (.imul, 1) := by decide +kernel
theorem dX12_segments_130 : decode cX12_segments 130 = .ok (.iadd, 1) := by decide +kernel
theorem dX12_segments_131 : decode cX12_segments 131 = .ok (.iconst 2, 1) := by decide +kernel
theorem dX12_segments_132 : decode cX12_segments 132 = .ok (.iload 6, 2) := by decide +kernel
theorem dX12_segments_134 : decode cX12_segments 134 = .ok (.imul, 1) := by decide +kernel
theorem dX12_segments_135 : decode cX12_segments 135 = .ok (.iadd, 1) := by decide +kernel
theorem dX12_segments_136 : decode cX12_segments 136 = .ok (.invokevirtual 213, 3) := by decide +kernel
theorem dX12_segments_139 : decode cX12_segments 139 = .ok (.iload 7, 2) := by decide +kernel
theorem dX12_segments_141 : decode cX12_segments 141 = .ok (.if_icmp .gt 30, 3) := by decide +kernel
theorem dX12_segments_144 : decode cX12_segments 144 = .ok (.aload_n 0, 1) := by decide +kernel
theorem dX12_segments_145 : decode cX12_segments 145 = .ok (.aload_n 0, 1) := by decide +kernel
theorem dX12_segments_146 : decode cX12_segments 146 = .ok (.getfield 384, 3) := by decide +kernel
theorem dX12_segments_149 : decode cX12_segments 149 = .ok (.bipush 16, 2) := by decide +kernel
theorem dX12_segments_151 : decode cX12_segments 151 = .ok (.iadd, 1) := by decide +kernel
theorem dX12_segments_152 : decode cX12_segments 152 = .ok (.bipush 6, 2) := by decide +kernel
theorem dX12_segments_154 : decode cX12_segments 154 = .ok (.iload 4, 2) := by decide +kernel
theorem dX12_segments_156 : decode cX12_segments 156 = .ok (.imul, 1) := by decide +kernel
theorem dX12_segments_157 : decode cX12_segments 157 = .ok (.iadd, 1) := by decide +kernel
theorem dX12_segments_158 : decode cX12_segments 158 = .ok (.iconst 2, 1) := by decide +kernel
theorem dX12_segments_159 : decode cX12_segments 159 = .ok (.iload 6, 2) := by decide +kernel
theorem dX12_segments_161 : decode cX12_segments 161 = .ok (.imul, 1) := by decide +kernel
theorem dX12_segments_162 : decode cX12_segments 162 = .ok (.iadd, 1) := by decide +kernel
theorem dX12_segments_163 : decode cX12_segments 163 = .ok (.invokevirtual 213, 3) := by decide +kernel
theorem dX12_segments_166 : decode cX12_segments 166 = .ok (.iconst 2, 1) := by decide +kernel
theorem dX12_segments_167 : decode cX12_segments 167 = .ok (.irem, 1) := by decide +kernel
theorem dX12_segments_168 : decode cX12_segments 168 = .ok (.ifCond .eq 5, 3) := by decide +kernel
theorem dX12_segments_171 : decode cX12_segments 171 = .ok (.iconst 0, 1) := by decide +kernel
theorem dX12_segments_172 : decode cX12_segments 172 = .ok (.ireturn, 1) := by decide +kernel
theorem dX12_segments_173 : decode cX12_segments 173 = .ok (.iload 7, 2) := by decide +kernel
theorem dX12_segments_175 : decode cX12_segments 175 = .ok (.istore 5, 2) := by decide +kernel
theorem dX12_segments_177 : decode cX12_segments 177 = .ok (.iinc 6 1, 3) := by decide +kernel
theorem dX12_segments_180 : decode cX12_segments 180 = .ok (.goto (-94), 3) := by decide +kernel
theorem dX12_segments_183 : decode cX12_segments 183 = .ok (.iload 5, 2) := by decide +kernel
theorem dX12_segments_185 : decode cX12_segments 185 = .ok (.ldc_w 404, 3) := by decide +kernel
theorem dX12_segments_188 : decode cX12_segments 188 = .ok (.if_icmp .ne 7, 3) := by decide +kernel
theorem dX12_segments_191 : decode cX12_segments 191 = .ok (.iconst 1, 1) := by decide +kernel
theorem dX12_segments_192 : decode cX12_segments 192 = .ok (.goto 4, 3) := by decide +kernel
theorem dX12_segments_195 : decode cX12_segments 195 = .ok (.iconst 0, 1) := by decide +kernel
theorem dX12_segments_196 : decode cX12_segments 196 = .ok (.ireturn, 1) := by decide +kernel
def B_X12_segments_86 (N : Nat) (k86 : Int32 → Int32 → Int32 → sv_V → Option (Int32 × sv_V)) (l4 : Int32) (l5 : Int32) (l6 : Int32) (V : sv_V) : Option (Int32 × sv_V) := if l4 ≤ l6 then (if l5 = (65535 : Int32) then (some ((1 : Int32), V)) else (some ((0 : Int32), V))) else ((F_X12_u2 (((V.1 146 21) + (14 : Int32)) + ((2 : Int32) * l6)) V).bind (fun (x5, V3) => if x5 ≤ l5 then (some ((0 : Int32), V3)) else ((F_X12_u2 ((((V3.1 146 21) + (16 : Int32)) + ((2 : Int32) * l4)) + ((2 : Int32) * l6)) V3).bind (fun (x9, V7) => if x5 < x9 then (some ((0 : Int32), V7)) else ((F_X12_u2 ((((V7.1 146 21) + (16 : Int32)) + ((6 : Int32) * l4)) + ((2 : Int32) * l6)) V7).bind (fun (x13, V11) => if (x13 - x13 / (2 : Int32) * (2 : Int32)) = 0 then (sx_let (l6 + 1) (fun x15 => k86 l4 x5 x15 V11)) else (some ((0 : Int32), V11))))))))
set_option maxRecDepth 20000 in
theorem tB_X12_segments_86 {g : sx_G} (hG : sx_Go g) {P : Option Value → sv_V → Prop} {r : Int32} {Vr : sv_V} (hP : P (some (.int r)) Vr) {N : Nat} {k86 : Int32 → Int32 → Int32 → sv_V → Option (Int32 × sv_V)} (hk86 : ∀ (l4 : Int32) (l5 : Int32) (l6 : Int32) (V : sv_V), k86 l4 l5 l6 V = some (r, Vr) → sv_N g qX12_segments 2 86 [(0, .ref 146), (4, .int l4), (5, .int l5), (6, .int l6)] [] V P) {l4 : Int32} {l5 : Int32} {l6 : Int32} {V : sv_V} (h : B_X12_segments_86 N k86 l4 l5 l6 V = some (r, Vr)) : sv_N g qX12_segments 2 86 [(0, .ref 146), (4, .int l4), (5, .int l5), (6, .int l6)] [] V P := by
  unfold B_X12_segments_86 at h
  refine sx_iload (pc := 86) dX12_segments_86 sx_m3 ?_
  refine sx_iload (pc := 88) dX12_segments_88 sx_m1 ?_
  refine sx_icmp_ge (pc := 90) (tgt := 183) dX12_segments_90 (by decide) (fun c1 => ?_) (fun c1 => ?_)
  · have h := sx_pos c1 h
    refine sx_iload (pc := 183) dX12_segments_183 sx_m2 ?_
    refine sx_ldcw (pc := 185) dX12_segments_185 k_X12_404 ?_
    refine sx_icmp_ne (pc := 188) (tgt := 195) dX12_segments_188 (by decide) (fun c2 => ?_) (fun c2 => ?_)
    · have h := sx_neg c2 h
      refine sx_iconst (pc := 195) (v := 0) dX12_segments_195 (by decide) ?_
      exact sv_zret (pc := 196) dX12_segments_196 rfl rfl h hP
    · have h := sx_pos c2 h
      refine sx_iconst (pc := 191) (v := 1) dX12_segments_191 (by decide) ?_
      refine sx_goto (pc := 192) (tgt := 196) dX12_segments_192 (by decide) ?_
      exact sv_zret (pc := 196) dX12_segments_196 rfl rfl h hP
  · have h := sx_neg c1 h
    refine sx_aload_n (pc := 93) dX12_segments_93 sx_m0 ?_
    refine sx_aload_n (pc := 94) dX12_segments_94 sx_m0 ?_
    refine sv_getI (pc := 95) hG dX12_segments_95 f_12_384 lay_146 rfl ?_
    refine sx_bipush (pc := 98) (v := 14) dX12_segments_98 (by decide) ?_
    refine sx_iadd (pc := 100) dX12_segments_100 ?_
    refine sx_iconst (pc := 101) (v := 2) dX12_segments_101 (by decide) ?_
    refine sx_iload (pc := 102) dX12_segments_102 sx_m3 ?_
    refine sx_imul (pc := 104) dX12_segments_104 ?_
    refine sx_iadd (pc := 105) dX12_segments_105 ?_
    obtain ⟨⟨x5, V3⟩, g4, h⟩ := sx_bnd h
    refine sv_cV (pc := 106) (y := qX12_u2) (o := (some (.int x5))) (as := [.int (((V.1 146 21) + (14 : Int32)) + ((2 : Int32) * l6))]) (V1 := V3) hG dX12_segments_106 l_X12_213 y0X12_u2 yvX12_u2 rfl (Nat.le_of_ble_eq_true rfl) lay_146 kr_12 (by decide) (Nat.le_of_ble_eq_true rfl) rfl rfl rfl (t_X12_u2 hG ⟨rfl, rfl⟩ g4) ?_
    refine sx_istore (pc := 109) (lo' := [(7, .int x5), (0, .ref 146), (4, .int l4), (5, .int l5), (6, .int l6)]) dX12_segments_109 (by decide) rfl ?_
    refine sx_iload (pc := 111) dX12_segments_111 sx_m0 ?_
    refine sx_iload (pc := 113) dX12_segments_113 sx_m3 ?_
    refine sx_icmp_le (pc := 115) (tgt := 171) dX12_segments_115 (by decide) (fun c6 => ?_) (fun c6 => ?_)
    · have h := sx_pos c6 h
      refine sx_iconst (pc := 171) (v := 0) dX12_segments_171 (by decide) ?_
      exact sv_zret (pc := 172) dX12_segments_172 rfl rfl h hP
    · have h := sx_neg c6 h
      refine sx_aload_n (pc := 118) dX12_segments_118 sx_m1 ?_
      refine sx_aload_n (pc := 119) dX12_segments_119 sx_m1 ?_
      refine sv_getI (pc := 120) hG dX12_segments_120 f_12_384 lay_146 rfl ?_
      refine sx_bipush (pc := 123) (v := 16) dX12_segments_123 (by decide) ?_
      refine sx_iadd (pc := 125) dX12_segments_125 ?_
      refine sx_iconst (pc := 126) (v := 2) dX12_segments_126 (by decide) ?_
      refine sx_iload (pc := 127) dX12_segments_127 sx_m2 ?_
      refine sx_imul (pc := 129) dX12_segments_129 ?_
      refine sx_iadd (pc := 130) dX12_segments_130 ?_
      refine sx_iconst (pc := 131) (v := 2) dX12_segments_131 (by decide) ?_
      refine sx_iload (pc := 132) dX12_segments_132 sx_m4 ?_
      refine sx_imul (pc := 134) dX12_segments_134 ?_
      refine sx_iadd (pc := 135) dX12_segments_135 ?_
      obtain ⟨⟨x9, V7⟩, g8, h⟩ := sx_bnd h
      refine sv_cV (pc := 136) (y := qX12_u2) (o := (some (.int x9))) (as := [.int ((((V3.1 146 21) + (16 : Int32)) + ((2 : Int32) * l4)) + ((2 : Int32) * l6))]) (V1 := V7) hG dX12_segments_136 l_X12_213 y0X12_u2 yvX12_u2 rfl (Nat.le_of_ble_eq_true rfl) lay_146 kr_12 (by decide) (Nat.le_of_ble_eq_true rfl) rfl rfl rfl (t_X12_u2 hG ⟨rfl, rfl⟩ g8) ?_
      refine sx_iload (pc := 139) dX12_segments_139 sx_m0 ?_
      refine sx_icmp_gt (pc := 141) (tgt := 171) dX12_segments_141 (by decide) (fun c10 => ?_) (fun c10 => ?_)
      · have h := sx_pos c10 h
        refine sx_iconst (pc := 171) (v := 0) dX12_segments_171 (by decide) ?_
        exact sv_zret (pc := 172) dX12_segments_172 rfl rfl h hP
      · have h := sx_neg c10 h
        refine sx_aload_n (pc := 144) dX12_segments_144 sx_m1 ?_
        refine sx_aload_n (pc := 145) dX12_segments_145 sx_m1 ?_
        refine sv_getI (pc := 146) hG dX12_segments_146 f_12_384 lay_146 rfl ?_
        refine sx_bipush (pc := 149) (v := 16) dX12_segments_149 (by decide) ?_
        refine sx_iadd (pc := 151) dX12_segments_151 ?_
        refine sx_bipush (pc := 152) (v := 6) dX12_segments_152 (by decide) ?_
        refine sx_iload (pc := 154) dX12_segments_154 sx_m2 ?_
        refine sx_imul (pc := 156) dX12_segments_156 ?_
        refine sx_iadd (pc := 157) dX12_segments_157 ?_
        refine sx_iconst (pc := 158) (v := 2) dX12_segments_158 (by decide) ?_
        refine sx_iload (pc := 159) dX12_segments_159 sx_m4 ?_
        refine sx_imul (pc := 161) dX12_segments_161 ?_
        refine sx_iadd (pc := 162) dX12_segments_162 ?_
        obtain ⟨⟨x13, V11⟩, g12, h⟩ := sx_bnd h
        refine sv_cV (pc := 163) (y := qX12_u2) (o := (some (.int x13))) (as := [.int ((((V7.1 146 21) + (16 : Int32)) + ((6 : Int32) * l4)) + ((2 : Int32) * l6))]) (V1 := V11) hG dX12_segments_163 l_X12_213 y0X12_u2 yvX12_u2 rfl (Nat.le_of_ble_eq_true rfl) lay_146 kr_12 (by decide) (Nat.le_of_ble_eq_true rfl) rfl rfl rfl (t_X12_u2 hG ⟨rfl, rfl⟩ g12) ?_
        refine sx_iconst (pc := 166) (v := 2) dX12_segments_166 (by decide) ?_
        refine sx_irem (pc := 167) dX12_segments_167 (by decide) ?_
        refine sx_if_eq (pc := 168) (tgt := 173) dX12_segments_168 (by decide) (fun c14 => ?_) (fun c14 => ?_)
        · have h := sx_pos c14 h
          refine sx_iload (pc := 173) dX12_segments_173 sx_m0 ?_
          refine sx_istore (pc := 175) (lo' := [(5, .int x5), (7, .int x5), (0, .ref 146), (4, .int l4), (6, .int l6)]) dX12_segments_175 (by decide) rfl ?_
          obtain ⟨x15, hx15⟩ : ∃ z : Int32, z = l6 + 1 := ⟨_, rfl⟩
          have h := sx_letE hx15 h
          refine sx_iinc (pc := 177) (v := x15) (lo' := [(6, .int x15), (5, .int x5), (7, .int x5), (0, .ref 146), (4, .int l4)]) dX12_segments_177 sx_m4 (by rw [hx15]; rfl) (by decide) rfl ?_
          refine sx_goto (pc := 180) (tgt := 86) dX12_segments_180 (by decide) ?_
          refine sx_wk (sx_s1 sx_m3 (sx_s1 sx_m4 (sx_s1 sx_m1 (sx_s1 sx_m0 sx_s0)))) ?_
          exact hk86 _ _ _ _ h
        · have h := sx_neg c14 h
          refine sx_iconst (pc := 171) (v := 0) dX12_segments_171 (by decide) ?_
          exact sv_zret (pc := 172) dX12_segments_172 rfl rfl h hP
theorem tL_X12_segments_86 {g : sx_G} (hG : sx_Go g) {P : Option Value → sv_V → Prop} {r : Int32} {Vr : sv_V} (hP : P (some (.int r)) Vr) {N : Nat}   : ∀ (n : Nat) (l4 : Int32) (l5 : Int32) (l6 : Int32) (V : sv_V), sx_lp4 (B_X12_segments_86 N ) n l4 l5 l6 V = some (r, Vr) → sv_N g qX12_segments 2 86 [(0, .ref 146), (4, .int l4), (5, .int l5), (6, .int l6)] [] V P :=
  sx_lp4_ind (fun k0 ih _ _ _ V h => tB_X12_segments_86 hG hP ih h)
def F_X12_segments (N : Nat) (l1 : Int32) (V : sv_V) : Option (Int32 × sv_V) := (F_X12_u2 ((V.1 146 21) + (2 : Int32)) V).bind (fun (x18, V16) => if l1 < x18 then (some ((0 : Int32), V16)) else (if (16 : Int32) ≤ x18 then ((F_X12_u2 ((V16.1 146 21) + (6 : Int32)) V16).bind (fun (x23, V21) => sx_let (x23 / (2 : Int32)) (fun x24 => if (x23 - x23 / (2 : Int32) * (2 : Int32)) = 0 then ((F_X12_in x24.toInt64 (1 : Int64) (40 : Int64) V21).bind (fun (x28, V26) => if x28 = 0 then (some ((0 : Int32), V26)) else (if ((16 : Int32) + ((8 : Int32) * x24)) ≤ x18 then (sx_let (sv_I V26 146 23 x24) (fun V31 => sx_lp4 (B_X12_segments_86 N ) N x24 (-1 : Int32) (0 : Int32) V31)) else (some ((0 : Int32), V26))))) else (some ((0 : Int32), V21))))) else (some ((0 : Int32), V16))))
set_option maxRecDepth 20000 in
theorem t_X12_segments {g : sx_G} (hG : sx_Go g) {P : Option Value → sv_V → Prop} {r : Int32} {Vr : sv_V} (hP : P (some (.int r)) Vr) {N : Nat} {l1 : Int32} {V : sv_V} (h : F_X12_segments N l1 V = some (r, Vr)) : sv_N g qX12_segments 2 0 [(0, .ref 146), (1, .int l1)] [] V P := by
  unfold F_X12_segments at h
  refine sx_aload_n (pc := 0) dX12_segments_0 sx_m0 ?_
  refine sx_aload_n (pc := 1) dX12_segments_1 sx_m0 ?_
  refine sv_getI (pc := 2) hG dX12_segments_2 f_12_384 lay_146 rfl ?_
  refine sx_iconst (pc := 5) (v := 2) dX12_segments_5 (by decide) ?_
  refine sx_iadd (pc := 6) dX12_segments_6 ?_
  obtain ⟨⟨x18, V16⟩, g17, h⟩ := sx_bnd h
  refine sv_cV (pc := 7) (y := qX12_u2) (o := (some (.int x18))) (as := [.int ((V.1 146 21) + (2 : Int32))]) (V1 := V16) hG dX12_segments_7 l_X12_213 y0X12_u2 yvX12_u2 rfl (Nat.le_of_ble_eq_true rfl) lay_146 kr_12 (by decide) (Nat.le_of_ble_eq_true rfl) rfl rfl rfl (t_X12_u2 hG ⟨rfl, rfl⟩ g17) ?_
  refine sx_istore_n (pc := 10) (lo' := [(2, .int x18), (0, .ref 146), (1, .int l1)]) dX12_segments_10 (by decide) rfl ?_
  refine sx_iload_n (pc := 11) dX12_segments_11 sx_m0 ?_
  refine sx_iload_n (pc := 12) dX12_segments_12 sx_m2 ?_
  refine sx_icmp_gt (pc := 13) (tgt := 22) dX12_segments_13 (by decide) (fun c19 => ?_) (fun c19 => ?_)
  · have h := sx_pos c19 h
    refine sx_iconst (pc := 22) (v := 0) dX12_segments_22 (by decide) ?_
    exact sv_zret (pc := 23) dX12_segments_23 rfl rfl h hP
  · have h := sx_neg c19 h
    refine sx_iload_n (pc := 16) dX12_segments_16 sx_m0 ?_
    refine sx_bipush (pc := 17) (v := 16) dX12_segments_17 (by decide) ?_
    refine sx_icmp_ge (pc := 19) (tgt := 24) dX12_segments_19 (by decide) (fun c20 => ?_) (fun c20 => ?_)
    · have h := sx_pos c20 h
      refine sx_aload_n (pc := 24) dX12_segments_24 sx_m1 ?_
      refine sx_aload_n (pc := 25) dX12_segments_25 sx_m1 ?_
      refine sv_getI (pc := 26) hG dX12_segments_26 f_12_384 lay_146 rfl ?_
      refine sx_bipush (pc := 29) (v := 6) dX12_segments_29 (by decide) ?_
      refine sx_iadd (pc := 31) dX12_segments_31 ?_
      obtain ⟨⟨x23, V21⟩, g22, h⟩ := sx_bnd h
      refine sv_cV (pc := 32) (y := qX12_u2) (o := (some (.int x23))) (as := [.int ((V16.1 146 21) + (6 : Int32))]) (V1 := V21) hG dX12_segments_32 l_X12_213 y0X12_u2 yvX12_u2 rfl (Nat.le_of_ble_eq_true rfl) lay_146 kr_12 (by decide) (Nat.le_of_ble_eq_true rfl) rfl rfl rfl (t_X12_u2 hG ⟨rfl, rfl⟩ g22) ?_
      refine sx_istore_n (pc := 35) (lo' := [(3, .int x23), (2, .int x18), (0, .ref 146), (1, .int l1)]) dX12_segments_35 (by decide) rfl ?_
      refine sx_iload_n (pc := 36) dX12_segments_36 sx_m0 ?_
      refine sx_iconst (pc := 37) (v := 2) dX12_segments_37 (by decide) ?_
      refine sx_idiv (pc := 38) dX12_segments_38 (by decide) ?_
      refine sv_tI (fun x24 hx24 => ?_)
      have h := sx_letE hx24 h
      refine sx_istore (pc := 39) (lo' := [(4, .int x24), (3, .int x23), (2, .int x18), (0, .ref 146), (1, .int l1)]) dX12_segments_39 (by decide) rfl ?_
      refine sx_iload_n (pc := 41) dX12_segments_41 sx_m1 ?_
      refine sx_iconst (pc := 42) (v := 2) dX12_segments_42 (by decide) ?_
      refine sx_irem (pc := 43) dX12_segments_43 (by decide) ?_
      refine sx_if_ne (pc := 44) (tgt := 72) dX12_segments_44 (by decide) (fun c25 => ?_) (fun c25 => ?_)
      · have h := sx_neg c25 h
        refine sx_iconst (pc := 72) (v := 0) dX12_segments_72 (by decide) ?_
        exact sv_zret (pc := 73) dX12_segments_73 rfl rfl h hP
      · have h := sx_pos c25 h
        refine sx_iload (pc := 47) dX12_segments_47 sx_m0 ?_
        refine sx_i2l (pc := 49) dX12_segments_49 ?_
        refine sx_lconst (pc := 50) (v := 1) dX12_segments_50 rfl ?_
        refine sx_ldc2 (pc := 51) dX12_segments_51 k_X12_402 ?_
        obtain ⟨⟨x28, V26⟩, g27, h⟩ := sx_bnd h
        refine sv_cS (pc := 54) (y := qX12_in) (o := (some (.int x28))) (as := [.long x24.toInt64, .long (1 : Int64), .long (40 : Int64)]) (V1 := V26) dX12_segments_54 l_X12_263 y0X12_in ysX12_in rfl (Nat.le_of_ble_eq_true rfl) (by decide) (Nat.le_of_ble_eq_true rfl) rfl rfl rfl (t_X12_in hG ⟨rfl, rfl⟩ g27) ?_
        refine sx_if_eq (pc := 57) (tgt := 72) dX12_segments_57 (by decide) (fun c29 => ?_) (fun c29 => ?_)
        · have h := sx_pos c29 h
          refine sx_iconst (pc := 72) (v := 0) dX12_segments_72 (by decide) ?_
          exact sv_zret (pc := 73) dX12_segments_73 rfl rfl h hP
        · have h := sx_neg c29 h
          refine sx_bipush (pc := 60) (v := 16) dX12_segments_60 (by decide) ?_
          refine sx_bipush (pc := 62) (v := 8) dX12_segments_62 (by decide) ?_
          refine sx_iload (pc := 64) dX12_segments_64 sx_m0 ?_
          refine sx_imul (pc := 66) dX12_segments_66 ?_
          refine sx_iadd (pc := 67) dX12_segments_67 ?_
          refine sx_iload_n (pc := 68) dX12_segments_68 sx_m2 ?_
          refine sx_icmp_le (pc := 69) (tgt := 74) dX12_segments_69 (by decide) (fun c30 => ?_) (fun c30 => ?_)
          · have h := sx_pos c30 h
            refine sx_aload_n (pc := 74) dX12_segments_74 sx_m3 ?_
            refine sx_iload (pc := 75) dX12_segments_75 sx_m0 ?_
            obtain ⟨V31, hV31⟩ : ∃ z : sv_V, z = sv_I V26 146 23 x24 := ⟨_, rfl⟩
            have h := sx_letE hV31 h
            refine sv_putI (pc := 77) hG dX12_segments_77 f_12_399 lay_146 rfl hV31 ?_
            refine sx_iconst (pc := 80) (v := (-1)) dX12_segments_80 (by decide) ?_
            refine sx_istore (pc := 81) (lo' := [(5, .int (-1 : Int32)), (4, .int x24), (3, .int x23), (2, .int x18), (0, .ref 146), (1, .int l1)]) dX12_segments_81 (by decide) rfl ?_
            refine sx_iconst (pc := 83) (v := 0) dX12_segments_83 (by decide) ?_
            refine sx_istore (pc := 84) (lo' := [(6, .int (0 : Int32)), (5, .int (-1 : Int32)), (4, .int x24), (3, .int x23), (2, .int x18), (0, .ref 146), (1, .int l1)]) dX12_segments_84 (by decide) rfl ?_
            refine sx_wk (sx_s1 sx_m5 (sx_s1 sx_m2 (sx_s1 sx_m1 (sx_s1 sx_m0 sx_s0)))) ?_
            exact tL_X12_segments_86 hG hP  N _ _ _ _ h
          · have h := sx_neg c30 h
            refine sx_iconst (pc := 72) (v := 0) dX12_segments_72 (by decide) ?_
            exact sv_zret (pc := 73) dX12_segments_73 rfl rfl h hP
    · have h := sx_neg c20 h
      refine sx_iconst (pc := 22) (v := 0) dX12_segments_22 (by decide) ?_
      exact sv_zret (pc := 23) dX12_segments_23 rfl rfl h hP
theorem dX12_groups_0 : decode cX12_groups 0 = .ok (.iload_n 1, 1) := by decide +kernel
theorem dX12_groups_1 : decode cX12_groups 1 = .ok (.bipush 16, 2) := by decide +kernel
theorem dX12_groups_3 : decode cX12_groups 3 = .ok (.if_icmp .ge 5, 3) := by decide +kernel
theorem dX12_groups_6 : decode cX12_groups 6 = .ok (.iconst 0, 1) := by decide +kernel
theorem dX12_groups_7 : decode cX12_groups 7 = .ok (.ireturn, 1) := by decide +kernel
theorem dX12_groups_8 : decode cX12_groups 8 = .ok (.aload_n 0, 1) := by decide +kernel
theorem dX12_groups_9 : decode cX12_groups 9 = .ok (.aload_n 0, 1) := by decide +kernel
theorem dX12_groups_10 : decode cX12_groups 10 = .ok (.getfield 384, 3) := by decide +kernel
theorem dX12_groups_13 : decode cX12_groups 13 = .ok (.iconst 4, 1) := by decide +kernel
theorem dX12_groups_14 : decode cX12_groups 14 = .ok (.iadd, 1) := by decide +kernel
theorem dX12_groups_15 : decode cX12_groups 15 = .ok (.invokevirtual 297, 3) := by decide +kernel
theorem dX12_groups_18 : decode cX12_groups 18 = .ok (.lstore_n 2, 1) := by decide +kernel
theorem dX12_groups_19 : decode cX12_groups 19 = .ok (.aload_n 0, 1) := by decide +kernel
theorem dX12_groups_20 : decode cX12_groups 20 = .ok (.aload_n 0, 1) := by decide +kernel
theorem dX12_groups_21 : decode cX12_groups 21 = .ok (.getfield 384, 3) := by decide +kernel
theorem dX12_groups_24 : decode cX12_groups 24 = .ok (.bipush 12, 2) := by decide +kernel
theorem dX12_groups_26 : decode cX12_groups 26 = .ok (.iadd, 1) := by decide +kernel
theorem dX12_groups_27 : decode cX12_groups 27 = .ok (.invokevirtual 297, 3) := by decide +kernel
theorem dX12_groups_30 : decode cX12_groups 30 = .ok (.lstore 4, 2) := by decide +kernel
theorem dX12_groups_32 : decode cX12_groups 32 = .ok (.lload_n 2, 1) := by decide +kernel
theorem dX12_groups_33 : decode cX12_groups 33 = .ok (.iload_n 1, 1) := by decide +kernel
theorem dX12_groups_34 : decode cX12_groups 34 = .ok (.i2l, 1) := by decide +kernel
theorem dX12_groups_35 : decode cX12_groups 35 = .ok (.lcmp, 1) := by decide +kernel
theorem dX12_groups_36 : decode cX12_groups 36 = .ok (.ifCond .gt 30, 3) := by decide +kernel
theorem dX12_groups_39 : decode cX12_groups 39 = .ok (.lload 4, 2) := by decide +kernel
theorem dX12_groups_41 : decode cX12_groups 41 = .ok (.lconst 1, 1) := by decide +kernel
theorem dX12_groups_42 : decode cX12_groups 42 = .ok (.ldc2_w 402, 3) := by decide +kernel
theorem dX12_groups_45 : decode cX12_groups 45 = .ok (.invokestatic 263, 3) := by decide +kernel
theorem dX12_groups_48 : decode cX12_groups 48 = .ok (.ifCond .eq 18, 3) := by decide +kernel
theorem dX12_groups_51 : decode cX12_groups 51 = .ok (.ldc2_w 232, 3) := by decide +kernel
theorem dX12_groups_54 : decode cX12_groups 54 = .ok (.ldc2_w 230, 3) := by decide +kernel
theorem dX12_groups_57 : decode cX12_groups 57 = .ok (.lload 4, 2) := by decide +kernel
theorem dX12_groups_59 : decode cX12_groups 59 = .ok (.lmul, 1) := by decide +kernel
theorem dX12_groups_60 : decode cX12_groups 60 = .ok (.ladd, 1) := by decide +kernel
theorem dX12_groups_61 : decode cX12_groups 61 = .ok (.lload_n 2, 1) := by decide +kernel
theorem dX12_groups_62 : decode cX12_groups 62 = .ok (.lcmp, 1) := by decide +kernel
theorem dX12_groups_63 : decode cX12_groups 63 = .ok (.ifCond .le 5, 3) := by decide +kernel
theorem dX12_groups_66 : decode cX12_groups 66 = .ok (.iconst 0, 1) := by decide +kernel
theorem dX12_groups_67 : decode cX12_groups 67 = .ok (.ireturn, 1) := by decide +kernel
theorem dX12_groups_68 : decode cX12_groups 68 = .ok (.aload_n 0, 1) := by decide +kernel
theorem dX12_groups_69 : decode cX12_groups 69 = .ok (.lload 4, 2) := by decide +kernel
theorem dX12_groups_71 : decode cX12_groups 71 = .ok (.l2i, 1) := by decide +kernel
theorem dX12_groups_72 : decode cX12_groups 72 = .ok (.putfield 399, 3) := by decide +kernel
theorem dX12_groups_75 : decode cX12_groups 75 = .ok (.iconst 0, 1) := by decide +kernel
theorem dX12_groups_76 : decode cX12_groups 76 = .ok (.istore 6, 2) := by decide +kernel
theorem dX12_groups_78 : decode cX12_groups 78 = .ok (.iload 6, 2) := by decide +kernel
theorem dX12_groups_80 : decode cX12_groups 80 = .ok (.aload_n 0, 1) := by decide +kernel
theorem dX12_groups_81 : decode cX12_groups 81 = .ok (.getfield 399, 3) := by decide +kernel
theorem dX12_groups_84 : decode cX12_groups 84 = .ok (.if_icmp .ge 76, 3) := by decide +kernel
theorem dX12_groups_87 : decode cX12_groups 87 = .ok (.aload_n 0, 1) := by decide +kernel
theorem dX12_groups_88 : decode cX12_groups 88 = .ok (.getfield 384, 3) := by decide +kernel
theorem dX12_groups_91 : decode cX12_groups 91 = .ok (.bipush 16, 2) := by decide +kernel
theorem dX12_groups_93 : decode cX12_groups 93 = .ok (.iadd, 1) := by decide +kernel
theorem dX12_groups_94 : decode cX12_groups 94 = .ok (.bipush 12, 2) := by decide +kernel
theorem dX12_groups_96 : decode cX12_groups 96 = .ok (.iload 6, 2) := by decide +kernel
theorem dX12_groups_98 : decode cX12_groups 98 = .ok (.imul, 1) := by decide +kernel
theorem dX12_groups_99 : decode cX12_groups 99 = .ok (.iadd, 1) := by decide +kernel
theorem dX12_groups_100 : decode cX12_groups 100 = .ok (.istore 7, 2) := by decide +kernel
theorem dX12_groups_102 : decode cX12_groups 102 = .ok (.aload_n 0, 1) := by decide +kernel
theorem dX12_groups_103 : decode cX12_groups 103 = .ok (.iload 7, 2) := by decide +kernel
theorem dX12_groups_105 : decode cX12_groups 105 = .ok (.invokevirtual 297, 3) := by decide +kernel
theorem dX12_groups_108 : decode cX12_groups 108 = .ok (.aload_n 0, 1) := by decide +kernel
theorem dX12_groups_109 : decode cX12_groups 109 = .ok (.iload 7, 2) := by decide +kernel
theorem dX12_groups_111 : decode cX12_groups 111 = .ok (.iconst 4, 1) := by decide +kernel
theorem dX12_groups_112 : decode cX12_groups 112 = .ok (.iadd, 1) := by decide +kernel
theorem dX12_groups_113 : decode cX12_groups 113 = .ok (.invokevirtual 297, 3) := by decide +kernel
theorem dX12_groups_116 : decode cX12_groups 116 = .ok (.lcmp, 1) := by decide +kernel
theorem dX12_groups_117 : decode cX12_groups 117 = .ok (.ifCond .gt 35, 3) := by decide +kernel
theorem dX12_groups_120 : decode cX12_groups 120 = .ok (.iload 6, 2) := by decide +kernel
theorem dX12_groups_122 : decode cX12_groups 122 = .ok (.iconst 1, 1) := by decide +kernel
theorem dX12_groups_123 : decode cX12_groups 123 = .ok (.iadd, 1) := by decide +kernel
theorem dX12_groups_124 : decode cX12_groups 124 = .ok (.aload_n 0, 1) := by decide +kernel
theorem dX12_groups_125 : decode cX12_groups 125 = .ok (.getfield 399, 3) := by decide +kernel
theorem dX12_groups_128 : decode cX12_groups 128 = .ok (.if_icmp .ge 26, 3) := by decide +kernel
theorem dX12_groups_131 : decode cX12_groups 131 = .ok (.aload_n 0, 1) := by decide +kernel
theorem dX12_groups_132 : decode cX12_groups 132 = .ok (.iload 7, 2) := by decide +kernel
theorem dX12_groups_134 : decode cX12_groups 134 = .ok (.iconst 4, 1) := by decide +kernel
theorem dX12_groups_135 : decode cX12_groups 135 = .ok (.iadd, 1) := by decide +kernel
theorem dX12_groups_136 : decode cX12_groups 136 = .ok (.invokevirtual 297, 3) := by decide +kernel
theorem dX12_groups_139 : decode cX12_groups 139 = .ok (.aload_n 0, 1) := by decide +kernel
theorem dX12_groups_140 : decode cX12_groups 140 = .ok (.iload 7, 2) := by decide +kernel
theorem dX12_groups_142 : decode cX12_groups 142 = .ok (.bipush 12, 2) := by decide +kernel
theorem dX12_groups_144 : decode cX12_groups 144 = .ok (.iadd, 1) := by decide +kernel
theorem dX12_groups_145 : decode cX12_groups 145 = .ok (.invokevirtual 297, 3) := by decide +kernel
theorem dX12_groups_148 : decode cX12_groups 148 = .ok (.lcmp, 1) := by decide +kernel
theorem dX12_groups_149 : decode cX12_groups 149 = .ok (.ifCond .lt 5, 3) := by decide +kernel
theorem dX12_groups_152 : decode cX12_groups 152 = .ok (.iconst 0, 1) := by decide +kernel
theorem dX12_groups_153 : decode cX12_groups 153 = .ok (.ireturn, 1) := by decide +kernel
theorem dX12_groups_154 : decode cX12_groups 154 = .ok (.iinc 6 1, 3) := by decide +kernel
theorem dX12_groups_157 : decode cX12_groups 157 = .ok (.goto (-79), 3) := by decide +kernel
theorem dX12_groups_160 : decode cX12_groups 160 = .ok (.iconst 1, 1) := by decide +kernel
theorem dX12_groups_161 : decode cX12_groups 161 = .ok (.ireturn, 1) := by decide +kernel
def B_X12_groups_154 (N : Nat) (k78 : Int32 → sv_V → Option (Int32 × sv_V)) (l6 : Int32) (V : sv_V) : Option (Int32 × sv_V) := sx_let (l6 + 1) (fun x1 => k78 x1 V)
set_option maxRecDepth 20000 in
theorem tB_X12_groups_154 {g : sx_G} (hG : sx_Go g) {P : Option Value → sv_V → Prop} {r : Int32} {Vr : sv_V} (hP : P (some (.int r)) Vr) {N : Nat} {k78 : Int32 → sv_V → Option (Int32 × sv_V)} (hk78 : ∀ (l6 : Int32) (V : sv_V), k78 l6 V = some (r, Vr) → sv_N g qX12_groups 3 78 [(0, .ref 146), (6, .int l6)] [] V P) {l6 : Int32} {V : sv_V} (h : B_X12_groups_154 N k78 l6 V = some (r, Vr)) : sv_N g qX12_groups 3 154 [(0, .ref 146), (6, .int l6)] [] V P := by
  unfold B_X12_groups_154 at h
  obtain ⟨x1, hx1⟩ : ∃ z : Int32, z = l6 + 1 := ⟨_, rfl⟩
  have h := sx_letE hx1 h
  refine sx_iinc (pc := 154) (v := x1) (lo' := [(6, .int x1), (0, .ref 146)]) dX12_groups_154 sx_m1 (by rw [hx1]; rfl) (by decide) rfl ?_
  refine sx_goto (pc := 157) (tgt := 78) dX12_groups_157 (by decide) ?_
  refine sx_wk (sx_s1 sx_m1 (sx_s1 sx_m0 sx_s0)) ?_
  exact hk78 _ _ h
def B_X12_groups_78 (N : Nat) (k78 : Int32 → sv_V → Option (Int32 × sv_V)) (l6 : Int32) (V : sv_V) : Option (Int32 × sv_V) := if (V.1 146 23) ≤ l6 then (some ((1 : Int32), V)) else (sx_let (((V.1 146 21) + (16 : Int32)) + ((12 : Int32) * l6)) (fun x3 => (F_X12_u4 x3 V).bind (fun (x6, V4) => (F_X12_u4 (x3 + (4 : Int32)) V4).bind (fun (x9, V7) => if 0 < (lg_cmp x6 x9) then (some ((0 : Int32), V7)) else (if (V7.1 146 23) ≤ (l6 + (1 : Int32)) then (B_X12_groups_154 N k78 l6 V7) else ((F_X12_u4 (x3 + (4 : Int32)) V7).bind (fun (x14, V12) => (F_X12_u4 (x3 + (12 : Int32)) V12).bind (fun (x17, V15) => if (lg_cmp x14 x17) < 0 then (B_X12_groups_154 N k78 l6 V15) else (some ((0 : Int32), V15))))))))))
set_option maxRecDepth 20000 in
theorem tB_X12_groups_78 {g : sx_G} (hG : sx_Go g) {P : Option Value → sv_V → Prop} {r : Int32} {Vr : sv_V} (hP : P (some (.int r)) Vr) {N : Nat} {k78 : Int32 → sv_V → Option (Int32 × sv_V)} (hk78 : ∀ (l6 : Int32) (V : sv_V), k78 l6 V = some (r, Vr) → sv_N g qX12_groups 3 78 [(0, .ref 146), (6, .int l6)] [] V P) {l6 : Int32} {V : sv_V} (h : B_X12_groups_78 N k78 l6 V = some (r, Vr)) : sv_N g qX12_groups 3 78 [(0, .ref 146), (6, .int l6)] [] V P := by
  unfold B_X12_groups_78 at h
  refine sx_iload (pc := 78) dX12_groups_78 sx_m1 ?_
  refine sx_aload_n (pc := 80) dX12_groups_80 sx_m0 ?_
  refine sv_getI (pc := 81) hG dX12_groups_81 f_12_399 lay_146 rfl ?_
  refine sx_icmp_ge (pc := 84) (tgt := 160) dX12_groups_84 (by decide) (fun c2 => ?_) (fun c2 => ?_)
  · have h := sx_pos c2 h
    refine sx_iconst (pc := 160) (v := 1) dX12_groups_160 (by decide) ?_
    exact sv_zret (pc := 161) dX12_groups_161 rfl rfl h hP
  · have h := sx_neg c2 h
    refine sx_aload_n (pc := 87) dX12_groups_87 sx_m0 ?_
    refine sv_getI (pc := 88) hG dX12_groups_88 f_12_384 lay_146 rfl ?_
    refine sx_bipush (pc := 91) (v := 16) dX12_groups_91 (by decide) ?_
    refine sx_iadd (pc := 93) dX12_groups_93 ?_
    refine sx_bipush (pc := 94) (v := 12) dX12_groups_94 (by decide) ?_
    refine sx_iload (pc := 96) dX12_groups_96 sx_m1 ?_
    refine sx_imul (pc := 98) dX12_groups_98 ?_
    refine sx_iadd (pc := 99) dX12_groups_99 ?_
    refine sv_tI (fun x3 hx3 => ?_)
    have h := sx_letE hx3 h
    refine sx_istore (pc := 100) (lo' := [(7, .int x3), (0, .ref 146), (6, .int l6)]) dX12_groups_100 (by decide) rfl ?_
    refine sx_aload_n (pc := 102) dX12_groups_102 sx_m1 ?_
    refine sx_iload (pc := 103) dX12_groups_103 sx_m0 ?_
    obtain ⟨⟨x6, V4⟩, g5, h⟩ := sx_bnd h
    refine sv_cV (pc := 105) (y := qX12_u4) (o := (some (.long x6))) (as := [.int x3]) (V1 := V4) hG dX12_groups_105 l_X12_297 y0X12_u4 yvX12_u4 rfl (Nat.le_of_ble_eq_true rfl) lay_146 kr_12 (by decide) (Nat.le_of_ble_eq_true rfl) rfl rfl rfl (t_X12_u4 hG ⟨rfl, rfl⟩ g5) ?_
    refine sx_aload_n (pc := 108) dX12_groups_108 sx_m1 ?_
    refine sx_iload (pc := 109) dX12_groups_109 sx_m0 ?_
    refine sx_iconst (pc := 111) (v := 4) dX12_groups_111 (by decide) ?_
    refine sx_iadd (pc := 112) dX12_groups_112 ?_
    obtain ⟨⟨x9, V7⟩, g8, h⟩ := sx_bnd h
    refine sv_cV (pc := 113) (y := qX12_u4) (o := (some (.long x9))) (as := [.int (x3 + (4 : Int32))]) (V1 := V7) hG dX12_groups_113 l_X12_297 y0X12_u4 yvX12_u4 rfl (Nat.le_of_ble_eq_true rfl) lay_146 kr_12 (by decide) (Nat.le_of_ble_eq_true rfl) rfl rfl rfl (t_X12_u4 hG ⟨rfl, rfl⟩ g8) ?_
    refine sx_lcmp (pc := 116) dX12_groups_116 ?_
    refine sx_if_gt (pc := 117) (tgt := 152) dX12_groups_117 (by decide) (fun c10 => ?_) (fun c10 => ?_)
    · have h := sx_pos c10 h
      refine sx_iconst (pc := 152) (v := 0) dX12_groups_152 (by decide) ?_
      exact sv_zret (pc := 153) dX12_groups_153 rfl rfl h hP
    · have h := sx_neg c10 h
      refine sx_iload (pc := 120) dX12_groups_120 sx_m2 ?_
      refine sx_iconst (pc := 122) (v := 1) dX12_groups_122 (by decide) ?_
      refine sx_iadd (pc := 123) dX12_groups_123 ?_
      refine sx_aload_n (pc := 124) dX12_groups_124 sx_m1 ?_
      refine sv_getI (pc := 125) hG dX12_groups_125 f_12_399 lay_146 rfl ?_
      refine sx_icmp_ge (pc := 128) (tgt := 154) dX12_groups_128 (by decide) (fun c11 => ?_) (fun c11 => ?_)
      · have h := sx_pos c11 h
        refine sx_wk (sx_s1 sx_m1 (sx_s1 sx_m2 sx_s0)) ?_
        exact tB_X12_groups_154 hG hP hk78 h
      · have h := sx_neg c11 h
        refine sx_aload_n (pc := 131) dX12_groups_131 sx_m1 ?_
        refine sx_iload (pc := 132) dX12_groups_132 sx_m0 ?_
        refine sx_iconst (pc := 134) (v := 4) dX12_groups_134 (by decide) ?_
        refine sx_iadd (pc := 135) dX12_groups_135 ?_
        obtain ⟨⟨x14, V12⟩, g13, h⟩ := sx_bnd h
        refine sv_cV (pc := 136) (y := qX12_u4) (o := (some (.long x14))) (as := [.int (x3 + (4 : Int32))]) (V1 := V12) hG dX12_groups_136 l_X12_297 y0X12_u4 yvX12_u4 rfl (Nat.le_of_ble_eq_true rfl) lay_146 kr_12 (by decide) (Nat.le_of_ble_eq_true rfl) rfl rfl rfl (t_X12_u4 hG ⟨rfl, rfl⟩ g13) ?_
        refine sx_aload_n (pc := 139) dX12_groups_139 sx_m1 ?_
        refine sx_iload (pc := 140) dX12_groups_140 sx_m0 ?_
        refine sx_bipush (pc := 142) (v := 12) dX12_groups_142 (by decide) ?_
        refine sx_iadd (pc := 144) dX12_groups_144 ?_
        obtain ⟨⟨x17, V15⟩, g16, h⟩ := sx_bnd h
        refine sv_cV (pc := 145) (y := qX12_u4) (o := (some (.long x17))) (as := [.int (x3 + (12 : Int32))]) (V1 := V15) hG dX12_groups_145 l_X12_297 y0X12_u4 yvX12_u4 rfl (Nat.le_of_ble_eq_true rfl) lay_146 kr_12 (by decide) (Nat.le_of_ble_eq_true rfl) rfl rfl rfl (t_X12_u4 hG ⟨rfl, rfl⟩ g16) ?_
        refine sx_lcmp (pc := 148) dX12_groups_148 ?_
        refine sx_if_lt (pc := 149) (tgt := 154) dX12_groups_149 (by decide) (fun c18 => ?_) (fun c18 => ?_)
        · have h := sx_pos c18 h
          refine sx_wk (sx_s1 sx_m1 (sx_s1 sx_m2 sx_s0)) ?_
          exact tB_X12_groups_154 hG hP hk78 h
        · have h := sx_neg c18 h
          refine sx_iconst (pc := 152) (v := 0) dX12_groups_152 (by decide) ?_
          exact sv_zret (pc := 153) dX12_groups_153 rfl rfl h hP
theorem tL_X12_groups_78 {g : sx_G} (hG : sx_Go g) {P : Option Value → sv_V → Prop} {r : Int32} {Vr : sv_V} (hP : P (some (.int r)) Vr) {N : Nat}   : ∀ (n : Nat) (l6 : Int32) (V : sv_V), sx_lp2 (B_X12_groups_78 N ) n l6 V = some (r, Vr) → sv_N g qX12_groups 3 78 [(0, .ref 146), (6, .int l6)] [] V P :=
  sx_lp2_ind (fun k0 ih _ V h => tB_X12_groups_78 hG hP ih h)
def F_X12_groups (N : Nat) (l1 : Int32) (V : sv_V) : Option (Int32 × sv_V) := if (16 : Int32) ≤ l1 then ((F_X12_u4 ((V.1 146 21) + (4 : Int32)) V).bind (fun (x22, V20) => (F_X12_u4 ((V20.1 146 21) + (12 : Int32)) V20).bind (fun (x25, V23) => if 0 < (lg_cmp x22 l1.toInt64) then (some ((0 : Int32), V23)) else ((F_X12_in x25 (1 : Int64) (40 : Int64) V23).bind (fun (x29, V27) => if x29 = 0 then (some ((0 : Int32), V27)) else (if (lg_cmp ((16 : Int64) + ((12 : Int64) * x25)) x22) ≤ 0 then (sx_let (sv_I V27 146 23 x25.toInt32) (fun V32 => sx_lp2 (B_X12_groups_78 N ) N (0 : Int32) V32)) else (some ((0 : Int32), V27)))))))) else (some ((0 : Int32), V))
set_option maxRecDepth 20000 in
theorem t_X12_groups {g : sx_G} (hG : sx_Go g) {P : Option Value → sv_V → Prop} {r : Int32} {Vr : sv_V} (hP : P (some (.int r)) Vr) {N : Nat} {l1 : Int32} {V : sv_V} (h : F_X12_groups N l1 V = some (r, Vr)) : sv_N g qX12_groups 3 0 [(0, .ref 146), (1, .int l1)] [] V P := by
  unfold F_X12_groups at h
  refine sx_iload_n (pc := 0) dX12_groups_0 sx_m1 ?_
  refine sx_bipush (pc := 1) (v := 16) dX12_groups_1 (by decide) ?_
  refine sx_icmp_ge (pc := 3) (tgt := 8) dX12_groups_3 (by decide) (fun c19 => ?_) (fun c19 => ?_)
  · have h := sx_pos c19 h
    refine sx_aload_n (pc := 8) dX12_groups_8 sx_m0 ?_
    refine sx_aload_n (pc := 9) dX12_groups_9 sx_m0 ?_
    refine sv_getI (pc := 10) hG dX12_groups_10 f_12_384 lay_146 rfl ?_
    refine sx_iconst (pc := 13) (v := 4) dX12_groups_13 (by decide) ?_
    refine sx_iadd (pc := 14) dX12_groups_14 ?_
    obtain ⟨⟨x22, V20⟩, g21, h⟩ := sx_bnd h
    refine sv_cV (pc := 15) (y := qX12_u4) (o := (some (.long x22))) (as := [.int ((V.1 146 21) + (4 : Int32))]) (V1 := V20) hG dX12_groups_15 l_X12_297 y0X12_u4 yvX12_u4 rfl (Nat.le_of_ble_eq_true rfl) lay_146 kr_12 (by decide) (Nat.le_of_ble_eq_true rfl) rfl rfl rfl (t_X12_u4 hG ⟨rfl, rfl⟩ g21) ?_
    refine sx_lstore_n (pc := 18) (lo' := [(2, .long x22), (0, .ref 146), (1, .int l1)]) dX12_groups_18 (by decide) rfl ?_
    refine sx_aload_n (pc := 19) dX12_groups_19 sx_m1 ?_
    refine sx_aload_n (pc := 20) dX12_groups_20 sx_m1 ?_
    refine sv_getI (pc := 21) hG dX12_groups_21 f_12_384 lay_146 rfl ?_
    refine sx_bipush (pc := 24) (v := 12) dX12_groups_24 (by decide) ?_
    refine sx_iadd (pc := 26) dX12_groups_26 ?_
    obtain ⟨⟨x25, V23⟩, g24, h⟩ := sx_bnd h
    refine sv_cV (pc := 27) (y := qX12_u4) (o := (some (.long x25))) (as := [.int ((V20.1 146 21) + (12 : Int32))]) (V1 := V23) hG dX12_groups_27 l_X12_297 y0X12_u4 yvX12_u4 rfl (Nat.le_of_ble_eq_true rfl) lay_146 kr_12 (by decide) (Nat.le_of_ble_eq_true rfl) rfl rfl rfl (t_X12_u4 hG ⟨rfl, rfl⟩ g24) ?_
    refine sx_lstore (pc := 30) (lo' := [(4, .long x25), (2, .long x22), (0, .ref 146), (1, .int l1)]) dX12_groups_30 (by decide) rfl ?_
    refine sx_lload_n (pc := 32) dX12_groups_32 sx_m1 ?_
    refine sx_iload_n (pc := 33) dX12_groups_33 sx_m3 ?_
    refine sx_i2l (pc := 34) dX12_groups_34 ?_
    refine sx_lcmp (pc := 35) dX12_groups_35 ?_
    refine sx_if_gt (pc := 36) (tgt := 66) dX12_groups_36 (by decide) (fun c26 => ?_) (fun c26 => ?_)
    · have h := sx_pos c26 h
      refine sx_iconst (pc := 66) (v := 0) dX12_groups_66 (by decide) ?_
      exact sv_zret (pc := 67) dX12_groups_67 rfl rfl h hP
    · have h := sx_neg c26 h
      refine sx_lload (pc := 39) dX12_groups_39 sx_m0 ?_
      refine sx_lconst (pc := 41) (v := 1) dX12_groups_41 rfl ?_
      refine sx_ldc2 (pc := 42) dX12_groups_42 k_X12_402 ?_
      obtain ⟨⟨x29, V27⟩, g28, h⟩ := sx_bnd h
      refine sv_cS (pc := 45) (y := qX12_in) (o := (some (.int x29))) (as := [.long x25, .long (1 : Int64), .long (40 : Int64)]) (V1 := V27) dX12_groups_45 l_X12_263 y0X12_in ysX12_in rfl (Nat.le_of_ble_eq_true rfl) (by decide) (Nat.le_of_ble_eq_true rfl) rfl rfl rfl (t_X12_in hG ⟨rfl, rfl⟩ g28) ?_
      refine sx_if_eq (pc := 48) (tgt := 66) dX12_groups_48 (by decide) (fun c30 => ?_) (fun c30 => ?_)
      · have h := sx_pos c30 h
        refine sx_iconst (pc := 66) (v := 0) dX12_groups_66 (by decide) ?_
        exact sv_zret (pc := 67) dX12_groups_67 rfl rfl h hP
      · have h := sx_neg c30 h
        refine sx_ldc2 (pc := 51) dX12_groups_51 k_X12_232 ?_
        refine sx_ldc2 (pc := 54) dX12_groups_54 k_X12_230 ?_
        refine sx_lload (pc := 57) dX12_groups_57 sx_m0 ?_
        refine sx_lmul (pc := 59) dX12_groups_59 ?_
        refine sx_ladd (pc := 60) dX12_groups_60 ?_
        refine sx_lload_n (pc := 61) dX12_groups_61 sx_m1 ?_
        refine sx_lcmp (pc := 62) dX12_groups_62 ?_
        refine sx_if_le (pc := 63) (tgt := 68) dX12_groups_63 (by decide) (fun c31 => ?_) (fun c31 => ?_)
        · have h := sx_pos c31 h
          refine sx_aload_n (pc := 68) dX12_groups_68 sx_m2 ?_
          refine sx_lload (pc := 69) dX12_groups_69 sx_m0 ?_
          refine sx_l2i (pc := 71) dX12_groups_71 ?_
          obtain ⟨V32, hV32⟩ : ∃ z : sv_V, z = sv_I V27 146 23 x25.toInt32 := ⟨_, rfl⟩
          have h := sx_letE hV32 h
          refine sv_putI (pc := 72) hG dX12_groups_72 f_12_399 lay_146 rfl hV32 ?_
          refine sx_iconst (pc := 75) (v := 0) dX12_groups_75 (by decide) ?_
          refine sx_istore (pc := 76) (lo' := [(6, .int (0 : Int32)), (4, .long x25), (2, .long x22), (0, .ref 146), (1, .int l1)]) dX12_groups_76 (by decide) rfl ?_
          refine sx_wk (sx_s1 sx_m3 (sx_s1 sx_m0 sx_s0)) ?_
          exact tL_X12_groups_78 hG hP  N _ _ h
        · have h := sx_neg c31 h
          refine sx_iconst (pc := 66) (v := 0) dX12_groups_66 (by decide) ?_
          exact sv_zret (pc := 67) dX12_groups_67 rfl rfl h hP
  · have h := sx_neg c19 h
    refine sx_iconst (pc := 6) (v := 0) dX12_groups_6 (by decide) ?_
    exact sv_zret (pc := 7) dX12_groups_7 rfl rfl h hP
