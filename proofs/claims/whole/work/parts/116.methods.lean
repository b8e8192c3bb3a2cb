/-! methods: X12_loops, X12_check, X12_load -/
theorem dX12_loops_0 : decode cX12_loops 0 = .ok (.aload_n 0, 1) := by decide +kernel
theorem dX12_loops_1 : decode cX12_loops 1 = .ok (.iload_n 1, 1) := by decide +kernel
theorem dX12_loops_2 : decode cX12_loops 2 = .ok (.bipush 56, 2) := by decide +kernel
theorem dX12_loops_4 : decode cX12_loops 4 = .ok (.if_icmp .ne 12, 3) := by decide +kernel
theorem dX12_loops_7 : decode cX12_loops 7 = .ok (.aload_n 0, 1) := by decide +kernel
theorem dX12_loops_8 : decode cX12_loops 8 = .ok (.getfield 469, 3) := by decide +kernel
theorem dX12_loops_11 : decode cX12_loops 11 = .ok (.iconst 1, 1) := by decide +kernel
theorem dX12_loops_12 : decode cX12_loops 12 = .ok (.iadd, 1) := by decide +kernel
theorem dX12_loops_13 : decode cX12_loops 13 = .ok (.goto 7, 3) := by decide +kernel
theorem dX12_loops_16 : decode cX12_loops 16 = .ok (.aload_n 0, 1) := by decide +kernel
theorem dX12_loops_17 : decode cX12_loops 17 = .ok (.getfield 469, 3) := by decide +kernel
theorem dX12_loops_20 : decode cX12_loops 20 = .ok (.invokevirtual 576, 3) := by decide +kernel
theorem dX12_loops_23 : decode cX12_loops 23 = .ok (.ifCond .ne 4, 3) := by decide +kernel
theorem dX12_loops_26 : decode cX12_loops 26 = .ok (.return_, 1) := by decide +kernel
theorem dX12_loops_27 : decode cX12_loops 27 = .ok (.iload_n 1, 1) := by decide +kernel
theorem dX12_loops_28 : decode cX12_loops 28 = .ok (.bipush 56, 2) := by decide +kernel
theorem dX12_loops_30 : decode cX12_loops 30 = .ok (.if_icmp .ne 10, 3) := by decide +kernel
theorem dX12_loops_33 : decode cX12_loops 33 = .ok (.aload_n 0, 1) := by decide +kernel
theorem dX12_loops_34 : decode cX12_loops 34 = .ok (.invokevirtual 579, 3) := by decide +kernel
theorem dX12_loops_37 : decode cX12_loops 37 = .ok (.goto 4, 3) := by decide +kernel
theorem dX12_loops_40 : decode cX12_loops 40 = .ok (.iconst 0, 1) := by decide +kernel
theorem dX12_loops_41 : decode cX12_loops 41 = .ok (.istore_n 2, 1) := by decide +kernel
theorem dX12_loops_42 : decode cX12_loops 42 = .ok (.iconst 0, 1) := by decide +kernel
theorem dX12_loops_43 : decode cX12_loops 43 = .ok (.istore_n 3, 1) := by decide +kernel
theorem dX12_loops_44 : decode cX12_loops 44 = .ok (.iload_n 3, 1) := by decide +kernel
theorem dX12_loops_45 : decode cX12_loops 45 = .ok (.aload_n 0, 1) := by decide +kernel
theorem dX12_loops_46 : decode cX12_loops 46 = .ok (.getfield 469, 3) := by decide +kernel
theorem dX12_loops_49 : decode cX12_loops 49 = .ok (.if_icmp .ge 179, 3) := by decide +kernel
theorem dX12_loops_52 : decode cX12_loops 52 = .ok (.aload_n 0, 1) := by decide +kernel
theorem dX12_loops_53 : decode cX12_loops 53 = .ok (.getfield 409, 3) := by decide +kernel
theorem dX12_loops_56 : decode cX12_loops 56 = .ok (.ifCond .ne 172, 3) := by decide +kernel
theorem dX12_loops_59 : decode cX12_loops 59 = .ok (.aload_n 0, 1) := by decide +kernel
theorem dX12_loops_60 : decode cX12_loops 60 = .ok (.iload_n 1, 1) := by decide +kernel
theorem dX12_loops_61 : decode cX12_loops 61 = .ok (.bipush 60, 2) := by decide +kernel
theorem dX12_loops_63 : decode cX12_loops 63 = .ok (.if_icmp .ne 10, 3) := by decide +kernel
theorem dX12_loops_66 : decode cX12_loops 66 = .ok (.aload_n 0, 1) := by decide +kernel
theorem dX12_loops_67 : decode cX12_loops 67 = .ok (.getfield 463, 3) := by decide +kernel
theorem dX12_loops_70 : decode cX12_loops 70 = .ok (.goto 7, 3) := by decide +kernel
theorem dX12_loops_73 : decode cX12_loops 73 = .ok (.aload_n 0, 1) := by decide +kernel
theorem dX12_loops_74 : decode cX12_loops 74 = .ok (.getfield 466, 3) := by decide +kernel
theorem dX12_loops_77 : decode cX12_loops 77 = .ok (.aload_n 0, 1) := by decide +kernel
theorem dX12_loops_78 : decode cX12_loops 78 = .ok (.invokevirtual 579, 3) := by decide +kernel
theorem dX12_loops_81 : decode cX12_loops 81 = .ok (.invokevirtual 582, 3) := by decide +kernel
theorem dX12_loops_84 : decode cX12_loops 84 = .ok (.istore 4, 2) := by decide +kernel
theorem dX12_loops_86 : decode cX12_loops 86 = .ok (.aload_n 0, 1) := by decide +kernel
theorem dX12_loops_87 : decode cX12_loops 87 = .ok (.getfield 409, 3) := by decide +kernel
theorem dX12_loops_90 : decode cX12_loops 90 = .ok (.ifCond .ne 132, 3) := by decide +kernel
theorem dX12_loops_93 : decode cX12_loops 93 = .ok (.iload_n 1, 1) := by decide +kernel
theorem dX12_loops_94 : decode cX12_loops 94 = .ok (.bipush 56, 2) := by decide +kernel
theorem dX12_loops_96 : decode cX12_loops 96 = .ok (.if_icmp .ne 74, 3) := by decide +kernel
theorem dX12_loops_99 : decode cX12_loops 99 = .ok (.aload_n 0, 1) := by decide +kernel
theorem dX12_loops_100 : decode cX12_loops 100 = .ok (.getfield 76, 3) := by decide +kernel
theorem dX12_loops_103 : decode cX12_loops 103 = .ok (.iload 4, 2) := by decide +kernel
theorem dX12_loops_105 : decode cX12_loops 105 = .ok (.aload_n 0, 1) := by decide +kernel
theorem dX12_loops_106 : decode cX12_loops 106 = .ok (.getfield 76, 3) := by decide +kernel
theorem dX12_loops_109 : decode cX12_loops 109 = .ok (.iload 4, 2) := by decide +kernel
theorem dX12_loops_111 : decode cX12_loops 111 = .ok (.iaload, 1) := by decide +kernel
theorem dX12_loops_112 : decode cX12_loops 112 = .ok (.i2l, 1) := by decide +kernel
theorem dX12_loops_113 : decode cX12_loops 113 = .ok (.iload_n 2, 1) := by decide +kernel
theorem dX12_loops_114 : decode cX12_loops 114 = .ok (.i2l, 1) := by decide +kernel
theorem dX12_loops_115 : decode cX12_loops 115 = .ok (.aload_n 0, 1) := by decide +kernel
theorem dX12_loops_116 : decode cX12_loops 116 = .ok (.getfield 433, 3) := by decide +kernel
theorem dX12_loops_119 : decode cX12_loops 119 = .ok (.i2l, 1) := by decide +kernel
theorem dX12_loops_120 : decode cX12_loops 120 = .ok (.lmul, 1) := by decide +kernel
theorem dX12_loops_121 : decode cX12_loops 121 = .ok (.ldc2_w 310, 3) := by decide +kernel
theorem dX12_loops_124 : decode cX12_loops 124 = .ok (.invokestatic 517, 3) := by decide +kernel
theorem dX12_loops_127 : decode cX12_loops 127 = .ok (.ladd, 1) := by decide +kernel
theorem dX12_loops_128 : decode cX12_loops 128 = .ok (.l2i, 1) := by decide +kernel
theorem dX12_loops_129 : decode cX12_loops 129 = .ok (.iastore, 1) := by decide +kernel
theorem dX12_loops_130 : decode cX12_loops 130 = .ok (.aload_n 0, 1) := by decide +kernel
theorem dX12_loops_131 : decode cX12_loops 131 = .ok (.getfield 79, 3) := by decide +kernel
theorem dX12_loops_134 : decode cX12_loops 134 = .ok (.iload 4, 2) := by decide +kernel
theorem dX12_loops_136 : decode cX12_loops 136 = .ok (.aload_n 0, 1) := by decide +kernel
theorem dX12_loops_137 : decode cX12_loops 137 = .ok (.getfield 79, 3) := by decide +kernel
theorem dX12_loops_140 : decode cX12_loops 140 = .ok (.iload 4, 2) := by decide +kernel
theorem dX12_loops_142 : decode cX12_loops 142 = .ok (.iaload, 1) := by decide +kernel
theorem dX12_loops_143 : decode cX12_loops 143 = .ok (.i2l, 1) := by decide +kernel
theorem dX12_loops_144 : decode cX12_loops 144 = .ok (.iload_n 2, 1) := by decide +kernel
theorem dX12_loops_145 : decode cX12_loops 145 = .ok (.i2l, 1) := by decide +kernel
theorem dX12_loops_146 : decode cX12_loops 146 = .ok (.aload_n 0, 1) := by decide +kernel
theorem dX12_loops_147 : decode cX12_loops 147 = .ok (.getfield 436, 3) := by decide +kernel
theorem dX12_loops_150 : decode cX12_loops 150 = .ok (.i2l, 1) := by decide +kernel
theorem dX12_loops_151 : decode cX12_loops 151 = .ok (.lmul, 1) := by decide +kernel
theorem dX12_loops_152 : decode cX12_loops 152 = .ok (.ldc2_w 310, 3) := by decide +kernel
theorem dX12_loops_155 : decode cX12_loops 155 = .ok (.invokestatic 517, 3) := by decide +kernel
theorem dX12_loops_158 : decode cX12_loops 158 = .ok (.ladd, 1) := by decide +kernel
theorem dX12_loops_159 : decode cX12_loops 159 = .ok (.l2i, 1) := by decide +kernel
theorem dX12_loops_160 : decode cX12_loops 160 = .ok (.iastore, 1) := by decide +kernel
theorem dX12_loops_161 : decode cX12_loops 161 = .ok (.aload_n 0, 1) := by decide +kernel
theorem dX12_loops_162 : decode cX12_loops 162 = .ok (.iload 4, 2) := by decide +kernel
theorem dX12_loops_164 : decode cX12_loops 164 = .ok (.invokevirtual 526, 3) := by decide +kernel
theorem dX12_loops_167 : decode cX12_loops 167 = .ok (.goto 55, 3) := by decide +kernel
theorem dX12_loops_170 : decode cX12_loops 170 = .ok (.iload_n 1, 1) := by decide +kernel
theorem dX12_loops_171 : decode cX12_loops 171 = .ok (.bipush 60, 2) := by decide +kernel
theorem dX12_loops_173 : decode cX12_loops 173 = .ok (.if_icmp .ne 43, 3) := by decide +kernel
theorem dX12_loops_176 : decode cX12_loops 176 = .ok (.aload_n 0, 1) := by decide +kernel
theorem dX12_loops_177 : decode cX12_loops 177 = .ok (.aload_n 0, 1) := by decide +kernel
theorem dX12_loops_178 : decode cX12_loops 178 = .ok (.getfield 460, 3) := by decide +kernel
theorem dX12_loops_181 : decode cX12_loops 181 = .ok (.aload_n 0, 1) := by decide +kernel
theorem dX12_loops_182 : decode cX12_loops 182 = .ok (.getfield 451, 3) := by decide +kernel
theorem dX12_loops_185 : decode cX12_loops 185 = .ok (.invokevirtual 582, 3) := by decide +kernel
theorem dX12_loops_188 : decode cX12_loops 188 = .ok (.istore 5, 2) := by decide +kernel
theorem dX12_loops_190 : decode cX12_loops 190 = .ok (.aload_n 0, 1) := by decide +kernel
theorem dX12_loops_191 : decode cX12_loops 191 = .ok (.getfield 409, 3) := by decide +kernel
theorem dX12_loops_194 : decode cX12_loops 194 = .ok (.ifCond .ne 19, 3) := by decide +kernel
theorem dX12_loops_197 : decode cX12_loops 197 = .ok (.aload_n 0, 1) := by decide +kernel
theorem dX12_loops_198 : decode cX12_loops 198 = .ok (.iload 4, 2) := by decide +kernel
theorem dX12_loops_200 : decode cX12_loops 200 = .ok (.aload_n 0, 1) := by decide +kernel
theorem dX12_loops_201 : decode cX12_loops 201 = .ok (.iload 4, 2) := by decide +kernel
theorem dX12_loops_203 : decode cX12_loops 203 = .ok (.iload 5, 2) := by decide +kernel
theorem dX12_loops_205 : decode cX12_loops 205 = .ok (.invokevirtual 627, 3) := by decide +kernel
theorem dX12_loops_208 : decode cX12_loops 208 = .ok (.i2l, 1) := by decide +kernel
theorem dX12_loops_209 : decode cX12_loops 209 = .ok (.lneg, 1) := by decide +kernel
theorem dX12_loops_210 : decode cX12_loops 210 = .ok (.invokevirtual 630, 3) := by decide +kernel
theorem dX12_loops_213 : decode cX12_loops 213 = .ok (.goto 9, 3) := by decide +kernel
theorem dX12_loops_216 : decode cX12_loops 216 = .ok (.aload_n 0, 1) := by decide +kernel
theorem dX12_loops_217 : decode cX12_loops 217 = .ok (.iload 4, 2) := by decide +kernel
theorem dX12_loops_219 : decode cX12_loops 219 = .ok (.invokevirtual 713, 3) := by decide +kernel
theorem dX12_loops_222 : decode cX12_loops 222 = .ok (.iinc 3 1, 3) := by decide +kernel
theorem dX12_loops_225 : decode cX12_loops 225 = .ok (.goto (-181), 3) := by decide +kernel
theorem dX12_loops_228 : decode cX12_loops 228 = .ok (.aload_n 0, 1) := by decide +kernel
theorem dX12_loops_229 : decode cX12_loops 229 = .ok (.iconst 1, 1) := by decide +kernel
theorem dX12_loops_230 : decode cX12_loops 230 = .ok (.putfield 469, 3) := by decide +kernel
theorem dX12_loops_233 : decode cX12_loops 233 = .ok (.return_, 1) := by decide +kernel
def B_X12_loops_222 (N : Nat) (k44 : Int32 → Int32 → Int32 → sv_V → Option sv_V) (l1 : Int32) (l2 : Int32) (l3 : Int32) (V : sv_V) : Option sv_V := sx_let (l3 + 1) (fun x1 => k44 l1 l2 x1 V)
set_option maxRecDepth 20000 in
theorem tB_X12_loops_222 {g : sx_G} (hG : sx_Go g) {P : Option Value → sv_V → Prop} {Vr : sv_V} (hP : P none Vr) {N : Nat} {k44 : Int32 → Int32 → Int32 → sv_V → Option sv_V} (hk44 : ∀ (l1 : Int32) (l2 : Int32) (l3 : Int32) (V : sv_V), k44 l1 l2 l3 V = some Vr → sv_N g qX12_loops 6 44 [(0, .ref 146), (1, .int l1), (2, .int l2), (3, .int l3)] [] V P) {l1 : Int32} {l2 : Int32} {l3 : Int32} {V : sv_V} (h : B_X12_loops_222 N k44 l1 l2 l3 V = some Vr) : sv_N g qX12_loops 6 222 [(0, .ref 146), (1, .int l1), (2, .int l2), (3, .int l3)] [] V P := by
  unfold B_X12_loops_222 at h
  obtain ⟨x1, hx1⟩ : ∃ z : Int32, z = l3 + 1 := ⟨_, rfl⟩
  have h := sx_letE hx1 h
  refine sx_iinc (pc := 222) (v := x1) (lo' := [(3, .int x1), (0, .ref 146), (1, .int l1), (2, .int l2)]) dX12_loops_222 sx_m3 (by rw [hx1]; rfl) (by decide) rfl ?_
  refine sx_goto (pc := 225) (tgt := 44) dX12_loops_225 (by decide) ?_
  refine sx_wk (sx_s1 sx_m1 (sx_s1 sx_m2 (sx_s1 sx_m3 (sx_s1 sx_m0 sx_s0)))) ?_
  exact hk44 _ _ _ _ h
def B_X12_loops_213 (N : Nat) (k44 : Int32 → Int32 → Int32 → sv_V → Option sv_V) (l1 : Int32) (l2 : Int32) (l3 : Int32) (V : sv_V) : Option sv_V := B_X12_loops_222 N k44 l1 l2 l3 V
set_option maxRecDepth 20000 in
theorem tB_X12_loops_213 {g : sx_G} (hG : sx_Go g) {P : Option Value → sv_V → Prop} {Vr : sv_V} (hP : P none Vr) {N : Nat} {k44 : Int32 → Int32 → Int32 → sv_V → Option sv_V} (hk44 : ∀ (l1 : Int32) (l2 : Int32) (l3 : Int32) (V : sv_V), k44 l1 l2 l3 V = some Vr → sv_N g qX12_loops 6 44 [(0, .ref 146), (1, .int l1), (2, .int l2), (3, .int l3)] [] V P) {l1 : Int32} {l2 : Int32} {l3 : Int32} {V : sv_V} (h : B_X12_loops_213 N k44 l1 l2 l3 V = some Vr) : sv_N g qX12_loops 6 213 [(0, .ref 146), (1, .int l1), (2, .int l2), (3, .int l3)] [] V P := by
  unfold B_X12_loops_213 at h
  refine sx_goto (pc := 213) (tgt := 222) dX12_loops_213 (by decide) ?_
  refine sx_wk (sx_s1 sx_m0 (sx_s1 sx_m1 (sx_s1 sx_m2 (sx_s1 sx_m3 sx_s0)))) ?_
  exact tB_X12_loops_222 hG hP hk44 h
def B_X12_loops_77 (N : Nat) (k44 : Int32 → Int32 → Int32 → sv_V → Option sv_V) (l1 : Int32) (l2 : Int32) (l3 : Int32) (s1 : Int32) (V : sv_V) : Option sv_V := (F_X12_pop  V).bind (fun (x4, V2) => (F_X12_pointOf s1 x4 V2).bind (fun (x7, V5) => if (V5.1 146 59) = 0 then (if l1 = (56 : Int32) then (if sx_in x7 204 = true then (F_X12_over (l2.toInt64 * ((V5.1 146 63).toInt64)) (16384 : Int64) V5).bind (fun (x25, V23) => if sx_in x7 204 = true then sx_let (sv_I V23 168 x7.toNatClampNeg ((((V5.1 168 x7.toNatClampNeg).toInt64) + x25).toInt32)) (fun V27 => if sx_in x7 204 = true then (F_X12_over (l2.toInt64 * ((V27.1 146 64).toInt64)) (16384 : Int64) V27).bind (fun (x31, V29) => if sx_in x7 204 = true then sx_let (sv_I V29 169 x7.toNatClampNeg ((((V27.1 169 x7.toNatClampNeg).toInt64) + x31).toInt32)) (fun V33 => (F_X12_touch x7 V33).bind (fun V34 => B_X12_loops_222 N k44 l1 l2 l3 V34)) else none) else none) else none) else none) else (if l1 = (60 : Int32) then ((F_X12_pointOf (V5.1 146 72) (V5.1 146 69) V5).bind (fun (x15, V13) => if (V13.1 146 59) = 0 then ((F_X12_between x7 x15 V13).bind (fun (x19, V17) => (F_X12_move x7 (-x19.toInt64) V17).bind (fun V20 => B_X12_loops_213 N k44 l1 l2 l3 V20))) else (B_X12_loops_213 N k44 l1 l2 l3 V13))) else ((F_X12_inBetween x7 V5).bind (fun V11 => B_X12_loops_222 N k44 l1 l2 l3 V11)))) else (B_X12_loops_222 N k44 l1 l2 l3 V5)))
set_option maxRecDepth 20000 in
theorem tB_X12_loops_77 {g : sx_G} (hG : sx_Go g) {P : Option Value → sv_V → Prop} {Vr : sv_V} (hP : P none Vr) {N : Nat} {k44 : Int32 → Int32 → Int32 → sv_V → Option sv_V} (hk44 : ∀ (l1 : Int32) (l2 : Int32) (l3 : Int32) (V : sv_V), k44 l1 l2 l3 V = some Vr → sv_N g qX12_loops 6 44 [(0, .ref 146), (1, .int l1), (2, .int l2), (3, .int l3)] [] V P) {l1 : Int32} {l2 : Int32} {l3 : Int32} {s1 : Int32} {V : sv_V} (h : B_X12_loops_77 N k44 l1 l2 l3 s1 V = some Vr) : sv_N g qX12_loops 6 77 [(0, .ref 146), (1, .int l1), (2, .int l2), (3, .int l3)] [.int s1, .ref 146] V P := by
  unfold B_X12_loops_77 at h
  refine sx_aload_n (pc := 77) dX12_loops_77 sx_m0 ?_
  obtain ⟨⟨x4, V2⟩, g3, h⟩ := sx_bnd h
  refine sv_cV (pc := 78) (y := qX12_pop) (o := (some (.int x4))) (as := []) (V1 := V2) hG dX12_loops_78 l_X12_579 y0X12_pop yvX12_pop rfl (Nat.le_of_ble_eq_true rfl) lay_146 kr_12 (by decide) (Nat.le_of_ble_eq_true rfl) rfl rfl rfl (t_X12_pop hG ⟨rfl, rfl⟩ g3) ?_
  obtain ⟨⟨x7, V5⟩, g6, h⟩ := sx_bnd h
  refine sv_cV (pc := 81) (y := qX12_pointOf) (o := (some (.int x7))) (as := [.int s1, .int x4]) (V1 := V5) hG dX12_loops_81 l_X12_582 y0X12_pointOf yvX12_pointOf rfl (Nat.le_of_ble_eq_true rfl) lay_146 kr_12 (by decide) (Nat.le_of_ble_eq_true rfl) rfl rfl rfl (t_X12_pointOf hG ⟨rfl, rfl⟩ g6) ?_
  refine sx_istore (pc := 84) (lo' := [(4, .int x7), (0, .ref 146), (1, .int l1), (2, .int l2), (3, .int l3)]) dX12_loops_84 (by decide) rfl ?_
  refine sx_aload_n (pc := 86) dX12_loops_86 sx_m1 ?_
  refine sv_getI (pc := 87) hG dX12_loops_87 f_12_409 lay_146 rfl ?_
  refine sx_if_ne (pc := 90) (tgt := 222) dX12_loops_90 (by decide) (fun c8 => ?_) (fun c8 => ?_)
  · have h := sx_neg c8 h
    refine sx_wk (sx_s1 sx_m1 (sx_s1 sx_m2 (sx_s1 sx_m3 (sx_s1 sx_m4 sx_s0)))) ?_
    exact tB_X12_loops_222 hG hP hk44 h
  · have h := sx_pos c8 h
    refine sx_iload_n (pc := 93) dX12_loops_93 sx_m2 ?_
    refine sx_bipush (pc := 94) (v := 56) dX12_loops_94 (by decide) ?_
    refine sx_icmp_ne (pc := 96) (tgt := 170) dX12_loops_96 (by decide) (fun c9 => ?_) (fun c9 => ?_)
    · have h := sx_neg c9 h
      refine sx_iload_n (pc := 170) dX12_loops_170 sx_m2 ?_
      refine sx_bipush (pc := 171) (v := 60) dX12_loops_171 (by decide) ?_
      refine sx_icmp_ne (pc := 173) (tgt := 216) dX12_loops_173 (by decide) (fun c10 => ?_) (fun c10 => ?_)
      · have h := sx_neg c10 h
        refine sx_aload_n (pc := 216) dX12_loops_216 sx_m1 ?_
        refine sx_iload (pc := 217) dX12_loops_217 sx_m0 ?_
        obtain ⟨V11, g12, h⟩ := sx_bnd h
        refine sv_cV (pc := 219) (y := qX12_inBetween) (o := none) (as := [.int x7]) (V1 := V11) hG dX12_loops_219 l_X12_713 y0X12_inBetween yvX12_inBetween rfl (Nat.le_of_ble_eq_true rfl) lay_146 kr_12 (by decide) (Nat.le_of_ble_eq_true rfl) rfl rfl rfl (t_X12_inBetween hG ⟨rfl, rfl⟩ g12) ?_
        refine sx_wk (sx_s1 sx_m1 (sx_s1 sx_m2 (sx_s1 sx_m3 (sx_s1 sx_m4 sx_s0)))) ?_
        exact tB_X12_loops_222 hG hP hk44 h
      · have h := sx_pos c10 h
        refine sx_aload_n (pc := 176) dX12_loops_176 sx_m1 ?_
        refine sx_aload_n (pc := 177) dX12_loops_177 sx_m1 ?_
        refine sv_getI (pc := 178) hG dX12_loops_178 f_12_460 lay_146 rfl ?_
        refine sx_aload_n (pc := 181) dX12_loops_181 sx_m1 ?_
        refine sv_getI (pc := 182) hG dX12_loops_182 f_12_451 lay_146 rfl ?_
        obtain ⟨⟨x15, V13⟩, g14, h⟩ := sx_bnd h
        refine sv_cV (pc := 185) (y := qX12_pointOf) (o := (some (.int x15))) (as := [.int (V5.1 146 72), .int (V5.1 146 69)]) (V1 := V13) hG dX12_loops_185 l_X12_582 y0X12_pointOf yvX12_pointOf rfl (Nat.le_of_ble_eq_true rfl) lay_146 kr_12 (by decide) (Nat.le_of_ble_eq_true rfl) rfl rfl rfl (t_X12_pointOf hG ⟨rfl, rfl⟩ g14) ?_
        refine sx_istore (pc := 188) (lo' := [(5, .int x15), (4, .int x7), (0, .ref 146), (1, .int l1), (2, .int l2), (3, .int l3)]) dX12_loops_188 (by decide) rfl ?_
        refine sx_aload_n (pc := 190) dX12_loops_190 sx_m2 ?_
        refine sv_getI (pc := 191) hG dX12_loops_191 f_12_409 lay_146 rfl ?_
        refine sx_if_ne (pc := 194) (tgt := 213) dX12_loops_194 (by decide) (fun c16 => ?_) (fun c16 => ?_)
        · have h := sx_neg c16 h
          refine sx_wk (sx_s1 sx_m2 (sx_s1 sx_m3 (sx_s1 sx_m4 (sx_s1 sx_m5 sx_s0)))) ?_
          exact tB_X12_loops_213 hG hP hk44 h
        · have h := sx_pos c16 h
          refine sx_aload_n (pc := 197) dX12_loops_197 sx_m2 ?_
          refine sx_iload (pc := 198) dX12_loops_198 sx_m1 ?_
          refine sx_aload_n (pc := 200) dX12_loops_200 sx_m2 ?_
          refine sx_iload (pc := 201) dX12_loops_201 sx_m1 ?_
          refine sx_iload (pc := 203) dX12_loops_203 sx_m0 ?_
          obtain ⟨⟨x19, V17⟩, g18, h⟩ := sx_bnd h
          refine sv_cV (pc := 205) (y := qX12_between) (o := (some (.int x19))) (as := [.int x7, .int x15]) (V1 := V17) hG dX12_loops_205 l_X12_627 y0X12_between yvX12_between rfl (Nat.le_of_ble_eq_true rfl) lay_146 kr_12 (by decide) (Nat.le_of_ble_eq_true rfl) rfl rfl rfl (t_X12_between hG ⟨rfl, rfl⟩ g18) ?_
          refine sx_i2l (pc := 208) dX12_loops_208 ?_
          refine sx_lneg (pc := 209) dX12_loops_209 ?_
          obtain ⟨V20, g21, h⟩ := sx_bnd h
          refine sv_cV (pc := 210) (y := qX12_move) (o := none) (as := [.int x7, .long (-x19.toInt64)]) (V1 := V20) hG dX12_loops_210 l_X12_630 y0X12_move yvX12_move rfl (Nat.le_of_ble_eq_true rfl) lay_146 kr_12 (by decide) (Nat.le_of_ble_eq_true rfl) rfl rfl rfl (t_X12_move hG ⟨rfl, rfl⟩ g21) ?_
          refine sx_wk (sx_s1 sx_m2 (sx_s1 sx_m3 (sx_s1 sx_m4 (sx_s1 sx_m5 sx_s0)))) ?_
          exact tB_X12_loops_213 hG hP hk44 h
    · have h := sx_pos c9 h
      refine sx_aload_n (pc := 99) dX12_loops_99 sx_m1 ?_
      refine sv_getA (pc := 100) hG dX12_loops_100 f_12_76 lay_146 rfl cr_146_48 ?_
      refine sx_iload (pc := 103) dX12_loops_103 sx_m0 ?_
      refine sx_aload_n (pc := 105) dX12_loops_105 sx_m1 ?_
      refine sv_getA (pc := 106) hG dX12_loops_106 f_12_76 lay_146 rfl cr_146_48 ?_
      refine sx_iload (pc := 109) dX12_loops_109 sx_m0 ?_
      obtain ⟨g22, h⟩ := sx_grd h
      refine sv_iald (pc := 111) hG dX12_loops_111 lay_168 g22 ?_
      refine sx_i2l (pc := 112) dX12_loops_112 ?_
      refine sx_iload_n (pc := 113) dX12_loops_113 sx_m3 ?_
      refine sx_i2l (pc := 114) dX12_loops_114 ?_
      refine sx_aload_n (pc := 115) dX12_loops_115 sx_m1 ?_
      refine sv_getI (pc := 116) hG dX12_loops_116 f_12_433 lay_146 rfl ?_
      refine sx_i2l (pc := 119) dX12_loops_119 ?_
      refine sx_lmul (pc := 120) dX12_loops_120 ?_
      refine sx_ldc2 (pc := 121) dX12_loops_121 k_X12_310 ?_
      obtain ⟨⟨x25, V23⟩, g24, h⟩ := sx_bnd h
      refine sv_cS (pc := 124) (y := qX12_over) (o := (some (.long x25))) (as := [.long (l2.toInt64 * ((V5.1 146 63).toInt64)), .long (16384 : Int64)]) (V1 := V23) dX12_loops_124 l_X12_517 y0X12_over ysX12_over rfl (Nat.le_of_ble_eq_true rfl) (by decide) (Nat.le_of_ble_eq_true rfl) rfl rfl rfl (t_X12_over hG ⟨rfl, rfl⟩ g24) ?_
      refine sx_ladd (pc := 127) dX12_loops_127 ?_
      refine sx_l2i (pc := 128) dX12_loops_128 ?_
      obtain ⟨g26, h⟩ := sx_grd h
      obtain ⟨V27, hV27⟩ : ∃ z : sv_V, z = sv_I V23 168 x7.toNatClampNeg ((((V5.1 168 x7.toNatClampNeg).toInt64) + x25).toInt32) := ⟨_, rfl⟩
      have h := sx_letE hV27 h
      refine sv_iast (pc := 129) hG dX12_loops_129 lay_168 g26 hV27 ?_
      refine sx_aload_n (pc := 130) dX12_loops_130 sx_m1 ?_
      refine sv_getA (pc := 131) hG dX12_loops_131 f_12_79 lay_146 rfl cr_146_49 ?_
      refine sx_iload (pc := 134) dX12_loops_134 sx_m0 ?_
      refine sx_aload_n (pc := 136) dX12_loops_136 sx_m1 ?_
      refine sv_getA (pc := 137) hG dX12_loops_137 f_12_79 lay_146 rfl cr_146_49 ?_
      refine sx_iload (pc := 140) dX12_loops_140 sx_m0 ?_
      obtain ⟨g28, h⟩ := sx_grd h
      refine sv_iald (pc := 142) hG dX12_loops_142 lay_169 g28 ?_
      refine sx_i2l (pc := 143) dX12_loops_143 ?_
      refine sx_iload_n (pc := 144) dX12_loops_144 sx_m3 ?_
      refine sx_i2l (pc := 145) dX12_loops_145 ?_
      refine sx_aload_n (pc := 146) dX12_loops_146 sx_m1 ?_
      refine sv_getI (pc := 147) hG dX12_loops_147 f_12_436 lay_146 rfl ?_
      refine sx_i2l (pc := 150) dX12_loops_150 ?_
      refine sx_lmul (pc := 151) dX12_loops_151 ?_
      refine sx_ldc2 (pc := 152) dX12_loops_152 k_X12_310 ?_
      obtain ⟨⟨x31, V29⟩, g30, h⟩ := sx_bnd h
      refine sv_cS (pc := 155) (y := qX12_over) (o := (some (.long x31))) (as := [.long (l2.toInt64 * ((V27.1 146 64).toInt64)), .long (16384 : Int64)]) (V1 := V29) dX12_loops_155 l_X12_517 y0X12_over ysX12_over rfl (Nat.le_of_ble_eq_true rfl) (by decide) (Nat.le_of_ble_eq_true rfl) rfl rfl rfl (t_X12_over hG ⟨rfl, rfl⟩ g30) ?_
      refine sx_ladd (pc := 158) dX12_loops_158 ?_
      refine sx_l2i (pc := 159) dX12_loops_159 ?_
      obtain ⟨g32, h⟩ := sx_grd h
      obtain ⟨V33, hV33⟩ : ∃ z : sv_V, z = sv_I V29 169 x7.toNatClampNeg ((((V27.1 169 x7.toNatClampNeg).toInt64) + x31).toInt32) := ⟨_, rfl⟩
      have h := sx_letE hV33 h
      refine sv_iast (pc := 160) hG dX12_loops_160 lay_169 g32 hV33 ?_
      refine sx_aload_n (pc := 161) dX12_loops_161 sx_m1 ?_
      refine sx_iload (pc := 162) dX12_loops_162 sx_m0 ?_
      obtain ⟨V34, g35, h⟩ := sx_bnd h
      refine sv_cV (pc := 164) (y := qX12_touch) (o := none) (as := [.int x7]) (V1 := V34) hG dX12_loops_164 l_X12_526 y0X12_touch yvX12_touch rfl (Nat.le_of_ble_eq_true rfl) lay_146 kr_12 (by decide) (Nat.le_of_ble_eq_true rfl) rfl rfl rfl (t_X12_touch hG ⟨rfl, rfl⟩ g35) ?_
      refine sx_goto (pc := 167) (tgt := 222) dX12_loops_167 (by decide) ?_
      refine sx_wk (sx_s1 sx_m1 (sx_s1 sx_m2 (sx_s1 sx_m3 (sx_s1 sx_m4 sx_s0)))) ?_
      exact tB_X12_loops_222 hG hP hk44 h
def B_X12_loops_44 (N : Nat) (k44 : Int32 → Int32 → Int32 → sv_V → Option sv_V) (l1 : Int32) (l2 : Int32) (l3 : Int32) (V : sv_V) : Option sv_V := if (V.1 146 75) ≤ l3 then (sx_let (sv_I V 146 75 (1 : Int32)) (fun V37 => some V37)) else (if (V.1 146 59) = 0 then (if l1 = (60 : Int32) then (B_X12_loops_77 N k44 l1 l2 l3 (V.1 146 73) V) else (B_X12_loops_77 N k44 l1 l2 l3 (V.1 146 74) V)) else (sx_let (sv_I V 146 75 (1 : Int32)) (fun V39 => some V39)))
set_option maxRecDepth 20000 in
theorem tB_X12_loops_44 {g : sx_G} (hG : sx_Go g) {P : Option Value → sv_V → Prop} {Vr : sv_V} (hP : P none Vr) {N : Nat} {k44 : Int32 → Int32 → Int32 → sv_V → Option sv_V} (hk44 : ∀ (l1 : Int32) (l2 : Int32) (l3 : Int32) (V : sv_V), k44 l1 l2 l3 V = some Vr → sv_N g qX12_loops 6 44 [(0, .ref 146), (1, .int l1), (2, .int l2), (3, .int l3)] [] V P) {l1 : Int32} {l2 : Int32} {l3 : Int32} {V : sv_V} (h : B_X12_loops_44 N k44 l1 l2 l3 V = some Vr) : sv_N g qX12_loops 6 44 [(0, .ref 146), (1, .int l1), (2, .int l2), (3, .int l3)] [] V P := by
  unfold B_X12_loops_44 at h
  refine sx_iload_n (pc := 44) dX12_loops_44 sx_m3 ?_
  refine sx_aload_n (pc := 45) dX12_loops_45 sx_m0 ?_
  refine sv_getI (pc := 46) hG dX12_loops_46 f_12_469 lay_146 rfl ?_
  refine sx_icmp_ge (pc := 49) (tgt := 228) dX12_loops_49 (by decide) (fun c36 => ?_) (fun c36 => ?_)
  · have h := sx_pos c36 h
    refine sx_aload_n (pc := 228) dX12_loops_228 sx_m0 ?_
    refine sx_iconst (pc := 229) (v := 1) dX12_loops_229 (by decide) ?_
    obtain ⟨V37, hV37⟩ : ∃ z : sv_V, z = sv_I V 146 75 (1 : Int32) := ⟨_, rfl⟩
    have h := sx_letE hV37 h
    refine sv_putI (pc := 230) hG dX12_loops_230 f_12_469 lay_146 rfl hV37 ?_
    exact sv_vret (pc := 233) dX12_loops_233 rfl h hP
  · have h := sx_neg c36 h
    refine sx_aload_n (pc := 52) dX12_loops_52 sx_m0 ?_
    refine sv_getI (pc := 53) hG dX12_loops_53 f_12_409 lay_146 rfl ?_
    refine sx_if_ne (pc := 56) (tgt := 228) dX12_loops_56 (by decide) (fun c38 => ?_) (fun c38 => ?_)
    · have h := sx_neg c38 h
      refine sx_aload_n (pc := 228) dX12_loops_228 sx_m0 ?_
      refine sx_iconst (pc := 229) (v := 1) dX12_loops_229 (by decide) ?_
      obtain ⟨V39, hV39⟩ : ∃ z : sv_V, z = sv_I V 146 75 (1 : Int32) := ⟨_, rfl⟩
      have h := sx_letE hV39 h
      refine sv_putI (pc := 230) hG dX12_loops_230 f_12_469 lay_146 rfl hV39 ?_
      exact sv_vret (pc := 233) dX12_loops_233 rfl h hP
    · have h := sx_pos c38 h
      refine sx_aload_n (pc := 59) dX12_loops_59 sx_m0 ?_
      refine sx_iload_n (pc := 60) dX12_loops_60 sx_m1 ?_
      refine sx_bipush (pc := 61) (v := 60) dX12_loops_61 (by decide) ?_
      refine sx_icmp_ne (pc := 63) (tgt := 73) dX12_loops_63 (by decide) (fun c40 => ?_) (fun c40 => ?_)
      · have h := sx_neg c40 h
        refine sx_aload_n (pc := 73) dX12_loops_73 sx_m0 ?_
        refine sv_getI (pc := 74) hG dX12_loops_74 f_12_466 lay_146 rfl ?_
        refine sx_wk (sx_s1 sx_m0 (sx_s1 sx_m1 (sx_s1 sx_m2 (sx_s1 sx_m3 sx_s0)))) ?_
        exact tB_X12_loops_77 hG hP hk44 h
      · have h := sx_pos c40 h
        refine sx_aload_n (pc := 66) dX12_loops_66 sx_m0 ?_
        refine sv_getI (pc := 67) hG dX12_loops_67 f_12_463 lay_146 rfl ?_
        refine sx_goto (pc := 70) (tgt := 77) dX12_loops_70 (by decide) ?_
        refine sx_wk (sx_s1 sx_m0 (sx_s1 sx_m1 (sx_s1 sx_m2 (sx_s1 sx_m3 sx_s0)))) ?_
        exact tB_X12_loops_77 hG hP hk44 h
theorem tL_X12_loops_44 {g : sx_G} (hG : sx_Go g) {P : Option Value → sv_V → Prop} {Vr : sv_V} (hP : P none Vr) {N : Nat}   : ∀ (n : Nat) (l1 : Int32) (l2 : Int32) (l3 : Int32) (V : sv_V), sx_lp4 (B_X12_loops_44 N ) n l1 l2 l3 V = some Vr → sv_N g qX12_loops 6 44 [(0, .ref 146), (1, .int l1), (2, .int l2), (3, .int l3)] [] V P :=
  sx_lp4_ind (fun k0 ih _ _ _ V h => tB_X12_loops_44 hG hP ih h)
def B_X12_loops_41 (N : Nat)  (l1 : Int32) (s0 : Int32) (V : sv_V) : Option sv_V := sx_lp4 (B_X12_loops_44 N ) N l1 s0 (0 : Int32) V
set_option maxRecDepth 20000 in
theorem tB_X12_loops_41 {g : sx_G} (hG : sx_Go g) {P : Option Value → sv_V → Prop} {Vr : sv_V} (hP : P none Vr) {N : Nat}   {l1 : Int32} {s0 : Int32} {V : sv_V} (h : B_X12_loops_41 N  l1 s0 V = some Vr) : sv_N g qX12_loops 6 41 [(0, .ref 146), (1, .int l1)] [.int s0] V P := by
  unfold B_X12_loops_41 at h
  refine sx_istore_n (pc := 41) (lo' := [(2, .int s0), (0, .ref 146), (1, .int l1)]) dX12_loops_41 (by decide) rfl ?_
  refine sx_iconst (pc := 42) (v := 0) dX12_loops_42 (by decide) ?_
  refine sx_istore_n (pc := 43) (lo' := [(3, .int (0 : Int32)), (2, .int s0), (0, .ref 146), (1, .int l1)]) dX12_loops_43 (by decide) rfl ?_
  refine sx_wk (sx_s1 sx_m2 (sx_s1 sx_m3 (sx_s1 sx_m1 (sx_s1 sx_m0 sx_s0)))) ?_
  exact tL_X12_loops_44 hG hP  N _ _ _ _ h
def B_X12_loops_20 (N : Nat)  (l1 : Int32) (s1 : Int32) (V : sv_V) : Option sv_V := (F_X12_has s1 V).bind (fun (x43, V41) => if x43 = 0 then (some V41) else (if l1 = (56 : Int32) then ((F_X12_pop  V41).bind (fun (x48, V46) => B_X12_loops_41 N  l1 x48 V46)) else (B_X12_loops_41 N  l1 (0 : Int32) V41)))
set_option maxRecDepth 20000 in
theorem tB_X12_loops_20 {g : sx_G} (hG : sx_Go g) {P : Option Value → sv_V → Prop} {Vr : sv_V} (hP : P none Vr) {N : Nat}   {l1 : Int32} {s1 : Int32} {V : sv_V} (h : B_X12_loops_20 N  l1 s1 V = some Vr) : sv_N g qX12_loops 6 20 [(0, .ref 146), (1, .int l1)] [.int s1, .ref 146] V P := by
  unfold B_X12_loops_20 at h
  obtain ⟨⟨x43, V41⟩, g42, h⟩ := sx_bnd h
  refine sv_cV (pc := 20) (y := qX12_has) (o := (some (.int x43))) (as := [.int s1]) (V1 := V41) hG dX12_loops_20 l_X12_576 y0X12_has yvX12_has rfl (Nat.le_of_ble_eq_true rfl) lay_146 kr_12 (by decide) (Nat.le_of_ble_eq_true rfl) rfl rfl rfl (t_X12_has hG ⟨rfl, rfl⟩ g42) ?_
  refine sx_if_ne (pc := 23) (tgt := 27) dX12_loops_23 (by decide) (fun c44 => ?_) (fun c44 => ?_)
  · have h := sx_neg c44 h
    refine sx_iload_n (pc := 27) dX12_loops_27 sx_m1 ?_
    refine sx_bipush (pc := 28) (v := 56) dX12_loops_28 (by decide) ?_
    refine sx_icmp_ne (pc := 30) (tgt := 40) dX12_loops_30 (by decide) (fun c45 => ?_) (fun c45 => ?_)
    · have h := sx_neg c45 h
      refine sx_iconst (pc := 40) (v := 0) dX12_loops_40 (by decide) ?_
      refine sx_wk (sx_s1 sx_m0 (sx_s1 sx_m1 sx_s0)) ?_
      exact tB_X12_loops_41 hG hP  h
    · have h := sx_pos c45 h
      refine sx_aload_n (pc := 33) dX12_loops_33 sx_m0 ?_
      obtain ⟨⟨x48, V46⟩, g47, h⟩ := sx_bnd h
      refine sv_cV (pc := 34) (y := qX12_pop) (o := (some (.int x48))) (as := []) (V1 := V46) hG dX12_loops_34 l_X12_579 y0X12_pop yvX12_pop rfl (Nat.le_of_ble_eq_true rfl) lay_146 kr_12 (by decide) (Nat.le_of_ble_eq_true rfl) rfl rfl rfl (t_X12_pop hG ⟨rfl, rfl⟩ g47) ?_
      refine sx_goto (pc := 37) (tgt := 41) dX12_loops_37 (by decide) ?_
      refine sx_wk (sx_s1 sx_m0 (sx_s1 sx_m1 sx_s0)) ?_
      exact tB_X12_loops_41 hG hP  h
  · have h := sx_pos c44 h
    exact sv_vret (pc := 26) dX12_loops_26 rfl h hP
def F_X12_loops (N : Nat) (l1 : Int32) (V : sv_V) : Option sv_V := if l1 = (56 : Int32) then (B_X12_loops_20 N  l1 ((V.1 146 75) + (1 : Int32)) V) else (B_X12_loops_20 N  l1 (V.1 146 75) V)
set_option maxRecDepth 20000 in
theorem t_X12_loops {g : sx_G} (hG : sx_Go g) {P : Option Value → sv_V → Prop} {Vr : sv_V} (hP : P none Vr) {N : Nat} {l1 : Int32} {V : sv_V} (h : F_X12_loops N l1 V = some Vr) : sv_N g qX12_loops 6 0 [(0, .ref 146), (1, .int l1)] [] V P := by
  unfold F_X12_loops at h
  refine sx_aload_n (pc := 0) dX12_loops_0 sx_m0 ?_
  refine sx_iload_n (pc := 1) dX12_loops_1 sx_m1 ?_
  refine sx_bipush (pc := 2) (v := 56) dX12_loops_2 (by decide) ?_
  refine sx_icmp_ne (pc := 4) (tgt := 16) dX12_loops_4 (by decide) (fun c49 => ?_) (fun c49 => ?_)
  · have h := sx_neg c49 h
    refine sx_aload_n (pc := 16) dX12_loops_16 sx_m0 ?_
    refine sv_getI (pc := 17) hG dX12_loops_17 f_12_469 lay_146 rfl ?_
    refine sx_wk (sx_s1 sx_m0 (sx_s1 sx_m1 sx_s0)) ?_
    exact tB_X12_loops_20 hG hP  h
  · have h := sx_pos c49 h
    refine sx_aload_n (pc := 7) dX12_loops_7 sx_m0 ?_
    refine sv_getI (pc := 8) hG dX12_loops_8 f_12_469 lay_146 rfl ?_
    refine sx_iconst (pc := 11) (v := 1) dX12_loops_11 (by decide) ?_
    refine sx_iadd (pc := 12) dX12_loops_12 ?_
    refine sx_goto (pc := 13) (tgt := 20) dX12_loops_13 (by decide) ?_
    refine sx_wk (sx_s1 sx_m0 (sx_s1 sx_m1 sx_s0)) ?_
    exact tB_X12_loops_20 hG hP  h
theorem dX12_check_0 : decode cX12_check 0 = .ok (.aload_n 0, 1) := by decide +kernel
theorem dX12_check_1 : decode cX12_check 1 = .ok (.invokevirtual 222, 3) := by decide +kernel
theorem dX12_check_4 : decode cX12_check 4 = .ok (.ifCond .ne 5, 3) := by decide +kernel
theorem dX12_check_7 : decode cX12_check 7 = .ok (.iconst 1, 1) := by decide +kernel
theorem dX12_check_8 : decode cX12_check 8 = .ok (.ireturn, 1) := by decide +kernel
theorem dX12_check_9 : decode cX12_check 9 = .ok (.iconst 1, 1) := by decide +kernel
theorem dX12_check_10 : decode cX12_check 10 = .ok (.istore_n 1, 1) := by decide +kernel
theorem dX12_check_11 : decode cX12_check 11 = .ok (.iload_n 1, 1) := by decide +kernel
theorem dX12_check_12 : decode cX12_check 12 = .ok (.aload_n 0, 1) := by decide +kernel
theorem dX12_check_13 : decode cX12_check 13 = .ok (.getfield 216, 3) := by decide +kernel
theorem dX12_check_16 : decode cX12_check 16 = .ok (.if_icmp .ge 39, 3) := by decide +kernel
theorem dX12_check_19 : decode cX12_check 19 = .ok (.aload_n 0, 1) := by decide +kernel
theorem dX12_check_20 : decode cX12_check 20 = .ok (.getfield 16, 3) := by decide +kernel
theorem dX12_check_23 : decode cX12_check 23 = .ok (.iload_n 1, 1) := by decide +kernel
theorem dX12_check_24 : decode cX12_check 24 = .ok (.iconst 1, 1) := by decide +kernel
theorem dX12_check_25 : decode cX12_check 25 = .ok (.isub, 1) := by decide +kernel
theorem dX12_check_26 : decode cX12_check 26 = .ok (.iaload, 1) := by decide +kernel
theorem dX12_check_27 : decode cX12_check 27 = .ok (.i2l, 1) := by decide +kernel
theorem dX12_check_28 : decode cX12_check 28 = .ok (.ldc2_w 226, 3) := by decide +kernel
theorem dX12_check_31 : decode cX12_check 31 = .ok (.land, 1) := by decide +kernel
theorem dX12_check_32 : decode cX12_check 32 = .ok (.aload_n 0, 1) := by decide +kernel
theorem dX12_check_33 : decode cX12_check 33 = .ok (.getfield 16, 3) := by decide +kernel
theorem dX12_check_36 : decode cX12_check 36 = .ok (.iload_n 1, 1) := by decide +kernel
theorem dX12_check_37 : decode cX12_check 37 = .ok (.iaload, 1) := by decide +kernel
theorem dX12_check_38 : decode cX12_check 38 = .ok (.i2l, 1) := by decide +kernel
theorem dX12_check_39 : decode cX12_check 39 = .ok (.ldc2_w 226, 3) := by decide +kernel
theorem dX12_check_42 : decode cX12_check 42 = .ok (.land, 1) := by decide +kernel
theorem dX12_check_43 : decode cX12_check 43 = .ok (.lcmp, 1) := by decide +kernel
theorem dX12_check_44 : decode cX12_check 44 = .ok (.ifCond .lt 5, 3) := by decide +kernel
theorem dX12_check_47 : decode cX12_check 47 = .ok (.iconst 2, 1) := by decide +kernel
theorem dX12_check_48 : decode cX12_check 48 = .ok (.ireturn, 1) := by decide +kernel
theorem dX12_check_49 : decode cX12_check 49 = .ok (.iinc 1 1, 3) := by decide +kernel
theorem dX12_check_52 : decode cX12_check 52 = .ok (.goto (-41), 3) := by decide +kernel
theorem dX12_check_55 : decode cX12_check 55 = .ok (.iconst 0, 1) := by decide +kernel
theorem dX12_check_56 : decode cX12_check 56 = .ok (.istore_n 1, 1) := by decide +kernel
theorem dX12_check_57 : decode cX12_check 57 = .ok (.iload_n 1, 1) := by decide +kernel
theorem dX12_check_58 : decode cX12_check 58 = .ok (.aload_n 0, 1) := by decide +kernel
theorem dX12_check_59 : decode cX12_check 59 = .ok (.getfield 216, 3) := by decide +kernel
theorem dX12_check_62 : decode cX12_check 62 = .ok (.if_icmp .ge 186, 3) := by decide +kernel
theorem dX12_check_65 : decode cX12_check 65 = .ok (.aload_n 0, 1) := by decide +kernel
theorem dX12_check_66 : decode cX12_check 66 = .ok (.getfield 24, 3) := by decide +kernel
theorem dX12_check_69 : decode cX12_check 69 = .ok (.iload_n 1, 1) := by decide +kernel
theorem dX12_check_70 : decode cX12_check 70 = .ok (.laload, 1) := by decide +kernel
theorem dX12_check_71 : decode cX12_check 71 = .ok (.ldc2_w 228, 3) := by decide +kernel
theorem dX12_check_74 : decode cX12_check 74 = .ok (.lrem, 1) := by decide +kernel
theorem dX12_check_75 : decode cX12_check 75 = .ok (.lconst 0, 1) := by decide +kernel
theorem dX12_check_76 : decode cX12_check 76 = .ok (.lcmp, 1) := by decide +kernel
theorem dX12_check_77 : decode cX12_check 77 = .ok (.ifCond .ne 48, 3) := by decide +kernel
theorem dX12_check_80 : decode cX12_check 80 = .ok (.aload_n 0, 1) := by decide +kernel
theorem dX12_check_81 : decode cX12_check 81 = .ok (.getfield 24, 3) := by decide +kernel
theorem dX12_check_84 : decode cX12_check 84 = .ok (.iload_n 1, 1) := by decide +kernel
theorem dX12_check_85 : decode cX12_check 85 = .ok (.laload, 1) := by decide +kernel
theorem dX12_check_86 : decode cX12_check 86 = .ok (.ldc2_w 230, 3) := by decide +kernel
theorem dX12_check_89 : decode cX12_check 89 = .ok (.ldc2_w 232, 3) := by decide +kernel
theorem dX12_check_92 : decode cX12_check 92 = .ok (.aload_n 0, 1) := by decide +kernel
theorem dX12_check_93 : decode cX12_check 93 = .ok (.getfield 216, 3) := by decide +kernel
theorem dX12_check_96 : decode cX12_check 96 = .ok (.i2l, 1) := by decide +kernel
theorem dX12_check_97 : decode cX12_check 97 = .ok (.lmul, 1) := by decide +kernel
theorem dX12_check_98 : decode cX12_check 98 = .ok (.ladd, 1) := by decide +kernel
theorem dX12_check_99 : decode cX12_check 99 = .ok (.lcmp, 1) := by decide +kernel
theorem dX12_check_100 : decode cX12_check 100 = .ok (.ifCond .lt 25, 3) := by decide +kernel
theorem dX12_check_103 : decode cX12_check 103 = .ok (.aload_n 0, 1) := by decide +kernel
theorem dX12_check_104 : decode cX12_check 104 = .ok (.getfield 24, 3) := by decide +kernel
theorem dX12_check_107 : decode cX12_check 107 = .ok (.iload_n 1, 1) := by decide +kernel
theorem dX12_check_108 : decode cX12_check 108 = .ok (.laload, 1) := by decide +kernel
theorem dX12_check_109 : decode cX12_check 109 = .ok (.aload_n 0, 1) := by decide +kernel
theorem dX12_check_110 : decode cX12_check 110 = .ok (.getfield 27, 3) := by decide +kernel
theorem dX12_check_113 : decode cX12_check 113 = .ok (.iload_n 1, 1) := by decide +kernel
theorem dX12_check_114 : decode cX12_check 114 = .ok (.laload, 1) := by decide +kernel
theorem dX12_check_115 : decode cX12_check 115 = .ok (.ladd, 1) := by decide +kernel
theorem dX12_check_116 : decode cX12_check 116 = .ok (.aload_n 0, 1) := by decide +kernel
theorem dX12_check_117 : decode cX12_check 117 = .ok (.getfield 206, 3) := by decide +kernel
theorem dX12_check_120 : decode cX12_check 120 = .ok (.i2l, 1) := by decide +kernel
theorem dX12_check_121 : decode cX12_check 121 = .ok (.lcmp, 1) := by decide +kernel
theorem dX12_check_122 : decode cX12_check 122 = .ok (.ifCond .le 5, 3) := by decide +kernel
theorem dX12_check_125 : decode cX12_check 125 = .ok (.iconst 3, 1) := by decide +kernel
theorem dX12_check_126 : decode cX12_check 126 = .ok (.ireturn, 1) := by decide +kernel
theorem dX12_check_127 : decode cX12_check 127 = .ok (.iconst 0, 1) := by decide +kernel
theorem dX12_check_128 : decode cX12_check 128 = .ok (.istore_n 2, 1) := by decide +kernel
theorem dX12_check_129 : decode cX12_check 129 = .ok (.iload_n 2, 1) := by decide +kernel
theorem dX12_check_130 : decode cX12_check 130 = .ok (.iload_n 1, 1) := by decide +kernel
theorem dX12_check_131 : decode cX12_check 131 = .ok (.if_icmp .ge 111, 3) := by decide +kernel
theorem dX12_check_134 : decode cX12_check 134 = .ok (.aload_n 0, 1) := by decide +kernel
theorem dX12_check_135 : decode cX12_check 135 = .ok (.getfield 24, 3) := by decide +kernel
theorem dX12_check_138 : decode cX12_check 138 = .ok (.iload_n 2, 1) := by decide +kernel
theorem dX12_check_139 : decode cX12_check 139 = .ok (.laload, 1) := by decide +kernel
theorem dX12_check_140 : decode cX12_check 140 = .ok (.aload_n 0, 1) := by decide +kernel
theorem dX12_check_141 : decode cX12_check 141 = .ok (.getfield 24, 3) := by decide +kernel
theorem dX12_check_144 : decode cX12_check 144 = .ok (.iload_n 1, 1) := by decide +kernel
theorem dX12_check_145 : decode cX12_check 145 = .ok (.laload, 1) := by decide +kernel
theorem dX12_check_146 : decode cX12_check 146 = .ok (.lcmp, 1) := by decide +kernel
theorem dX12_check_147 : decode cX12_check 147 = .ok (.ifCond .le 12, 3) := by decide +kernel
theorem dX12_check_150 : decode cX12_check 150 = .ok (.aload_n 0, 1) := by decide +kernel
theorem dX12_check_151 : decode cX12_check 151 = .ok (.getfield 24, 3) := by decide +kernel
theorem dX12_check_154 : decode cX12_check 154 = .ok (.iload_n 2, 1) := by decide +kernel
theorem dX12_check_155 : decode cX12_check 155 = .ok (.laload, 1) := by decide +kernel
theorem dX12_check_156 : decode cX12_check 156 = .ok (.goto 9, 3) := by decide +kernel
theorem dX12_check_159 : decode cX12_check 159 = .ok (.aload_n 0, 1) := by decide +kernel
theorem dX12_check_160 : decode cX12_check 160 = .ok (.getfield 24, 3) := by decide +kernel
theorem dX12_check_163 : decode cX12_check 163 = .ok (.iload_n 1, 1) := by decide +kernel
theorem dX12_check_164 : decode cX12_check 164 = .ok (.laload, 1) := by decide +kernel
theorem dX12_check_165 : decode cX12_check 165 = .ok (.lstore_n 3, 1) := by decide +kernel
theorem dX12_check_166 : decode cX12_check 166 = .ok (.aload_n 0, 1) := by decide +kernel
theorem dX12_check_167 : decode cX12_check 167 = .ok (.getfield 24, 3) := by decide +kernel
theorem dX12_check_170 : decode cX12_check 170 = .ok (.iload_n 2, 1) := by decide +kernel
theorem dX12_check_171 : decode cX12_check 171 = .ok (.laload, 1) := by decide +kernel
theorem dX12_check_172 : decode cX12_check 172 = .ok (.aload_n 0, 1) := by decide +kernel
theorem dX12_check_173 : decode cX12_check 173 = .ok (.getfield 27, 3) := by decide +kernel
theorem dX12_check_176 : decode cX12_check 176 = .ok (.iload_n 2, 1) := by decide +kernel
theorem dX12_check_177 : decode cX12_check 177 = .ok (.laload, 1) := by decide +kernel
theorem dX12_check_178 : decode cX12_check 178 = .ok (.ladd, 1) := by decide +kernel
theorem dX12_check_179 : decode cX12_check 179 = .ok (.aload_n 0, 1) := by decide +kernel
theorem dX12_check_180 : decode cX12_check 180 = .ok (.getfield 24, 3) := by decide +kernel
theorem dX12_check_183 : decode cX12_check 183 = .ok (.iload_n 1, 1) := by decide +kernel
theorem dX12_check_184 : decode cX12_check 184 = .ok (.laload, 1) := by decide +kernel
theorem dX12_check_185 : decode cX12_check 185 = .ok (.aload_n 0, 1) := by decide +kernel
theorem dX12_check_186 : decode cX12_check 186 = .ok (.getfield 27, 3) := by decide +kernel
theorem dX12_check_189 : decode cX12_check 189 = .ok (.iload_n 1, 1) := by decide +kernel
theorem dX12_check_190 : decode cX12_check 190 = .ok (.laload, 1) := by decide +kernel
theorem dX12_check_191 : decode cX12_check 191 = .ok (.ladd, 1) := by decide +kernel
theorem dX12_check_192 : decode cX12_check 192 = .ok (.lcmp, 1) := by decide +kernel
theorem dX12_check_193 : decode cX12_check 193 = .ok (.ifCond .ge 19, 3) := by decide +kernel
theorem dX12_check_196 : decode cX12_check 196 = .ok (.aload_n 0, 1) := by decide +kernel
theorem dX12_check_197 : decode cX12_check 197 = .ok (.getfield 24, 3) := by decide +kernel
theorem dX12_check_200 : decode cX12_check 200 = .ok (.iload_n 2, 1) := by decide +kernel
theorem dX12_check_201 : decode cX12_check 201 = .ok (.laload, 1) := by decide +kernel
theorem dX12_check_202 : decode cX12_check 202 = .ok (.aload_n 0, 1) := by decide +kernel
theorem dX12_check_203 : decode cX12_check 203 = .ok (.getfield 27, 3) := by decide +kernel
theorem dX12_check_206 : decode cX12_check 206 = .ok (.iload_n 2, 1) := by decide +kernel
theorem dX12_check_207 : decode cX12_check 207 = .ok (.laload, 1) := by decide +kernel
theorem dX12_check_208 : decode cX12_check 208 = .ok (.ladd, 1) := by decide +kernel
theorem dX12_check_209 : decode cX12_check 209 = .ok (.goto 16, 3) := by decide +kernel
theorem dX12_check_212 : decode cX12_check 212 = .ok (.aload_n 0, 1) := by decide +kernel
theorem dX12_check_213 : decode cX12_check 213 = .ok (.getfield 24, 3) := by decide +kernel
theorem dX12_check_216 : decode cX12_check 216 = .ok (.iload_n 1, 1) := by decide +kernel
theorem dX12_check_217 : decode cX12_check 217 = .ok (.laload, 1) := by decide +kernel
theorem dX12_check_218 : decode cX12_check 218 = .ok (.aload_n 0, 1) := by decide +kernel
theorem dX12_check_219 : decode cX12_check 219 = .ok (.getfield 27, 3) := by decide +kernel
theorem dX12_check_222 : decode cX12_check 222 = .ok (.iload_n 1, 1) := by decide +kernel
theorem dX12_check_223 : decode cX12_check 223 = .ok (.laload, 1) := by decide +kernel
theorem dX12_check_224 : decode cX12_check 224 = .ok (.ladd, 1) := by decide +kernel
theorem dX12_check_225 : decode cX12_check 225 = .ok (.lstore 5, 2) := by decide +kernel
theorem dX12_check_227 : decode cX12_check 227 = .ok (.lload_n 3, 1) := by decide +kernel
theorem dX12_check_228 : decode cX12_check 228 = .ok (.lload 5, 2) := by decide +kernel
theorem dX12_check_230 : decode cX12_check 230 = .ok (.lcmp, 1) := by decide +kernel
theorem dX12_check_231 : decode cX12_check 231 = .ok (.ifCond .ge 5, 3) := by decide +kernel
theorem dX12_check_234 : decode cX12_check 234 = .ok (.iconst 3, 1) := by decide +kernel
theorem dX12_check_235 : decode cX12_check 235 = .ok (.ireturn, 1) := by decide +kernel
theorem dX12_check_236 : decode cX12_check 236 = .ok (.iinc 2 1, 3) := by decide +kernel
theorem dX12_check_239 : decode cX12_check 239 = .ok (.goto (-110), 3) := by decide +kernel
theorem dX12_check_242 : decode cX12_check 242 = .ok (.iinc 1 1, 3) := by decide +kernel
theorem dX12_check_245 : decode cX12_check 245 = .ok (.goto (-188), 3) := by decide +kernel
theorem dX12_check_248 : decode cX12_check 248 = .ok (.iconst 0, 1) := by decide +kernel
theorem dX12_check_249 : decode cX12_check 249 = .ok (.istore_n 1, 1) := by decide +kernel
theorem dX12_check_250 : decode cX12_check 250 = .ok (.iload_n 1, 1) := by decide +kernel
theorem dX12_check_251 : decode cX12_check 251 = .ok (.aload_n 0, 1) := by decide +kernel
theorem dX12_check_252 : decode cX12_check 252 = .ok (.getfield 216, 3) := by decide +kernel
theorem dX12_check_255 : decode cX12_check 255 = .ok (.if_icmp .ge 62, 3) := by decide +kernel
theorem dX12_check_258 : decode cX12_check 258 = .ok (.aload_n 0, 1) := by decide +kernel
theorem dX12_check_259 : decode cX12_check 259 = .ok (.getfield 24, 3) := by decide +kernel
theorem dX12_check_262 : decode cX12_check 262 = .ok (.iload_n 1, 1) := by decide +kernel
theorem dX12_check_263 : decode cX12_check 263 = .ok (.laload, 1) := by decide +kernel
theorem dX12_check_264 : decode cX12_check 264 = .ok (.l2i, 1) := by decide +kernel
theorem dX12_check_265 : decode cX12_check 265 = .ok (.istore_n 2, 1) := by decide +kernel
theorem dX12_check_266 : decode cX12_check 266 = .ok (.aload_n 0, 1) := by decide +kernel
theorem dX12_check_267 : decode cX12_check 267 = .ok (.iload_n 2, 1) := by decide +kernel
theorem dX12_check_268 : decode cX12_check 268 = .ok (.iload_n 2, 1) := by decide +kernel
theorem dX12_check_269 : decode cX12_check 269 = .ok (.aload_n 0, 1) := by decide +kernel
theorem dX12_check_270 : decode cX12_check 270 = .ok (.getfield 27, 3) := by decide +kernel
theorem dX12_check_273 : decode cX12_check 273 = .ok (.iload_n 1, 1) := by decide +kernel
theorem dX12_check_274 : decode cX12_check 274 = .ok (.laload, 1) := by decide +kernel
theorem dX12_check_275 : decode cX12_check 275 = .ok (.l2i, 1) := by decide +kernel
theorem dX12_check_276 : decode cX12_check 276 = .ok (.iadd, 1) := by decide +kernel
theorem dX12_check_277 : decode cX12_check 277 = .ok (.aload_n 0, 1) := by decide +kernel
theorem dX12_check_278 : decode cX12_check 278 = .ok (.getfield 16, 3) := by decide +kernel
theorem dX12_check_281 : decode cX12_check 281 = .ok (.iload_n 1, 1) := by decide +kernel
theorem dX12_check_282 : decode cX12_check 282 = .ok (.iaload, 1) := by decide +kernel
theorem dX12_check_283 : decode cX12_check 283 = .ok (.ldc 234, 2) := by decide +kernel
theorem dX12_check_285 : decode cX12_check 285 = .ok (.if_icmp .ne 10, 3) := by decide +kernel
theorem dX12_check_288 : decode cX12_check 288 = .ok (.iload_n 2, 1) := by decide +kernel
theorem dX12_check_289 : decode cX12_check 289 = .ok (.bipush 8, 2) := by decide +kernel
theorem dX12_check_291 : decode cX12_check 291 = .ok (.iadd, 1) := by decide +kernel
theorem dX12_check_292 : decode cX12_check 292 = .ok (.goto 4, 3) := by decide +kernel
theorem dX12_check_295 : decode cX12_check 295 = .ok (.iconst (-1), 1) := by decide +kernel
theorem dX12_check_296 : decode cX12_check 296 = .ok (.invokevirtual 235, 3) := by decide +kernel
theorem dX12_check_299 : decode cX12_check 299 = .ok (.aload_n 0, 1) := by decide +kernel
theorem dX12_check_300 : decode cX12_check 300 = .ok (.getfield 20, 3) := by decide +kernel
theorem dX12_check_303 : decode cX12_check 303 = .ok (.iload_n 1, 1) := by decide +kernel
theorem dX12_check_304 : decode cX12_check 304 = .ok (.laload, 1) := by decide +kernel
theorem dX12_check_305 : decode cX12_check 305 = .ok (.l2i, 1) := by decide +kernel
theorem dX12_check_306 : decode cX12_check 306 = .ok (.if_icmp .eq 5, 3) := by decide +kernel
theorem dX12_check_309 : decode cX12_check 309 = .ok (.iconst 4, 1) := by decide +kernel
theorem dX12_check_310 : decode cX12_check 310 = .ok (.ireturn, 1) := by decide +kernel
theorem dX12_check_311 : decode cX12_check 311 = .ok (.iinc 1 1, 3) := by decide +kernel
theorem dX12_check_314 : decode cX12_check 314 = .ok (.goto (-64), 3) := by decide +kernel
theorem dX12_check_317 : decode cX12_check 317 = .ok (.aload_n 0, 1) := by decide +kernel
theorem dX12_check_318 : decode cX12_check 318 = .ok (.ldc 239, 2) := by decide +kernel
theorem dX12_check_320 : decode cX12_check 320 = .ok (.invokevirtual 219, 3) := by decide +kernel
theorem dX12_check_323 : decode cX12_check 323 = .ok (.ifCond .lt 57, 3) := by decide +kernel
theorem dX12_check_326 : decode cX12_check 326 = .ok (.aload_n 0, 1) := by decide +kernel
theorem dX12_check_327 : decode cX12_check 327 = .ok (.ldc 240, 2) := by decide +kernel
theorem dX12_check_329 : decode cX12_check 329 = .ok (.invokevirtual 219, 3) := by decide +kernel
theorem dX12_check_332 : decode cX12_check 332 = .ok (.ifCond .lt 48, 3) := by decide +kernel
theorem dX12_check_335 : decode cX12_check 335 = .ok (.aload_n 0, 1) := by decide +kernel
theorem dX12_check_336 : decode cX12_check 336 = .ok (.ldc 234, 2) := by decide +kernel
theorem dX12_check_338 : decode cX12_check 338 = .ok (.invokevirtual 219, 3) := by decide +kernel
theorem dX12_check_341 : decode cX12_check 341 = .ok (.ifCond .lt 39, 3) := by decide +kernel
theorem dX12_check_344 : decode cX12_check 344 = .ok (.aload_n 0, 1) := by decide +kernel
theorem dX12_check_345 : decode cX12_check 345 = .ok (.ldc 241, 2) := by decide +kernel
theorem dX12_check_347 : decode cX12_check 347 = .ok (.invokevirtual 219, 3) := by decide +kernel
theorem dX12_check_350 : decode cX12_check 350 = .ok (.ifCond .lt 30, 3) := by decide +kernel
theorem dX12_check_353 : decode cX12_check 353 = .ok (.aload_n 0, 1) := by decide +kernel
theorem dX12_check_354 : decode cX12_check 354 = .ok (.ldc 242, 2) := by decide +kernel
theorem dX12_check_356 : decode cX12_check 356 = .ok (.invokevirtual 219, 3) := by decide +kernel
theorem dX12_check_359 : decode cX12_check 359 = .ok (.ifCond .lt 21, 3) := by decide +kernel
theorem dX12_check_362 : decode cX12_check 362 = .ok (.aload_n 0, 1) := by decide +kernel
theorem dX12_check_363 : decode cX12_check 363 = .ok (.ldc 243, 2) := by decide +kernel
theorem dX12_check_365 : decode cX12_check 365 = .ok (.invokevirtual 219, 3) := by decide +kernel
theorem dX12_check_368 : decode cX12_check 368 = .ok (.ifCond .lt 12, 3) := by decide +kernel
theorem dX12_check_371 : decode cX12_check 371 = .ok (.aload_n 0, 1) := by decide +kernel
theorem dX12_check_372 : decode cX12_check 372 = .ok (.ldc 244, 2) := by decide +kernel
theorem dX12_check_374 : decode cX12_check 374 = .ok (.invokevirtual 219, 3) := by decide +kernel
theorem dX12_check_377 : decode cX12_check 377 = .ok (.ifCond .ge 5, 3) := by decide +kernel
theorem dX12_check_380 : decode cX12_check 380 = .ok (.iconst 5, 1) := by decide +kernel
theorem dX12_check_381 : decode cX12_check 381 = .ok (.ireturn, 1) := by decide +kernel
theorem dX12_check_382 : decode cX12_check 382 = .ok (.aload_n 0, 1) := by decide +kernel
theorem dX12_check_383 : decode cX12_check 383 = .ok (.invokevirtual 245, 3) := by decide +kernel
theorem dX12_check_386 : decode cX12_check 386 = .ok (.ifCond .ne 6, 3) := by decide +kernel
theorem dX12_check_389 : decode cX12_check 389 = .ok (.bipush 6, 2) := by decide +kernel
theorem dX12_check_391 : decode cX12_check 391 = .ok (.ireturn, 1) := by decide +kernel
theorem dX12_check_392 : decode cX12_check 392 = .ok (.aload_n 0, 1) := by decide +kernel
theorem dX12_check_393 : decode cX12_check 393 = .ok (.invokevirtual 248, 3) := by decide +kernel
theorem dX12_check_396 : decode cX12_check 396 = .ok (.ifCond .ne 6, 3) := by decide +kernel
theorem dX12_check_399 : decode cX12_check 399 = .ok (.bipush 7, 2) := by decide +kernel
theorem dX12_check_401 : decode cX12_check 401 = .ok (.ireturn, 1) := by decide +kernel
theorem dX12_check_402 : decode cX12_check 402 = .ok (.aload_n 0, 1) := by decide +kernel
theorem dX12_check_403 : decode cX12_check 403 = .ok (.ldc 241, 2) := by decide +kernel
theorem dX12_check_405 : decode cX12_check 405 = .ok (.invokevirtual 251, 3) := by decide +kernel
theorem dX12_check_408 : decode cX12_check 408 = .ok (.istore_n 1, 1) := by decide +kernel
theorem dX12_check_409 : decode cX12_check 409 = .ok (.aload_n 0, 1) := by decide +kernel
theorem dX12_check_410 : decode cX12_check 410 = .ok (.aload_n 0, 1) := by decide +kernel
theorem dX12_check_411 : decode cX12_check 411 = .ok (.iload_n 1, 1) := by decide +kernel
theorem dX12_check_412 : decode cX12_check 412 = .ok (.bipush 34, 2) := by decide +kernel
theorem dX12_check_414 : decode cX12_check 414 = .ok (.iadd, 1) := by decide +kernel
theorem dX12_check_415 : decode cX12_check 415 = .ok (.invokevirtual 213, 3) := by decide +kernel
theorem dX12_check_418 : decode cX12_check 418 = .ok (.putfield 254, 3) := by decide +kernel
theorem dX12_check_421 : decode cX12_check 421 = .ok (.aload_n 0, 1) := by decide +kernel
theorem dX12_check_422 : decode cX12_check 422 = .ok (.ldc 241, 2) := by decide +kernel
theorem dX12_check_424 : decode cX12_check 424 = .ok (.invokevirtual 257, 3) := by decide +kernel
theorem dX12_check_427 : decode cX12_check 427 = .ok (.bipush 36, 2) := by decide +kernel
theorem dX12_check_429 : decode cX12_check 429 = .ok (.if_icmp .ne 20, 3) := by decide +kernel
theorem dX12_check_432 : decode cX12_check 432 = .ok (.aload_n 0, 1) := by decide +kernel
theorem dX12_check_433 : decode cX12_check 433 = .ok (.getfield 254, 3) := by decide +kernel
theorem dX12_check_436 : decode cX12_check 436 = .ok (.i2l, 1) := by decide +kernel
theorem dX12_check_437 : decode cX12_check 437 = .ok (.lconst 1, 1) := by decide +kernel
theorem dX12_check_438 : decode cX12_check 438 = .ok (.aload_n 0, 1) := by decide +kernel
theorem dX12_check_439 : decode cX12_check 439 = .ok (.getfield 260, 3) := by decide +kernel
theorem dX12_check_442 : decode cX12_check 442 = .ok (.i2l, 1) := by decide +kernel
theorem dX12_check_443 : decode cX12_check 443 = .ok (.invokestatic 263, 3) := by decide +kernel
theorem dX12_check_446 : decode cX12_check 446 = .ok (.ifCond .ne 6, 3) := by decide +kernel
theorem dX12_check_449 : decode cX12_check 449 = .ok (.bipush 8, 2) := by decide +kernel
theorem dX12_check_451 : decode cX12_check 451 = .ok (.ireturn, 1) := by decide +kernel
theorem dX12_check_452 : decode cX12_check 452 = .ok (.aload_n 0, 1) := by decide +kernel
theorem dX12_check_453 : decode cX12_check 453 = .ok (.ldc 242, 2) := by decide +kernel
theorem dX12_check_455 : decode cX12_check 455 = .ok (.invokevirtual 257, 3) := by decide +kernel
theorem dX12_check_458 : decode cX12_check 458 = .ok (.iconst 4, 1) := by decide +kernel
theorem dX12_check_459 : decode cX12_check 459 = .ok (.aload_n 0, 1) := by decide +kernel
theorem dX12_check_460 : decode cX12_check 460 = .ok (.getfield 254, 3) := by decide +kernel
theorem dX12_check_463 : decode cX12_check 463 = .ok (.imul, 1) := by decide +kernel
theorem dX12_check_464 : decode cX12_check 464 = .ok (.iconst 2, 1) := by decide +kernel
theorem dX12_check_465 : decode cX12_check 465 = .ok (.aload_n 0, 1) := by decide +kernel
theorem dX12_check_466 : decode cX12_check 466 = .ok (.getfield 260, 3) := by decide +kernel
theorem dX12_check_469 : decode cX12_check 469 = .ok (.aload_n 0, 1) := by decide +kernel
theorem dX12_check_470 : decode cX12_check 470 = .ok (.getfield 254, 3) := by decide +kernel
theorem dX12_check_473 : decode cX12_check 473 = .ok (.isub, 1) := by decide +kernel
theorem dX12_check_474 : decode cX12_check 474 = .ok (.imul, 1) := by decide +kernel
theorem dX12_check_475 : decode cX12_check 475 = .ok (.iadd, 1) := by decide +kernel
theorem dX12_check_476 : decode cX12_check 476 = .ok (.if_icmp .ge 6, 3) := by decide +kernel
theorem dX12_check_479 : decode cX12_check 479 = .ok (.bipush 9, 2) := by decide +kernel
theorem dX12_check_481 : decode cX12_check 481 = .ok (.ireturn, 1) := by decide +kernel
theorem dX12_check_482 : decode cX12_check 482 = .ok (.aload_n 0, 1) := by decide +kernel
theorem dX12_check_483 : decode cX12_check 483 = .ok (.invokevirtual 267, 3) := by decide +kernel
theorem dX12_check_486 : decode cX12_check 486 = .ok (.ireturn, 1) := by decide +kernel
def B_X12_check_225 (N : Nat) (k57 : Int32 → sv_V → Option (Int32 × sv_V)) (k129 : Int32 → Int32 → sv_V → Option (Int32 × sv_V)) (l1 : Int32) (l2 : Int32) (l3 : Int64) (s0 : Int64) (V : sv_V) : Option (Int32 × sv_V) := if 0 ≤ (lg_cmp l3 s0) then (sx_let (l2 + 1) (fun x2 => k129 l1 x2 V)) else (some ((3 : Int32), V))
set_option maxRecDepth 20000 in
theorem tB_X12_check_225 {g : sx_G} (hG : sx_Go g) {P : Option Value → sv_V → Prop} {r : Int32} {Vr : sv_V} (hP : P (some (.int r)) Vr) {N : Nat} {k57 : Int32 → sv_V → Option (Int32 × sv_V)} {k129 : Int32 → Int32 → sv_V → Option (Int32 × sv_V)} (hk57 : ∀ (l1 : Int32) (V : sv_V), k57 l1 V = some (r, Vr) → sv_N g qX12_check 8 57 [(0, .ref 146), (1, .int l1)] [] V P) (hk129 : ∀ (l1 : Int32) (l2 : Int32) (V : sv_V), k129 l1 l2 V = some (r, Vr) → sv_N g qX12_check 8 129 [(0, .ref 146), (1, .int l1), (2, .int l2)] [] V P) {l1 : Int32} {l2 : Int32} {l3 : Int64} {s0 : Int64} {V : sv_V} (h : B_X12_check_225 N k57 k129 l1 l2 l3 s0 V = some (r, Vr)) : sv_N g qX12_check 8 225 [(0, .ref 146), (1, .int l1), (2, .int l2), (3, .long l3)] [.long s0] V P := by
  unfold B_X12_check_225 at h
  refine sx_lstore (pc := 225) (lo' := [(5, .long s0), (0, .ref 146), (1, .int l1), (2, .int l2), (3, .long l3)]) dX12_check_225 (by decide) rfl ?_
  refine sx_lload_n (pc := 227) dX12_check_227 sx_m4 ?_
  refine sx_lload (pc := 228) dX12_check_228 sx_m0 ?_
  refine sx_lcmp (pc := 230) dX12_check_230 ?_
  refine sx_if_ge (pc := 231) (tgt := 236) dX12_check_231 (by decide) (fun c1 => ?_) (fun c1 => ?_)
  · have h := sx_pos c1 h
    obtain ⟨x2, hx2⟩ : ∃ z : Int32, z = l2 + 1 := ⟨_, rfl⟩
    have h := sx_letE hx2 h
    refine sx_iinc (pc := 236) (v := x2) (lo' := [(2, .int x2), (5, .long s0), (0, .ref 146), (1, .int l1), (3, .long l3)]) dX12_check_236 sx_m3 (by rw [hx2]; rfl) (by decide) rfl ?_
    refine sx_goto (pc := 239) (tgt := 129) dX12_check_239 (by decide) ?_
    refine sx_wk (sx_s1 sx_m2 (sx_s1 sx_m3 (sx_s1 sx_m0 sx_s0))) ?_
    exact hk129 _ _ _ h
  · have h := sx_neg c1 h
    refine sx_iconst (pc := 234) (v := 3) dX12_check_234 (by decide) ?_
    exact sv_iret (pc := 235) dX12_check_235 rfl h hP
def B_X12_check_165 (N : Nat) (k57 : Int32 → sv_V → Option (Int32 × sv_V)) (k129 : Int32 → Int32 → sv_V → Option (Int32 × sv_V)) (l1 : Int32) (l2 : Int32) (s0 : Int64) (V : sv_V) : Option (Int32 × sv_V) := if sx_in l2 16 = true then if sx_in l2 16 = true then if sx_in l1 16 = true then if sx_in l1 16 = true then if 0 ≤ (lg_cmp ((V.2.1 151 l2.toNatClampNeg) + (V.2.1 152 l2.toNatClampNeg)) ((V.2.1 151 l1.toNatClampNeg) + (V.2.1 152 l1.toNatClampNeg))) then (if sx_in l1 16 = true then if sx_in l1 16 = true then B_X12_check_225 N k57 k129 l1 l2 s0 ((V.2.1 151 l1.toNatClampNeg) + (V.2.1 152 l1.toNatClampNeg)) V else none else none) else (if sx_in l2 16 = true then if sx_in l2 16 = true then B_X12_check_225 N k57 k129 l1 l2 s0 ((V.2.1 151 l2.toNatClampNeg) + (V.2.1 152 l2.toNatClampNeg)) V else none else none) else none else none else none else none
set_option maxRecDepth 20000 in
theorem tB_X12_check_165 {g : sx_G} (hG : sx_Go g) {P : Option Value → sv_V → Prop} {r : Int32} {Vr : sv_V} (hP : P (some (.int r)) Vr) {N : Nat} {k57 : Int32 → sv_V → Option (Int32 × sv_V)} {k129 : Int32 → Int32 → sv_V → Option (Int32 × sv_V)} (hk57 : ∀ (l1 : Int32) (V : sv_V), k57 l1 V = some (r, Vr) → sv_N g qX12_check 8 57 [(0, .ref 146), (1, .int l1)] [] V P) (hk129 : ∀ (l1 : Int32) (l2 : Int32) (V : sv_V), k129 l1 l2 V = some (r, Vr) → sv_N g qX12_check 8 129 [(0, .ref 146), (1, .int l1), (2, .int l2)] [] V P) {l1 : Int32} {l2 : Int32} {s0 : Int64} {V : sv_V} (h : B_X12_check_165 N k57 k129 l1 l2 s0 V = some (r, Vr)) : sv_N g qX12_check 8 165 [(0, .ref 146), (1, .int l1), (2, .int l2)] [.long s0] V P := by
  unfold B_X12_check_165 at h
  refine sx_lstore_n (pc := 165) (lo' := [(3, .long s0), (0, .ref 146), (1, .int l1), (2, .int l2)]) dX12_check_165 (by decide) rfl ?_
  refine sx_aload_n (pc := 166) dX12_check_166 sx_m1 ?_
  refine sv_getA (pc := 167) hG dX12_check_167 f_12_24 lay_146 rfl cr_146_8 ?_
  refine sx_iload_n (pc := 170) dX12_check_170 sx_m3 ?_
  obtain ⟨g3, h⟩ := sx_grd h
  refine sv_lald (pc := 171) hG dX12_check_171 lay_151 g3 ?_
  refine sx_aload_n (pc := 172) dX12_check_172 sx_m1 ?_
  refine sv_getA (pc := 173) hG dX12_check_173 f_12_27 lay_146 rfl cr_146_9 ?_
  refine sx_iload_n (pc := 176) dX12_check_176 sx_m3 ?_
  obtain ⟨g4, h⟩ := sx_grd h
  refine sv_lald (pc := 177) hG dX12_check_177 lay_152 g4 ?_
  refine sx_ladd (pc := 178) dX12_check_178 ?_
  refine sx_aload_n (pc := 179) dX12_check_179 sx_m1 ?_
  refine sv_getA (pc := 180) hG dX12_check_180 f_12_24 lay_146 rfl cr_146_8 ?_
  refine sx_iload_n (pc := 183) dX12_check_183 sx_m2 ?_
  obtain ⟨g5, h⟩ := sx_grd h
  refine sv_lald (pc := 184) hG dX12_check_184 lay_151 g5 ?_
  refine sx_aload_n (pc := 185) dX12_check_185 sx_m1 ?_
  refine sv_getA (pc := 186) hG dX12_check_186 f_12_27 lay_146 rfl cr_146_9 ?_
  refine sx_iload_n (pc := 189) dX12_check_189 sx_m2 ?_
  obtain ⟨g6, h⟩ := sx_grd h
  refine sv_lald (pc := 190) hG dX12_check_190 lay_152 g6 ?_
  refine sx_ladd (pc := 191) dX12_check_191 ?_
  refine sx_lcmp (pc := 192) dX12_check_192 ?_
  refine sx_if_ge (pc := 193) (tgt := 212) dX12_check_193 (by decide) (fun c7 => ?_) (fun c7 => ?_)
  · have h := sx_pos c7 h
    refine sx_aload_n (pc := 212) dX12_check_212 sx_m1 ?_
    refine sv_getA (pc := 213) hG dX12_check_213 f_12_24 lay_146 rfl cr_146_8 ?_
    refine sx_iload_n (pc := 216) dX12_check_216 sx_m2 ?_
    obtain ⟨g8, h⟩ := sx_grd h
    refine sv_lald (pc := 217) hG dX12_check_217 lay_151 g8 ?_
    refine sx_aload_n (pc := 218) dX12_check_218 sx_m1 ?_
    refine sv_getA (pc := 219) hG dX12_check_219 f_12_27 lay_146 rfl cr_146_9 ?_
    refine sx_iload_n (pc := 222) dX12_check_222 sx_m2 ?_
    obtain ⟨g9, h⟩ := sx_grd h
    refine sv_lald (pc := 223) hG dX12_check_223 lay_152 g9 ?_
    refine sx_ladd (pc := 224) dX12_check_224 ?_
    refine sx_wk (sx_s1 sx_m1 (sx_s1 sx_m2 (sx_s1 sx_m3 (sx_s1 sx_m0 sx_s0)))) ?_
    exact tB_X12_check_225 hG hP hk57 hk129 h
  · have h := sx_neg c7 h
    refine sx_aload_n (pc := 196) dX12_check_196 sx_m1 ?_
    refine sv_getA (pc := 197) hG dX12_check_197 f_12_24 lay_146 rfl cr_146_8 ?_
    refine sx_iload_n (pc := 200) dX12_check_200 sx_m3 ?_
    obtain ⟨g10, h⟩ := sx_grd h
    refine sv_lald (pc := 201) hG dX12_check_201 lay_151 g10 ?_
    refine sx_aload_n (pc := 202) dX12_check_202 sx_m1 ?_
    refine sv_getA (pc := 203) hG dX12_check_203 f_12_27 lay_146 rfl cr_146_9 ?_
    refine sx_iload_n (pc := 206) dX12_check_206 sx_m3 ?_
    obtain ⟨g11, h⟩ := sx_grd h
    refine sv_lald (pc := 207) hG dX12_check_207 lay_152 g11 ?_
    refine sx_ladd (pc := 208) dX12_check_208 ?_
    refine sx_goto (pc := 209) (tgt := 225) dX12_check_209 (by decide) ?_
    refine sx_wk (sx_s1 sx_m1 (sx_s1 sx_m2 (sx_s1 sx_m3 (sx_s1 sx_m0 sx_s0)))) ?_
    exact tB_X12_check_225 hG hP hk57 hk129 h
def B_X12_check_129 (N : Nat) (k57 : Int32 → sv_V → Option (Int32 × sv_V)) (k129 : Int32 → Int32 → sv_V → Option (Int32 × sv_V)) (l1 : Int32) (l2 : Int32) (V : sv_V) : Option (Int32 × sv_V) := if l1 ≤ l2 then (sx_let (l1 + 1) (fun x13 => k57 x13 V)) else (if sx_in l2 16 = true then if sx_in l1 16 = true then if (lg_cmp (V.2.1 151 l2.toNatClampNeg) (V.2.1 151 l1.toNatClampNeg)) ≤ 0 then (if sx_in l1 16 = true then B_X12_check_165 N k57 k129 l1 l2 (V.2.1 151 l1.toNatClampNeg) V else none) else (if sx_in l2 16 = true then B_X12_check_165 N k57 k129 l1 l2 (V.2.1 151 l2.toNatClampNeg) V else none) else none else none)
set_option maxRecDepth 20000 in
theorem tB_X12_check_129 {g : sx_G} (hG : sx_Go g) {P : Option Value → sv_V → Prop} {r : Int32} {Vr : sv_V} (hP : P (some (.int r)) Vr) {N : Nat} {k57 : Int32 → sv_V → Option (Int32 × sv_V)} {k129 : Int32 → Int32 → sv_V → Option (Int32 × sv_V)} (hk57 : ∀ (l1 : Int32) (V : sv_V), k57 l1 V = some (r, Vr) → sv_N g qX12_check 8 57 [(0, .ref 146), (1, .int l1)] [] V P) (hk129 : ∀ (l1 : Int32) (l2 : Int32) (V : sv_V), k129 l1 l2 V = some (r, Vr) → sv_N g qX12_check 8 129 [(0, .ref 146), (1, .int l1), (2, .int l2)] [] V P) {l1 : Int32} {l2 : Int32} {V : sv_V} (h : B_X12_check_129 N k57 k129 l1 l2 V = some (r, Vr)) : sv_N g qX12_check 8 129 [(0, .ref 146), (1, .int l1), (2, .int l2)] [] V P := by
  unfold B_X12_check_129 at h
  refine sx_iload_n (pc := 129) dX12_check_129 sx_m2 ?_
  refine sx_iload_n (pc := 130) dX12_check_130 sx_m1 ?_
  refine sx_icmp_ge (pc := 131) (tgt := 242) dX12_check_131 (by decide) (fun c12 => ?_) (fun c12 => ?_)
  · have h := sx_pos c12 h
    obtain ⟨x13, hx13⟩ : ∃ z : Int32, z = l1 + 1 := ⟨_, rfl⟩
    have h := sx_letE hx13 h
    refine sx_iinc (pc := 242) (v := x13) (lo' := [(1, .int x13), (0, .ref 146), (2, .int l2)]) dX12_check_242 sx_m1 (by rw [hx13]; rfl) (by decide) rfl ?_
    refine sx_goto (pc := 245) (tgt := 57) dX12_check_245 (by decide) ?_
    refine sx_wk (sx_s1 sx_m1 (sx_s1 sx_m0 sx_s0)) ?_
    exact hk57 _ _ h
  · have h := sx_neg c12 h
    refine sx_aload_n (pc := 134) dX12_check_134 sx_m0 ?_
    refine sv_getA (pc := 135) hG dX12_check_135 f_12_24 lay_146 rfl cr_146_8 ?_
    refine sx_iload_n (pc := 138) dX12_check_138 sx_m2 ?_
    obtain ⟨g14, h⟩ := sx_grd h
    refine sv_lald (pc := 139) hG dX12_check_139 lay_151 g14 ?_
    refine sx_aload_n (pc := 140) dX12_check_140 sx_m0 ?_
    refine sv_getA (pc := 141) hG dX12_check_141 f_12_24 lay_146 rfl cr_146_8 ?_
    refine sx_iload_n (pc := 144) dX12_check_144 sx_m1 ?_
    obtain ⟨g15, h⟩ := sx_grd h
    refine sv_lald (pc := 145) hG dX12_check_145 lay_151 g15 ?_
    refine sx_lcmp (pc := 146) dX12_check_146 ?_
    refine sx_if_le (pc := 147) (tgt := 159) dX12_check_147 (by decide) (fun c16 => ?_) (fun c16 => ?_)
    · have h := sx_pos c16 h
      refine sx_aload_n (pc := 159) dX12_check_159 sx_m0 ?_
      refine sv_getA (pc := 160) hG dX12_check_160 f_12_24 lay_146 rfl cr_146_8 ?_
      refine sx_iload_n (pc := 163) dX12_check_163 sx_m1 ?_
      obtain ⟨g17, h⟩ := sx_grd h
      refine sv_lald (pc := 164) hG dX12_check_164 lay_151 g17 ?_
      refine sx_wk (sx_s1 sx_m0 (sx_s1 sx_m1 (sx_s1 sx_m2 sx_s0))) ?_
      exact tB_X12_check_165 hG hP hk57 hk129 h
    · have h := sx_neg c16 h
      refine sx_aload_n (pc := 150) dX12_check_150 sx_m0 ?_
      refine sv_getA (pc := 151) hG dX12_check_151 f_12_24 lay_146 rfl cr_146_8 ?_
      refine sx_iload_n (pc := 154) dX12_check_154 sx_m2 ?_
      obtain ⟨g18, h⟩ := sx_grd h
      refine sv_lald (pc := 155) hG dX12_check_155 lay_151 g18 ?_
      refine sx_goto (pc := 156) (tgt := 165) dX12_check_156 (by decide) ?_
      refine sx_wk (sx_s1 sx_m0 (sx_s1 sx_m1 (sx_s1 sx_m2 sx_s0))) ?_
      exact tB_X12_check_165 hG hP hk57 hk129 h
theorem tL_X12_check_129 {g : sx_G} (hG : sx_Go g) {P : Option Value → sv_V → Prop} {r : Int32} {Vr : sv_V} (hP : P (some (.int r)) Vr) {N : Nat} {k57 : Int32 → sv_V → Option (Int32 × sv_V)} (hk57 : ∀ (l1 : Int32) (V : sv_V), k57 l1 V = some (r, Vr) → sv_N g qX12_check 8 57 [(0, .ref 146), (1, .int l1)] [] V P) : ∀ (n : Nat) (l1 : Int32) (l2 : Int32) (V : sv_V), sx_lp3 (B_X12_check_129 N k57) n l1 l2 V = some (r, Vr) → sv_N g qX12_check 8 129 [(0, .ref 146), (1, .int l1), (2, .int l2)] [] V P :=
  sx_lp3_ind (fun k0 ih _ _ V h => tB_X12_check_129 hG hP hk57 ih h)
def B_X12_check_296 (N : Nat) (k250 : Int32 → sv_V → Option (Int32 × sv_V)) (l1 : Int32) (s1 : Int32) (s2 : Int32) (s3 : Int32) (V : sv_V) : Option (Int32 × sv_V) := (F_X12_sumOf N s1 s2 s3 V).bind (fun (x21, V19) => if sx_in l1 16 = true then if x21 = ((V19.2.1 150 l1.toNatClampNeg).toInt32) then (sx_let (l1 + 1) (fun x24 => k250 x24 V19)) else (some ((4 : Int32), V19)) else none)
set_option maxRecDepth 20000 in
theorem tB_X12_check_296 {g : sx_G} (hG : sx_Go g) {P : Option Value → sv_V → Prop} {r : Int32} {Vr : sv_V} (hP : P (some (.int r)) Vr) {N : Nat} {k250 : Int32 → sv_V → Option (Int32 × sv_V)} (hk250 : ∀ (l1 : Int32) (V : sv_V), k250 l1 V = some (r, Vr) → sv_N g qX12_check 8 250 [(0, .ref 146), (1, .int l1)] [] V P) {l1 : Int32} {s1 : Int32} {s2 : Int32} {s3 : Int32} {V : sv_V} (h : B_X12_check_296 N k250 l1 s1 s2 s3 V = some (r, Vr)) : sv_N g qX12_check 8 296 [(0, .ref 146), (1, .int l1)] [.int s3, .int s2, .int s1, .ref 146] V P := by
  unfold B_X12_check_296 at h
  obtain ⟨⟨x21, V19⟩, g20, h⟩ := sx_bnd h
  refine sv_cV (pc := 296) (y := qX12_sumOf) (o := (some (.int x21))) (as := [.int s1, .int s2, .int s3]) (V1 := V19) hG dX12_check_296 l_X12_235 y0X12_sumOf yvX12_sumOf rfl (Nat.le_of_ble_eq_true rfl) lay_146 kr_12 (by decide) (Nat.le_of_ble_eq_true rfl) rfl rfl rfl (t_X12_sumOf hG ⟨rfl, rfl⟩ g20) ?_
  refine sx_aload_n (pc := 299) dX12_check_299 sx_m0 ?_
  refine sv_getA (pc := 300) hG dX12_check_300 f_12_20 lay_146 rfl cr_146_7 ?_
  refine sx_iload_n (pc := 303) dX12_check_303 sx_m1 ?_
  obtain ⟨g22, h⟩ := sx_grd h
  refine sv_lald (pc := 304) hG dX12_check_304 lay_150 g22 ?_
  refine sx_l2i (pc := 305) dX12_check_305 ?_
  refine sx_icmp_eq (pc := 306) (tgt := 311) dX12_check_306 (by decide) (fun c23 => ?_) (fun c23 => ?_)
  · have h := sx_pos c23 h
    obtain ⟨x24, hx24⟩ : ∃ z : Int32, z = l1 + 1 := ⟨_, rfl⟩
    have h := sx_letE hx24 h
    refine sx_iinc (pc := 311) (v := x24) (lo' := [(1, .int x24), (0, .ref 146)]) dX12_check_311 sx_m1 (by rw [hx24]; rfl) (by decide) rfl ?_
    refine sx_goto (pc := 314) (tgt := 250) dX12_check_314 (by decide) ?_
    refine sx_wk (sx_s1 sx_m1 (sx_s1 sx_m0 sx_s0)) ?_
    exact hk250 _ _ h
  · have h := sx_neg c23 h
    refine sx_iconst (pc := 309) (v := 4) dX12_check_309 (by decide) ?_
    exact sv_iret (pc := 310) dX12_check_310 rfl h hP
def B_X12_check_250 (N : Nat) (k250 : Int32 → sv_V → Option (Int32 × sv_V)) (l1 : Int32) (V : sv_V) : Option (Int32 × sv_V) := if (V.1 146 5) ≤ l1 then ((F_X12_tableOf N (1668112752 : Int32) V).bind (fun (x28, V26) => if x28 < 0 then (some ((5 : Int32), V26)) else ((F_X12_tableOf N (1735162214 : Int32) V26).bind (fun (x32, V30) => if x32 < 0 then (some ((5 : Int32), V30)) else ((F_X12_tableOf N (1751474532 : Int32) V30).bind (fun (x36, V34) => if x36 < 0 then (some ((5 : Int32), V34)) else ((F_X12_tableOf N (1751672161 : Int32) V34).bind (fun (x40, V38) => if x40 < 0 then (some ((5 : Int32), V38)) else ((F_X12_tableOf N (1752003704 : Int32) V38).bind (fun (x44, V42) => if x44 < 0 then (some ((5 : Int32), V42)) else ((F_X12_tableOf N (1819239265 : Int32) V42).bind (fun (x48, V46) => if x48 < 0 then (some ((5 : Int32), V46)) else ((F_X12_tableOf N (1835104368 : Int32) V46).bind (fun (x52, V50) => if 0 ≤ x52 then ((F_X12_head N  V50).bind (fun (x56, V54) => if x56 = 0 then (some ((6 : Int32), V54)) else ((F_X12_maxp N  V54).bind (fun (x60, V58) => if x60 = 0 then (some ((7 : Int32), V58)) else ((F_X12_beginOf N (1751672161 : Int32) V58).bind (fun (x64, V62) => (F_X12_u2 (x64 + (34 : Int32)) V62).bind (fun (x67, V65) => sx_let (sv_I V65 146 20 x67) (fun V68 => (F_X12_lengthOf N (1751672161 : Int32) V68).bind (fun (x71, V69) => if x71 = (36 : Int32) then ((F_X12_in ((V69.1 146 20).toInt64) (1 : Int64) ((V69.1 146 12).toInt64) V69).bind (fun (x75, V73) => if x75 = 0 then (some ((8 : Int32), V73)) else ((F_X12_lengthOf N (1752003704 : Int32) V73).bind (fun (x79, V77) => if (((4 : Int32) * (V77.1 146 20)) + ((2 : Int32) * ((V77.1 146 12) - (V77.1 146 20)))) ≤ x79 then ((F_X12_checkGlyphs N  V77).bind (fun (x83, V81) => some (x83, V81))) else (some ((9 : Int32), V77)))))) else (some ((8 : Int32), V69))))))))))) else (some ((5 : Int32), V50)))))))))))))))) else (if sx_in l1 16 = true then sx_let ((V.2.1 151 l1.toNatClampNeg).toInt32) (fun x85 => if sx_in l1 16 = true then if sx_in l1 16 = true then if (V.1 149 l1.toNatClampNeg) = (1751474532 : Int32) then (B_X12_check_296 N k250 l1 x85 (x85 + ((V.2.1 152 l1.toNatClampNeg).toInt32)) (x85 + (8 : Int32)) V) else (B_X12_check_296 N k250 l1 x85 (x85 + ((V.2.1 152 l1.toNatClampNeg).toInt32)) (-1 : Int32) V) else none else none) else none)
set_option maxRecDepth 20000 in
theorem tB_X12_check_250 {g : sx_G} (hG : sx_Go g) {P : Option Value → sv_V → Prop} {r : Int32} {Vr : sv_V} (hP : P (some (.int r)) Vr) {N : Nat} {k250 : Int32 → sv_V → Option (Int32 × sv_V)} (hk250 : ∀ (l1 : Int32) (V : sv_V), k250 l1 V = some (r, Vr) → sv_N g qX12_check 8 250 [(0, .ref 146), (1, .int l1)] [] V P) {l1 : Int32} {V : sv_V} (h : B_X12_check_250 N k250 l1 V = some (r, Vr)) : sv_N g qX12_check 8 250 [(0, .ref 146), (1, .int l1)] [] V P := by
  unfold B_X12_check_250 at h
  refine sx_iload_n (pc := 250) dX12_check_250 sx_m1 ?_
  refine sx_aload_n (pc := 251) dX12_check_251 sx_m0 ?_
  refine sv_getI (pc := 252) hG dX12_check_252 f_12_216 lay_146 rfl ?_
  refine sx_icmp_ge (pc := 255) (tgt := 317) dX12_check_255 (by decide) (fun c25 => ?_) (fun c25 => ?_)
  · have h := sx_pos c25 h
    refine sx_aload_n (pc := 317) dX12_check_317 sx_m0 ?_
    refine sx_ldc (pc := 318) dX12_check_318 k_X12_239 ?_
    obtain ⟨⟨x28, V26⟩, g27, h⟩ := sx_bnd h
    refine sv_cV (pc := 320) (y := qX12_tableOf) (o := (some (.int x28))) (as := [.int (1668112752 : Int32)]) (V1 := V26) hG dX12_check_320 l_X12_219 y0X12_tableOf yvX12_tableOf rfl (Nat.le_of_ble_eq_true rfl) lay_146 kr_12 (by decide) (Nat.le_of_ble_eq_true rfl) rfl rfl rfl (t_X12_tableOf hG ⟨rfl, rfl⟩ g27) ?_
    refine sx_if_lt (pc := 323) (tgt := 380) dX12_check_323 (by decide) (fun c29 => ?_) (fun c29 => ?_)
    · have h := sx_pos c29 h
      refine sx_iconst (pc := 380) (v := 5) dX12_check_380 (by decide) ?_
      exact sv_iret (pc := 381) dX12_check_381 rfl h hP
    · have h := sx_neg c29 h
      refine sx_aload_n (pc := 326) dX12_check_326 sx_m0 ?_
      refine sx_ldc (pc := 327) dX12_check_327 k_X12_240 ?_
      obtain ⟨⟨x32, V30⟩, g31, h⟩ := sx_bnd h
      refine sv_cV (pc := 329) (y := qX12_tableOf) (o := (some (.int x32))) (as := [.int (1735162214 : Int32)]) (V1 := V30) hG dX12_check_329 l_X12_219 y0X12_tableOf yvX12_tableOf rfl (Nat.le_of_ble_eq_true rfl) lay_146 kr_12 (by decide) (Nat.le_of_ble_eq_true rfl) rfl rfl rfl (t_X12_tableOf hG ⟨rfl, rfl⟩ g31) ?_
      refine sx_if_lt (pc := 332) (tgt := 380) dX12_check_332 (by decide) (fun c33 => ?_) (fun c33 => ?_)
      · have h := sx_pos c33 h
        refine sx_iconst (pc := 380) (v := 5) dX12_check_380 (by decide) ?_
        exact sv_iret (pc := 381) dX12_check_381 rfl h hP
      · have h := sx_neg c33 h
        refine sx_aload_n (pc := 335) dX12_check_335 sx_m0 ?_
        refine sx_ldc (pc := 336) dX12_check_336 k_X12_234 ?_
        obtain ⟨⟨x36, V34⟩, g35, h⟩ := sx_bnd h
        refine sv_cV (pc := 338) (y := qX12_tableOf) (o := (some (.int x36))) (as := [.int (1751474532 : Int32)]) (V1 := V34) hG dX12_check_338 l_X12_219 y0X12_tableOf yvX12_tableOf rfl (Nat.le_of_ble_eq_true rfl) lay_146 kr_12 (by decide) (Nat.le_of_ble_eq_true rfl) rfl rfl rfl (t_X12_tableOf hG ⟨rfl, rfl⟩ g35) ?_
        refine sx_if_lt (pc := 341) (tgt := 380) dX12_check_341 (by decide) (fun c37 => ?_) (fun c37 => ?_)
        · have h := sx_pos c37 h
          refine sx_iconst (pc := 380) (v := 5) dX12_check_380 (by decide) ?_
          exact sv_iret (pc := 381) dX12_check_381 rfl h hP
        · have h := sx_neg c37 h
          refine sx_aload_n (pc := 344) dX12_check_344 sx_m0 ?_
          refine sx_ldc (pc := 345) dX12_check_345 k_X12_241 ?_
          obtain ⟨⟨x40, V38⟩, g39, h⟩ := sx_bnd h
          refine sv_cV (pc := 347) (y := qX12_tableOf) (o := (some (.int x40))) (as := [.int (1751672161 : Int32)]) (V1 := V38) hG dX12_check_347 l_X12_219 y0X12_tableOf yvX12_tableOf rfl (Nat.le_of_ble_eq_true rfl) lay_146 kr_12 (by decide) (Nat.le_of_ble_eq_true rfl) rfl rfl rfl (t_X12_tableOf hG ⟨rfl, rfl⟩ g39) ?_
          refine sx_if_lt (pc := 350) (tgt := 380) dX12_check_350 (by decide) (fun c41 => ?_) (fun c41 => ?_)
          · have h := sx_pos c41 h
            refine sx_iconst (pc := 380) (v := 5) dX12_check_380 (by decide) ?_
            exact sv_iret (pc := 381) dX12_check_381 rfl h hP
          · have h := sx_neg c41 h
            refine sx_aload_n (pc := 353) dX12_check_353 sx_m0 ?_
            refine sx_ldc (pc := 354) dX12_check_354 k_X12_242 ?_
            obtain ⟨⟨x44, V42⟩, g43, h⟩ := sx_bnd h
            refine sv_cV (pc := 356) (y := qX12_tableOf) (o := (some (.int x44))) (as := [.int (1752003704 : Int32)]) (V1 := V42) hG dX12_check_356 l_X12_219 y0X12_tableOf yvX12_tableOf rfl (Nat.le_of_ble_eq_true rfl) lay_146 kr_12 (by decide) (Nat.le_of_ble_eq_true rfl) rfl rfl rfl (t_X12_tableOf hG ⟨rfl, rfl⟩ g43) ?_
            refine sx_if_lt (pc := 359) (tgt := 380) dX12_check_359 (by decide) (fun c45 => ?_) (fun c45 => ?_)
            · have h := sx_pos c45 h
              refine sx_iconst (pc := 380) (v := 5) dX12_check_380 (by decide) ?_
              exact sv_iret (pc := 381) dX12_check_381 rfl h hP
            · have h := sx_neg c45 h
              refine sx_aload_n (pc := 362) dX12_check_362 sx_m0 ?_
              refine sx_ldc (pc := 363) dX12_check_363 k_X12_243 ?_
              obtain ⟨⟨x48, V46⟩, g47, h⟩ := sx_bnd h
              refine sv_cV (pc := 365) (y := qX12_tableOf) (o := (some (.int x48))) (as := [.int (1819239265 : Int32)]) (V1 := V46) hG dX12_check_365 l_X12_219 y0X12_tableOf yvX12_tableOf rfl (Nat.le_of_ble_eq_true rfl) lay_146 kr_12 (by decide) (Nat.le_of_ble_eq_true rfl) rfl rfl rfl (t_X12_tableOf hG ⟨rfl, rfl⟩ g47) ?_
              refine sx_if_lt (pc := 368) (tgt := 380) dX12_check_368 (by decide) (fun c49 => ?_) (fun c49 => ?_)
              · have h := sx_pos c49 h
                refine sx_iconst (pc := 380) (v := 5) dX12_check_380 (by decide) ?_
                exact sv_iret (pc := 381) dX12_check_381 rfl h hP
              · have h := sx_neg c49 h
                refine sx_aload_n (pc := 371) dX12_check_371 sx_m0 ?_
                refine sx_ldc (pc := 372) dX12_check_372 k_X12_244 ?_
                obtain ⟨⟨x52, V50⟩, g51, h⟩ := sx_bnd h
                refine sv_cV (pc := 374) (y := qX12_tableOf) (o := (some (.int x52))) (as := [.int (1835104368 : Int32)]) (V1 := V50) hG dX12_check_374 l_X12_219 y0X12_tableOf yvX12_tableOf rfl (Nat.le_of_ble_eq_true rfl) lay_146 kr_12 (by decide) (Nat.le_of_ble_eq_true rfl) rfl rfl rfl (t_X12_tableOf hG ⟨rfl, rfl⟩ g51) ?_
                refine sx_if_ge (pc := 377) (tgt := 382) dX12_check_377 (by decide) (fun c53 => ?_) (fun c53 => ?_)
                · have h := sx_pos c53 h
                  refine sx_aload_n (pc := 382) dX12_check_382 sx_m0 ?_
                  obtain ⟨⟨x56, V54⟩, g55, h⟩ := sx_bnd h
                  refine sv_cV (pc := 383) (y := qX12_head) (o := (some (.int x56))) (as := []) (V1 := V54) hG dX12_check_383 l_X12_245 y0X12_head yvX12_head rfl (Nat.le_of_ble_eq_true rfl) lay_146 kr_12 (by decide) (Nat.le_of_ble_eq_true rfl) rfl rfl rfl (t_X12_head hG ⟨rfl, rfl⟩ g55) ?_
                  refine sx_if_ne (pc := 386) (tgt := 392) dX12_check_386 (by decide) (fun c57 => ?_) (fun c57 => ?_)
                  · have h := sx_neg c57 h
                    refine sx_aload_n (pc := 392) dX12_check_392 sx_m0 ?_
                    obtain ⟨⟨x60, V58⟩, g59, h⟩ := sx_bnd h
                    refine sv_cV (pc := 393) (y := qX12_maxp) (o := (some (.int x60))) (as := []) (V1 := V58) hG dX12_check_393 l_X12_248 y0X12_maxp yvX12_maxp rfl (Nat.le_of_ble_eq_true rfl) lay_146 kr_12 (by decide) (Nat.le_of_ble_eq_true rfl) rfl rfl rfl (t_X12_maxp hG ⟨rfl, rfl⟩ g59) ?_
                    refine sx_if_ne (pc := 396) (tgt := 402) dX12_check_396 (by decide) (fun c61 => ?_) (fun c61 => ?_)
                    · have h := sx_neg c61 h
                      refine sx_aload_n (pc := 402) dX12_check_402 sx_m0 ?_
                      refine sx_ldc (pc := 403) dX12_check_403 k_X12_241 ?_
                      obtain ⟨⟨x64, V62⟩, g63, h⟩ := sx_bnd h
                      refine sv_cV (pc := 405) (y := qX12_beginOf) (o := (some (.int x64))) (as := [.int (1751672161 : Int32)]) (V1 := V62) hG dX12_check_405 l_X12_251 y0X12_beginOf yvX12_beginOf rfl (Nat.le_of_ble_eq_true rfl) lay_146 kr_12 (by decide) (Nat.le_of_ble_eq_true rfl) rfl rfl rfl (t_X12_beginOf hG ⟨rfl, rfl⟩ g63) ?_
                      refine sx_istore_n (pc := 408) (lo' := [(1, .int x64), (0, .ref 146)]) dX12_check_408 (by decide) rfl ?_
                      refine sx_aload_n (pc := 409) dX12_check_409 sx_m1 ?_
                      refine sx_aload_n (pc := 410) dX12_check_410 sx_m1 ?_
                      refine sx_iload_n (pc := 411) dX12_check_411 sx_m0 ?_
                      refine sx_bipush (pc := 412) (v := 34) dX12_check_412 (by decide) ?_
                      refine sx_iadd (pc := 414) dX12_check_414 ?_
                      obtain ⟨⟨x67, V65⟩, g66, h⟩ := sx_bnd h
                      refine sv_cV (pc := 415) (y := qX12_u2) (o := (some (.int x67))) (as := [.int (x64 + (34 : Int32))]) (V1 := V65) hG dX12_check_415 l_X12_213 y0X12_u2 yvX12_u2 rfl (Nat.le_of_ble_eq_true rfl) lay_146 kr_12 (by decide) (Nat.le_of_ble_eq_true rfl) rfl rfl rfl (t_X12_u2 hG ⟨rfl, rfl⟩ g66) ?_
                      obtain ⟨V68, hV68⟩ : ∃ z : sv_V, z = sv_I V65 146 20 x67 := ⟨_, rfl⟩
                      have h := sx_letE hV68 h
                      refine sv_putI (pc := 418) hG dX12_check_418 f_12_254 lay_146 rfl hV68 ?_
                      refine sx_aload_n (pc := 421) dX12_check_421 sx_m1 ?_
                      refine sx_ldc (pc := 422) dX12_check_422 k_X12_241 ?_
                      obtain ⟨⟨x71, V69⟩, g70, h⟩ := sx_bnd h
                      refine sv_cV (pc := 424) (y := qX12_lengthOf) (o := (some (.int x71))) (as := [.int (1751672161 : Int32)]) (V1 := V69) hG dX12_check_424 l_X12_257 y0X12_lengthOf yvX12_lengthOf rfl (Nat.le_of_ble_eq_true rfl) lay_146 kr_12 (by decide) (Nat.le_of_ble_eq_true rfl) rfl rfl rfl (t_X12_lengthOf hG ⟨rfl, rfl⟩ g70) ?_
                      refine sx_bipush (pc := 427) (v := 36) dX12_check_427 (by decide) ?_
                      refine sx_icmp_ne (pc := 429) (tgt := 449) dX12_check_429 (by decide) (fun c72 => ?_) (fun c72 => ?_)
                      · have h := sx_neg c72 h
                        refine sx_bipush (pc := 449) (v := 8) dX12_check_449 (by decide) ?_
                        exact sv_iret (pc := 451) dX12_check_451 rfl h hP
                      · have h := sx_pos c72 h
                        refine sx_aload_n (pc := 432) dX12_check_432 sx_m1 ?_
                        refine sv_getI (pc := 433) hG dX12_check_433 f_12_254 lay_146 rfl ?_
                        refine sx_i2l (pc := 436) dX12_check_436 ?_
                        refine sx_lconst (pc := 437) (v := 1) dX12_check_437 rfl ?_
                        refine sx_aload_n (pc := 438) dX12_check_438 sx_m1 ?_
                        refine sv_getI (pc := 439) hG dX12_check_439 f_12_260 lay_146 rfl ?_
                        refine sx_i2l (pc := 442) dX12_check_442 ?_
                        obtain ⟨⟨x75, V73⟩, g74, h⟩ := sx_bnd h
                        refine sv_cS (pc := 443) (y := qX12_in) (o := (some (.int x75))) (as := [.long ((V69.1 146 20).toInt64), .long (1 : Int64), .long ((V69.1 146 12).toInt64)]) (V1 := V73) dX12_check_443 l_X12_263 y0X12_in ysX12_in rfl (Nat.le_of_ble_eq_true rfl) (by decide) (Nat.le_of_ble_eq_true rfl) rfl rfl rfl (t_X12_in hG ⟨rfl, rfl⟩ g74) ?_
                        refine sx_if_ne (pc := 446) (tgt := 452) dX12_check_446 (by decide) (fun c76 => ?_) (fun c76 => ?_)
                        · have h := sx_neg c76 h
                          refine sx_aload_n (pc := 452) dX12_check_452 sx_m1 ?_
                          refine sx_ldc (pc := 453) dX12_check_453 k_X12_242 ?_
                          obtain ⟨⟨x79, V77⟩, g78, h⟩ := sx_bnd h
                          refine sv_cV (pc := 455) (y := qX12_lengthOf) (o := (some (.int x79))) (as := [.int (1752003704 : Int32)]) (V1 := V77) hG dX12_check_455 l_X12_257 y0X12_lengthOf yvX12_lengthOf rfl (Nat.le_of_ble_eq_true rfl) lay_146 kr_12 (by decide) (Nat.le_of_ble_eq_true rfl) rfl rfl rfl (t_X12_lengthOf hG ⟨rfl, rfl⟩ g78) ?_
                          refine sx_iconst (pc := 458) (v := 4) dX12_check_458 (by decide) ?_
                          refine sx_aload_n (pc := 459) dX12_check_459 sx_m1 ?_
                          refine sv_getI (pc := 460) hG dX12_check_460 f_12_254 lay_146 rfl ?_
                          refine sx_imul (pc := 463) dX12_check_463 ?_
                          refine sx_iconst (pc := 464) (v := 2) dX12_check_464 (by decide) ?_
                          refine sx_aload_n (pc := 465) dX12_check_465 sx_m1 ?_
                          refine sv_getI (pc := 466) hG dX12_check_466 f_12_260 lay_146 rfl ?_
                          refine sx_aload_n (pc := 469) dX12_check_469 sx_m1 ?_
                          refine sv_getI (pc := 470) hG dX12_check_470 f_12_254 lay_146 rfl ?_
                          refine sx_isub (pc := 473) dX12_check_473 ?_
                          refine sx_imul (pc := 474) dX12_check_474 ?_
                          refine sx_iadd (pc := 475) dX12_check_475 ?_
                          refine sx_icmp_ge (pc := 476) (tgt := 482) dX12_check_476 (by decide) (fun c80 => ?_) (fun c80 => ?_)
                          · have h := sx_pos c80 h
                            refine sx_aload_n (pc := 482) dX12_check_482 sx_m1 ?_
                            obtain ⟨⟨x83, V81⟩, g82, h⟩ := sx_bnd h
                            refine sv_cV (pc := 483) (y := qX12_checkGlyphs) (o := (some (.int x83))) (as := []) (V1 := V81) hG dX12_check_483 l_X12_267 y0X12_checkGlyphs yvX12_checkGlyphs rfl (Nat.le_of_ble_eq_true rfl) lay_146 kr_12 (by decide) (Nat.le_of_ble_eq_true rfl) rfl rfl rfl (t_X12_checkGlyphs hG ⟨rfl, rfl⟩ g82) ?_
                            exact sv_iret (pc := 486) dX12_check_486 rfl h hP
                          · have h := sx_neg c80 h
                            refine sx_bipush (pc := 479) (v := 9) dX12_check_479 (by decide) ?_
                            exact sv_iret (pc := 481) dX12_check_481 rfl h hP
                        · have h := sx_pos c76 h
                          refine sx_bipush (pc := 449) (v := 8) dX12_check_449 (by decide) ?_
                          exact sv_iret (pc := 451) dX12_check_451 rfl h hP
                    · have h := sx_pos c61 h
                      refine sx_bipush (pc := 399) (v := 7) dX12_check_399 (by decide) ?_
                      exact sv_iret (pc := 401) dX12_check_401 rfl h hP
                  · have h := sx_pos c57 h
                    refine sx_bipush (pc := 389) (v := 6) dX12_check_389 (by decide) ?_
                    exact sv_iret (pc := 391) dX12_check_391 rfl h hP
                · have h := sx_neg c53 h
                  refine sx_iconst (pc := 380) (v := 5) dX12_check_380 (by decide) ?_
                  exact sv_iret (pc := 381) dX12_check_381 rfl h hP
  · have h := sx_neg c25 h
    refine sx_aload_n (pc := 258) dX12_check_258 sx_m0 ?_
    refine sv_getA (pc := 259) hG dX12_check_259 f_12_24 lay_146 rfl cr_146_8 ?_
    refine sx_iload_n (pc := 262) dX12_check_262 sx_m1 ?_
    obtain ⟨g84, h⟩ := sx_grd h
    refine sv_lald (pc := 263) hG dX12_check_263 lay_151 g84 ?_
    refine sx_l2i (pc := 264) dX12_check_264 ?_
    refine sv_tI (fun x85 hx85 => ?_)
    have h := sx_letE hx85 h
    refine sx_istore_n (pc := 265) (lo' := [(2, .int x85), (0, .ref 146), (1, .int l1)]) dX12_check_265 (by decide) rfl ?_
    refine sx_aload_n (pc := 266) dX12_check_266 sx_m1 ?_
    refine sx_iload_n (pc := 267) dX12_check_267 sx_m0 ?_
    refine sx_iload_n (pc := 268) dX12_check_268 sx_m0 ?_
    refine sx_aload_n (pc := 269) dX12_check_269 sx_m1 ?_
    refine sv_getA (pc := 270) hG dX12_check_270 f_12_27 lay_146 rfl cr_146_9 ?_
    refine sx_iload_n (pc := 273) dX12_check_273 sx_m2 ?_
    obtain ⟨g86, h⟩ := sx_grd h
    refine sv_lald (pc := 274) hG dX12_check_274 lay_152 g86 ?_
    refine sx_l2i (pc := 275) dX12_check_275 ?_
    refine sx_iadd (pc := 276) dX12_check_276 ?_
    refine sx_aload_n (pc := 277) dX12_check_277 sx_m1 ?_
    refine sv_getA (pc := 278) hG dX12_check_278 f_12_16 lay_146 rfl cr_146_6 ?_
    refine sx_iload_n (pc := 281) dX12_check_281 sx_m2 ?_
    obtain ⟨g87, h⟩ := sx_grd h
    refine sv_iald (pc := 282) hG dX12_check_282 lay_149 g87 ?_
    refine sx_ldc (pc := 283) dX12_check_283 k_X12_234 ?_
    refine sx_icmp_ne (pc := 285) (tgt := 295) dX12_check_285 (by decide) (fun c88 => ?_) (fun c88 => ?_)
    · have h := sx_neg c88 h
      refine sx_iconst (pc := 295) (v := (-1)) dX12_check_295 (by decide) ?_
      refine sx_wk (sx_s1 sx_m1 (sx_s1 sx_m2 sx_s0)) ?_
      exact tB_X12_check_296 hG hP hk250 h
    · have h := sx_pos c88 h
      refine sx_iload_n (pc := 288) dX12_check_288 sx_m0 ?_
      refine sx_bipush (pc := 289) (v := 8) dX12_check_289 (by decide) ?_
      refine sx_iadd (pc := 291) dX12_check_291 ?_
      refine sx_goto (pc := 292) (tgt := 296) dX12_check_292 (by decide) ?_
      refine sx_wk (sx_s1 sx_m1 (sx_s1 sx_m2 sx_s0)) ?_
      exact tB_X12_check_296 hG hP hk250 h
theorem tL_X12_check_250 {g : sx_G} (hG : sx_Go g) {P : Option Value → sv_V → Prop} {r : Int32} {Vr : sv_V} (hP : P (some (.int r)) Vr) {N : Nat}   : ∀ (n : Nat) (l1 : Int32) (V : sv_V), sx_lp2 (B_X12_check_250 N ) n l1 V = some (r, Vr) → sv_N g qX12_check 8 250 [(0, .ref 146), (1, .int l1)] [] V P :=
  sx_lp2_ind (fun k0 ih _ V h => tB_X12_check_250 hG hP ih h)
def B_X12_check_57 (N : Nat) (k57 : Int32 → sv_V → Option (Int32 × sv_V)) (l1 : Int32) (V : sv_V) : Option (Int32 × sv_V) := if (V.1 146 5) ≤ l1 then (sx_lp2 (B_X12_check_250 N ) N (0 : Int32) V) else (if sx_in l1 16 = true then if (lg_cmp ((V.2.1 151 l1.toNatClampNeg) - (V.2.1 151 l1.toNatClampNeg) / (4 : Int64) * (4 : Int64)) (0 : Int64)) = 0 then (if sx_in l1 16 = true then if (lg_cmp (V.2.1 151 l1.toNatClampNeg) ((12 : Int64) + ((16 : Int64) * ((V.1 146 5).toInt64)))) < 0 then (some ((3 : Int32), V)) else (if sx_in l1 16 = true then if sx_in l1 16 = true then if (lg_cmp ((V.2.1 151 l1.toNatClampNeg) + (V.2.1 152 l1.toNatClampNeg)) ((V.1 146 3).toInt64)) ≤ 0 then (sx_lp3 (B_X12_check_129 N k57) N l1 (0 : Int32) V) else (some ((3 : Int32), V)) else none else none) else none) else (some ((3 : Int32), V)) else none)
set_option maxRecDepth 20000 in
theorem tB_X12_check_57 {g : sx_G} (hG : sx_Go g) {P : Option Value → sv_V → Prop} {r : Int32} {Vr : sv_V} (hP : P (some (.int r)) Vr) {N : Nat} {k57 : Int32 → sv_V → Option (Int32 × sv_V)} (hk57 : ∀ (l1 : Int32) (V : sv_V), k57 l1 V = some (r, Vr) → sv_N g qX12_check 8 57 [(0, .ref 146), (1, .int l1)] [] V P) {l1 : Int32} {V : sv_V} (h : B_X12_check_57 N k57 l1 V = some (r, Vr)) : sv_N g qX12_check 8 57 [(0, .ref 146), (1, .int l1)] [] V P := by
  unfold B_X12_check_57 at h
  refine sx_iload_n (pc := 57) dX12_check_57 sx_m1 ?_
  refine sx_aload_n (pc := 58) dX12_check_58 sx_m0 ?_
  refine sv_getI (pc := 59) hG dX12_check_59 f_12_216 lay_146 rfl ?_
  refine sx_icmp_ge (pc := 62) (tgt := 248) dX12_check_62 (by decide) (fun c89 => ?_) (fun c89 => ?_)
  · have h := sx_pos c89 h
    refine sx_iconst (pc := 248) (v := 0) dX12_check_248 (by decide) ?_
    refine sx_istore_n (pc := 249) (lo' := [(1, .int (0 : Int32)), (0, .ref 146)]) dX12_check_249 (by decide) rfl ?_
    refine sx_wk (sx_s1 sx_m1 (sx_s1 sx_m0 sx_s0)) ?_
    exact tL_X12_check_250 hG hP  N _ _ h
  · have h := sx_neg c89 h
    refine sx_aload_n (pc := 65) dX12_check_65 sx_m0 ?_
    refine sv_getA (pc := 66) hG dX12_check_66 f_12_24 lay_146 rfl cr_146_8 ?_
    refine sx_iload_n (pc := 69) dX12_check_69 sx_m1 ?_
    obtain ⟨g90, h⟩ := sx_grd h
    refine sv_lald (pc := 70) hG dX12_check_70 lay_151 g90 ?_
    refine sx_ldc2 (pc := 71) dX12_check_71 k_X12_228 ?_
    refine sx_lrem (pc := 74) dX12_check_74 (by decide) ?_
    refine sx_lconst (pc := 75) (v := 0) dX12_check_75 rfl ?_
    refine sx_lcmp (pc := 76) dX12_check_76 ?_
    refine sx_if_ne (pc := 77) (tgt := 125) dX12_check_77 (by decide) (fun c91 => ?_) (fun c91 => ?_)
    · have h := sx_neg c91 h
      refine sx_iconst (pc := 125) (v := 3) dX12_check_125 (by decide) ?_
      exact sv_iret (pc := 126) dX12_check_126 rfl h hP
    · have h := sx_pos c91 h
      refine sx_aload_n (pc := 80) dX12_check_80 sx_m0 ?_
      refine sv_getA (pc := 81) hG dX12_check_81 f_12_24 lay_146 rfl cr_146_8 ?_
      refine sx_iload_n (pc := 84) dX12_check_84 sx_m1 ?_
      obtain ⟨g92, h⟩ := sx_grd h
      refine sv_lald (pc := 85) hG dX12_check_85 lay_151 g92 ?_
      refine sx_ldc2 (pc := 86) dX12_check_86 k_X12_230 ?_
      refine sx_ldc2 (pc := 89) dX12_check_89 k_X12_232 ?_
      refine sx_aload_n (pc := 92) dX12_check_92 sx_m0 ?_
      refine sv_getI (pc := 93) hG dX12_check_93 f_12_216 lay_146 rfl ?_
      refine sx_i2l (pc := 96) dX12_check_96 ?_
      refine sx_lmul (pc := 97) dX12_check_97 ?_
      refine sx_ladd (pc := 98) dX12_check_98 ?_
      refine sx_lcmp (pc := 99) dX12_check_99 ?_
      refine sx_if_lt (pc := 100) (tgt := 125) dX12_check_100 (by decide) (fun c93 => ?_) (fun c93 => ?_)
      · have h := sx_pos c93 h
        refine sx_iconst (pc := 125) (v := 3) dX12_check_125 (by decide) ?_
        exact sv_iret (pc := 126) dX12_check_126 rfl h hP
      · have h := sx_neg c93 h
        refine sx_aload_n (pc := 103) dX12_check_103 sx_m0 ?_
        refine sv_getA (pc := 104) hG dX12_check_104 f_12_24 lay_146 rfl cr_146_8 ?_
        refine sx_iload_n (pc := 107) dX12_check_107 sx_m1 ?_
        obtain ⟨g94, h⟩ := sx_grd h
        refine sv_lald (pc := 108) hG dX12_check_108 lay_151 g94 ?_
        refine sx_aload_n (pc := 109) dX12_check_109 sx_m0 ?_
        refine sv_getA (pc := 110) hG dX12_check_110 f_12_27 lay_146 rfl cr_146_9 ?_
        refine sx_iload_n (pc := 113) dX12_check_113 sx_m1 ?_
        obtain ⟨g95, h⟩ := sx_grd h
        refine sv_lald (pc := 114) hG dX12_check_114 lay_152 g95 ?_
        refine sx_ladd (pc := 115) dX12_check_115 ?_
        refine sx_aload_n (pc := 116) dX12_check_116 sx_m0 ?_
        refine sv_getI (pc := 117) hG dX12_check_117 f_12_206 lay_146 rfl ?_
        refine sx_i2l (pc := 120) dX12_check_120 ?_
        refine sx_lcmp (pc := 121) dX12_check_121 ?_
        refine sx_if_le (pc := 122) (tgt := 127) dX12_check_122 (by decide) (fun c96 => ?_) (fun c96 => ?_)
        · have h := sx_pos c96 h
          refine sx_iconst (pc := 127) (v := 0) dX12_check_127 (by decide) ?_
          refine sx_istore_n (pc := 128) (lo' := [(2, .int (0 : Int32)), (0, .ref 146), (1, .int l1)]) dX12_check_128 (by decide) rfl ?_
          refine sx_wk (sx_s1 sx_m1 (sx_s1 sx_m2 (sx_s1 sx_m0 sx_s0))) ?_
          exact tL_X12_check_129 hG hP hk57 N _ _ _ h
        · have h := sx_neg c96 h
          refine sx_iconst (pc := 125) (v := 3) dX12_check_125 (by decide) ?_
          exact sv_iret (pc := 126) dX12_check_126 rfl h hP
theorem tL_X12_check_57 {g : sx_G} (hG : sx_Go g) {P : Option Value → sv_V → Prop} {r : Int32} {Vr : sv_V} (hP : P (some (.int r)) Vr) {N : Nat}   : ∀ (n : Nat) (l1 : Int32) (V : sv_V), sx_lp2 (B_X12_check_57 N ) n l1 V = some (r, Vr) → sv_N g qX12_check 8 57 [(0, .ref 146), (1, .int l1)] [] V P :=
  sx_lp2_ind (fun k0 ih _ V h => tB_X12_check_57 hG hP ih h)
def B_X12_check_11 (N : Nat) (k11 : Int32 → sv_V → Option (Int32 × sv_V)) (l1 : Int32) (V : sv_V) : Option (Int32 × sv_V) := if (V.1 146 5) ≤ l1 then (sx_lp2 (B_X12_check_57 N ) N (0 : Int32) V) else (if sx_in (l1 - (1 : Int32)) 16 = true then if sx_in l1 16 = true then if (lg_cmp (((V.1 149 (l1 - (1 : Int32)).toNatClampNeg).toInt64) &&& (4294967295 : Int64)) (((V.1 149 l1.toNatClampNeg).toInt64) &&& (4294967295 : Int64))) < 0 then (sx_let (l1 + 1) (fun x101 => k11 x101 V)) else (some ((2 : Int32), V)) else none else none)
set_option maxRecDepth 20000 in
theorem tB_X12_check_11 {g : sx_G} (hG : sx_Go g) {P : Option Value → sv_V → Prop} {r : Int32} {Vr : sv_V} (hP : P (some (.int r)) Vr) {N : Nat} {k11 : Int32 → sv_V → Option (Int32 × sv_V)} (hk11 : ∀ (l1 : Int32) (V : sv_V), k11 l1 V = some (r, Vr) → sv_N g qX12_check 8 11 [(0, .ref 146), (1, .int l1)] [] V P) {l1 : Int32} {V : sv_V} (h : B_X12_check_11 N k11 l1 V = some (r, Vr)) : sv_N g qX12_check 8 11 [(0, .ref 146), (1, .int l1)] [] V P := by
  unfold B_X12_check_11 at h
  refine sx_iload_n (pc := 11) dX12_check_11 sx_m1 ?_
  refine sx_aload_n (pc := 12) dX12_check_12 sx_m0 ?_
  refine sv_getI (pc := 13) hG dX12_check_13 f_12_216 lay_146 rfl ?_
  refine sx_icmp_ge (pc := 16) (tgt := 55) dX12_check_16 (by decide) (fun c97 => ?_) (fun c97 => ?_)
  · have h := sx_pos c97 h
    refine sx_iconst (pc := 55) (v := 0) dX12_check_55 (by decide) ?_
    refine sx_istore_n (pc := 56) (lo' := [(1, .int (0 : Int32)), (0, .ref 146)]) dX12_check_56 (by decide) rfl ?_
    refine sx_wk (sx_s1 sx_m1 (sx_s1 sx_m0 sx_s0)) ?_
    exact tL_X12_check_57 hG hP  N _ _ h
  · have h := sx_neg c97 h
    refine sx_aload_n (pc := 19) dX12_check_19 sx_m0 ?_
    refine sv_getA (pc := 20) hG dX12_check_20 f_12_16 lay_146 rfl cr_146_6 ?_
    refine sx_iload_n (pc := 23) dX12_check_23 sx_m1 ?_
    refine sx_iconst (pc := 24) (v := 1) dX12_check_24 (by decide) ?_
    refine sx_isub (pc := 25) dX12_check_25 ?_
    obtain ⟨g98, h⟩ := sx_grd h
    refine sv_iald (pc := 26) hG dX12_check_26 lay_149 g98 ?_
    refine sx_i2l (pc := 27) dX12_check_27 ?_
    refine sx_ldc2 (pc := 28) dX12_check_28 k_X12_226 ?_
    refine sx_land (pc := 31) dX12_check_31 ?_
    refine sx_aload_n (pc := 32) dX12_check_32 sx_m0 ?_
    refine sv_getA (pc := 33) hG dX12_check_33 f_12_16 lay_146 rfl cr_146_6 ?_
    refine sx_iload_n (pc := 36) dX12_check_36 sx_m1 ?_
    obtain ⟨g99, h⟩ := sx_grd h
    refine sv_iald (pc := 37) hG dX12_check_37 lay_149 g99 ?_
    refine sx_i2l (pc := 38) dX12_check_38 ?_
    refine sx_ldc2 (pc := 39) dX12_check_39 k_X12_226 ?_
    refine sx_land (pc := 42) dX12_check_42 ?_
    refine sx_lcmp (pc := 43) dX12_check_43 ?_
    refine sx_if_lt (pc := 44) (tgt := 49) dX12_check_44 (by decide) (fun c100 => ?_) (fun c100 => ?_)
    · have h := sx_pos c100 h
      obtain ⟨x101, hx101⟩ : ∃ z : Int32, z = l1 + 1 := ⟨_, rfl⟩
      have h := sx_letE hx101 h
      refine sx_iinc (pc := 49) (v := x101) (lo' := [(1, .int x101), (0, .ref 146)]) dX12_check_49 sx_m1 (by rw [hx101]; rfl) (by decide) rfl ?_
      refine sx_goto (pc := 52) (tgt := 11) dX12_check_52 (by decide) ?_
      refine sx_wk (sx_s1 sx_m1 (sx_s1 sx_m0 sx_s0)) ?_
      exact hk11 _ _ h
    · have h := sx_neg c100 h
      refine sx_iconst (pc := 47) (v := 2) dX12_check_47 (by decide) ?_
      exact sv_iret (pc := 48) dX12_check_48 rfl h hP
theorem tL_X12_check_11 {g : sx_G} (hG : sx_Go g) {P : Option Value → sv_V → Prop} {r : Int32} {Vr : sv_V} (hP : P (some (.int r)) Vr) {N : Nat}   : ∀ (n : Nat) (l1 : Int32) (V : sv_V), sx_lp2 (B_X12_check_11 N ) n l1 V = some (r, Vr) → sv_N g qX12_check 8 11 [(0, .ref 146), (1, .int l1)] [] V P :=
  sx_lp2_ind (fun k0 ih _ V h => tB_X12_check_11 hG hP ih h)
def F_X12_check (N : Nat)  (V : sv_V) : Option (Int32 × sv_V) := (F_X12_directory N  V).bind (fun (x104, V102) => if x104 = 0 then (some ((1 : Int32), V102)) else (sx_lp2 (B_X12_check_11 N ) N (1 : Int32) V102))
set_option maxRecDepth 20000 in
theorem t_X12_check {g : sx_G} (hG : sx_Go g) {P : Option Value → sv_V → Prop} {r : Int32} {Vr : sv_V} (hP : P (some (.int r)) Vr) {N : Nat}  {V : sv_V} (h : F_X12_check N  V = some (r, Vr)) : sv_N g qX12_check 8 0 [(0, .ref 146)] [] V P := by
  unfold F_X12_check at h
  refine sx_aload_n (pc := 0) dX12_check_0 sx_m0 ?_
  obtain ⟨⟨x104, V102⟩, g103, h⟩ := sx_bnd h
  refine sv_cV (pc := 1) (y := qX12_directory) (o := (some (.int x104))) (as := []) (V1 := V102) hG dX12_check_1 l_X12_222 y0X12_directory yvX12_directory rfl (Nat.le_of_ble_eq_true rfl) lay_146 kr_12 (by decide) (Nat.le_of_ble_eq_true rfl) rfl rfl rfl (t_X12_directory hG ⟨rfl, rfl⟩ g103) ?_
  refine sx_if_ne (pc := 4) (tgt := 9) dX12_check_4 (by decide) (fun c105 => ?_) (fun c105 => ?_)
  · have h := sx_neg c105 h
    refine sx_iconst (pc := 9) (v := 1) dX12_check_9 (by decide) ?_
    refine sx_istore_n (pc := 10) (lo' := [(1, .int (1 : Int32)), (0, .ref 146)]) dX12_check_10 (by decide) rfl ?_
    refine sx_wk (sx_s1 sx_m1 (sx_s1 sx_m0 sx_s0)) ?_
    exact tL_X12_check_11 hG hP  N _ _ h
  · have h := sx_pos c105 h
    refine sx_iconst (pc := 7) (v := 1) dX12_check_7 (by decide) ?_
    exact sv_iret (pc := 8) dX12_check_8 rfl h hP
theorem dX12_load_0 : decode cX12_load 0 = .ok (.aload_n 0, 1) := by decide +kernel
theorem dX12_load_1 : decode cX12_load 1 = .ok (.aload_n 0, 1) := by decide +kernel
theorem dX12_load_2 : decode cX12_load 2 = .ok (.getfield 910, 3) := by decide +kernel
theorem dX12_load_5 : decode cX12_load 5 = .ok (.putfield 206, 3) := by decide +kernel
theorem dX12_load_8 : decode cX12_load 8 = .ok (.iconst 0, 1) := by decide +kernel
theorem dX12_load_9 : decode cX12_load 9 = .ok (.istore_n 1, 1) := by decide +kernel
theorem dX12_load_10 : decode cX12_load 10 = .ok (.iload_n 1, 1) := by decide +kernel
theorem dX12_load_11 : decode cX12_load 11 = .ok (.aload_n 0, 1) := by decide +kernel
theorem dX12_load_12 : decode cX12_load 12 = .ok (.getfield 206, 3) := by decide +kernel
theorem dX12_load_15 : decode cX12_load 15 = .ok (.if_icmp .ge 21, 3) := by decide +kernel
theorem dX12_load_18 : decode cX12_load 18 = .ok (.aload_n 0, 1) := by decide +kernel
theorem dX12_load_19 : decode cX12_load 19 = .ok (.getfield 13, 3) := by decide +kernel
theorem dX12_load_22 : decode cX12_load 22 = .ok (.iload_n 1, 1) := by decide +kernel
theorem dX12_load_23 : decode cX12_load 23 = .ok (.aload_n 0, 1) := by decide +kernel
theorem dX12_load_24 : decode cX12_load 24 = .ok (.getfield 7, 3) := by decide +kernel
theorem dX12_load_27 : decode cX12_load 27 = .ok (.iload_n 1, 1) := by decide +kernel
theorem dX12_load_28 : decode cX12_load 28 = .ok (.baload, 1) := by decide +kernel
theorem dX12_load_29 : decode cX12_load 29 = .ok (.bastore, 1) := by decide +kernel
theorem dX12_load_30 : decode cX12_load 30 = .ok (.iinc 1 1, 3) := by decide +kernel
theorem dX12_load_33 : decode cX12_load 33 = .ok (.goto (-23), 3) := by decide +kernel
theorem dX12_load_36 : decode cX12_load 36 = .ok (.aload_n 0, 1) := by decide +kernel
theorem dX12_load_37 : decode cX12_load 37 = .ok (.iconst 0, 1) := by decide +kernel
theorem dX12_load_38 : decode cX12_load 38 = .ok (.putfield 767, 3) := by decide +kernel
theorem dX12_load_41 : decode cX12_load 41 = .ok (.aload_n 0, 1) := by decide +kernel
theorem dX12_load_42 : decode cX12_load 42 = .ok (.iconst 0, 1) := by decide +kernel
theorem dX12_load_43 : decode cX12_load 43 = .ok (.putfield 764, 3) := by decide +kernel
theorem dX12_load_46 : decode cX12_load 46 = .ok (.aload_n 0, 1) := by decide +kernel
theorem dX12_load_47 : decode cX12_load 47 = .ok (.iconst 0, 1) := by decide +kernel
theorem dX12_load_48 : decode cX12_load 48 = .ok (.putfield 759, 3) := by decide +kernel
theorem dX12_load_51 : decode cX12_load 51 = .ok (.aload_n 0, 1) := by decide +kernel
theorem dX12_load_52 : decode cX12_load 52 = .ok (.iconst 0, 1) := by decide +kernel
theorem dX12_load_53 : decode cX12_load 53 = .ok (.putfield 621, 3) := by decide +kernel
theorem dX12_load_56 : decode cX12_load 56 = .ok (.aload_n 0, 1) := by decide +kernel
theorem dX12_load_57 : decode cX12_load 57 = .ok (.iconst 0, 1) := by decide +kernel
theorem dX12_load_58 : decode cX12_load 58 = .ok (.putfield 424, 3) := by decide +kernel
theorem dX12_load_61 : decode cX12_load 61 = .ok (.aload_n 0, 1) := by decide +kernel
theorem dX12_load_62 : decode cX12_load 62 = .ok (.iconst 0, 1) := by decide +kernel
theorem dX12_load_63 : decode cX12_load 63 = .ok (.putfield 216, 3) := by decide +kernel
theorem dX12_load_66 : decode cX12_load 66 = .ok (.aload_n 0, 1) := by decide +kernel
theorem dX12_load_67 : decode cX12_load 67 = .ok (.invokevirtual 913, 3) := by decide +kernel
theorem dX12_load_70 : decode cX12_load 70 = .ok (.istore_n 1, 1) := by decide +kernel
theorem dX12_load_71 : decode cX12_load 71 = .ok (.iload_n 1, 1) := by decide +kernel
theorem dX12_load_72 : decode cX12_load 72 = .ok (.ifCond .le 8, 3) := by decide +kernel
theorem dX12_load_75 : decode cX12_load 75 = .ok (.bipush (-100), 2) := by decide +kernel
theorem dX12_load_77 : decode cX12_load 77 = .ok (.iload_n 1, 1) := by decide +kernel
theorem dX12_load_78 : decode cX12_load 78 = .ok (.isub, 1) := by decide +kernel
theorem dX12_load_79 : decode cX12_load 79 = .ok (.ireturn, 1) := by decide +kernel
theorem dX12_load_80 : decode cX12_load 80 = .ok (.aload_n 0, 1) := by decide +kernel
theorem dX12_load_81 : decode cX12_load 81 = .ok (.iconst 1, 1) := by decide +kernel
theorem dX12_load_82 : decode cX12_load 82 = .ok (.putfield 759, 3) := by decide +kernel
theorem dX12_load_85 : decode cX12_load 85 = .ok (.aload_n 0, 1) := by decide +kernel
theorem dX12_load_86 : decode cX12_load 86 = .ok (.getfield 260, 3) := by decide +kernel
theorem dX12_load_89 : decode cX12_load 89 = .ok (.ireturn, 1) := by decide +kernel
def B_X12_load_10 (N : Nat) (k10 : Int32 → sv_V → Option (Int32 × sv_V)) (l1 : Int32) (V : sv_V) : Option (Int32 × sv_V) := if (V.1 146 3) ≤ l1 then (sx_let (sv_I V 146 107 (0 : Int32)) (fun V2 => sx_let (sv_I V2 146 108 (0 : Int32)) (fun V3 => sx_let (sv_I V3 146 4 (0 : Int32)) (fun V4 => sx_let (sv_I V4 146 62 (0 : Int32)) (fun V5 => sx_let (sv_I V5 146 57 (0 : Int32)) (fun V6 => sx_let (sv_I V6 146 5 (0 : Int32)) (fun V7 => (F_X12_check N  V7).bind (fun (x10, V8) => if x10 ≤ 0 then (sx_let (sv_I V8 146 4 (1 : Int32)) (fun V12 => some (V12.1 146 12, V12))) else (some ((-100 : Int32) - x10, V8)))))))))) else (if sx_in l1 12000 = true then if sx_in l1 12000 = true then sx_let (sv_I V 148 l1.toNatClampNeg (V.1 147 l1.toNatClampNeg).toInt8.toInt32) (fun V15 => sx_let (l1 + 1) (fun x16 => k10 x16 V15)) else none else none)
set_option maxRecDepth 20000 in
theorem tB_X12_load_10 {g : sx_G} (hG : sx_Go g) {P : Option Value → sv_V → Prop} {r : Int32} {Vr : sv_V} (hP : P (some (.int r)) Vr) {N : Nat} {k10 : Int32 → sv_V → Option (Int32 × sv_V)} (hk10 : ∀ (l1 : Int32) (V : sv_V), k10 l1 V = some (r, Vr) → sv_N g qX12_load 9 10 [(0, .ref 146), (1, .int l1)] [] V P) {l1 : Int32} {V : sv_V} (h : B_X12_load_10 N k10 l1 V = some (r, Vr)) : sv_N g qX12_load 9 10 [(0, .ref 146), (1, .int l1)] [] V P := by
  unfold B_X12_load_10 at h
  refine sx_iload_n (pc := 10) dX12_load_10 sx_m1 ?_
  refine sx_aload_n (pc := 11) dX12_load_11 sx_m0 ?_
  refine sv_getI (pc := 12) hG dX12_load_12 f_12_206 lay_146 rfl ?_
  refine sx_icmp_ge (pc := 15) (tgt := 36) dX12_load_15 (by decide) (fun c1 => ?_) (fun c1 => ?_)
  · have h := sx_pos c1 h
    refine sx_aload_n (pc := 36) dX12_load_36 sx_m0 ?_
    refine sx_iconst (pc := 37) (v := 0) dX12_load_37 (by decide) ?_
    obtain ⟨V2, hV2⟩ : ∃ z : sv_V, z = sv_I V 146 107 (0 : Int32) := ⟨_, rfl⟩
    have h := sx_letE hV2 h
    refine sv_putZ (pc := 38) hG dX12_load_38 f_12_767 lay_146 rfl rfl hV2 ?_
    refine sx_aload_n (pc := 41) dX12_load_41 sx_m0 ?_
    refine sx_iconst (pc := 42) (v := 0) dX12_load_42 (by decide) ?_
    obtain ⟨V3, hV3⟩ : ∃ z : sv_V, z = sv_I V2 146 108 (0 : Int32) := ⟨_, rfl⟩
    have h := sx_letE hV3 h
    refine sv_putZ (pc := 43) hG dX12_load_43 f_12_764 lay_146 rfl rfl hV3 ?_
    refine sx_aload_n (pc := 46) dX12_load_46 sx_m0 ?_
    refine sx_iconst (pc := 47) (v := 0) dX12_load_47 (by decide) ?_
    obtain ⟨V4, hV4⟩ : ∃ z : sv_V, z = sv_I V3 146 4 (0 : Int32) := ⟨_, rfl⟩
    have h := sx_letE hV4 h
    refine sv_putZ (pc := 48) hG dX12_load_48 f_12_759 lay_146 rfl rfl hV4 ?_
    refine sx_aload_n (pc := 51) dX12_load_51 sx_m0 ?_
    refine sx_iconst (pc := 52) (v := 0) dX12_load_52 (by decide) ?_
    obtain ⟨V5, hV5⟩ : ∃ z : sv_V, z = sv_I V4 146 62 (0 : Int32) := ⟨_, rfl⟩
    have h := sx_letE hV5 h
    refine sv_putI (pc := 53) hG dX12_load_53 f_12_621 lay_146 rfl hV5 ?_
    refine sx_aload_n (pc := 56) dX12_load_56 sx_m0 ?_
    refine sx_iconst (pc := 57) (v := 0) dX12_load_57 (by decide) ?_
    obtain ⟨V6, hV6⟩ : ∃ z : sv_V, z = sv_I V5 146 57 (0 : Int32) := ⟨_, rfl⟩
    have h := sx_letE hV6 h
    refine sv_putI (pc := 58) hG dX12_load_58 f_12_424 lay_146 rfl hV6 ?_
    refine sx_aload_n (pc := 61) dX12_load_61 sx_m0 ?_
    refine sx_iconst (pc := 62) (v := 0) dX12_load_62 (by decide) ?_
    obtain ⟨V7, hV7⟩ : ∃ z : sv_V, z = sv_I V6 146 5 (0 : Int32) := ⟨_, rfl⟩
    have h := sx_letE hV7 h
    refine sv_putI (pc := 63) hG dX12_load_63 f_12_216 lay_146 rfl hV7 ?_
    refine sx_aload_n (pc := 66) dX12_load_66 sx_m0 ?_
    obtain ⟨⟨x10, V8⟩, g9, h⟩ := sx_bnd h
    refine sv_cV (pc := 67) (y := qX12_check) (o := (some (.int x10))) (as := []) (V1 := V8) hG dX12_load_67 l_X12_913 y0X12_check yvX12_check rfl (Nat.le_of_ble_eq_true rfl) lay_146 kr_12 (by decide) (Nat.le_of_ble_eq_true rfl) rfl rfl rfl (t_X12_check hG ⟨rfl, rfl⟩ g9) ?_
    refine sx_istore_n (pc := 70) (lo' := [(1, .int x10), (0, .ref 146)]) dX12_load_70 (by decide) rfl ?_
    refine sx_iload_n (pc := 71) dX12_load_71 sx_m0 ?_
    refine sx_if_le (pc := 72) (tgt := 80) dX12_load_72 (by decide) (fun c11 => ?_) (fun c11 => ?_)
    · have h := sx_pos c11 h
      refine sx_aload_n (pc := 80) dX12_load_80 sx_m1 ?_
      refine sx_iconst (pc := 81) (v := 1) dX12_load_81 (by decide) ?_
      obtain ⟨V12, hV12⟩ : ∃ z : sv_V, z = sv_I V8 146 4 (1 : Int32) := ⟨_, rfl⟩
      have h := sx_letE hV12 h
      refine sv_putZ (pc := 82) hG dX12_load_82 f_12_759 lay_146 rfl rfl hV12 ?_
      refine sx_aload_n (pc := 85) dX12_load_85 sx_m1 ?_
      refine sv_getI (pc := 86) hG dX12_load_86 f_12_260 lay_146 rfl ?_
      exact sv_iret (pc := 89) dX12_load_89 rfl h hP
    · have h := sx_neg c11 h
      refine sx_bipush (pc := 75) (v := (-100)) dX12_load_75 (by decide) ?_
      refine sx_iload_n (pc := 77) dX12_load_77 sx_m0 ?_
      refine sx_isub (pc := 78) dX12_load_78 ?_
      exact sv_iret (pc := 79) dX12_load_79 rfl h hP
  · have h := sx_neg c1 h
    refine sx_aload_n (pc := 18) dX12_load_18 sx_m0 ?_
    refine sv_getA (pc := 19) hG dX12_load_19 f_12_13 lay_146 rfl cr_146_2 ?_
    refine sx_iload_n (pc := 22) dX12_load_22 sx_m1 ?_
    refine sx_aload_n (pc := 23) dX12_load_23 sx_m0 ?_
    refine sv_getA (pc := 24) hG dX12_load_24 f_12_7 lay_146 rfl cr_146_0 ?_
    refine sx_iload_n (pc := 27) dX12_load_27 sx_m1 ?_
    obtain ⟨g13, h⟩ := sx_grd h
    refine sv_bald (pc := 28) hG dX12_load_28 lay_147 g13 ?_
    obtain ⟨g14, h⟩ := sx_grd h
    obtain ⟨V15, hV15⟩ : ∃ z : sv_V, z = sv_I V 148 l1.toNatClampNeg (V.1 147 l1.toNatClampNeg).toInt8.toInt32 := ⟨_, rfl⟩
    have h := sx_letE hV15 h
    refine sv_bast (pc := 29) hG dX12_load_29 lay_148 g14 hV15 ?_
    obtain ⟨x16, hx16⟩ : ∃ z : Int32, z = l1 + 1 := ⟨_, rfl⟩
    have h := sx_letE hx16 h
    refine sx_iinc (pc := 30) (v := x16) (lo' := [(1, .int x16), (0, .ref 146)]) dX12_load_30 sx_m1 (by rw [hx16]; rfl) (by decide) rfl ?_
    refine sx_goto (pc := 33) (tgt := 10) dX12_load_33 (by decide) ?_
    refine sx_wk (sx_s1 sx_m1 (sx_s1 sx_m0 sx_s0)) ?_
    exact hk10 _ _ h
theorem tL_X12_load_10 {g : sx_G} (hG : sx_Go g) {P : Option Value → sv_V → Prop} {r : Int32} {Vr : sv_V} (hP : P (some (.int r)) Vr) {N : Nat}   : ∀ (n : Nat) (l1 : Int32) (V : sv_V), sx_lp2 (B_X12_load_10 N ) n l1 V = some (r, Vr) → sv_N g qX12_load 9 10 [(0, .ref 146), (1, .int l1)] [] V P :=
  sx_lp2_ind (fun k0 ih _ V h => tB_X12_load_10 hG hP ih h)
def F_X12_load (N : Nat)  (V : sv_V) : Option (Int32 × sv_V) := sx_let (sv_I V 146 3 (V.1 146 1)) (fun V17 => sx_lp2 (B_X12_load_10 N ) N (0 : Int32) V17)
set_option maxRecDepth 20000 in
theorem t_X12_load {g : sx_G} (hG : sx_Go g) {P : Option Value → sv_V → Prop} {r : Int32} {Vr : sv_V} (hP : P (some (.int r)) Vr) {N : Nat}  {V : sv_V} (h : F_X12_load N  V = some (r, Vr)) : sv_N g qX12_load 9 0 [(0, .ref 146)] [] V P := by
  unfold F_X12_load at h
  refine sx_aload_n (pc := 0) dX12_load_0 sx_m0 ?_
  refine sx_aload_n (pc := 1) dX12_load_1 sx_m0 ?_
  refine sv_getI (pc := 2) hG dX12_load_2 f_12_910 lay_146 rfl ?_
  obtain ⟨V17, hV17⟩ : ∃ z : sv_V, z = sv_I V 146 3 (V.1 146 1) := ⟨_, rfl⟩
  have h := sx_letE hV17 h
  refine sv_putI (pc := 5) hG dX12_load_5 f_12_206 lay_146 rfl hV17 ?_
  refine sx_iconst (pc := 8) (v := 0) dX12_load_8 (by decide) ?_
  refine sx_istore_n (pc := 9) (lo' := [(1, .int (0 : Int32)), (0, .ref 146)]) dX12_load_9 (by decide) rfl ?_
  refine sx_wk (sx_s1 sx_m1 (sx_s1 sx_m0 sx_s0)) ?_
  exact tL_X12_load_10 hG hP  N _ _ h
