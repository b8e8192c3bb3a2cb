/-! methods: X5_moveToCvt, X5_moveAsOriginal, X5_moveAsCvt, X5_deltaCodes, X6_offset, X7_renew, X8_beginProgram, X9_renew, X10_trace, X10_holds, X11_glyphOf -/
theorem dX5_moveToCvt_0 : decode cX5_moveToCvt 0 = .ok (.aload_n 0, 1) := by decide +kernel
theorem dX5_moveToCvt_1 : decode cX5_moveToCvt 1 = .ok (.invokevirtual 242, 3) := by decide +kernel
theorem dX5_moveToCvt_4 : decode cX5_moveToCvt 4 = .ok (.istore_n 2, 1) := by decide +kernel
theorem dX5_moveToCvt_5 : decode cX5_moveToCvt 5 = .ok (.aload_n 0, 1) := by decide +kernel
theorem dX5_moveToCvt_6 : decode cX5_moveToCvt 6 = .ok (.invokevirtual 242, 3) := by decide +kernel
theorem dX5_moveToCvt_9 : decode cX5_moveToCvt 9 = .ok (.istore_n 3, 1) := by decide +kernel
theorem dX5_moveToCvt_10 : decode cX5_moveToCvt 10 = .ok (.aload_n 0, 1) := by decide +kernel
theorem dX5_moveToCvt_11 : decode cX5_moveToCvt 11 = .ok (.iconst 0, 1) := by decide +kernel
theorem dX5_moveToCvt_12 : decode cX5_moveToCvt 12 = .ok (.invokevirtual 255, 3) := by decide +kernel
theorem dX5_moveToCvt_15 : decode cX5_moveToCvt 15 = .ok (.astore 4, 2) := by decide +kernel
theorem dX5_moveToCvt_17 : decode cX5_moveToCvt 17 = .ok (.aload_n 0, 1) := by decide +kernel
theorem dX5_moveToCvt_18 : decode cX5_moveToCvt 18 = .ok (.aload 4, 2) := by decide +kernel
theorem dX5_moveToCvt_20 : decode cX5_moveToCvt 20 = .ok (.iload_n 3, 1) := by decide +kernel
theorem dX5_moveToCvt_21 : decode cX5_moveToCvt 21 = .ok (.invokevirtual 259, 3) := by decide +kernel
theorem dX5_moveToCvt_24 : decode cX5_moveToCvt 24 = .ok (.ifCond .ne 4, 3) := by decide +kernel
theorem dX5_moveToCvt_27 : decode cX5_moveToCvt 27 = .ok (.return_, 1) := by decide +kernel
theorem dX5_moveToCvt_28 : decode cX5_moveToCvt 28 = .ok (.aload_n 0, 1) := by decide +kernel
theorem dX5_moveToCvt_29 : decode cX5_moveToCvt 29 = .ok (.getfield 49, 3) := by decide +kernel
theorem dX5_moveToCvt_32 : decode cX5_moveToCvt 32 = .ok (.iload_n 2, 1) := by decide +kernel
theorem dX5_moveToCvt_33 : decode cX5_moveToCvt 33 = .ok (.invokevirtual 405, 3) := by decide +kernel
theorem dX5_moveToCvt_36 : decode cX5_moveToCvt 36 = .ok (.ifCond .ne 10, 3) := by decide +kernel
theorem dX5_moveToCvt_39 : decode cX5_moveToCvt 39 = .ok (.aload_n 0, 1) := by decide +kernel
theorem dX5_moveToCvt_40 : decode cX5_moveToCvt 40 = .ok (.bipush 6, 2) := by decide +kernel
theorem dX5_moveToCvt_42 : decode cX5_moveToCvt 42 = .ok (.putfield 56, 3) := by decide +kernel
theorem dX5_moveToCvt_45 : decode cX5_moveToCvt 45 = .ok (.return_, 1) := by decide +kernel
theorem dX5_moveToCvt_46 : decode cX5_moveToCvt 46 = .ok (.aload_n 0, 1) := by decide +kernel
theorem dX5_moveToCvt_47 : decode cX5_moveToCvt 47 = .ok (.getfield 49, 3) := by decide +kernel
theorem dX5_moveToCvt_50 : decode cX5_moveToCvt 50 = .ok (.getfield 411, 3) := by decide +kernel
theorem dX5_moveToCvt_53 : decode cX5_moveToCvt 53 = .ok (.iload_n 2, 1) := by decide +kernel
theorem dX5_moveToCvt_54 : decode cX5_moveToCvt 54 = .ok (.iaload, 1) := by decide +kernel
theorem dX5_moveToCvt_55 : decode cX5_moveToCvt 55 = .ok (.i2l, 1) := by decide +kernel
theorem dX5_moveToCvt_56 : decode cX5_moveToCvt 56 = .ok (.lstore 5, 2) := by decide +kernel
theorem dX5_moveToCvt_58 : decode cX5_moveToCvt 58 = .ok (.aload_n 0, 1) := by decide +kernel
theorem dX5_moveToCvt_59 : decode cX5_moveToCvt 59 = .ok (.getfield 12, 3) := by decide +kernel
theorem dX5_moveToCvt_62 : decode cX5_moveToCvt 62 = .ok (.getfield 172, 3) := by decide +kernel
theorem dX5_moveToCvt_65 : decode cX5_moveToCvt 65 = .ok (.iconst 0, 1) := by decide +kernel
theorem dX5_moveToCvt_66 : decode cX5_moveToCvt 66 = .ok (.iaload, 1) := by decide +kernel
theorem dX5_moveToCvt_67 : decode cX5_moveToCvt 67 = .ok (.ifCond .ne 14, 3) := by decide +kernel
theorem dX5_moveToCvt_70 : decode cX5_moveToCvt 70 = .ok (.aload_n 0, 1) := by decide +kernel
theorem dX5_moveToCvt_71 : decode cX5_moveToCvt 71 = .ok (.aload 4, 2) := by decide +kernel
theorem dX5_moveToCvt_73 : decode cX5_moveToCvt 73 = .ok (.iload_n 3, 1) := by decide +kernel
theorem dX5_moveToCvt_74 : decode cX5_moveToCvt 74 = .ok (.iconst 0, 1) := by decide +kernel
theorem dX5_moveToCvt_75 : decode cX5_moveToCvt 75 = .ok (.iconst 0, 1) := by decide +kernel
theorem dX5_moveToCvt_76 : decode cX5_moveToCvt 76 = .ok (.lload 5, 2) := by decide +kernel
theorem dX5_moveToCvt_78 : decode cX5_moveToCvt 78 = .ok (.invokevirtual 530, 3) := by decide +kernel
theorem dX5_moveToCvt_81 : decode cX5_moveToCvt 81 = .ok (.aload_n 0, 1) := by decide +kernel
theorem dX5_moveToCvt_82 : decode cX5_moveToCvt 82 = .ok (.aload 4, 2) := by decide +kernel
theorem dX5_moveToCvt_84 : decode cX5_moveToCvt 84 = .ok (.getfield 198, 3) := by decide +kernel
theorem dX5_moveToCvt_87 : decode cX5_moveToCvt 87 = .ok (.iload_n 3, 1) := by decide +kernel
theorem dX5_moveToCvt_88 : decode cX5_moveToCvt 88 = .ok (.iaload, 1) := by decide +kernel
theorem dX5_moveToCvt_89 : decode cX5_moveToCvt 89 = .ok (.i2l, 1) := by decide +kernel
theorem dX5_moveToCvt_90 : decode cX5_moveToCvt 90 = .ok (.aload 4, 2) := by decide +kernel
theorem dX5_moveToCvt_92 : decode cX5_moveToCvt 92 = .ok (.getfield 201, 3) := by decide +kernel
theorem dX5_moveToCvt_95 : decode cX5_moveToCvt 95 = .ok (.iload_n 3, 1) := by decide +kernel
theorem dX5_moveToCvt_96 : decode cX5_moveToCvt 96 = .ok (.iaload, 1) := by decide +kernel
theorem dX5_moveToCvt_97 : decode cX5_moveToCvt 97 = .ok (.i2l, 1) := by decide +kernel
theorem dX5_moveToCvt_98 : decode cX5_moveToCvt 98 = .ok (.invokevirtual 465, 3) := by decide +kernel
theorem dX5_moveToCvt_101 : decode cX5_moveToCvt 101 = .ok (.lstore 7, 2) := by decide +kernel
theorem dX5_moveToCvt_103 : decode cX5_moveToCvt 103 = .ok (.iload_n 1, 1) := by decide +kernel
theorem dX5_moveToCvt_104 : decode cX5_moveToCvt 104 = .ok (.bipush 63, 2) := by decide +kernel
theorem dX5_moveToCvt_106 : decode cX5_moveToCvt 106 = .ok (.if_icmp .ne 41, 3) := by decide +kernel
theorem dX5_moveToCvt_109 : decode cX5_moveToCvt 109 = .ok (.aload_n 0, 1) := by decide +kernel
theorem dX5_moveToCvt_110 : decode cX5_moveToCvt 110 = .ok (.getfield 12, 3) := by decide +kernel
theorem dX5_moveToCvt_113 : decode cX5_moveToCvt 113 = .ok (.lload 5, 2) := by decide +kernel
theorem dX5_moveToCvt_115 : decode cX5_moveToCvt 115 = .ok (.lload 7, 2) := by decide +kernel
theorem dX5_moveToCvt_117 : decode cX5_moveToCvt 117 = .ok (.lsub, 1) := by decide +kernel
theorem dX5_moveToCvt_118 : decode cX5_moveToCvt 118 = .ok (.invokestatic 538, 3) := by decide +kernel
theorem dX5_moveToCvt_121 : decode cX5_moveToCvt 121 = .ok (.aload_n 0, 1) := by decide +kernel
theorem dX5_moveToCvt_122 : decode cX5_moveToCvt 122 = .ok (.getfield 49, 3) := by decide +kernel
theorem dX5_moveToCvt_125 : decode cX5_moveToCvt 125 = .ok (.getfield 272, 3) := by decide +kernel
theorem dX5_moveToCvt_128 : decode cX5_moveToCvt 128 = .ok (.iconst 0, 1) := by decide +kernel
theorem dX5_moveToCvt_129 : decode cX5_moveToCvt 129 = .ok (.iaload, 1) := by decide +kernel
theorem dX5_moveToCvt_130 : decode cX5_moveToCvt 130 = .ok (.i2l, 1) := by decide +kernel
theorem dX5_moveToCvt_131 : decode cX5_moveToCvt 131 = .ok (.lcmp, 1) := by decide +kernel
theorem dX5_moveToCvt_132 : decode cX5_moveToCvt 132 = .ok (.ifCond .le 8, 3) := by decide +kernel
theorem dX5_moveToCvt_135 : decode cX5_moveToCvt 135 = .ok (.lload 7, 2) := by decide +kernel
theorem dX5_moveToCvt_137 : decode cX5_moveToCvt 137 = .ok (.goto 5, 3) := by decide +kernel
theorem dX5_moveToCvt_140 : decode cX5_moveToCvt 140 = .ok (.lload 5, 2) := by decide +kernel
theorem dX5_moveToCvt_142 : decode cX5_moveToCvt 142 = .ok (.invokevirtual 414, 3) := by decide +kernel
theorem dX5_moveToCvt_145 : decode cX5_moveToCvt 145 = .ok (.lstore 5, 2) := by decide +kernel
theorem dX5_moveToCvt_147 : decode cX5_moveToCvt 147 = .ok (.aload_n 0, 1) := by decide +kernel
theorem dX5_moveToCvt_148 : decode cX5_moveToCvt 148 = .ok (.aload 4, 2) := by decide +kernel
theorem dX5_moveToCvt_150 : decode cX5_moveToCvt 150 = .ok (.iload_n 3, 1) := by decide +kernel
theorem dX5_moveToCvt_151 : decode cX5_moveToCvt 151 = .ok (.lload 5, 2) := by decide +kernel
theorem dX5_moveToCvt_153 : decode cX5_moveToCvt 153 = .ok (.lload 7, 2) := by decide +kernel
theorem dX5_moveToCvt_155 : decode cX5_moveToCvt 155 = .ok (.lsub, 1) := by decide +kernel
theorem dX5_moveToCvt_156 : decode cX5_moveToCvt 156 = .ok (.invokevirtual 461, 3) := by decide +kernel
theorem dX5_moveToCvt_159 : decode cX5_moveToCvt 159 = .ok (.aload_n 0, 1) := by decide +kernel
theorem dX5_moveToCvt_160 : decode cX5_moveToCvt 160 = .ok (.getfield 12, 3) := by decide +kernel
theorem dX5_moveToCvt_163 : decode cX5_moveToCvt 163 = .ok (.getfield 275, 3) := by decide +kernel
theorem dX5_moveToCvt_166 : decode cX5_moveToCvt 166 = .ok (.iconst 0, 1) := by decide +kernel
theorem dX5_moveToCvt_167 : decode cX5_moveToCvt 167 = .ok (.iload_n 3, 1) := by decide +kernel
theorem dX5_moveToCvt_168 : decode cX5_moveToCvt 168 = .ok (.iastore, 1) := by decide +kernel
theorem dX5_moveToCvt_169 : decode cX5_moveToCvt 169 = .ok (.aload_n 0, 1) := by decide +kernel
theorem dX5_moveToCvt_170 : decode cX5_moveToCvt 170 = .ok (.getfield 12, 3) := by decide +kernel
theorem dX5_moveToCvt_173 : decode cX5_moveToCvt 173 = .ok (.getfield 275, 3) := by decide +kernel
theorem dX5_moveToCvt_176 : decode cX5_moveToCvt 176 = .ok (.iconst 1, 1) := by decide +kernel
theorem dX5_moveToCvt_177 : decode cX5_moveToCvt 177 = .ok (.iload_n 3, 1) := by decide +kernel
theorem dX5_moveToCvt_178 : decode cX5_moveToCvt 178 = .ok (.iastore, 1) := by decide +kernel
theorem dX5_moveToCvt_179 : decode cX5_moveToCvt 179 = .ok (.return_, 1) := by decide +kernel
def B_X5_moveToCvt_147  (l3 : Int32) (l4 : Nat) (l5 : Int64) (l7 : Int64) (V : sv_V) : Option sv_V := (F_X5_move l4 l3 (l5 - l7) V).bind (fun V1 => sx_let (sv_I V1 71 (0 : Int32).toNatClampNeg l3) (fun V3 => sx_let (sv_I V3 71 (1 : Int32).toNatClampNeg l3) (fun V4 => some V4)))
set_option maxRecDepth 20000 in
theorem tB_X5_moveToCvt_147 {g : sx_G} (hG : sx_Go g) {P : Option Value → sv_V → Prop} {Vr : sv_V} (hP : P none Vr)   {l3 : Int32} {l4 : Nat} {l5 : Int64} {l7 : Int64} {V : sv_V} (h : B_X5_moveToCvt_147  l3 l4 l5 l7 V = some Vr) : sv_N g qX5_moveToCvt 2 147 [(0, .ref 69), (3, .int l3), (4, .ref l4), (5, .long l5), (7, .long l7)] [] V P := by
  unfold B_X5_moveToCvt_147 at h
  refine sx_aload_n (pc := 147) dX5_moveToCvt_147 sx_m0 ?_
  refine sx_aload (pc := 148) dX5_moveToCvt_148 sx_m2 ?_
  refine sx_iload_n (pc := 150) dX5_moveToCvt_150 sx_m1 ?_
  refine sx_lload (pc := 151) dX5_moveToCvt_151 sx_m3 ?_
  refine sx_lload (pc := 153) dX5_moveToCvt_153 sx_m4 ?_
  refine sx_lsub (pc := 155) dX5_moveToCvt_155 ?_
  obtain ⟨V1, g2, h⟩ := sx_bnd h
  refine sv_cV (pc := 156) (y := qX5_move) (o := none) (as := [.ref l4, .int l3, .long (l5 - l7)]) (V1 := V1) hG dX5_moveToCvt_156 l_X5_461 y0X5_move yvX5_move rfl (Nat.le_of_ble_eq_true rfl) lay_69 kr_5 (by decide) (Nat.le_of_ble_eq_true rfl) rfl rfl rfl (t_X5_move hG ⟨rfl, rfl⟩ g2) ?_
  refine sx_aload_n (pc := 159) dX5_moveToCvt_159 sx_m0 ?_
  refine sv_getO (pc := 160) hG dX5_moveToCvt_160 f_5_12 lay_69 rfl cr_69_1 ?_
  refine sv_getA (pc := 163) hG dX5_moveToCvt_163 f_5_275 lay_70 rfl cr_70_6 ?_
  refine sx_iconst (pc := 166) (v := 0) dX5_moveToCvt_166 (by decide) ?_
  refine sx_iload_n (pc := 167) dX5_moveToCvt_167 sx_m1 ?_
  obtain ⟨V3, hV3⟩ : ∃ z : sv_V, z = sv_I V1 71 (0 : Int32).toNatClampNeg l3 := ⟨_, rfl⟩
  have h := sx_letE hV3 h
  refine sv_iast (pc := 168) hG dX5_moveToCvt_168 lay_71 (by decide) hV3 ?_
  refine sx_aload_n (pc := 169) dX5_moveToCvt_169 sx_m0 ?_
  refine sv_getO (pc := 170) hG dX5_moveToCvt_170 f_5_12 lay_69 rfl cr_69_1 ?_
  refine sv_getA (pc := 173) hG dX5_moveToCvt_173 f_5_275 lay_70 rfl cr_70_6 ?_
  refine sx_iconst (pc := 176) (v := 1) dX5_moveToCvt_176 (by decide) ?_
  refine sx_iload_n (pc := 177) dX5_moveToCvt_177 sx_m1 ?_
  obtain ⟨V4, hV4⟩ : ∃ z : sv_V, z = sv_I V3 71 (1 : Int32).toNatClampNeg l3 := ⟨_, rfl⟩
  have h := sx_letE hV4 h
  refine sv_iast (pc := 178) hG dX5_moveToCvt_178 lay_71 (by decide) hV4 ?_
  exact sv_vret (pc := 179) dX5_moveToCvt_179 rfl h hP
def B_X5_moveToCvt_142  (l3 : Int32) (l4 : Nat) (l7 : Int64) (s1 : Int64) (V : sv_V) : Option sv_V := (F_X9_rounded s1 V).bind (fun (x7, V5) => B_X5_moveToCvt_147  l3 l4 x7 l7 V5)
set_option maxRecDepth 20000 in
theorem tB_X5_moveToCvt_142 {g : sx_G} (hG : sx_Go g) {P : Option Value → sv_V → Prop} {Vr : sv_V} (hP : P none Vr)   {l3 : Int32} {l4 : Nat} {l7 : Int64} {s1 : Int64} {V : sv_V} (h : B_X5_moveToCvt_142  l3 l4 l7 s1 V = some Vr) : sv_N g qX5_moveToCvt 2 142 [(0, .ref 69), (3, .int l3), (4, .ref l4), (7, .long l7)] [.long s1, .ref 70] V P := by
  unfold B_X5_moveToCvt_142 at h
  obtain ⟨⟨x7, V5⟩, g6, h⟩ := sx_bnd h
  refine sv_cV (pc := 142) (y := qX9_rounded) (o := (some (.long x7))) (as := [.long s1]) (V1 := V5) hG dX5_moveToCvt_142 l_X5_414 y0X9_rounded yvX9_rounded rfl (Nat.le_of_ble_eq_true rfl) lay_70 kr_9 (by decide) (Nat.le_of_ble_eq_true rfl) rfl rfl rfl (t_X9_rounded hG ⟨rfl, rfl⟩ g6) ?_
  refine sx_lstore (pc := 145) (lo' := [(5, .long x7), (0, .ref 69), (3, .int l3), (4, .ref l4), (7, .long l7)]) dX5_moveToCvt_145 (by decide) rfl ?_
  refine sx_wk (sx_s1 sx_m1 (sx_s1 sx_m2 (sx_s1 sx_m3 (sx_s1 sx_m0 (sx_s1 sx_m4 sx_s0))))) ?_
  exact tB_X5_moveToCvt_147 hG hP  h
def B_X5_moveToCvt_81  (l1 : Int32) (l3 : Int32) (l4 : Nat) (l5 : Int64) (V : sv_V) : Option sv_V := if lay l4 = .inl 8 then (cr l4 0).bind (fun b9 => (sv_len 0 b9).bind (fun n11 => if sx_in l3 n11 = true then (cr l4 1).bind (fun b14 => (sv_len 0 b14).bind (fun n16 => if sx_in l3 n16 = true then (F_X5_longByP ((V.1 b9 l3.toNatClampNeg).toInt64) ((V.1 b14 l3.toNatClampNeg).toInt64) V).bind (fun (x21, V19) => if l1 = (63 : Int32) then ((F_J9_abs_067f4 (l5 - x21) V19).bind (fun (x25, V23) => (V23.2.2 69 6).bind (fun b26 => if lay b26 = .inl 7 then (cr b26 5).bind (fun b29 => (sv_len 0 b29).bind (fun n31 => if sx_in (0 : Int32) n31 = true then if (lg_cmp x25 ((V23.1 b29 (0 : Int32).toNatClampNeg).toInt64)) ≤ 0 then (B_X5_moveToCvt_142  l3 l4 x21 l5 V23) else (B_X5_moveToCvt_142  l3 l4 x21 x21 V23) else none)) else none))) else (B_X5_moveToCvt_147  l3 l4 l5 x21 V19)) else none)) else none)) else none
set_option maxRecDepth 20000 in
theorem tB_X5_moveToCvt_81 {g : sx_G} (hG : sx_Go g) {P : Option Value → sv_V → Prop} {Vr : sv_V} (hP : P none Vr)   {l1 : Int32} {l3 : Int32} {l4 : Nat} {l5 : Int64} {V : sv_V} (h : B_X5_moveToCvt_81  l1 l3 l4 l5 V = some Vr) : sv_N g qX5_moveToCvt 2 81 [(0, .ref 69), (1, .int l1), (3, .int l3), (4, .ref l4), (5, .long l5)] [] V P := by
  unfold B_X5_moveToCvt_81 at h
  refine sx_aload_n (pc := 81) dX5_moveToCvt_81 sx_m0 ?_
  refine sx_aload (pc := 82) dX5_moveToCvt_82 sx_m3 ?_
  obtain ⟨g8, h⟩ := sx_grd h
  obtain ⟨b9, g10, h⟩ := sx_bnd h
  refine sv_getA (pc := 84) hG dX5_moveToCvt_84 f_5_198 g8 rfl g10 ?_
  refine sx_iload_n (pc := 87) dX5_moveToCvt_87 sx_m2 ?_
  obtain ⟨n11, g12, h⟩ := sx_bnd h
  obtain ⟨g13, h⟩ := sx_grd h
  refine sv_iald (pc := 88) hG dX5_moveToCvt_88 (sv_len_e g12) g13 ?_
  refine sx_i2l (pc := 89) dX5_moveToCvt_89 ?_
  refine sx_aload (pc := 90) dX5_moveToCvt_90 sx_m3 ?_
  obtain ⟨b14, g15, h⟩ := sx_bnd h
  refine sv_getA (pc := 92) hG dX5_moveToCvt_92 f_5_201 g8 rfl g15 ?_
  refine sx_iload_n (pc := 95) dX5_moveToCvt_95 sx_m2 ?_
  obtain ⟨n16, g17, h⟩ := sx_bnd h
  obtain ⟨g18, h⟩ := sx_grd h
  refine sv_iald (pc := 96) hG dX5_moveToCvt_96 (sv_len_e g17) g18 ?_
  refine sx_i2l (pc := 97) dX5_moveToCvt_97 ?_
  obtain ⟨⟨x21, V19⟩, g20, h⟩ := sx_bnd h
  refine sv_cV (pc := 98) (y := qX5_longByP) (o := (some (.long x21))) (as := [.long ((V.1 b9 l3.toNatClampNeg).toInt64), .long ((V.1 b14 l3.toNatClampNeg).toInt64)]) (V1 := V19) hG dX5_moveToCvt_98 l_X5_465 y0X5_longByP yvX5_longByP rfl (Nat.le_of_ble_eq_true rfl) lay_69 kr_5 (by decide) (Nat.le_of_ble_eq_true rfl) rfl rfl rfl (t_X5_longByP hG ⟨rfl, rfl⟩ g20) ?_
  refine sx_lstore (pc := 101) (lo' := [(7, .long x21), (0, .ref 69), (1, .int l1), (3, .int l3), (4, .ref l4), (5, .long l5)]) dX5_moveToCvt_101 (by decide) rfl ?_
  refine sx_iload_n (pc := 103) dX5_moveToCvt_103 sx_m2 ?_
  refine sx_bipush (pc := 104) (v := 63) dX5_moveToCvt_104 (by decide) ?_
  refine sx_icmp_ne (pc := 106) (tgt := 147) dX5_moveToCvt_106 (by decide) (fun c22 => ?_) (fun c22 => ?_)
  · have h := sx_neg c22 h
    refine sx_wk (sx_s1 sx_m1 (sx_s1 sx_m3 (sx_s1 sx_m4 (sx_s1 sx_m5 (sx_s1 sx_m0 sx_s0))))) ?_
    exact tB_X5_moveToCvt_147 hG hP  h
  · have h := sx_pos c22 h
    refine sx_aload_n (pc := 109) dX5_moveToCvt_109 sx_m1 ?_
    refine sv_getO (pc := 110) hG dX5_moveToCvt_110 f_5_12 lay_69 rfl cr_69_1 ?_
    refine sx_lload (pc := 113) dX5_moveToCvt_113 sx_m5 ?_
    refine sx_lload (pc := 115) dX5_moveToCvt_115 sx_m0 ?_
    refine sx_lsub (pc := 117) dX5_moveToCvt_117 ?_
    obtain ⟨⟨x25, V23⟩, g24, h⟩ := sx_bnd h
    refine sv_cS (pc := 118) (y := qJ9_abs_067f4) (o := (some (.long x25))) (as := [.long (l5 - x21)]) (V1 := V23) dX5_moveToCvt_118 l_X5_538 y0J9_abs_067f4 ysJ9_abs_067f4 rfl (Nat.le_of_ble_eq_true rfl) (by decide) (Nat.le_of_ble_eq_true rfl) rfl rfl rfl (t_J9_abs_067f4 hG ⟨rfl, rfl⟩ g24) ?_
    refine sx_aload_n (pc := 121) dX5_moveToCvt_121 sx_m1 ?_
    obtain ⟨b26, g27, h⟩ := sx_bnd h
    refine sv_getV (pc := 122) hG dX5_moveToCvt_122 f_5_49 lay_69 rfl rfl g27 ?_
    obtain ⟨g28, h⟩ := sx_grd h
    obtain ⟨b29, g30, h⟩ := sx_bnd h
    refine sv_getA (pc := 125) hG dX5_moveToCvt_125 f_5_272 g28 rfl g30 ?_
    refine sx_iconst (pc := 128) (v := 0) dX5_moveToCvt_128 (by decide) ?_
    obtain ⟨n31, g32, h⟩ := sx_bnd h
    obtain ⟨g33, h⟩ := sx_grd h
    refine sv_iald (pc := 129) hG dX5_moveToCvt_129 (sv_len_e g32) g33 ?_
    refine sx_i2l (pc := 130) dX5_moveToCvt_130 ?_
    refine sx_lcmp (pc := 131) dX5_moveToCvt_131 ?_
    refine sx_if_le (pc := 132) (tgt := 140) dX5_moveToCvt_132 (by decide) (fun c34 => ?_) (fun c34 => ?_)
    · have h := sx_pos c34 h
      refine sx_lload (pc := 140) dX5_moveToCvt_140 sx_m5 ?_
      refine sx_wk (sx_s1 sx_m1 (sx_s1 sx_m3 (sx_s1 sx_m4 (sx_s1 sx_m0 sx_s0)))) ?_
      exact tB_X5_moveToCvt_142 hG hP  h
    · have h := sx_neg c34 h
      refine sx_lload (pc := 135) dX5_moveToCvt_135 sx_m0 ?_
      refine sx_goto (pc := 137) (tgt := 142) dX5_moveToCvt_137 (by decide) ?_
      refine sx_wk (sx_s1 sx_m1 (sx_s1 sx_m3 (sx_s1 sx_m4 (sx_s1 sx_m0 sx_s0)))) ?_
      exact tB_X5_moveToCvt_142 hG hP  h
def F_X5_moveToCvt (l1 : Int32) (V : sv_V) : Option sv_V := (F_X5_pop  V).bind (fun (x37, V35) => (F_X5_pop  V35).bind (fun (x40, V38) => (F_X5_zone (0 : Int32) V38).bind (fun (x43, V41) => (F_X5_isThere x43 x40 V41).bind (fun (x46, V44) => if x46 = 0 then (some V44) else ((V44.2.2 69 6).bind (fun b48 => (F_X7_hasCvt b48 x37 V44).bind (fun (x52, V50) => if lay b48 = .inl 7 then if x52 = 0 then (sx_let (sv_I V50 69 14 (6 : Int32)) (fun V67 => some V67)) else ((V50.2.2 69 6).bind (fun b55 => if lay b55 = .inl 7 then (cr b55 0).bind (fun b58 => (sv_len 0 b58).bind (fun n60 => if sx_in x37 n60 = true then sx_let ((V50.1 b58 x37.toNatClampNeg).toInt64) (fun x63 => if (V50.1 72 (0 : Int32).toNatClampNeg) = 0 then ((F_X5_plant x43 x40 (0 : Int32) (0 : Int32) x63 V50).bind (fun V65 => B_X5_moveToCvt_81  l1 x40 x43 x63 V65)) else (B_X5_moveToCvt_81  l1 x40 x43 x63 V50)) else none)) else none)) else none)))))))
set_option maxRecDepth 20000 in
theorem t_X5_moveToCvt {g : sx_G} (hG : sx_Go g) {P : Option Value → sv_V → Prop} {Vr : sv_V} (hP : P none Vr) {l1 : Int32} {V : sv_V} (h : F_X5_moveToCvt l1 V = some Vr) : sv_N g qX5_moveToCvt 2 0 [(0, .ref 69), (1, .int l1)] [] V P := by
  unfold F_X5_moveToCvt at h
  refine sx_aload_n (pc := 0) dX5_moveToCvt_0 sx_m0 ?_
  obtain ⟨⟨x37, V35⟩, g36, h⟩ := sx_bnd h
  refine sv_cV (pc := 1) (y := qX5_pop) (o := (some (.int x37))) (as := []) (V1 := V35) hG dX5_moveToCvt_1 l_X5_242 y0X5_pop yvX5_pop rfl (Nat.le_of_ble_eq_true rfl) lay_69 kr_5 (by decide) (Nat.le_of_ble_eq_true rfl) rfl rfl rfl (t_X5_pop hG ⟨rfl, rfl⟩ g36) ?_
  refine sx_istore_n (pc := 4) (lo' := [(2, .int x37), (0, .ref 69), (1, .int l1)]) dX5_moveToCvt_4 (by decide) rfl ?_
  refine sx_aload_n (pc := 5) dX5_moveToCvt_5 sx_m1 ?_
  obtain ⟨⟨x40, V38⟩, g39, h⟩ := sx_bnd h
  refine sv_cV (pc := 6) (y := qX5_pop) (o := (some (.int x40))) (as := []) (V1 := V38) hG dX5_moveToCvt_6 l_X5_242 y0X5_pop yvX5_pop rfl (Nat.le_of_ble_eq_true rfl) lay_69 kr_5 (by decide) (Nat.le_of_ble_eq_true rfl) rfl rfl rfl (t_X5_pop hG ⟨rfl, rfl⟩ g39) ?_
  refine sx_istore_n (pc := 9) (lo' := [(3, .int x40), (2, .int x37), (0, .ref 69), (1, .int l1)]) dX5_moveToCvt_9 (by decide) rfl ?_
  refine sx_aload_n (pc := 10) dX5_moveToCvt_10 sx_m2 ?_
  refine sx_iconst (pc := 11) (v := 0) dX5_moveToCvt_11 (by decide) ?_
  obtain ⟨⟨x43, V41⟩, g42, h⟩ := sx_bnd h
  refine sv_cV (pc := 12) (y := qX5_zone) (o := (some (.ref x43))) (as := [.int (0 : Int32)]) (V1 := V41) hG dX5_moveToCvt_12 l_X5_255 y0X5_zone yvX5_zone rfl (Nat.le_of_ble_eq_true rfl) lay_69 kr_5 (by decide) (Nat.le_of_ble_eq_true rfl) rfl rfl rfl (t_X5_zone hG ⟨rfl, rfl⟩ g42) ?_
  refine sx_astore (pc := 15) (lo' := [(4, .ref x43), (3, .int x40), (2, .int x37), (0, .ref 69), (1, .int l1)]) dX5_moveToCvt_15 (by decide) rfl ?_
  refine sx_aload_n (pc := 17) dX5_moveToCvt_17 sx_m3 ?_
  refine sx_aload (pc := 18) dX5_moveToCvt_18 sx_m0 ?_
  refine sx_iload_n (pc := 20) dX5_moveToCvt_20 sx_m1 ?_
  obtain ⟨⟨x46, V44⟩, g45, h⟩ := sx_bnd h
  refine sv_cV (pc := 21) (y := qX5_isThere) (o := (some (.int x46))) (as := [.ref x43, .int x40]) (V1 := V44) hG dX5_moveToCvt_21 l_X5_259 y0X5_isThere yvX5_isThere rfl (Nat.le_of_ble_eq_true rfl) lay_69 kr_5 (by decide) (Nat.le_of_ble_eq_true rfl) rfl rfl rfl (t_X5_isThere hG ⟨rfl, rfl⟩ g45) ?_
  refine sx_if_ne (pc := 24) (tgt := 28) dX5_moveToCvt_24 (by decide) (fun c47 => ?_) (fun c47 => ?_)
  · have h := sx_neg c47 h
    refine sx_aload_n (pc := 28) dX5_moveToCvt_28 sx_m3 ?_
    obtain ⟨b48, g49, h⟩ := sx_bnd h
    refine sv_getV (pc := 29) hG dX5_moveToCvt_29 f_5_49 lay_69 rfl rfl g49 ?_
    refine sx_iload_n (pc := 32) dX5_moveToCvt_32 sx_m2 ?_
    obtain ⟨⟨x52, V50⟩, g51, h⟩ := sx_bnd h
    obtain ⟨g53, h⟩ := sx_grd h
    refine sv_cV (pc := 33) (y := qX7_hasCvt) (o := (some (.int x52))) (as := [.int x37]) (V1 := V50) hG dX5_moveToCvt_33 l_X5_405 y0X7_hasCvt yvX7_hasCvt rfl (Nat.le_of_ble_eq_true rfl) g53 kr_7 (by decide) (Nat.le_of_ble_eq_true rfl) rfl rfl rfl (t_X7_hasCvt hG ⟨rfl, rfl⟩ g51) ?_
    refine sx_if_ne (pc := 36) (tgt := 46) dX5_moveToCvt_36 (by decide) (fun c54 => ?_) (fun c54 => ?_)
    · have h := sx_neg c54 h
      refine sx_aload_n (pc := 46) dX5_moveToCvt_46 sx_m3 ?_
      obtain ⟨b55, g56, h⟩ := sx_bnd h
      refine sv_getV (pc := 47) hG dX5_moveToCvt_47 f_5_49 lay_69 rfl rfl g56 ?_
      obtain ⟨g57, h⟩ := sx_grd h
      obtain ⟨b58, g59, h⟩ := sx_bnd h
      refine sv_getA (pc := 50) hG dX5_moveToCvt_50 f_5_411 g57 rfl g59 ?_
      refine sx_iload_n (pc := 53) dX5_moveToCvt_53 sx_m2 ?_
      obtain ⟨n60, g61, h⟩ := sx_bnd h
      obtain ⟨g62, h⟩ := sx_grd h
      refine sv_iald (pc := 54) hG dX5_moveToCvt_54 (sv_len_e g61) g62 ?_
      refine sx_i2l (pc := 55) dX5_moveToCvt_55 ?_
      refine sv_tJ (fun x63 hx63 => ?_)
      have h := sx_letE hx63 h
      refine sx_lstore (pc := 56) (lo' := [(5, .long x63), (4, .ref x43), (3, .int x40), (2, .int x37), (0, .ref 69), (1, .int l1)]) dX5_moveToCvt_56 (by decide) rfl ?_
      refine sx_aload_n (pc := 58) dX5_moveToCvt_58 sx_m4 ?_
      refine sv_getO (pc := 59) hG dX5_moveToCvt_59 f_5_12 lay_69 rfl cr_69_1 ?_
      refine sv_getA (pc := 62) hG dX5_moveToCvt_62 f_5_172 lay_70 rfl cr_70_7 ?_
      refine sx_iconst (pc := 65) (v := 0) dX5_moveToCvt_65 (by decide) ?_
      refine sv_iald (pc := 66) hG dX5_moveToCvt_66 lay_72 (by decide) ?_
      refine sx_if_ne (pc := 67) (tgt := 81) dX5_moveToCvt_67 (by decide) (fun c64 => ?_) (fun c64 => ?_)
      · have h := sx_neg c64 h
        refine sx_wk (sx_s1 sx_m4 (sx_s1 sx_m5 (sx_s1 sx_m2 (sx_s1 sx_m1 (sx_s1 sx_m0 sx_s0))))) ?_
        exact tB_X5_moveToCvt_81 hG hP  h
      · have h := sx_pos c64 h
        refine sx_aload_n (pc := 70) dX5_moveToCvt_70 sx_m4 ?_
        refine sx_aload (pc := 71) dX5_moveToCvt_71 sx_m1 ?_
        refine sx_iload_n (pc := 73) dX5_moveToCvt_73 sx_m2 ?_
        refine sx_iconst (pc := 74) (v := 0) dX5_moveToCvt_74 (by decide) ?_
        refine sx_iconst (pc := 75) (v := 0) dX5_moveToCvt_75 (by decide) ?_
        refine sx_lload (pc := 76) dX5_moveToCvt_76 sx_m0 ?_
        obtain ⟨V65, g66, h⟩ := sx_bnd h
        refine sv_cV (pc := 78) (y := qX5_plant) (o := none) (as := [.ref x43, .int x40, .int (0 : Int32), .int (0 : Int32), .long x63]) (V1 := V65) hG dX5_moveToCvt_78 l_X5_530 y0X5_plant yvX5_plant rfl (Nat.le_of_ble_eq_true rfl) lay_69 kr_5 (by decide) (Nat.le_of_ble_eq_true rfl) rfl rfl rfl (t_X5_plant hG ⟨rfl, rfl⟩ g66) ?_
        refine sx_wk (sx_s1 sx_m4 (sx_s1 sx_m5 (sx_s1 sx_m2 (sx_s1 sx_m1 (sx_s1 sx_m0 sx_s0))))) ?_
        exact tB_X5_moveToCvt_81 hG hP  h
    · have h := sx_pos c54 h
      refine sx_aload_n (pc := 39) dX5_moveToCvt_39 sx_m3 ?_
      refine sx_bipush (pc := 40) (v := 6) dX5_moveToCvt_40 (by decide) ?_
      obtain ⟨V67, hV67⟩ : ∃ z : sv_V, z = sv_I V50 69 14 (6 : Int32) := ⟨_, rfl⟩
      have h := sx_letE hV67 h
      refine sv_putI (pc := 42) hG dX5_moveToCvt_42 f_5_56 lay_69 rfl hV67 ?_
      exact sv_vret (pc := 45) dX5_moveToCvt_45 rfl h hP
  · have h := sx_pos c47 h
    exact sv_vret (pc := 27) dX5_moveToCvt_27 rfl h hP
theorem dX5_moveAsOriginal_0 : decode cX5_moveAsOriginal 0 = .ok (.aload_n 0, 1) := by decide +kernel
theorem dX5_moveAsOriginal_1 : decode cX5_moveAsOriginal 1 = .ok (.invokevirtual 242, 3) := by decide +kernel
theorem dX5_moveAsOriginal_4 : decode cX5_moveAsOriginal 4 = .ok (.istore_n 2, 1) := by decide +kernel
theorem dX5_moveAsOriginal_5 : decode cX5_moveAsOriginal 5 = .ok (.aload_n 0, 1) := by decide +kernel
theorem dX5_moveAsOriginal_6 : decode cX5_moveAsOriginal 6 = .ok (.iconst 1, 1) := by decide +kernel
theorem dX5_moveAsOriginal_7 : decode cX5_moveAsOriginal 7 = .ok (.invokevirtual 255, 3) := by decide +kernel
theorem dX5_moveAsOriginal_10 : decode cX5_moveAsOriginal 10 = .ok (.astore_n 3, 1) := by decide +kernel
theorem dX5_moveAsOriginal_11 : decode cX5_moveAsOriginal 11 = .ok (.aload_n 0, 1) := by decide +kernel
theorem dX5_moveAsOriginal_12 : decode cX5_moveAsOriginal 12 = .ok (.iconst 0, 1) := by decide +kernel
theorem dX5_moveAsOriginal_13 : decode cX5_moveAsOriginal 13 = .ok (.invokevirtual 255, 3) := by decide +kernel
theorem dX5_moveAsOriginal_16 : decode cX5_moveAsOriginal 16 = .ok (.astore 4, 2) := by decide +kernel
theorem dX5_moveAsOriginal_18 : decode cX5_moveAsOriginal 18 = .ok (.aload_n 0, 1) := by decide +kernel
theorem dX5_moveAsOriginal_19 : decode cX5_moveAsOriginal 19 = .ok (.getfield 12, 3) := by decide +kernel
theorem dX5_moveAsOriginal_22 : decode cX5_moveAsOriginal 22 = .ok (.getfield 275, 3) := by decide +kernel
theorem dX5_moveAsOriginal_25 : decode cX5_moveAsOriginal 25 = .ok (.iconst 0, 1) := by decide +kernel
theorem dX5_moveAsOriginal_26 : decode cX5_moveAsOriginal 26 = .ok (.iaload, 1) := by decide +kernel
theorem dX5_moveAsOriginal_27 : decode cX5_moveAsOriginal 27 = .ok (.istore 5, 2) := by decide +kernel
theorem dX5_moveAsOriginal_29 : decode cX5_moveAsOriginal 29 = .ok (.aload_n 0, 1) := by decide +kernel
theorem dX5_moveAsOriginal_30 : decode cX5_moveAsOriginal 30 = .ok (.aload_n 3, 1) := by decide +kernel
theorem dX5_moveAsOriginal_31 : decode cX5_moveAsOriginal 31 = .ok (.iload_n 2, 1) := by decide +kernel
theorem dX5_moveAsOriginal_32 : decode cX5_moveAsOriginal 32 = .ok (.invokevirtual 259, 3) := by decide +kernel
theorem dX5_moveAsOriginal_35 : decode cX5_moveAsOriginal 35 = .ok (.ifCond .eq 14, 3) := by decide +kernel
theorem dX5_moveAsOriginal_38 : decode cX5_moveAsOriginal 38 = .ok (.aload_n 0, 1) := by decide +kernel
theorem dX5_moveAsOriginal_39 : decode cX5_moveAsOriginal 39 = .ok (.aload 4, 2) := by decide +kernel
theorem dX5_moveAsOriginal_41 : decode cX5_moveAsOriginal 41 = .ok (.iload 5, 2) := by decide +kernel
theorem dX5_moveAsOriginal_43 : decode cX5_moveAsOriginal 43 = .ok (.invokevirtual 259, 3) := by decide +kernel
theorem dX5_moveAsOriginal_46 : decode cX5_moveAsOriginal 46 = .ok (.ifCond .ne 4, 3) := by decide +kernel
theorem dX5_moveAsOriginal_49 : decode cX5_moveAsOriginal 49 = .ok (.return_, 1) := by decide +kernel
theorem dX5_moveAsOriginal_50 : decode cX5_moveAsOriginal 50 = .ok (.aload_n 0, 1) := by decide +kernel
theorem dX5_moveAsOriginal_51 : decode cX5_moveAsOriginal 51 = .ok (.aload_n 0, 1) := by decide +kernel
theorem dX5_moveAsOriginal_52 : decode cX5_moveAsOriginal 52 = .ok (.aload_n 3, 1) := by decide +kernel
theorem dX5_moveAsOriginal_53 : decode cX5_moveAsOriginal 53 = .ok (.iload_n 2, 1) := by decide +kernel
theorem dX5_moveAsOriginal_54 : decode cX5_moveAsOriginal 54 = .ok (.aload 4, 2) := by decide +kernel
theorem dX5_moveAsOriginal_56 : decode cX5_moveAsOriginal 56 = .ok (.iload 5, 2) := by decide +kernel
theorem dX5_moveAsOriginal_58 : decode cX5_moveAsOriginal 58 = .ok (.invokevirtual 471, 3) := by decide +kernel
theorem dX5_moveAsOriginal_61 : decode cX5_moveAsOriginal 61 = .ok (.invokevirtual 541, 3) := by decide +kernel
theorem dX5_moveAsOriginal_64 : decode cX5_moveAsOriginal 64 = .ok (.lstore 6, 2) := by decide +kernel
theorem dX5_moveAsOriginal_66 : decode cX5_moveAsOriginal 66 = .ok (.iload_n 1, 1) := by decide +kernel
theorem dX5_moveAsOriginal_67 : decode cX5_moveAsOriginal 67 = .ok (.iconst 4, 1) := by decide +kernel
theorem dX5_moveAsOriginal_68 : decode cX5_moveAsOriginal 68 = .ok (.iand, 1) := by decide +kernel
theorem dX5_moveAsOriginal_69 : decode cX5_moveAsOriginal 69 = .ok (.ifCond .eq 15, 3) := by decide +kernel
theorem dX5_moveAsOriginal_72 : decode cX5_moveAsOriginal 72 = .ok (.aload_n 0, 1) := by decide +kernel
theorem dX5_moveAsOriginal_73 : decode cX5_moveAsOriginal 73 = .ok (.getfield 12, 3) := by decide +kernel
theorem dX5_moveAsOriginal_76 : decode cX5_moveAsOriginal 76 = .ok (.lload 6, 2) := by decide +kernel
theorem dX5_moveAsOriginal_78 : decode cX5_moveAsOriginal 78 = .ok (.invokevirtual 414, 3) := by decide +kernel
theorem dX5_moveAsOriginal_81 : decode cX5_moveAsOriginal 81 = .ok (.goto 5, 3) := by decide +kernel
theorem dX5_moveAsOriginal_84 : decode cX5_moveAsOriginal 84 = .ok (.lload 6, 2) := by decide +kernel
theorem dX5_moveAsOriginal_86 : decode cX5_moveAsOriginal 86 = .ok (.lstore 8, 2) := by decide +kernel
theorem dX5_moveAsOriginal_88 : decode cX5_moveAsOriginal 88 = .ok (.iload_n 1, 1) := by decide +kernel
theorem dX5_moveAsOriginal_89 : decode cX5_moveAsOriginal 89 = .ok (.bipush 8, 2) := by decide +kernel
theorem dX5_moveAsOriginal_91 : decode cX5_moveAsOriginal 91 = .ok (.iand, 1) := by decide +kernel
theorem dX5_moveAsOriginal_92 : decode cX5_moveAsOriginal 92 = .ok (.ifCond .eq 13, 3) := by decide +kernel
theorem dX5_moveAsOriginal_95 : decode cX5_moveAsOriginal 95 = .ok (.aload_n 0, 1) := by decide +kernel
theorem dX5_moveAsOriginal_96 : decode cX5_moveAsOriginal 96 = .ok (.lload 8, 2) := by decide +kernel
theorem dX5_moveAsOriginal_98 : decode cX5_moveAsOriginal 98 = .ok (.lload 6, 2) := by decide +kernel
theorem dX5_moveAsOriginal_100 : decode cX5_moveAsOriginal 100 = .ok (.invokevirtual 544, 3) := by decide +kernel
theorem dX5_moveAsOriginal_103 : decode cX5_moveAsOriginal 103 = .ok (.lstore 8, 2) := by decide +kernel
theorem dX5_moveAsOriginal_105 : decode cX5_moveAsOriginal 105 = .ok (.aload_n 0, 1) := by decide +kernel
theorem dX5_moveAsOriginal_106 : decode cX5_moveAsOriginal 106 = .ok (.aload_n 3, 1) := by decide +kernel
theorem dX5_moveAsOriginal_107 : decode cX5_moveAsOriginal 107 = .ok (.iload_n 2, 1) := by decide +kernel
theorem dX5_moveAsOriginal_108 : decode cX5_moveAsOriginal 108 = .ok (.lload 8, 2) := by decide +kernel
theorem dX5_moveAsOriginal_110 : decode cX5_moveAsOriginal 110 = .ok (.aload_n 0, 1) := by decide +kernel
theorem dX5_moveAsOriginal_111 : decode cX5_moveAsOriginal 111 = .ok (.aload_n 3, 1) := by decide +kernel
theorem dX5_moveAsOriginal_112 : decode cX5_moveAsOriginal 112 = .ok (.iload_n 2, 1) := by decide +kernel
theorem dX5_moveAsOriginal_113 : decode cX5_moveAsOriginal 113 = .ok (.aload 4, 2) := by decide +kernel
theorem dX5_moveAsOriginal_115 : decode cX5_moveAsOriginal 115 = .ok (.iload 5, 2) := by decide +kernel
theorem dX5_moveAsOriginal_117 : decode cX5_moveAsOriginal 117 = .ok (.invokevirtual 455, 3) := by decide +kernel
theorem dX5_moveAsOriginal_120 : decode cX5_moveAsOriginal 120 = .ok (.lsub, 1) := by decide +kernel
theorem dX5_moveAsOriginal_121 : decode cX5_moveAsOriginal 121 = .ok (.invokevirtual 461, 3) := by decide +kernel
theorem dX5_moveAsOriginal_124 : decode cX5_moveAsOriginal 124 = .ok (.aload_n 0, 1) := by decide +kernel
theorem dX5_moveAsOriginal_125 : decode cX5_moveAsOriginal 125 = .ok (.iload_n 2, 1) := by decide +kernel
theorem dX5_moveAsOriginal_126 : decode cX5_moveAsOriginal 126 = .ok (.iload_n 1, 1) := by decide +kernel
theorem dX5_moveAsOriginal_127 : decode cX5_moveAsOriginal 127 = .ok (.bipush 16, 2) := by decide +kernel
theorem dX5_moveAsOriginal_129 : decode cX5_moveAsOriginal 129 = .ok (.iand, 1) := by decide +kernel
theorem dX5_moveAsOriginal_130 : decode cX5_moveAsOriginal 130 = .ok (.ifCond .eq 7, 3) := by decide +kernel
theorem dX5_moveAsOriginal_133 : decode cX5_moveAsOriginal 133 = .ok (.iconst 1, 1) := by decide +kernel
theorem dX5_moveAsOriginal_134 : decode cX5_moveAsOriginal 134 = .ok (.goto 4, 3) := by decide +kernel
theorem dX5_moveAsOriginal_137 : decode cX5_moveAsOriginal 137 = .ok (.iconst 0, 1) := by decide +kernel
theorem dX5_moveAsOriginal_138 : decode cX5_moveAsOriginal 138 = .ok (.invokevirtual 534, 3) := by decide +kernel
theorem dX5_moveAsOriginal_141 : decode cX5_moveAsOriginal 141 = .ok (.return_, 1) := by decide +kernel
def B_X5_moveAsOriginal_138  (s1 : Int32) (s2 : Int32) (V : sv_V) : Option sv_V := (F_X5_noteReferences s1 s2 V).bind (fun V1 => some V1)
set_option maxRecDepth 20000 in
theorem tB_X5_moveAsOriginal_138 {g : sx_G} (hG : sx_Go g) {P : Option Value → sv_V → Prop} {Vr : sv_V} (hP : P none Vr)   {s1 : Int32} {s2 : Int32} {V : sv_V} (h : B_X5_moveAsOriginal_138  s1 s2 V = some Vr) : sv_N g qX5_moveAsOriginal 2 138 [] [.int s2, .int s1, .ref 69] V P := by
  unfold B_X5_moveAsOriginal_138 at h
  obtain ⟨V1, g2, h⟩ := sx_bnd h
  refine sv_cV (pc := 138) (y := qX5_noteReferences) (o := none) (as := [.int s1, .int s2]) (V1 := V1) hG dX5_moveAsOriginal_138 l_X5_534 y0X5_noteReferences yvX5_noteReferences rfl (Nat.le_of_ble_eq_true rfl) lay_69 kr_5 (by decide) (Nat.le_of_ble_eq_true rfl) rfl rfl rfl (t_X5_noteReferences hG ⟨rfl, rfl⟩ g2) ?_
  exact sv_vret (pc := 141) dX5_moveAsOriginal_141 rfl h hP
def B_X5_moveAsOriginal_105  (l1 : Int32) (l2 : Int32) (l3 : Nat) (l4 : Nat) (l5 : Int32) (l8 : Int64) (V : sv_V) : Option sv_V := (F_X5_longBetween l3 l2 l4 l5 V).bind (fun (x5, V3) => (F_X5_move l3 l2 (l8 - x5) V3).bind (fun V6 => if (l1 &&& (16 : Int32)) = 0 then (B_X5_moveAsOriginal_138  l2 (0 : Int32) V6) else (B_X5_moveAsOriginal_138  l2 (1 : Int32) V6)))
set_option maxRecDepth 20000 in
theorem tB_X5_moveAsOriginal_105 {g : sx_G} (hG : sx_Go g) {P : Option Value → sv_V → Prop} {Vr : sv_V} (hP : P none Vr)   {l1 : Int32} {l2 : Int32} {l3 : Nat} {l4 : Nat} {l5 : Int32} {l8 : Int64} {V : sv_V} (h : B_X5_moveAsOriginal_105  l1 l2 l3 l4 l5 l8 V = some Vr) : sv_N g qX5_moveAsOriginal 2 105 [(0, .ref 69), (1, .int l1), (2, .int l2), (3, .ref l3), (4, .ref l4), (5, .int l5), (8, .long l8)] [] V P := by
  unfold B_X5_moveAsOriginal_105 at h
  refine sx_aload_n (pc := 105) dX5_moveAsOriginal_105 sx_m0 ?_
  refine sx_aload_n (pc := 106) dX5_moveAsOriginal_106 sx_m3 ?_
  refine sx_iload_n (pc := 107) dX5_moveAsOriginal_107 sx_m2 ?_
  refine sx_lload (pc := 108) dX5_moveAsOriginal_108 sx_m6 ?_
  refine sx_aload_n (pc := 110) dX5_moveAsOriginal_110 sx_m0 ?_
  refine sx_aload_n (pc := 111) dX5_moveAsOriginal_111 sx_m3 ?_
  refine sx_iload_n (pc := 112) dX5_moveAsOriginal_112 sx_m2 ?_
  refine sx_aload (pc := 113) dX5_moveAsOriginal_113 sx_m4 ?_
  refine sx_iload (pc := 115) dX5_moveAsOriginal_115 sx_m5 ?_
  obtain ⟨⟨x5, V3⟩, g4, h⟩ := sx_bnd h
  refine sv_cV (pc := 117) (y := qX5_longBetween) (o := (some (.long x5))) (as := [.ref l3, .int l2, .ref l4, .int l5]) (V1 := V3) hG dX5_moveAsOriginal_117 l_X5_455 y0X5_longBetween yvX5_longBetween rfl (Nat.le_of_ble_eq_true rfl) lay_69 kr_5 (by decide) (Nat.le_of_ble_eq_true rfl) rfl rfl rfl (t_X5_longBetween hG ⟨rfl, rfl⟩ g4) ?_
  refine sx_lsub (pc := 120) dX5_moveAsOriginal_120 ?_
  obtain ⟨V6, g7, h⟩ := sx_bnd h
  refine sv_cV (pc := 121) (y := qX5_move) (o := none) (as := [.ref l3, .int l2, .long (l8 - x5)]) (V1 := V6) hG dX5_moveAsOriginal_121 l_X5_461 y0X5_move yvX5_move rfl (Nat.le_of_ble_eq_true rfl) lay_69 kr_5 (by decide) (Nat.le_of_ble_eq_true rfl) rfl rfl rfl (t_X5_move hG ⟨rfl, rfl⟩ g7) ?_
  refine sx_aload_n (pc := 124) dX5_moveAsOriginal_124 sx_m0 ?_
  refine sx_iload_n (pc := 125) dX5_moveAsOriginal_125 sx_m2 ?_
  refine sx_iload_n (pc := 126) dX5_moveAsOriginal_126 sx_m1 ?_
  refine sx_bipush (pc := 127) (v := 16) dX5_moveAsOriginal_127 (by decide) ?_
  refine sx_iand (pc := 129) dX5_moveAsOriginal_129 ?_
  refine sx_if_eq (pc := 130) (tgt := 137) dX5_moveAsOriginal_130 (by decide) (fun c8 => ?_) (fun c8 => ?_)
  · have h := sx_pos c8 h
    refine sx_iconst (pc := 137) (v := 0) dX5_moveAsOriginal_137 (by decide) ?_
    refine sx_wk sx_s0 ?_
    exact tB_X5_moveAsOriginal_138 hG hP  h
  · have h := sx_neg c8 h
    refine sx_iconst (pc := 133) (v := 1) dX5_moveAsOriginal_133 (by decide) ?_
    refine sx_goto (pc := 134) (tgt := 138) dX5_moveAsOriginal_134 (by decide) ?_
    refine sx_wk sx_s0 ?_
    exact tB_X5_moveAsOriginal_138 hG hP  h
def B_X5_moveAsOriginal_86  (l1 : Int32) (l2 : Int32) (l3 : Nat) (l4 : Nat) (l5 : Int32) (l6 : Int64) (s0 : Int64) (V : sv_V) : Option sv_V := if (l1 &&& (8 : Int32)) = 0 then (B_X5_moveAsOriginal_105  l1 l2 l3 l4 l5 s0 V) else ((F_X5_atLeast s0 l6 V).bind (fun (x12, V10) => B_X5_moveAsOriginal_105  l1 l2 l3 l4 l5 x12 V10))
set_option maxRecDepth 20000 in
theorem tB_X5_moveAsOriginal_86 {g : sx_G} (hG : sx_Go g) {P : Option Value → sv_V → Prop} {Vr : sv_V} (hP : P none Vr)   {l1 : Int32} {l2 : Int32} {l3 : Nat} {l4 : Nat} {l5 : Int32} {l6 : Int64} {s0 : Int64} {V : sv_V} (h : B_X5_moveAsOriginal_86  l1 l2 l3 l4 l5 l6 s0 V = some Vr) : sv_N g qX5_moveAsOriginal 2 86 [(0, .ref 69), (1, .int l1), (2, .int l2), (3, .ref l3), (4, .ref l4), (5, .int l5), (6, .long l6)] [.long s0] V P := by
  unfold B_X5_moveAsOriginal_86 at h
  refine sx_lstore (pc := 86) (lo' := [(8, .long s0), (0, .ref 69), (1, .int l1), (2, .int l2), (3, .ref l3), (4, .ref l4), (5, .int l5), (6, .long l6)]) dX5_moveAsOriginal_86 (by decide) rfl ?_
  refine sx_iload_n (pc := 88) dX5_moveAsOriginal_88 sx_m2 ?_
  refine sx_bipush (pc := 89) (v := 8) dX5_moveAsOriginal_89 (by decide) ?_
  refine sx_iand (pc := 91) dX5_moveAsOriginal_91 ?_
  refine sx_if_eq (pc := 92) (tgt := 105) dX5_moveAsOriginal_92 (by decide) (fun c9 => ?_) (fun c9 => ?_)
  · have h := sx_pos c9 h
    refine sx_wk (sx_s1 sx_m1 (sx_s1 sx_m2 (sx_s1 sx_m3 (sx_s1 sx_m4 (sx_s1 sx_m5 (sx_s1 sx_m6 (sx_s1 sx_m0 sx_s0))))))) ?_
    exact tB_X5_moveAsOriginal_105 hG hP  h
  · have h := sx_neg c9 h
    refine sx_aload_n (pc := 95) dX5_moveAsOriginal_95 sx_m1 ?_
    refine sx_lload (pc := 96) dX5_moveAsOriginal_96 sx_m0 ?_
    refine sx_lload (pc := 98) dX5_moveAsOriginal_98 sx_m7 ?_
    obtain ⟨⟨x12, V10⟩, g11, h⟩ := sx_bnd h
    refine sv_cV (pc := 100) (y := qX5_atLeast) (o := (some (.long x12))) (as := [.long s0, .long l6]) (V1 := V10) hG dX5_moveAsOriginal_100 l_X5_544 y0X5_atLeast yvX5_atLeast rfl (Nat.le_of_ble_eq_true rfl) lay_69 kr_5 (by decide) (Nat.le_of_ble_eq_true rfl) rfl rfl rfl (t_X5_atLeast hG ⟨rfl, rfl⟩ g11) ?_
    refine sx_lstore (pc := 103) (lo' := [(8, .long x12), (0, .ref 69), (1, .int l1), (2, .int l2), (3, .ref l3), (4, .ref l4), (5, .int l5), (6, .long l6)]) dX5_moveAsOriginal_103 (by decide) rfl ?_
    refine sx_wk (sx_s1 sx_m1 (sx_s1 sx_m2 (sx_s1 sx_m3 (sx_s1 sx_m4 (sx_s1 sx_m5 (sx_s1 sx_m6 (sx_s1 sx_m0 sx_s0))))))) ?_
    exact tB_X5_moveAsOriginal_105 hG hP  h
def F_X5_moveAsOriginal (l1 : Int32) (V : sv_V) : Option sv_V := (F_X5_pop  V).bind (fun (x15, V13) => (F_X5_zone (1 : Int32) V13).bind (fun (x18, V16) => (F_X5_zone (0 : Int32) V16).bind (fun (x21, V19) => sx_let (V19.1 71 (0 : Int32).toNatClampNeg) (fun x22 => (F_X5_isThere x18 x15 V19).bind (fun (x25, V23) => if x25 = 0 then (some V23) else ((F_X5_isThere x21 x22 V23).bind (fun (x29, V27) => if x29 = 0 then (some V27) else ((F_X5_originalBetween x18 x15 x21 x22 V27).bind (fun (x33, V31) => (F_X5_orSingle x33 V31).bind (fun (x36, V34) => if (l1 &&& (4 : Int32)) = 0 then (B_X5_moveAsOriginal_86  l1 x15 x18 x21 x22 x36 x36 V34) else ((F_X9_rounded x36 V34).bind (fun (x40, V38) => B_X5_moveAsOriginal_86  l1 x15 x18 x21 x22 x36 x40 V38))))))))))))
set_option maxRecDepth 20000 in
theorem t_X5_moveAsOriginal {g : sx_G} (hG : sx_Go g) {P : Option Value → sv_V → Prop} {Vr : sv_V} (hP : P none Vr) {l1 : Int32} {V : sv_V} (h : F_X5_moveAsOriginal l1 V = some Vr) : sv_N g qX5_moveAsOriginal 2 0 [(0, .ref 69), (1, .int l1)] [] V P := by
  unfold F_X5_moveAsOriginal at h
  refine sx_aload_n (pc := 0) dX5_moveAsOriginal_0 sx_m0 ?_
  obtain ⟨⟨x15, V13⟩, g14, h⟩ := sx_bnd h
  refine sv_cV (pc := 1) (y := qX5_pop) (o := (some (.int x15))) (as := []) (V1 := V13) hG dX5_moveAsOriginal_1 l_X5_242 y0X5_pop yvX5_pop rfl (Nat.le_of_ble_eq_true rfl) lay_69 kr_5 (by decide) (Nat.le_of_ble_eq_true rfl) rfl rfl rfl (t_X5_pop hG ⟨rfl, rfl⟩ g14) ?_
  refine sx_istore_n (pc := 4) (lo' := [(2, .int x15), (0, .ref 69), (1, .int l1)]) dX5_moveAsOriginal_4 (by decide) rfl ?_
  refine sx_aload_n (pc := 5) dX5_moveAsOriginal_5 sx_m1 ?_
  refine sx_iconst (pc := 6) (v := 1) dX5_moveAsOriginal_6 (by decide) ?_
  obtain ⟨⟨x18, V16⟩, g17, h⟩ := sx_bnd h
  refine sv_cV (pc := 7) (y := qX5_zone) (o := (some (.ref x18))) (as := [.int (1 : Int32)]) (V1 := V16) hG dX5_moveAsOriginal_7 l_X5_255 y0X5_zone yvX5_zone rfl (Nat.le_of_ble_eq_true rfl) lay_69 kr_5 (by decide) (Nat.le_of_ble_eq_true rfl) rfl rfl rfl (t_X5_zone hG ⟨rfl, rfl⟩ g17) ?_
  refine sx_astore_n (pc := 10) (lo' := [(3, .ref x18), (2, .int x15), (0, .ref 69), (1, .int l1)]) dX5_moveAsOriginal_10 (by decide) rfl ?_
  refine sx_aload_n (pc := 11) dX5_moveAsOriginal_11 sx_m2 ?_
  refine sx_iconst (pc := 12) (v := 0) dX5_moveAsOriginal_12 (by decide) ?_
  obtain ⟨⟨x21, V19⟩, g20, h⟩ := sx_bnd h
  refine sv_cV (pc := 13) (y := qX5_zone) (o := (some (.ref x21))) (as := [.int (0 : Int32)]) (V1 := V19) hG dX5_moveAsOriginal_13 l_X5_255 y0X5_zone yvX5_zone rfl (Nat.le_of_ble_eq_true rfl) lay_69 kr_5 (by decide) (Nat.le_of_ble_eq_true rfl) rfl rfl rfl (t_X5_zone hG ⟨rfl, rfl⟩ g20) ?_
  refine sx_astore (pc := 16) (lo' := [(4, .ref x21), (3, .ref x18), (2, .int x15), (0, .ref 69), (1, .int l1)]) dX5_moveAsOriginal_16 (by decide) rfl ?_
  refine sx_aload_n (pc := 18) dX5_moveAsOriginal_18 sx_m3 ?_
  refine sv_getO (pc := 19) hG dX5_moveAsOriginal_19 f_5_12 lay_69 rfl cr_69_1 ?_
  refine sv_getA (pc := 22) hG dX5_moveAsOriginal_22 f_5_275 lay_70 rfl cr_70_6 ?_
  refine sx_iconst (pc := 25) (v := 0) dX5_moveAsOriginal_25 (by decide) ?_
  refine sv_iald (pc := 26) hG dX5_moveAsOriginal_26 lay_71 (by decide) ?_
  refine sv_tI (fun x22 hx22 => ?_)
  have h := sx_letE hx22 h
  refine sx_istore (pc := 27) (lo' := [(5, .int x22), (4, .ref x21), (3, .ref x18), (2, .int x15), (0, .ref 69), (1, .int l1)]) dX5_moveAsOriginal_27 (by decide) rfl ?_
  refine sx_aload_n (pc := 29) dX5_moveAsOriginal_29 sx_m4 ?_
  refine sx_aload_n (pc := 30) dX5_moveAsOriginal_30 sx_m2 ?_
  refine sx_iload_n (pc := 31) dX5_moveAsOriginal_31 sx_m3 ?_
  obtain ⟨⟨x25, V23⟩, g24, h⟩ := sx_bnd h
  refine sv_cV (pc := 32) (y := qX5_isThere) (o := (some (.int x25))) (as := [.ref x18, .int x15]) (V1 := V23) hG dX5_moveAsOriginal_32 l_X5_259 y0X5_isThere yvX5_isThere rfl (Nat.le_of_ble_eq_true rfl) lay_69 kr_5 (by decide) (Nat.le_of_ble_eq_true rfl) rfl rfl rfl (t_X5_isThere hG ⟨rfl, rfl⟩ g24) ?_
  refine sx_if_eq (pc := 35) (tgt := 49) dX5_moveAsOriginal_35 (by decide) (fun c26 => ?_) (fun c26 => ?_)
  · have h := sx_pos c26 h
    exact sv_vret (pc := 49) dX5_moveAsOriginal_49 rfl h hP
  · have h := sx_neg c26 h
    refine sx_aload_n (pc := 38) dX5_moveAsOriginal_38 sx_m4 ?_
    refine sx_aload (pc := 39) dX5_moveAsOriginal_39 sx_m1 ?_
    refine sx_iload (pc := 41) dX5_moveAsOriginal_41 sx_m0 ?_
    obtain ⟨⟨x29, V27⟩, g28, h⟩ := sx_bnd h
    refine sv_cV (pc := 43) (y := qX5_isThere) (o := (some (.int x29))) (as := [.ref x21, .int x22]) (V1 := V27) hG dX5_moveAsOriginal_43 l_X5_259 y0X5_isThere yvX5_isThere rfl (Nat.le_of_ble_eq_true rfl) lay_69 kr_5 (by decide) (Nat.le_of_ble_eq_true rfl) rfl rfl rfl (t_X5_isThere hG ⟨rfl, rfl⟩ g28) ?_
    refine sx_if_ne (pc := 46) (tgt := 50) dX5_moveAsOriginal_46 (by decide) (fun c30 => ?_) (fun c30 => ?_)
    · have h := sx_neg c30 h
      refine sx_aload_n (pc := 50) dX5_moveAsOriginal_50 sx_m4 ?_
      refine sx_aload_n (pc := 51) dX5_moveAsOriginal_51 sx_m4 ?_
      refine sx_aload_n (pc := 52) dX5_moveAsOriginal_52 sx_m2 ?_
      refine sx_iload_n (pc := 53) dX5_moveAsOriginal_53 sx_m3 ?_
      refine sx_aload (pc := 54) dX5_moveAsOriginal_54 sx_m1 ?_
      refine sx_iload (pc := 56) dX5_moveAsOriginal_56 sx_m0 ?_
      obtain ⟨⟨x33, V31⟩, g32, h⟩ := sx_bnd h
      refine sv_cV (pc := 58) (y := qX5_originalBetween) (o := (some (.long x33))) (as := [.ref x18, .int x15, .ref x21, .int x22]) (V1 := V31) hG dX5_moveAsOriginal_58 l_X5_471 y0X5_originalBetween yvX5_originalBetween rfl (Nat.le_of_ble_eq_true rfl) lay_69 kr_5 (by decide) (Nat.le_of_ble_eq_true rfl) rfl rfl rfl (t_X5_originalBetween hG ⟨rfl, rfl⟩ g32) ?_
      obtain ⟨⟨x36, V34⟩, g35, h⟩ := sx_bnd h
      refine sv_cV (pc := 61) (y := qX5_orSingle) (o := (some (.long x36))) (as := [.long x33]) (V1 := V34) hG dX5_moveAsOriginal_61 l_X5_541 y0X5_orSingle yvX5_orSingle rfl (Nat.le_of_ble_eq_true rfl) lay_69 kr_5 (by decide) (Nat.le_of_ble_eq_true rfl) rfl rfl rfl (t_X5_orSingle hG ⟨rfl, rfl⟩ g35) ?_
      refine sx_lstore (pc := 64) (lo' := [(6, .long x36), (5, .int x22), (4, .ref x21), (3, .ref x18), (2, .int x15), (0, .ref 69), (1, .int l1)]) dX5_moveAsOriginal_64 (by decide) rfl ?_
      refine sx_iload_n (pc := 66) dX5_moveAsOriginal_66 sx_m6 ?_
      refine sx_iconst (pc := 67) (v := 4) dX5_moveAsOriginal_67 (by decide) ?_
      refine sx_iand (pc := 68) dX5_moveAsOriginal_68 ?_
      refine sx_if_eq (pc := 69) (tgt := 84) dX5_moveAsOriginal_69 (by decide) (fun c37 => ?_) (fun c37 => ?_)
      · have h := sx_pos c37 h
        refine sx_lload (pc := 84) dX5_moveAsOriginal_84 sx_m0 ?_
        refine sx_wk (sx_s1 sx_m5 (sx_s1 sx_m6 (sx_s1 sx_m4 (sx_s1 sx_m3 (sx_s1 sx_m2 (sx_s1 sx_m1 (sx_s1 sx_m0 sx_s0))))))) ?_
        exact tB_X5_moveAsOriginal_86 hG hP  h
      · have h := sx_neg c37 h
        refine sx_aload_n (pc := 72) dX5_moveAsOriginal_72 sx_m5 ?_
        refine sv_getO (pc := 73) hG dX5_moveAsOriginal_73 f_5_12 lay_69 rfl cr_69_1 ?_
        refine sx_lload (pc := 76) dX5_moveAsOriginal_76 sx_m0 ?_
        obtain ⟨⟨x40, V38⟩, g39, h⟩ := sx_bnd h
        refine sv_cV (pc := 78) (y := qX9_rounded) (o := (some (.long x40))) (as := [.long x36]) (V1 := V38) hG dX5_moveAsOriginal_78 l_X5_414 y0X9_rounded yvX9_rounded rfl (Nat.le_of_ble_eq_true rfl) lay_70 kr_9 (by decide) (Nat.le_of_ble_eq_true rfl) rfl rfl rfl (t_X9_rounded hG ⟨rfl, rfl⟩ g39) ?_
        refine sx_goto (pc := 81) (tgt := 86) dX5_moveAsOriginal_81 (by decide) ?_
        refine sx_wk (sx_s1 sx_m5 (sx_s1 sx_m6 (sx_s1 sx_m4 (sx_s1 sx_m3 (sx_s1 sx_m2 (sx_s1 sx_m1 (sx_s1 sx_m0 sx_s0))))))) ?_
        exact tB_X5_moveAsOriginal_86 hG hP  h
    · have h := sx_pos c30 h
      exact sv_vret (pc := 49) dX5_moveAsOriginal_49 rfl h hP
theorem dX5_moveAsCvt_0 : decode cX5_moveAsCvt 0 = .ok (.aload_n 0, 1) := by decide +kernel
theorem dX5_moveAsCvt_1 : decode cX5_moveAsCvt 1 = .ok (.invokevirtual 242, 3) := by decide +kernel
theorem dX5_moveAsCvt_4 : decode cX5_moveAsCvt 4 = .ok (.istore_n 2, 1) := by decide +kernel
theorem dX5_moveAsCvt_5 : decode cX5_moveAsCvt 5 = .ok (.aload_n 0, 1) := by decide +kernel
theorem dX5_moveAsCvt_6 : decode cX5_moveAsCvt 6 = .ok (.invokevirtual 242, 3) := by decide +kernel
theorem dX5_moveAsCvt_9 : decode cX5_moveAsCvt 9 = .ok (.istore_n 3, 1) := by decide +kernel
theorem dX5_moveAsCvt_10 : decode cX5_moveAsCvt 10 = .ok (.aload_n 0, 1) := by decide +kernel
theorem dX5_moveAsCvt_11 : decode cX5_moveAsCvt 11 = .ok (.iconst 1, 1) := by decide +kernel
theorem dX5_moveAsCvt_12 : decode cX5_moveAsCvt 12 = .ok (.invokevirtual 255, 3) := by decide +kernel
theorem dX5_moveAsCvt_15 : decode cX5_moveAsCvt 15 = .ok (.astore 4, 2) := by decide +kernel
theorem dX5_moveAsCvt_17 : decode cX5_moveAsCvt 17 = .ok (.aload_n 0, 1) := by decide +kernel
theorem dX5_moveAsCvt_18 : decode cX5_moveAsCvt 18 = .ok (.iconst 0, 1) := by decide +kernel
theorem dX5_moveAsCvt_19 : decode cX5_moveAsCvt 19 = .ok (.invokevirtual 255, 3) := by decide +kernel
theorem dX5_moveAsCvt_22 : decode cX5_moveAsCvt 22 = .ok (.astore 5, 2) := by decide +kernel
theorem dX5_moveAsCvt_24 : decode cX5_moveAsCvt 24 = .ok (.aload_n 0, 1) := by decide +kernel
theorem dX5_moveAsCvt_25 : decode cX5_moveAsCvt 25 = .ok (.getfield 12, 3) := by decide +kernel
theorem dX5_moveAsCvt_28 : decode cX5_moveAsCvt 28 = .ok (.getfield 275, 3) := by decide +kernel
theorem dX5_moveAsCvt_31 : decode cX5_moveAsCvt 31 = .ok (.iconst 0, 1) := by decide +kernel
theorem dX5_moveAsCvt_32 : decode cX5_moveAsCvt 32 = .ok (.iaload, 1) := by decide +kernel
theorem dX5_moveAsCvt_33 : decode cX5_moveAsCvt 33 = .ok (.istore 6, 2) := by decide +kernel
theorem dX5_moveAsCvt_35 : decode cX5_moveAsCvt 35 = .ok (.aload_n 0, 1) := by decide +kernel
theorem dX5_moveAsCvt_36 : decode cX5_moveAsCvt 36 = .ok (.aload 4, 2) := by decide +kernel
theorem dX5_moveAsCvt_38 : decode cX5_moveAsCvt 38 = .ok (.iload_n 3, 1) := by decide +kernel
theorem dX5_moveAsCvt_39 : decode cX5_moveAsCvt 39 = .ok (.invokevirtual 259, 3) := by decide +kernel
theorem dX5_moveAsCvt_42 : decode cX5_moveAsCvt 42 = .ok (.ifCond .eq 14, 3) := by decide +kernel
theorem dX5_moveAsCvt_45 : decode cX5_moveAsCvt 45 = .ok (.aload_n 0, 1) := by decide +kernel
theorem dX5_moveAsCvt_46 : decode cX5_moveAsCvt 46 = .ok (.aload 5, 2) := by decide +kernel
theorem dX5_moveAsCvt_48 : decode cX5_moveAsCvt 48 = .ok (.iload 6, 2) := by decide +kernel
theorem dX5_moveAsCvt_50 : decode cX5_moveAsCvt 50 = .ok (.invokevirtual 259, 3) := by decide +kernel
theorem dX5_moveAsCvt_53 : decode cX5_moveAsCvt 53 = .ok (.ifCond .ne 4, 3) := by decide +kernel
theorem dX5_moveAsCvt_56 : decode cX5_moveAsCvt 56 = .ok (.return_, 1) := by decide +kernel
theorem dX5_moveAsCvt_57 : decode cX5_moveAsCvt 57 = .ok (.aload_n 0, 1) := by decide +kernel
theorem dX5_moveAsCvt_58 : decode cX5_moveAsCvt 58 = .ok (.getfield 49, 3) := by decide +kernel
theorem dX5_moveAsCvt_61 : decode cX5_moveAsCvt 61 = .ok (.iload_n 2, 1) := by decide +kernel
theorem dX5_moveAsCvt_62 : decode cX5_moveAsCvt 62 = .ok (.invokevirtual 405, 3) := by decide +kernel
theorem dX5_moveAsCvt_65 : decode cX5_moveAsCvt 65 = .ok (.ifCond .ne 10, 3) := by decide +kernel
theorem dX5_moveAsCvt_68 : decode cX5_moveAsCvt 68 = .ok (.aload_n 0, 1) := by decide +kernel
theorem dX5_moveAsCvt_69 : decode cX5_moveAsCvt 69 = .ok (.bipush 6, 2) := by decide +kernel
theorem dX5_moveAsCvt_71 : decode cX5_moveAsCvt 71 = .ok (.putfield 56, 3) := by decide +kernel
theorem dX5_moveAsCvt_74 : decode cX5_moveAsCvt 74 = .ok (.return_, 1) := by decide +kernel
theorem dX5_moveAsCvt_75 : decode cX5_moveAsCvt 75 = .ok (.aload_n 0, 1) := by decide +kernel
theorem dX5_moveAsCvt_76 : decode cX5_moveAsCvt 76 = .ok (.aload_n 0, 1) := by decide +kernel
theorem dX5_moveAsCvt_77 : decode cX5_moveAsCvt 77 = .ok (.getfield 49, 3) := by decide +kernel
theorem dX5_moveAsCvt_80 : decode cX5_moveAsCvt 80 = .ok (.getfield 411, 3) := by decide +kernel
theorem dX5_moveAsCvt_83 : decode cX5_moveAsCvt 83 = .ok (.iload_n 2, 1) := by decide +kernel
theorem dX5_moveAsCvt_84 : decode cX5_moveAsCvt 84 = .ok (.iaload, 1) := by decide +kernel
theorem dX5_moveAsCvt_85 : decode cX5_moveAsCvt 85 = .ok (.i2l, 1) := by decide +kernel
theorem dX5_moveAsCvt_86 : decode cX5_moveAsCvt 86 = .ok (.invokevirtual 541, 3) := by decide +kernel
theorem dX5_moveAsCvt_89 : decode cX5_moveAsCvt 89 = .ok (.lstore 7, 2) := by decide +kernel
theorem dX5_moveAsCvt_91 : decode cX5_moveAsCvt 91 = .ok (.aload_n 0, 1) := by decide +kernel
theorem dX5_moveAsCvt_92 : decode cX5_moveAsCvt 92 = .ok (.getfield 12, 3) := by decide +kernel
theorem dX5_moveAsCvt_95 : decode cX5_moveAsCvt 95 = .ok (.getfield 172, 3) := by decide +kernel
theorem dX5_moveAsCvt_98 : decode cX5_moveAsCvt 98 = .ok (.iconst 1, 1) := by decide +kernel
theorem dX5_moveAsCvt_99 : decode cX5_moveAsCvt 99 = .ok (.iaload, 1) := by decide +kernel
theorem dX5_moveAsCvt_100 : decode cX5_moveAsCvt 100 = .ok (.ifCond .ne 28, 3) := by decide +kernel
theorem dX5_moveAsCvt_103 : decode cX5_moveAsCvt 103 = .ok (.aload_n 0, 1) := by decide +kernel
theorem dX5_moveAsCvt_104 : decode cX5_moveAsCvt 104 = .ok (.aload 4, 2) := by decide +kernel
theorem dX5_moveAsCvt_106 : decode cX5_moveAsCvt 106 = .ok (.iload_n 3, 1) := by decide +kernel
theorem dX5_moveAsCvt_107 : decode cX5_moveAsCvt 107 = .ok (.aload 5, 2) := by decide +kernel
theorem dX5_moveAsCvt_109 : decode cX5_moveAsCvt 109 = .ok (.getfield 204, 3) := by decide +kernel
theorem dX5_moveAsCvt_112 : decode cX5_moveAsCvt 112 = .ok (.iload 6, 2) := by decide +kernel
theorem dX5_moveAsCvt_114 : decode cX5_moveAsCvt 114 = .ok (.iaload, 1) := by decide +kernel
theorem dX5_moveAsCvt_115 : decode cX5_moveAsCvt 115 = .ok (.aload 5, 2) := by decide +kernel
theorem dX5_moveAsCvt_117 : decode cX5_moveAsCvt 117 = .ok (.getfield 207, 3) := by decide +kernel
theorem dX5_moveAsCvt_120 : decode cX5_moveAsCvt 120 = .ok (.iload 6, 2) := by decide +kernel
theorem dX5_moveAsCvt_122 : decode cX5_moveAsCvt 122 = .ok (.iaload, 1) := by decide +kernel
theorem dX5_moveAsCvt_123 : decode cX5_moveAsCvt 123 = .ok (.lload 7, 2) := by decide +kernel
theorem dX5_moveAsCvt_125 : decode cX5_moveAsCvt 125 = .ok (.invokevirtual 530, 3) := by decide +kernel
theorem dX5_moveAsCvt_128 : decode cX5_moveAsCvt 128 = .ok (.aload_n 0, 1) := by decide +kernel
theorem dX5_moveAsCvt_129 : decode cX5_moveAsCvt 129 = .ok (.aload 4, 2) := by decide +kernel
theorem dX5_moveAsCvt_131 : decode cX5_moveAsCvt 131 = .ok (.iload_n 3, 1) := by decide +kernel
theorem dX5_moveAsCvt_132 : decode cX5_moveAsCvt 132 = .ok (.aload 5, 2) := by decide +kernel
theorem dX5_moveAsCvt_134 : decode cX5_moveAsCvt 134 = .ok (.iload 6, 2) := by decide +kernel
theorem dX5_moveAsCvt_136 : decode cX5_moveAsCvt 136 = .ok (.invokevirtual 471, 3) := by decide +kernel
theorem dX5_moveAsCvt_139 : decode cX5_moveAsCvt 139 = .ok (.lstore 9, 2) := by decide +kernel
theorem dX5_moveAsCvt_141 : decode cX5_moveAsCvt 141 = .ok (.aload_n 0, 1) := by decide +kernel
theorem dX5_moveAsCvt_142 : decode cX5_moveAsCvt 142 = .ok (.getfield 49, 3) := by decide +kernel
theorem dX5_moveAsCvt_145 : decode cX5_moveAsCvt 145 = .ok (.getfield 272, 3) := by decide +kernel
theorem dX5_moveAsCvt_148 : decode cX5_moveAsCvt 148 = .ok (.iconst 4, 1) := by decide +kernel
theorem dX5_moveAsCvt_149 : decode cX5_moveAsCvt 149 = .ok (.iaload, 1) := by decide +kernel
theorem dX5_moveAsCvt_150 : decode cX5_moveAsCvt 150 = .ok (.ifCond .eq 35, 3) := by decide +kernel
theorem dX5_moveAsCvt_153 : decode cX5_moveAsCvt 153 = .ok (.lload 9, 2) := by decide +kernel
theorem dX5_moveAsCvt_155 : decode cX5_moveAsCvt 155 = .ok (.lconst 0, 1) := by decide +kernel
theorem dX5_moveAsCvt_156 : decode cX5_moveAsCvt 156 = .ok (.lcmp, 1) := by decide +kernel
theorem dX5_moveAsCvt_157 : decode cX5_moveAsCvt 157 = .ok (.ifCond .ge 7, 3) := by decide +kernel
theorem dX5_moveAsCvt_160 : decode cX5_moveAsCvt 160 = .ok (.iconst 1, 1) := by decide +kernel
theorem dX5_moveAsCvt_161 : decode cX5_moveAsCvt 161 = .ok (.goto 4, 3) := by decide +kernel
theorem dX5_moveAsCvt_164 : decode cX5_moveAsCvt 164 = .ok (.iconst 0, 1) := by decide +kernel
theorem dX5_moveAsCvt_165 : decode cX5_moveAsCvt 165 = .ok (.lload 7, 2) := by decide +kernel
theorem dX5_moveAsCvt_167 : decode cX5_moveAsCvt 167 = .ok (.lconst 0, 1) := by decide +kernel
theorem dX5_moveAsCvt_168 : decode cX5_moveAsCvt 168 = .ok (.lcmp, 1) := by decide +kernel
theorem dX5_moveAsCvt_169 : decode cX5_moveAsCvt 169 = .ok (.ifCond .ge 7, 3) := by decide +kernel
theorem dX5_moveAsCvt_172 : decode cX5_moveAsCvt 172 = .ok (.iconst 1, 1) := by decide +kernel
theorem dX5_moveAsCvt_173 : decode cX5_moveAsCvt 173 = .ok (.goto 4, 3) := by decide +kernel
theorem dX5_moveAsCvt_176 : decode cX5_moveAsCvt 176 = .ok (.iconst 0, 1) := by decide +kernel
theorem dX5_moveAsCvt_177 : decode cX5_moveAsCvt 177 = .ok (.if_icmp .eq 8, 3) := by decide +kernel
theorem dX5_moveAsCvt_180 : decode cX5_moveAsCvt 180 = .ok (.lload 7, 2) := by decide +kernel
theorem dX5_moveAsCvt_182 : decode cX5_moveAsCvt 182 = .ok (.lneg, 1) := by decide +kernel
theorem dX5_moveAsCvt_183 : decode cX5_moveAsCvt 183 = .ok (.lstore 7, 2) := by decide +kernel
theorem dX5_moveAsCvt_185 : decode cX5_moveAsCvt 185 = .ok (.iload_n 1, 1) := by decide +kernel
theorem dX5_moveAsCvt_186 : decode cX5_moveAsCvt 186 = .ok (.iconst 4, 1) := by decide +kernel
theorem dX5_moveAsCvt_187 : decode cX5_moveAsCvt 187 = .ok (.iand, 1) := by decide +kernel
theorem dX5_moveAsCvt_188 : decode cX5_moveAsCvt 188 = .ok (.ifCond .eq 74, 3) := by decide +kernel
theorem dX5_moveAsCvt_191 : decode cX5_moveAsCvt 191 = .ok (.aload_n 0, 1) := by decide +kernel
theorem dX5_moveAsCvt_192 : decode cX5_moveAsCvt 192 = .ok (.getfield 12, 3) := by decide +kernel
theorem dX5_moveAsCvt_195 : decode cX5_moveAsCvt 195 = .ok (.getfield 172, 3) := by decide +kernel
theorem dX5_moveAsCvt_198 : decode cX5_moveAsCvt 198 = .ok (.iconst 0, 1) := by decide +kernel
theorem dX5_moveAsCvt_199 : decode cX5_moveAsCvt 199 = .ok (.iaload, 1) := by decide +kernel
theorem dX5_moveAsCvt_200 : decode cX5_moveAsCvt 200 = .ok (.aload_n 0, 1) := by decide +kernel
theorem dX5_moveAsCvt_201 : decode cX5_moveAsCvt 201 = .ok (.getfield 12, 3) := by decide +kernel
theorem dX5_moveAsCvt_204 : decode cX5_moveAsCvt 204 = .ok (.getfield 172, 3) := by decide +kernel
theorem dX5_moveAsCvt_207 : decode cX5_moveAsCvt 207 = .ok (.iconst 1, 1) := by decide +kernel
theorem dX5_moveAsCvt_208 : decode cX5_moveAsCvt 208 = .ok (.iaload, 1) := by decide +kernel
theorem dX5_moveAsCvt_209 : decode cX5_moveAsCvt 209 = .ok (.if_icmp .ne 29, 3) := by decide +kernel
theorem dX5_moveAsCvt_212 : decode cX5_moveAsCvt 212 = .ok (.lload 7, 2) := by decide +kernel
theorem dX5_moveAsCvt_214 : decode cX5_moveAsCvt 214 = .ok (.lload 9, 2) := by decide +kernel
theorem dX5_moveAsCvt_216 : decode cX5_moveAsCvt 216 = .ok (.lsub, 1) := by decide +kernel
theorem dX5_moveAsCvt_217 : decode cX5_moveAsCvt 217 = .ok (.invokestatic 538, 3) := by decide +kernel
theorem dX5_moveAsCvt_220 : decode cX5_moveAsCvt 220 = .ok (.aload_n 0, 1) := by decide +kernel
theorem dX5_moveAsCvt_221 : decode cX5_moveAsCvt 221 = .ok (.getfield 49, 3) := by decide +kernel
theorem dX5_moveAsCvt_224 : decode cX5_moveAsCvt 224 = .ok (.getfield 272, 3) := by decide +kernel
theorem dX5_moveAsCvt_227 : decode cX5_moveAsCvt 227 = .ok (.iconst 0, 1) := by decide +kernel
theorem dX5_moveAsCvt_228 : decode cX5_moveAsCvt 228 = .ok (.iaload, 1) := by decide +kernel
theorem dX5_moveAsCvt_229 : decode cX5_moveAsCvt 229 = .ok (.i2l, 1) := by decide +kernel
theorem dX5_moveAsCvt_230 : decode cX5_moveAsCvt 230 = .ok (.lcmp, 1) := by decide +kernel
theorem dX5_moveAsCvt_231 : decode cX5_moveAsCvt 231 = .ok (.ifCond .le 7, 3) := by decide +kernel
theorem dX5_moveAsCvt_234 : decode cX5_moveAsCvt 234 = .ok (.iconst 1, 1) := by decide +kernel
theorem dX5_moveAsCvt_235 : decode cX5_moveAsCvt 235 = .ok (.goto 4, 3) := by decide +kernel
theorem dX5_moveAsCvt_238 : decode cX5_moveAsCvt 238 = .ok (.iconst 0, 1) := by decide +kernel
theorem dX5_moveAsCvt_239 : decode cX5_moveAsCvt 239 = .ok (.istore 11, 2) := by decide +kernel
theorem dX5_moveAsCvt_241 : decode cX5_moveAsCvt 241 = .ok (.aload_n 0, 1) := by decide +kernel
theorem dX5_moveAsCvt_242 : decode cX5_moveAsCvt 242 = .ok (.getfield 12, 3) := by decide +kernel
theorem dX5_moveAsCvt_245 : decode cX5_moveAsCvt 245 = .ok (.iload 11, 2) := by decide +kernel
theorem dX5_moveAsCvt_247 : decode cX5_moveAsCvt 247 = .ok (.ifCond .eq 8, 3) := by decide +kernel
theorem dX5_moveAsCvt_250 : decode cX5_moveAsCvt 250 = .ok (.lload 9, 2) := by decide +kernel
theorem dX5_moveAsCvt_252 : decode cX5_moveAsCvt 252 = .ok (.goto 5, 3) := by decide +kernel
theorem dX5_moveAsCvt_255 : decode cX5_moveAsCvt 255 = .ok (.lload 7, 2) := by decide +kernel
theorem dX5_moveAsCvt_257 : decode cX5_moveAsCvt 257 = .ok (.invokevirtual 414, 3) := by decide +kernel
theorem dX5_moveAsCvt_260 : decode cX5_moveAsCvt 260 = .ok (.lstore 7, 2) := by decide +kernel
theorem dX5_moveAsCvt_262 : decode cX5_moveAsCvt 262 = .ok (.iload_n 1, 1) := by decide +kernel
theorem dX5_moveAsCvt_263 : decode cX5_moveAsCvt 263 = .ok (.bipush 8, 2) := by decide +kernel
theorem dX5_moveAsCvt_265 : decode cX5_moveAsCvt 265 = .ok (.iand, 1) := by decide +kernel
theorem dX5_moveAsCvt_266 : decode cX5_moveAsCvt 266 = .ok (.ifCond .eq 13, 3) := by decide +kernel
theorem dX5_moveAsCvt_269 : decode cX5_moveAsCvt 269 = .ok (.aload_n 0, 1) := by decide +kernel
theorem dX5_moveAsCvt_270 : decode cX5_moveAsCvt 270 = .ok (.lload 7, 2) := by decide +kernel
theorem dX5_moveAsCvt_272 : decode cX5_moveAsCvt 272 = .ok (.lload 9, 2) := by decide +kernel
theorem dX5_moveAsCvt_274 : decode cX5_moveAsCvt 274 = .ok (.invokevirtual 544, 3) := by decide +kernel
theorem dX5_moveAsCvt_277 : decode cX5_moveAsCvt 277 = .ok (.lstore 7, 2) := by decide +kernel
theorem dX5_moveAsCvt_279 : decode cX5_moveAsCvt 279 = .ok (.aload_n 0, 1) := by decide +kernel
theorem dX5_moveAsCvt_280 : decode cX5_moveAsCvt 280 = .ok (.aload 4, 2) := by decide +kernel
theorem dX5_moveAsCvt_282 : decode cX5_moveAsCvt 282 = .ok (.iload_n 3, 1) := by decide +kernel
theorem dX5_moveAsCvt_283 : decode cX5_moveAsCvt 283 = .ok (.lload 7, 2) := by decide +kernel
theorem dX5_moveAsCvt_285 : decode cX5_moveAsCvt 285 = .ok (.aload_n 0, 1) := by decide +kernel
theorem dX5_moveAsCvt_286 : decode cX5_moveAsCvt 286 = .ok (.aload 4, 2) := by decide +kernel
theorem dX5_moveAsCvt_288 : decode cX5_moveAsCvt 288 = .ok (.iload_n 3, 1) := by decide +kernel
theorem dX5_moveAsCvt_289 : decode cX5_moveAsCvt 289 = .ok (.aload 5, 2) := by decide +kernel
theorem dX5_moveAsCvt_291 : decode cX5_moveAsCvt 291 = .ok (.iload 6, 2) := by decide +kernel
theorem dX5_moveAsCvt_293 : decode cX5_moveAsCvt 293 = .ok (.invokevirtual 455, 3) := by decide +kernel
theorem dX5_moveAsCvt_296 : decode cX5_moveAsCvt 296 = .ok (.lsub, 1) := by decide +kernel
theorem dX5_moveAsCvt_297 : decode cX5_moveAsCvt 297 = .ok (.invokevirtual 461, 3) := by decide +kernel
theorem dX5_moveAsCvt_300 : decode cX5_moveAsCvt 300 = .ok (.aload_n 0, 1) := by decide +kernel
theorem dX5_moveAsCvt_301 : decode cX5_moveAsCvt 301 = .ok (.iload_n 3, 1) := by decide +kernel
theorem dX5_moveAsCvt_302 : decode cX5_moveAsCvt 302 = .ok (.iload_n 1, 1) := by decide +kernel
theorem dX5_moveAsCvt_303 : decode cX5_moveAsCvt 303 = .ok (.bipush 16, 2) := by decide +kernel
theorem dX5_moveAsCvt_305 : decode cX5_moveAsCvt 305 = .ok (.iand, 1) := by decide +kernel
theorem dX5_moveAsCvt_306 : decode cX5_moveAsCvt 306 = .ok (.ifCond .eq 7, 3) := by decide +kernel
theorem dX5_moveAsCvt_309 : decode cX5_moveAsCvt 309 = .ok (.iconst 1, 1) := by decide +kernel
theorem dX5_moveAsCvt_310 : decode cX5_moveAsCvt 310 = .ok (.goto 4, 3) := by decide +kernel
theorem dX5_moveAsCvt_313 : decode cX5_moveAsCvt 313 = .ok (.iconst 0, 1) := by decide +kernel
theorem dX5_moveAsCvt_314 : decode cX5_moveAsCvt 314 = .ok (.invokevirtual 534, 3) := by decide +kernel
theorem dX5_moveAsCvt_317 : decode cX5_moveAsCvt 317 = .ok (.return_, 1) := by decide +kernel
def B_X5_moveAsCvt_314  (s1 : Int32) (s2 : Int32) (V : sv_V) : Option sv_V := (F_X5_noteReferences s1 s2 V).bind (fun V1 => some V1)
set_option maxRecDepth 20000 in
theorem tB_X5_moveAsCvt_314 {g : sx_G} (hG : sx_Go g) {P : Option Value → sv_V → Prop} {Vr : sv_V} (hP : P none Vr)   {s1 : Int32} {s2 : Int32} {V : sv_V} (h : B_X5_moveAsCvt_314  s1 s2 V = some Vr) : sv_N g qX5_moveAsCvt 2 314 [] [.int s2, .int s1, .ref 69] V P := by
  unfold B_X5_moveAsCvt_314 at h
  obtain ⟨V1, g2, h⟩ := sx_bnd h
  refine sv_cV (pc := 314) (y := qX5_noteReferences) (o := none) (as := [.int s1, .int s2]) (V1 := V1) hG dX5_moveAsCvt_314 l_X5_534 y0X5_noteReferences yvX5_noteReferences rfl (Nat.le_of_ble_eq_true rfl) lay_69 kr_5 (by decide) (Nat.le_of_ble_eq_true rfl) rfl rfl rfl (t_X5_noteReferences hG ⟨rfl, rfl⟩ g2) ?_
  exact sv_vret (pc := 317) dX5_moveAsCvt_317 rfl h hP
def B_X5_moveAsCvt_279  (l1 : Int32) (l3 : Int32) (l4 : Nat) (l5 : Nat) (l6 : Int32) (l7 : Int64) (V : sv_V) : Option sv_V := (F_X5_longBetween l4 l3 l5 l6 V).bind (fun (x5, V3) => (F_X5_move l4 l3 (l7 - x5) V3).bind (fun V6 => if (l1 &&& (16 : Int32)) = 0 then (B_X5_moveAsCvt_314  l3 (0 : Int32) V6) else (B_X5_moveAsCvt_314  l3 (1 : Int32) V6)))
set_option maxRecDepth 20000 in
theorem tB_X5_moveAsCvt_279 {g : sx_G} (hG : sx_Go g) {P : Option Value → sv_V → Prop} {Vr : sv_V} (hP : P none Vr)   {l1 : Int32} {l3 : Int32} {l4 : Nat} {l5 : Nat} {l6 : Int32} {l7 : Int64} {V : sv_V} (h : B_X5_moveAsCvt_279  l1 l3 l4 l5 l6 l7 V = some Vr) : sv_N g qX5_moveAsCvt 2 279 [(0, .ref 69), (1, .int l1), (3, .int l3), (4, .ref l4), (5, .ref l5), (6, .int l6), (7, .long l7)] [] V P := by
  unfold B_X5_moveAsCvt_279 at h
  refine sx_aload_n (pc := 279) dX5_moveAsCvt_279 sx_m0 ?_
  refine sx_aload (pc := 280) dX5_moveAsCvt_280 sx_m3 ?_
  refine sx_iload_n (pc := 282) dX5_moveAsCvt_282 sx_m2 ?_
  refine sx_lload (pc := 283) dX5_moveAsCvt_283 sx_m6 ?_
  refine sx_aload_n (pc := 285) dX5_moveAsCvt_285 sx_m0 ?_
  refine sx_aload (pc := 286) dX5_moveAsCvt_286 sx_m3 ?_
  refine sx_iload_n (pc := 288) dX5_moveAsCvt_288 sx_m2 ?_
  refine sx_aload (pc := 289) dX5_moveAsCvt_289 sx_m4 ?_
  refine sx_iload (pc := 291) dX5_moveAsCvt_291 sx_m5 ?_
  obtain ⟨⟨x5, V3⟩, g4, h⟩ := sx_bnd h
  refine sv_cV (pc := 293) (y := qX5_longBetween) (o := (some (.long x5))) (as := [.ref l4, .int l3, .ref l5, .int l6]) (V1 := V3) hG dX5_moveAsCvt_293 l_X5_455 y0X5_longBetween yvX5_longBetween rfl (Nat.le_of_ble_eq_true rfl) lay_69 kr_5 (by decide) (Nat.le_of_ble_eq_true rfl) rfl rfl rfl (t_X5_longBetween hG ⟨rfl, rfl⟩ g4) ?_
  refine sx_lsub (pc := 296) dX5_moveAsCvt_296 ?_
  obtain ⟨V6, g7, h⟩ := sx_bnd h
  refine sv_cV (pc := 297) (y := qX5_move) (o := none) (as := [.ref l4, .int l3, .long (l7 - x5)]) (V1 := V6) hG dX5_moveAsCvt_297 l_X5_461 y0X5_move yvX5_move rfl (Nat.le_of_ble_eq_true rfl) lay_69 kr_5 (by decide) (Nat.le_of_ble_eq_true rfl) rfl rfl rfl (t_X5_move hG ⟨rfl, rfl⟩ g7) ?_
  refine sx_aload_n (pc := 300) dX5_moveAsCvt_300 sx_m0 ?_
  refine sx_iload_n (pc := 301) dX5_moveAsCvt_301 sx_m2 ?_
  refine sx_iload_n (pc := 302) dX5_moveAsCvt_302 sx_m1 ?_
  refine sx_bipush (pc := 303) (v := 16) dX5_moveAsCvt_303 (by decide) ?_
  refine sx_iand (pc := 305) dX5_moveAsCvt_305 ?_
  refine sx_if_eq (pc := 306) (tgt := 313) dX5_moveAsCvt_306 (by decide) (fun c8 => ?_) (fun c8 => ?_)
  · have h := sx_pos c8 h
    refine sx_iconst (pc := 313) (v := 0) dX5_moveAsCvt_313 (by decide) ?_
    refine sx_wk sx_s0 ?_
    exact tB_X5_moveAsCvt_314 hG hP  h
  · have h := sx_neg c8 h
    refine sx_iconst (pc := 309) (v := 1) dX5_moveAsCvt_309 (by decide) ?_
    refine sx_goto (pc := 310) (tgt := 314) dX5_moveAsCvt_310 (by decide) ?_
    refine sx_wk sx_s0 ?_
    exact tB_X5_moveAsCvt_314 hG hP  h
def B_X5_moveAsCvt_262  (l1 : Int32) (l3 : Int32) (l4 : Nat) (l5 : Nat) (l6 : Int32) (l7 : Int64) (l9 : Int64) (V : sv_V) : Option sv_V := if (l1 &&& (8 : Int32)) = 0 then (B_X5_moveAsCvt_279  l1 l3 l4 l5 l6 l7 V) else ((F_X5_atLeast l7 l9 V).bind (fun (x12, V10) => B_X5_moveAsCvt_279  l1 l3 l4 l5 l6 x12 V10))
set_option maxRecDepth 20000 in
theorem tB_X5_moveAsCvt_262 {g : sx_G} (hG : sx_Go g) {P : Option Value → sv_V → Prop} {Vr : sv_V} (hP : P none Vr)   {l1 : Int32} {l3 : Int32} {l4 : Nat} {l5 : Nat} {l6 : Int32} {l7 : Int64} {l9 : Int64} {V : sv_V} (h : B_X5_moveAsCvt_262  l1 l3 l4 l5 l6 l7 l9 V = some Vr) : sv_N g qX5_moveAsCvt 2 262 [(0, .ref 69), (1, .int l1), (3, .int l3), (4, .ref l4), (5, .ref l5), (6, .int l6), (7, .long l7), (9, .long l9)] [] V P := by
  unfold B_X5_moveAsCvt_262 at h
  refine sx_iload_n (pc := 262) dX5_moveAsCvt_262 sx_m1 ?_
  refine sx_bipush (pc := 263) (v := 8) dX5_moveAsCvt_263 (by decide) ?_
  refine sx_iand (pc := 265) dX5_moveAsCvt_265 ?_
  refine sx_if_eq (pc := 266) (tgt := 279) dX5_moveAsCvt_266 (by decide) (fun c9 => ?_) (fun c9 => ?_)
  · have h := sx_pos c9 h
    refine sx_wk (sx_s1 sx_m0 (sx_s1 sx_m1 (sx_s1 sx_m2 (sx_s1 sx_m3 (sx_s1 sx_m4 (sx_s1 sx_m5 (sx_s1 sx_m6 sx_s0))))))) ?_
    exact tB_X5_moveAsCvt_279 hG hP  h
  · have h := sx_neg c9 h
    refine sx_aload_n (pc := 269) dX5_moveAsCvt_269 sx_m0 ?_
    refine sx_lload (pc := 270) dX5_moveAsCvt_270 sx_m6 ?_
    refine sx_lload (pc := 272) dX5_moveAsCvt_272 sx_m7 ?_
    obtain ⟨⟨x12, V10⟩, g11, h⟩ := sx_bnd h
    refine sv_cV (pc := 274) (y := qX5_atLeast) (o := (some (.long x12))) (as := [.long l7, .long l9]) (V1 := V10) hG dX5_moveAsCvt_274 l_X5_544 y0X5_atLeast yvX5_atLeast rfl (Nat.le_of_ble_eq_true rfl) lay_69 kr_5 (by decide) (Nat.le_of_ble_eq_true rfl) rfl rfl rfl (t_X5_atLeast hG ⟨rfl, rfl⟩ g11) ?_
    refine sx_lstore (pc := 277) (lo' := [(7, .long x12), (0, .ref 69), (1, .int l1), (3, .int l3), (4, .ref l4), (5, .ref l5), (6, .int l6), (9, .long l9)]) dX5_moveAsCvt_277 (by decide) rfl ?_
    refine sx_wk (sx_s1 sx_m1 (sx_s1 sx_m2 (sx_s1 sx_m3 (sx_s1 sx_m4 (sx_s1 sx_m5 (sx_s1 sx_m6 (sx_s1 sx_m0 sx_s0))))))) ?_
    exact tB_X5_moveAsCvt_279 hG hP  h
def B_X5_moveAsCvt_257  (l1 : Int32) (l3 : Int32) (l4 : Nat) (l5 : Nat) (l6 : Int32) (l9 : Int64) (s1 : Int64) (V : sv_V) : Option sv_V := (F_X9_rounded s1 V).bind (fun (x15, V13) => B_X5_moveAsCvt_262  l1 l3 l4 l5 l6 x15 l9 V13)
set_option maxRecDepth 20000 in
theorem tB_X5_moveAsCvt_257 {g : sx_G} (hG : sx_Go g) {P : Option Value → sv_V → Prop} {Vr : sv_V} (hP : P none Vr)   {l1 : Int32} {l3 : Int32} {l4 : Nat} {l5 : Nat} {l6 : Int32} {l9 : Int64} {s1 : Int64} {V : sv_V} (h : B_X5_moveAsCvt_257  l1 l3 l4 l5 l6 l9 s1 V = some Vr) : sv_N g qX5_moveAsCvt 2 257 [(0, .ref 69), (1, .int l1), (3, .int l3), (4, .ref l4), (5, .ref l5), (6, .int l6), (9, .long l9)] [.long s1, .ref 70] V P := by
  unfold B_X5_moveAsCvt_257 at h
  obtain ⟨⟨x15, V13⟩, g14, h⟩ := sx_bnd h
  refine sv_cV (pc := 257) (y := qX9_rounded) (o := (some (.long x15))) (as := [.long s1]) (V1 := V13) hG dX5_moveAsCvt_257 l_X5_414 y0X9_rounded yvX9_rounded rfl (Nat.le_of_ble_eq_true rfl) lay_70 kr_9 (by decide) (Nat.le_of_ble_eq_true rfl) rfl rfl rfl (t_X9_rounded hG ⟨rfl, rfl⟩ g14) ?_
  refine sx_lstore (pc := 260) (lo' := [(7, .long x15), (0, .ref 69), (1, .int l1), (3, .int l3), (4, .ref l4), (5, .ref l5), (6, .int l6), (9, .long l9)]) dX5_moveAsCvt_260 (by decide) rfl ?_
  refine sx_wk (sx_s1 sx_m1 (sx_s1 sx_m2 (sx_s1 sx_m3 (sx_s1 sx_m4 (sx_s1 sx_m5 (sx_s1 sx_m6 (sx_s1 sx_m0 (sx_s1 sx_m7 sx_s0)))))))) ?_
  exact tB_X5_moveAsCvt_262 hG hP  h
def B_X5_moveAsCvt_239  (l1 : Int32) (l3 : Int32) (l4 : Nat) (l5 : Nat) (l6 : Int32) (l7 : Int64) (l9 : Int64) (s0 : Int32) (V : sv_V) : Option sv_V := if s0 = 0 then (B_X5_moveAsCvt_257  l1 l3 l4 l5 l6 l9 l7 V) else (B_X5_moveAsCvt_257  l1 l3 l4 l5 l6 l9 l9 V)
set_option maxRecDepth 20000 in
theorem tB_X5_moveAsCvt_239 {g : sx_G} (hG : sx_Go g) {P : Option Value → sv_V → Prop} {Vr : sv_V} (hP : P none Vr)   {l1 : Int32} {l3 : Int32} {l4 : Nat} {l5 : Nat} {l6 : Int32} {l7 : Int64} {l9 : Int64} {s0 : Int32} {V : sv_V} (h : B_X5_moveAsCvt_239  l1 l3 l4 l5 l6 l7 l9 s0 V = some Vr) : sv_N g qX5_moveAsCvt 2 239 [(0, .ref 69), (1, .int l1), (3, .int l3), (4, .ref l4), (5, .ref l5), (6, .int l6), (7, .long l7), (9, .long l9)] [.int s0] V P := by
  unfold B_X5_moveAsCvt_239 at h
  refine sx_istore (pc := 239) (lo' := [(11, .int s0), (0, .ref 69), (1, .int l1), (3, .int l3), (4, .ref l4), (5, .ref l5), (6, .int l6), (7, .long l7), (9, .long l9)]) dX5_moveAsCvt_239 (by decide) rfl ?_
  refine sx_aload_n (pc := 241) dX5_moveAsCvt_241 sx_m1 ?_
  refine sv_getO (pc := 242) hG dX5_moveAsCvt_242 f_5_12 lay_69 rfl cr_69_1 ?_
  refine sx_iload (pc := 245) dX5_moveAsCvt_245 sx_m0 ?_
  refine sx_if_eq (pc := 247) (tgt := 255) dX5_moveAsCvt_247 (by decide) (fun c16 => ?_) (fun c16 => ?_)
  · have h := sx_pos c16 h
    refine sx_lload (pc := 255) dX5_moveAsCvt_255 sx_m7 ?_
    refine sx_wk (sx_s1 sx_m1 (sx_s1 sx_m2 (sx_s1 sx_m3 (sx_s1 sx_m4 (sx_s1 sx_m5 (sx_s1 sx_m6 (sx_s1 sx_m8 sx_s0))))))) ?_
    exact tB_X5_moveAsCvt_257 hG hP  h
  · have h := sx_neg c16 h
    refine sx_lload (pc := 250) dX5_moveAsCvt_250 sx_m8 ?_
    refine sx_goto (pc := 252) (tgt := 257) dX5_moveAsCvt_252 (by decide) ?_
    refine sx_wk (sx_s1 sx_m1 (sx_s1 sx_m2 (sx_s1 sx_m3 (sx_s1 sx_m4 (sx_s1 sx_m5 (sx_s1 sx_m6 (sx_s1 sx_m8 sx_s0))))))) ?_
    exact tB_X5_moveAsCvt_257 hG hP  h
def B_X5_moveAsCvt_238  (l1 : Int32) (l3 : Int32) (l4 : Nat) (l5 : Nat) (l6 : Int32) (l7 : Int64) (l9 : Int64) (V : sv_V) : Option sv_V := B_X5_moveAsCvt_239  l1 l3 l4 l5 l6 l7 l9 (0 : Int32) V
set_option maxRecDepth 20000 in
theorem tB_X5_moveAsCvt_238 {g : sx_G} (hG : sx_Go g) {P : Option Value → sv_V → Prop} {Vr : sv_V} (hP : P none Vr)   {l1 : Int32} {l3 : Int32} {l4 : Nat} {l5 : Nat} {l6 : Int32} {l7 : Int64} {l9 : Int64} {V : sv_V} (h : B_X5_moveAsCvt_238  l1 l3 l4 l5 l6 l7 l9 V = some Vr) : sv_N g qX5_moveAsCvt 2 238 [(0, .ref 69), (1, .int l1), (3, .int l3), (4, .ref l4), (5, .ref l5), (6, .int l6), (7, .long l7), (9, .long l9)] [] V P := by
  unfold B_X5_moveAsCvt_238 at h
  refine sx_iconst (pc := 238) (v := 0) dX5_moveAsCvt_238 (by decide) ?_
  refine sx_wk (sx_s1 sx_m0 (sx_s1 sx_m1 (sx_s1 sx_m2 (sx_s1 sx_m3 (sx_s1 sx_m4 (sx_s1 sx_m5 (sx_s1 sx_m6 (sx_s1 sx_m7 sx_s0)))))))) ?_
  exact tB_X5_moveAsCvt_239 hG hP  h
def B_X5_moveAsCvt_185  (l1 : Int32) (l3 : Int32) (l4 : Nat) (l5 : Nat) (l6 : Int32) (l7 : Int64) (l9 : Int64) (V : sv_V) : Option sv_V := if (l1 &&& (4 : Int32)) = 0 then (B_X5_moveAsCvt_262  l1 l3 l4 l5 l6 l7 l9 V) else (if (V.1 72 (0 : Int32).toNatClampNeg) = (V.1 72 (1 : Int32).toNatClampNeg) then ((F_J9_abs_067f4 (l7 - l9) V).bind (fun (x21, V19) => (V19.2.2 69 6).bind (fun b22 => if lay b22 = .inl 7 then (cr b22 5).bind (fun b25 => (sv_len 0 b25).bind (fun n27 => if sx_in (0 : Int32) n27 = true then if (lg_cmp x21 ((V19.1 b25 (0 : Int32).toNatClampNeg).toInt64)) ≤ 0 then (B_X5_moveAsCvt_238  l1 l3 l4 l5 l6 l7 l9 V19) else (B_X5_moveAsCvt_239  l1 l3 l4 l5 l6 l7 l9 (1 : Int32) V19) else none)) else none))) else (B_X5_moveAsCvt_238  l1 l3 l4 l5 l6 l7 l9 V))
set_option maxRecDepth 20000 in
theorem tB_X5_moveAsCvt_185 {g : sx_G} (hG : sx_Go g) {P : Option Value → sv_V → Prop} {Vr : sv_V} (hP : P none Vr)   {l1 : Int32} {l3 : Int32} {l4 : Nat} {l5 : Nat} {l6 : Int32} {l7 : Int64} {l9 : Int64} {V : sv_V} (h : B_X5_moveAsCvt_185  l1 l3 l4 l5 l6 l7 l9 V = some Vr) : sv_N g qX5_moveAsCvt 2 185 [(0, .ref 69), (1, .int l1), (3, .int l3), (4, .ref l4), (5, .ref l5), (6, .int l6), (7, .long l7), (9, .long l9)] [] V P := by
  unfold B_X5_moveAsCvt_185 at h
  refine sx_iload_n (pc := 185) dX5_moveAsCvt_185 sx_m1 ?_
  refine sx_iconst (pc := 186) (v := 4) dX5_moveAsCvt_186 (by decide) ?_
  refine sx_iand (pc := 187) dX5_moveAsCvt_187 ?_
  refine sx_if_eq (pc := 188) (tgt := 262) dX5_moveAsCvt_188 (by decide) (fun c17 => ?_) (fun c17 => ?_)
  · have h := sx_pos c17 h
    refine sx_wk (sx_s1 sx_m0 (sx_s1 sx_m1 (sx_s1 sx_m2 (sx_s1 sx_m3 (sx_s1 sx_m4 (sx_s1 sx_m5 (sx_s1 sx_m6 (sx_s1 sx_m7 sx_s0)))))))) ?_
    exact tB_X5_moveAsCvt_262 hG hP  h
  · have h := sx_neg c17 h
    refine sx_aload_n (pc := 191) dX5_moveAsCvt_191 sx_m0 ?_
    refine sv_getO (pc := 192) hG dX5_moveAsCvt_192 f_5_12 lay_69 rfl cr_69_1 ?_
    refine sv_getA (pc := 195) hG dX5_moveAsCvt_195 f_5_172 lay_70 rfl cr_70_7 ?_
    refine sx_iconst (pc := 198) (v := 0) dX5_moveAsCvt_198 (by decide) ?_
    refine sv_iald (pc := 199) hG dX5_moveAsCvt_199 lay_72 (by decide) ?_
    refine sx_aload_n (pc := 200) dX5_moveAsCvt_200 sx_m0 ?_
    refine sv_getO (pc := 201) hG dX5_moveAsCvt_201 f_5_12 lay_69 rfl cr_69_1 ?_
    refine sv_getA (pc := 204) hG dX5_moveAsCvt_204 f_5_172 lay_70 rfl cr_70_7 ?_
    refine sx_iconst (pc := 207) (v := 1) dX5_moveAsCvt_207 (by decide) ?_
    refine sv_iald (pc := 208) hG dX5_moveAsCvt_208 lay_72 (by decide) ?_
    refine sx_icmp_ne (pc := 209) (tgt := 238) dX5_moveAsCvt_209 (by decide) (fun c18 => ?_) (fun c18 => ?_)
    · have h := sx_neg c18 h
      refine sx_wk (sx_s1 sx_m0 (sx_s1 sx_m1 (sx_s1 sx_m2 (sx_s1 sx_m3 (sx_s1 sx_m4 (sx_s1 sx_m5 (sx_s1 sx_m6 (sx_s1 sx_m7 sx_s0)))))))) ?_
      exact tB_X5_moveAsCvt_238 hG hP  h
    · have h := sx_pos c18 h
      refine sx_lload (pc := 212) dX5_moveAsCvt_212 sx_m6 ?_
      refine sx_lload (pc := 214) dX5_moveAsCvt_214 sx_m7 ?_
      refine sx_lsub (pc := 216) dX5_moveAsCvt_216 ?_
      obtain ⟨⟨x21, V19⟩, g20, h⟩ := sx_bnd h
      refine sv_cS (pc := 217) (y := qJ9_abs_067f4) (o := (some (.long x21))) (as := [.long (l7 - l9)]) (V1 := V19) dX5_moveAsCvt_217 l_X5_538 y0J9_abs_067f4 ysJ9_abs_067f4 rfl (Nat.le_of_ble_eq_true rfl) (by decide) (Nat.le_of_ble_eq_true rfl) rfl rfl rfl (t_J9_abs_067f4 hG ⟨rfl, rfl⟩ g20) ?_
      refine sx_aload_n (pc := 220) dX5_moveAsCvt_220 sx_m0 ?_
      obtain ⟨b22, g23, h⟩ := sx_bnd h
      refine sv_getV (pc := 221) hG dX5_moveAsCvt_221 f_5_49 lay_69 rfl rfl g23 ?_
      obtain ⟨g24, h⟩ := sx_grd h
      obtain ⟨b25, g26, h⟩ := sx_bnd h
      refine sv_getA (pc := 224) hG dX5_moveAsCvt_224 f_5_272 g24 rfl g26 ?_
      refine sx_iconst (pc := 227) (v := 0) dX5_moveAsCvt_227 (by decide) ?_
      obtain ⟨n27, g28, h⟩ := sx_bnd h
      obtain ⟨g29, h⟩ := sx_grd h
      refine sv_iald (pc := 228) hG dX5_moveAsCvt_228 (sv_len_e g28) g29 ?_
      refine sx_i2l (pc := 229) dX5_moveAsCvt_229 ?_
      refine sx_lcmp (pc := 230) dX5_moveAsCvt_230 ?_
      refine sx_if_le (pc := 231) (tgt := 238) dX5_moveAsCvt_231 (by decide) (fun c30 => ?_) (fun c30 => ?_)
      · have h := sx_pos c30 h
        refine sx_wk (sx_s1 sx_m0 (sx_s1 sx_m1 (sx_s1 sx_m2 (sx_s1 sx_m3 (sx_s1 sx_m4 (sx_s1 sx_m5 (sx_s1 sx_m6 (sx_s1 sx_m7 sx_s0)))))))) ?_
        exact tB_X5_moveAsCvt_238 hG hP  h
      · have h := sx_neg c30 h
        refine sx_iconst (pc := 234) (v := 1) dX5_moveAsCvt_234 (by decide) ?_
        refine sx_goto (pc := 235) (tgt := 239) dX5_moveAsCvt_235 (by decide) ?_
        refine sx_wk (sx_s1 sx_m0 (sx_s1 sx_m1 (sx_s1 sx_m2 (sx_s1 sx_m3 (sx_s1 sx_m4 (sx_s1 sx_m5 (sx_s1 sx_m6 (sx_s1 sx_m7 sx_s0)))))))) ?_
        exact tB_X5_moveAsCvt_239 hG hP  h
def B_X5_moveAsCvt_177  (l1 : Int32) (l3 : Int32) (l4 : Nat) (l5 : Nat) (l6 : Int32) (l7 : Int64) (l9 : Int64) (s0 : Int32) (s1 : Int32) (V : sv_V) : Option sv_V := if s0 = s1 then (B_X5_moveAsCvt_185  l1 l3 l4 l5 l6 l7 l9 V) else (sx_let (-l7) (fun x32 => B_X5_moveAsCvt_185  l1 l3 l4 l5 l6 x32 l9 V))
set_option maxRecDepth 20000 in
theorem tB_X5_moveAsCvt_177 {g : sx_G} (hG : sx_Go g) {P : Option Value → sv_V → Prop} {Vr : sv_V} (hP : P none Vr)   {l1 : Int32} {l3 : Int32} {l4 : Nat} {l5 : Nat} {l6 : Int32} {l7 : Int64} {l9 : Int64} {s0 : Int32} {s1 : Int32} {V : sv_V} (h : B_X5_moveAsCvt_177  l1 l3 l4 l5 l6 l7 l9 s0 s1 V = some Vr) : sv_N g qX5_moveAsCvt 2 177 [(0, .ref 69), (1, .int l1), (3, .int l3), (4, .ref l4), (5, .ref l5), (6, .int l6), (7, .long l7), (9, .long l9)] [.int s1, .int s0] V P := by
  unfold B_X5_moveAsCvt_177 at h
  refine sx_icmp_eq (pc := 177) (tgt := 185) dX5_moveAsCvt_177 (by decide) (fun c31 => ?_) (fun c31 => ?_)
  · have h := sx_pos c31 h
    refine sx_wk (sx_s1 sx_m0 (sx_s1 sx_m1 (sx_s1 sx_m2 (sx_s1 sx_m3 (sx_s1 sx_m4 (sx_s1 sx_m5 (sx_s1 sx_m6 (sx_s1 sx_m7 sx_s0)))))))) ?_
    exact tB_X5_moveAsCvt_185 hG hP  h
  · have h := sx_neg c31 h
    refine sx_lload (pc := 180) dX5_moveAsCvt_180 sx_m6 ?_
    refine sx_lneg (pc := 182) dX5_moveAsCvt_182 ?_
    refine sv_tJ (fun x32 hx32 => ?_)
    have h := sx_letE hx32 h
    refine sx_lstore (pc := 183) (lo' := [(7, .long x32), (0, .ref 69), (1, .int l1), (3, .int l3), (4, .ref l4), (5, .ref l5), (6, .int l6), (9, .long l9)]) dX5_moveAsCvt_183 (by decide) rfl ?_
    refine sx_wk (sx_s1 sx_m1 (sx_s1 sx_m2 (sx_s1 sx_m3 (sx_s1 sx_m4 (sx_s1 sx_m5 (sx_s1 sx_m6 (sx_s1 sx_m0 (sx_s1 sx_m7 sx_s0)))))))) ?_
    exact tB_X5_moveAsCvt_185 hG hP  h
def B_X5_moveAsCvt_165  (l1 : Int32) (l3 : Int32) (l4 : Nat) (l5 : Nat) (l6 : Int32) (l7 : Int64) (l9 : Int64) (s0 : Int32) (V : sv_V) : Option sv_V := if 0 ≤ (lg_cmp l7 (0 : Int64)) then (B_X5_moveAsCvt_177  l1 l3 l4 l5 l6 l7 l9 s0 (0 : Int32) V) else (B_X5_moveAsCvt_177  l1 l3 l4 l5 l6 l7 l9 s0 (1 : Int32) V)
set_option maxRecDepth 20000 in
theorem tB_X5_moveAsCvt_165 {g : sx_G} (hG : sx_Go g) {P : Option Value → sv_V → Prop} {Vr : sv_V} (hP : P none Vr)   {l1 : Int32} {l3 : Int32} {l4 : Nat} {l5 : Nat} {l6 : Int32} {l7 : Int64} {l9 : Int64} {s0 : Int32} {V : sv_V} (h : B_X5_moveAsCvt_165  l1 l3 l4 l5 l6 l7 l9 s0 V = some Vr) : sv_N g qX5_moveAsCvt 2 165 [(0, .ref 69), (1, .int l1), (3, .int l3), (4, .ref l4), (5, .ref l5), (6, .int l6), (7, .long l7), (9, .long l9)] [.int s0] V P := by
  unfold B_X5_moveAsCvt_165 at h
  refine sx_lload (pc := 165) dX5_moveAsCvt_165 sx_m6 ?_
  refine sx_lconst (pc := 167) (v := 0) dX5_moveAsCvt_167 rfl ?_
  refine sx_lcmp (pc := 168) dX5_moveAsCvt_168 ?_
  refine sx_if_ge (pc := 169) (tgt := 176) dX5_moveAsCvt_169 (by decide) (fun c33 => ?_) (fun c33 => ?_)
  · have h := sx_pos c33 h
    refine sx_iconst (pc := 176) (v := 0) dX5_moveAsCvt_176 (by decide) ?_
    refine sx_wk (sx_s1 sx_m0 (sx_s1 sx_m1 (sx_s1 sx_m2 (sx_s1 sx_m3 (sx_s1 sx_m4 (sx_s1 sx_m5 (sx_s1 sx_m6 (sx_s1 sx_m7 sx_s0)))))))) ?_
    exact tB_X5_moveAsCvt_177 hG hP  h
  · have h := sx_neg c33 h
    refine sx_iconst (pc := 172) (v := 1) dX5_moveAsCvt_172 (by decide) ?_
    refine sx_goto (pc := 173) (tgt := 177) dX5_moveAsCvt_173 (by decide) ?_
    refine sx_wk (sx_s1 sx_m0 (sx_s1 sx_m1 (sx_s1 sx_m2 (sx_s1 sx_m3 (sx_s1 sx_m4 (sx_s1 sx_m5 (sx_s1 sx_m6 (sx_s1 sx_m7 sx_s0)))))))) ?_
    exact tB_X5_moveAsCvt_177 hG hP  h
def B_X5_moveAsCvt_128  (l1 : Int32) (l3 : Int32) (l4 : Nat) (l5 : Nat) (l6 : Int32) (l7 : Int64) (V : sv_V) : Option sv_V := (F_X5_originalBetween l4 l3 l5 l6 V).bind (fun (x36, V34) => (V34.2.2 69 6).bind (fun b37 => if lay b37 = .inl 7 then (cr b37 5).bind (fun b40 => (sv_len 0 b40).bind (fun n42 => if sx_in (4 : Int32) n42 = true then if (V34.1 b40 (4 : Int32).toNatClampNeg) = 0 then (B_X5_moveAsCvt_185  l1 l3 l4 l5 l6 l7 x36 V34) else (if 0 ≤ (lg_cmp x36 (0 : Int64)) then (B_X5_moveAsCvt_165  l1 l3 l4 l5 l6 l7 x36 (0 : Int32) V34) else (B_X5_moveAsCvt_165  l1 l3 l4 l5 l6 l7 x36 (1 : Int32) V34)) else none)) else none))
set_option maxRecDepth 20000 in
theorem tB_X5_moveAsCvt_128 {g : sx_G} (hG : sx_Go g) {P : Option Value → sv_V → Prop} {Vr : sv_V} (hP : P none Vr)   {l1 : Int32} {l3 : Int32} {l4 : Nat} {l5 : Nat} {l6 : Int32} {l7 : Int64} {V : sv_V} (h : B_X5_moveAsCvt_128  l1 l3 l4 l5 l6 l7 V = some Vr) : sv_N g qX5_moveAsCvt 2 128 [(0, .ref 69), (1, .int l1), (3, .int l3), (4, .ref l4), (5, .ref l5), (6, .int l6), (7, .long l7)] [] V P := by
  unfold B_X5_moveAsCvt_128 at h
  refine sx_aload_n (pc := 128) dX5_moveAsCvt_128 sx_m0 ?_
  refine sx_aload (pc := 129) dX5_moveAsCvt_129 sx_m3 ?_
  refine sx_iload_n (pc := 131) dX5_moveAsCvt_131 sx_m2 ?_
  refine sx_aload (pc := 132) dX5_moveAsCvt_132 sx_m4 ?_
  refine sx_iload (pc := 134) dX5_moveAsCvt_134 sx_m5 ?_
  obtain ⟨⟨x36, V34⟩, g35, h⟩ := sx_bnd h
  refine sv_cV (pc := 136) (y := qX5_originalBetween) (o := (some (.long x36))) (as := [.ref l4, .int l3, .ref l5, .int l6]) (V1 := V34) hG dX5_moveAsCvt_136 l_X5_471 y0X5_originalBetween yvX5_originalBetween rfl (Nat.le_of_ble_eq_true rfl) lay_69 kr_5 (by decide) (Nat.le_of_ble_eq_true rfl) rfl rfl rfl (t_X5_originalBetween hG ⟨rfl, rfl⟩ g35) ?_
  refine sx_lstore (pc := 139) (lo' := [(9, .long x36), (0, .ref 69), (1, .int l1), (3, .int l3), (4, .ref l4), (5, .ref l5), (6, .int l6), (7, .long l7)]) dX5_moveAsCvt_139 (by decide) rfl ?_
  refine sx_aload_n (pc := 141) dX5_moveAsCvt_141 sx_m1 ?_
  obtain ⟨b37, g38, h⟩ := sx_bnd h
  refine sv_getV (pc := 142) hG dX5_moveAsCvt_142 f_5_49 lay_69 rfl rfl g38 ?_
  obtain ⟨g39, h⟩ := sx_grd h
  obtain ⟨b40, g41, h⟩ := sx_bnd h
  refine sv_getA (pc := 145) hG dX5_moveAsCvt_145 f_5_272 g39 rfl g41 ?_
  refine sx_iconst (pc := 148) (v := 4) dX5_moveAsCvt_148 (by decide) ?_
  obtain ⟨n42, g43, h⟩ := sx_bnd h
  obtain ⟨g44, h⟩ := sx_grd h
  refine sv_iald (pc := 149) hG dX5_moveAsCvt_149 (sv_len_e g43) g44 ?_
  refine sx_if_eq (pc := 150) (tgt := 185) dX5_moveAsCvt_150 (by decide) (fun c45 => ?_) (fun c45 => ?_)
  · have h := sx_pos c45 h
    refine sx_wk (sx_s1 sx_m1 (sx_s1 sx_m2 (sx_s1 sx_m3 (sx_s1 sx_m4 (sx_s1 sx_m5 (sx_s1 sx_m6 (sx_s1 sx_m7 (sx_s1 sx_m0 sx_s0)))))))) ?_
    exact tB_X5_moveAsCvt_185 hG hP  h
  · have h := sx_neg c45 h
    refine sx_lload (pc := 153) dX5_moveAsCvt_153 sx_m0 ?_
    refine sx_lconst (pc := 155) (v := 0) dX5_moveAsCvt_155 rfl ?_
    refine sx_lcmp (pc := 156) dX5_moveAsCvt_156 ?_
    refine sx_if_ge (pc := 157) (tgt := 164) dX5_moveAsCvt_157 (by decide) (fun c46 => ?_) (fun c46 => ?_)
    · have h := sx_pos c46 h
      refine sx_iconst (pc := 164) (v := 0) dX5_moveAsCvt_164 (by decide) ?_
      refine sx_wk (sx_s1 sx_m1 (sx_s1 sx_m2 (sx_s1 sx_m3 (sx_s1 sx_m4 (sx_s1 sx_m5 (sx_s1 sx_m6 (sx_s1 sx_m7 (sx_s1 sx_m0 sx_s0)))))))) ?_
      exact tB_X5_moveAsCvt_165 hG hP  h
    · have h := sx_neg c46 h
      refine sx_iconst (pc := 160) (v := 1) dX5_moveAsCvt_160 (by decide) ?_
      refine sx_goto (pc := 161) (tgt := 165) dX5_moveAsCvt_161 (by decide) ?_
      refine sx_wk (sx_s1 sx_m1 (sx_s1 sx_m2 (sx_s1 sx_m3 (sx_s1 sx_m4 (sx_s1 sx_m5 (sx_s1 sx_m6 (sx_s1 sx_m7 (sx_s1 sx_m0 sx_s0)))))))) ?_
      exact tB_X5_moveAsCvt_165 hG hP  h
def F_X5_moveAsCvt (l1 : Int32) (V : sv_V) : Option sv_V := (F_X5_pop  V).bind (fun (x49, V47) => (F_X5_pop  V47).bind (fun (x52, V50) => (F_X5_zone (1 : Int32) V50).bind (fun (x55, V53) => (F_X5_zone (0 : Int32) V53).bind (fun (x58, V56) => sx_let (V56.1 71 (0 : Int32).toNatClampNeg) (fun x59 => (F_X5_isThere x55 x52 V56).bind (fun (x62, V60) => if x62 = 0 then (some V60) else ((F_X5_isThere x58 x59 V60).bind (fun (x66, V64) => if x66 = 0 then (some V64) else ((V64.2.2 69 6).bind (fun b68 => (F_X7_hasCvt b68 x49 V64).bind (fun (x72, V70) => if lay b68 = .inl 7 then if x72 = 0 then (sx_let (sv_I V70 69 14 (6 : Int32)) (fun V100 => some V100)) else ((V70.2.2 69 6).bind (fun b75 => if lay b75 = .inl 7 then (cr b75 0).bind (fun b78 => (sv_len 0 b78).bind (fun n80 => if sx_in x49 n80 = true then (F_X5_orSingle ((V70.1 b78 x49.toNatClampNeg).toInt64) V70).bind (fun (x85, V83) => if (V83.1 72 (1 : Int32).toNatClampNeg) = 0 then (if lay x58 = .inl 8 then (cr x58 2).bind (fun b88 => (sv_len 0 b88).bind (fun n90 => if sx_in x59 n90 = true then (cr x58 3).bind (fun b93 => (sv_len 0 b93).bind (fun n95 => if sx_in x59 n95 = true then (F_X5_plant x55 x52 (V83.1 b88 x59.toNatClampNeg) (V83.1 b93 x59.toNatClampNeg) x85 V83).bind (fun V98 => B_X5_moveAsCvt_128  l1 x52 x55 x58 x59 x85 V98) else none)) else none)) else none) else (B_X5_moveAsCvt_128  l1 x52 x55 x58 x59 x85 V83)) else none)) else none)) else none)))))))))))
set_option maxRecDepth 20000 in
theorem t_X5_moveAsCvt {g : sx_G} (hG : sx_Go g) {P : Option Value → sv_V → Prop} {Vr : sv_V} (hP : P none Vr) {l1 : Int32} {V : sv_V} (h : F_X5_moveAsCvt l1 V = some Vr) : sv_N g qX5_moveAsCvt 2 0 [(0, .ref 69), (1, .int l1)] [] V P := by
  unfold F_X5_moveAsCvt at h
  refine sx_aload_n (pc := 0) dX5_moveAsCvt_0 sx_m0 ?_
  obtain ⟨⟨x49, V47⟩, g48, h⟩ := sx_bnd h
  refine sv_cV (pc := 1) (y := qX5_pop) (o := (some (.int x49))) (as := []) (V1 := V47) hG dX5_moveAsCvt_1 l_X5_242 y0X5_pop yvX5_pop rfl (Nat.le_of_ble_eq_true rfl) lay_69 kr_5 (by decide) (Nat.le_of_ble_eq_true rfl) rfl rfl rfl (t_X5_pop hG ⟨rfl, rfl⟩ g48) ?_
  refine sx_istore_n (pc := 4) (lo' := [(2, .int x49), (0, .ref 69), (1, .int l1)]) dX5_moveAsCvt_4 (by decide) rfl ?_
  refine sx_aload_n (pc := 5) dX5_moveAsCvt_5 sx_m1 ?_
  obtain ⟨⟨x52, V50⟩, g51, h⟩ := sx_bnd h
  refine sv_cV (pc := 6) (y := qX5_pop) (o := (some (.int x52))) (as := []) (V1 := V50) hG dX5_moveAsCvt_6 l_X5_242 y0X5_pop yvX5_pop rfl (Nat.le_of_ble_eq_true rfl) lay_69 kr_5 (by decide) (Nat.le_of_ble_eq_true rfl) rfl rfl rfl (t_X5_pop hG ⟨rfl, rfl⟩ g51) ?_
  refine sx_istore_n (pc := 9) (lo' := [(3, .int x52), (2, .int x49), (0, .ref 69), (1, .int l1)]) dX5_moveAsCvt_9 (by decide) rfl ?_
  refine sx_aload_n (pc := 10) dX5_moveAsCvt_10 sx_m2 ?_
  refine sx_iconst (pc := 11) (v := 1) dX5_moveAsCvt_11 (by decide) ?_
  obtain ⟨⟨x55, V53⟩, g54, h⟩ := sx_bnd h
  refine sv_cV (pc := 12) (y := qX5_zone) (o := (some (.ref x55))) (as := [.int (1 : Int32)]) (V1 := V53) hG dX5_moveAsCvt_12 l_X5_255 y0X5_zone yvX5_zone rfl (Nat.le_of_ble_eq_true rfl) lay_69 kr_5 (by decide) (Nat.le_of_ble_eq_true rfl) rfl rfl rfl (t_X5_zone hG ⟨rfl, rfl⟩ g54) ?_
  refine sx_astore (pc := 15) (lo' := [(4, .ref x55), (3, .int x52), (2, .int x49), (0, .ref 69), (1, .int l1)]) dX5_moveAsCvt_15 (by decide) rfl ?_
  refine sx_aload_n (pc := 17) dX5_moveAsCvt_17 sx_m3 ?_
  refine sx_iconst (pc := 18) (v := 0) dX5_moveAsCvt_18 (by decide) ?_
  obtain ⟨⟨x58, V56⟩, g57, h⟩ := sx_bnd h
  refine sv_cV (pc := 19) (y := qX5_zone) (o := (some (.ref x58))) (as := [.int (0 : Int32)]) (V1 := V56) hG dX5_moveAsCvt_19 l_X5_255 y0X5_zone yvX5_zone rfl (Nat.le_of_ble_eq_true rfl) lay_69 kr_5 (by decide) (Nat.le_of_ble_eq_true rfl) rfl rfl rfl (t_X5_zone hG ⟨rfl, rfl⟩ g57) ?_
  refine sx_astore (pc := 22) (lo' := [(5, .ref x58), (4, .ref x55), (3, .int x52), (2, .int x49), (0, .ref 69), (1, .int l1)]) dX5_moveAsCvt_22 (by decide) rfl ?_
  refine sx_aload_n (pc := 24) dX5_moveAsCvt_24 sx_m4 ?_
  refine sv_getO (pc := 25) hG dX5_moveAsCvt_25 f_5_12 lay_69 rfl cr_69_1 ?_
  refine sv_getA (pc := 28) hG dX5_moveAsCvt_28 f_5_275 lay_70 rfl cr_70_6 ?_
  refine sx_iconst (pc := 31) (v := 0) dX5_moveAsCvt_31 (by decide) ?_
  refine sv_iald (pc := 32) hG dX5_moveAsCvt_32 lay_71 (by decide) ?_
  refine sv_tI (fun x59 hx59 => ?_)
  have h := sx_letE hx59 h
  refine sx_istore (pc := 33) (lo' := [(6, .int x59), (5, .ref x58), (4, .ref x55), (3, .int x52), (2, .int x49), (0, .ref 69), (1, .int l1)]) dX5_moveAsCvt_33 (by decide) rfl ?_
  refine sx_aload_n (pc := 35) dX5_moveAsCvt_35 sx_m5 ?_
  refine sx_aload (pc := 36) dX5_moveAsCvt_36 sx_m2 ?_
  refine sx_iload_n (pc := 38) dX5_moveAsCvt_38 sx_m3 ?_
  obtain ⟨⟨x62, V60⟩, g61, h⟩ := sx_bnd h
  refine sv_cV (pc := 39) (y := qX5_isThere) (o := (some (.int x62))) (as := [.ref x55, .int x52]) (V1 := V60) hG dX5_moveAsCvt_39 l_X5_259 y0X5_isThere yvX5_isThere rfl (Nat.le_of_ble_eq_true rfl) lay_69 kr_5 (by decide) (Nat.le_of_ble_eq_true rfl) rfl rfl rfl (t_X5_isThere hG ⟨rfl, rfl⟩ g61) ?_
  refine sx_if_eq (pc := 42) (tgt := 56) dX5_moveAsCvt_42 (by decide) (fun c63 => ?_) (fun c63 => ?_)
  · have h := sx_pos c63 h
    exact sv_vret (pc := 56) dX5_moveAsCvt_56 rfl h hP
  · have h := sx_neg c63 h
    refine sx_aload_n (pc := 45) dX5_moveAsCvt_45 sx_m5 ?_
    refine sx_aload (pc := 46) dX5_moveAsCvt_46 sx_m1 ?_
    refine sx_iload (pc := 48) dX5_moveAsCvt_48 sx_m0 ?_
    obtain ⟨⟨x66, V64⟩, g65, h⟩ := sx_bnd h
    refine sv_cV (pc := 50) (y := qX5_isThere) (o := (some (.int x66))) (as := [.ref x58, .int x59]) (V1 := V64) hG dX5_moveAsCvt_50 l_X5_259 y0X5_isThere yvX5_isThere rfl (Nat.le_of_ble_eq_true rfl) lay_69 kr_5 (by decide) (Nat.le_of_ble_eq_true rfl) rfl rfl rfl (t_X5_isThere hG ⟨rfl, rfl⟩ g65) ?_
    refine sx_if_ne (pc := 53) (tgt := 57) dX5_moveAsCvt_53 (by decide) (fun c67 => ?_) (fun c67 => ?_)
    · have h := sx_neg c67 h
      refine sx_aload_n (pc := 57) dX5_moveAsCvt_57 sx_m5 ?_
      obtain ⟨b68, g69, h⟩ := sx_bnd h
      refine sv_getV (pc := 58) hG dX5_moveAsCvt_58 f_5_49 lay_69 rfl rfl g69 ?_
      refine sx_iload_n (pc := 61) dX5_moveAsCvt_61 sx_m4 ?_
      obtain ⟨⟨x72, V70⟩, g71, h⟩ := sx_bnd h
      obtain ⟨g73, h⟩ := sx_grd h
      refine sv_cV (pc := 62) (y := qX7_hasCvt) (o := (some (.int x72))) (as := [.int x49]) (V1 := V70) hG dX5_moveAsCvt_62 l_X5_405 y0X7_hasCvt yvX7_hasCvt rfl (Nat.le_of_ble_eq_true rfl) g73 kr_7 (by decide) (Nat.le_of_ble_eq_true rfl) rfl rfl rfl (t_X7_hasCvt hG ⟨rfl, rfl⟩ g71) ?_
      refine sx_if_ne (pc := 65) (tgt := 75) dX5_moveAsCvt_65 (by decide) (fun c74 => ?_) (fun c74 => ?_)
      · have h := sx_neg c74 h
        refine sx_aload_n (pc := 75) dX5_moveAsCvt_75 sx_m5 ?_
        refine sx_aload_n (pc := 76) dX5_moveAsCvt_76 sx_m5 ?_
        obtain ⟨b75, g76, h⟩ := sx_bnd h
        refine sv_getV (pc := 77) hG dX5_moveAsCvt_77 f_5_49 lay_69 rfl rfl g76 ?_
        obtain ⟨g77, h⟩ := sx_grd h
        obtain ⟨b78, g79, h⟩ := sx_bnd h
        refine sv_getA (pc := 80) hG dX5_moveAsCvt_80 f_5_411 g77 rfl g79 ?_
        refine sx_iload_n (pc := 83) dX5_moveAsCvt_83 sx_m4 ?_
        obtain ⟨n80, g81, h⟩ := sx_bnd h
        obtain ⟨g82, h⟩ := sx_grd h
        refine sv_iald (pc := 84) hG dX5_moveAsCvt_84 (sv_len_e g81) g82 ?_
        refine sx_i2l (pc := 85) dX5_moveAsCvt_85 ?_
        obtain ⟨⟨x85, V83⟩, g84, h⟩ := sx_bnd h
        refine sv_cV (pc := 86) (y := qX5_orSingle) (o := (some (.long x85))) (as := [.long ((V70.1 b78 x49.toNatClampNeg).toInt64)]) (V1 := V83) hG dX5_moveAsCvt_86 l_X5_541 y0X5_orSingle yvX5_orSingle rfl (Nat.le_of_ble_eq_true rfl) lay_69 kr_5 (by decide) (Nat.le_of_ble_eq_true rfl) rfl rfl rfl (t_X5_orSingle hG ⟨rfl, rfl⟩ g84) ?_
        refine sx_lstore (pc := 89) (lo' := [(7, .long x85), (6, .int x59), (5, .ref x58), (4, .ref x55), (3, .int x52), (2, .int x49), (0, .ref 69), (1, .int l1)]) dX5_moveAsCvt_89 (by decide) rfl ?_
        refine sx_aload_n (pc := 91) dX5_moveAsCvt_91 sx_m6 ?_
        refine sv_getO (pc := 92) hG dX5_moveAsCvt_92 f_5_12 lay_69 rfl cr_69_1 ?_
        refine sv_getA (pc := 95) hG dX5_moveAsCvt_95 f_5_172 lay_70 rfl cr_70_7 ?_
        refine sx_iconst (pc := 98) (v := 1) dX5_moveAsCvt_98 (by decide) ?_
        refine sv_iald (pc := 99) hG dX5_moveAsCvt_99 lay_72 (by decide) ?_
        refine sx_if_ne (pc := 100) (tgt := 128) dX5_moveAsCvt_100 (by decide) (fun c86 => ?_) (fun c86 => ?_)
        · have h := sx_neg c86 h
          refine sx_wk (sx_s1 sx_m6 (sx_s1 sx_m7 (sx_s1 sx_m4 (sx_s1 sx_m3 (sx_s1 sx_m2 (sx_s1 sx_m1 (sx_s1 sx_m0 sx_s0))))))) ?_
          exact tB_X5_moveAsCvt_128 hG hP  h
        · have h := sx_pos c86 h
          refine sx_aload_n (pc := 103) dX5_moveAsCvt_103 sx_m6 ?_
          refine sx_aload (pc := 104) dX5_moveAsCvt_104 sx_m3 ?_
          refine sx_iload_n (pc := 106) dX5_moveAsCvt_106 sx_m4 ?_
          refine sx_aload (pc := 107) dX5_moveAsCvt_107 sx_m2 ?_
          obtain ⟨g87, h⟩ := sx_grd h
          obtain ⟨b88, g89, h⟩ := sx_bnd h
          refine sv_getA (pc := 109) hG dX5_moveAsCvt_109 f_5_204 g87 rfl g89 ?_
          refine sx_iload (pc := 112) dX5_moveAsCvt_112 sx_m1 ?_
          obtain ⟨n90, g91, h⟩ := sx_bnd h
          obtain ⟨g92, h⟩ := sx_grd h
          refine sv_iald (pc := 114) hG dX5_moveAsCvt_114 (sv_len_e g91) g92 ?_
          refine sx_aload (pc := 115) dX5_moveAsCvt_115 sx_m2 ?_
          obtain ⟨b93, g94, h⟩ := sx_bnd h
          refine sv_getA (pc := 117) hG dX5_moveAsCvt_117 f_5_207 g87 rfl g94 ?_
          refine sx_iload (pc := 120) dX5_moveAsCvt_120 sx_m1 ?_
          obtain ⟨n95, g96, h⟩ := sx_bnd h
          obtain ⟨g97, h⟩ := sx_grd h
          refine sv_iald (pc := 122) hG dX5_moveAsCvt_122 (sv_len_e g96) g97 ?_
          refine sx_lload (pc := 123) dX5_moveAsCvt_123 sx_m0 ?_
          obtain ⟨V98, g99, h⟩ := sx_bnd h
          refine sv_cV (pc := 125) (y := qX5_plant) (o := none) (as := [.ref x55, .int x52, .int (V83.1 b88 x59.toNatClampNeg), .int (V83.1 b93 x59.toNatClampNeg), .long x85]) (V1 := V98) hG dX5_moveAsCvt_125 l_X5_530 y0X5_plant yvX5_plant rfl (Nat.le_of_ble_eq_true rfl) lay_69 kr_5 (by decide) (Nat.le_of_ble_eq_true rfl) rfl rfl rfl (t_X5_plant hG ⟨rfl, rfl⟩ g99) ?_
          refine sx_wk (sx_s1 sx_m6 (sx_s1 sx_m7 (sx_s1 sx_m4 (sx_s1 sx_m3 (sx_s1 sx_m2 (sx_s1 sx_m1 (sx_s1 sx_m0 sx_s0))))))) ?_
          exact tB_X5_moveAsCvt_128 hG hP  h
      · have h := sx_pos c74 h
        refine sx_aload_n (pc := 68) dX5_moveAsCvt_68 sx_m5 ?_
        refine sx_bipush (pc := 69) (v := 6) dX5_moveAsCvt_69 (by decide) ?_
        obtain ⟨V100, hV100⟩ : ∃ z : sv_V, z = sv_I V70 69 14 (6 : Int32) := ⟨_, rfl⟩
        have h := sx_letE hV100 h
        refine sv_putI (pc := 71) hG dX5_moveAsCvt_71 f_5_56 lay_69 rfl hV100 ?_
        exact sv_vret (pc := 74) dX5_moveAsCvt_74 rfl h hP
    · have h := sx_pos c67 h
      exact sv_vret (pc := 56) dX5_moveAsCvt_56 rfl h hP
theorem dX5_deltaCodes_0 : decode cX5_deltaCodes 0 = .ok (.aload_n 0, 1) := by decide +kernel
theorem dX5_deltaCodes_1 : decode cX5_deltaCodes 1 = .ok (.invokevirtual 242, 3) := by decide +kernel
theorem dX5_deltaCodes_4 : decode cX5_deltaCodes 4 = .ok (.istore_n 2, 1) := by decide +kernel
theorem dX5_deltaCodes_5 : decode cX5_deltaCodes 5 = .ok (.iload_n 2, 1) := by decide +kernel
theorem dX5_deltaCodes_6 : decode cX5_deltaCodes 6 = .ok (.ifCond .ge 10, 3) := by decide +kernel
theorem dX5_deltaCodes_9 : decode cX5_deltaCodes 9 = .ok (.aload_n 0, 1) := by decide +kernel
theorem dX5_deltaCodes_10 : decode cX5_deltaCodes 10 = .ok (.bipush 11, 2) := by decide +kernel
theorem dX5_deltaCodes_12 : decode cX5_deltaCodes 12 = .ok (.putfield 56, 3) := by decide +kernel
theorem dX5_deltaCodes_15 : decode cX5_deltaCodes 15 = .ok (.return_, 1) := by decide +kernel
theorem dX5_deltaCodes_16 : decode cX5_deltaCodes 16 = .ok (.ldc2_w 459, 3) := by decide +kernel
theorem dX5_deltaCodes_19 : decode cX5_deltaCodes 19 = .ok (.iload_n 2, 1) := by decide +kernel
theorem dX5_deltaCodes_20 : decode cX5_deltaCodes 20 = .ok (.i2l, 1) := by decide +kernel
theorem dX5_deltaCodes_21 : decode cX5_deltaCodes 21 = .ok (.lmul, 1) := by decide +kernel
theorem dX5_deltaCodes_22 : decode cX5_deltaCodes 22 = .ok (.aload_n 0, 1) := by decide +kernel
theorem dX5_deltaCodes_23 : decode cX5_deltaCodes 23 = .ok (.getfield 96, 3) := by decide +kernel
theorem dX5_deltaCodes_26 : decode cX5_deltaCodes 26 = .ok (.i2l, 1) := by decide +kernel
theorem dX5_deltaCodes_27 : decode cX5_deltaCodes 27 = .ok (.lcmp, 1) := by decide +kernel
theorem dX5_deltaCodes_28 : decode cX5_deltaCodes 28 = .ok (.ifCond .le 9, 3) := by decide +kernel
theorem dX5_deltaCodes_31 : decode cX5_deltaCodes 31 = .ok (.aload_n 0, 1) := by decide +kernel
theorem dX5_deltaCodes_32 : decode cX5_deltaCodes 32 = .ok (.iconst 1, 1) := by decide +kernel
theorem dX5_deltaCodes_33 : decode cX5_deltaCodes 33 = .ok (.putfield 56, 3) := by decide +kernel
theorem dX5_deltaCodes_36 : decode cX5_deltaCodes 36 = .ok (.return_, 1) := by decide +kernel
theorem dX5_deltaCodes_37 : decode cX5_deltaCodes 37 = .ok (.aload_n 0, 1) := by decide +kernel
theorem dX5_deltaCodes_38 : decode cX5_deltaCodes 38 = .ok (.getfield 49, 3) := by decide +kernel
theorem dX5_deltaCodes_41 : decode cX5_deltaCodes 41 = .ok (.getfield 272, 3) := by decide +kernel
theorem dX5_deltaCodes_44 : decode cX5_deltaCodes 44 = .ok (.iconst 5, 1) := by decide +kernel
theorem dX5_deltaCodes_45 : decode cX5_deltaCodes 45 = .ok (.iaload, 1) := by decide +kernel
theorem dX5_deltaCodes_46 : decode cX5_deltaCodes 46 = .ok (.i2l, 1) := by decide +kernel
theorem dX5_deltaCodes_47 : decode cX5_deltaCodes 47 = .ok (.lstore_n 3, 1) := by decide +kernel
theorem dX5_deltaCodes_48 : decode cX5_deltaCodes 48 = .ok (.iload_n 1, 1) := by decide +kernel
theorem dX5_deltaCodes_49 : decode cX5_deltaCodes 49 = .ok (.bipush 113, 2) := by decide +kernel
theorem dX5_deltaCodes_51 : decode cX5_deltaCodes 51 = .ok (.if_icmp .eq 9, 3) := by decide +kernel
theorem dX5_deltaCodes_54 : decode cX5_deltaCodes 54 = .ok (.iload_n 1, 1) := by decide +kernel
theorem dX5_deltaCodes_55 : decode cX5_deltaCodes 55 = .ok (.bipush 116, 2) := by decide +kernel
theorem dX5_deltaCodes_57 : decode cX5_deltaCodes 57 = .ok (.if_icmp .ne 12, 3) := by decide +kernel
theorem dX5_deltaCodes_60 : decode cX5_deltaCodes 60 = .ok (.lload_n 3, 1) := by decide +kernel
theorem dX5_deltaCodes_61 : decode cX5_deltaCodes 61 = .ok (.ldc2_w 547, 3) := by decide +kernel
theorem dX5_deltaCodes_64 : decode cX5_deltaCodes 64 = .ok (.ladd, 1) := by decide +kernel
theorem dX5_deltaCodes_65 : decode cX5_deltaCodes 65 = .ok (.lstore_n 3, 1) := by decide +kernel
theorem dX5_deltaCodes_66 : decode cX5_deltaCodes 66 = .ok (.goto 21, 3) := by decide +kernel
theorem dX5_deltaCodes_69 : decode cX5_deltaCodes 69 = .ok (.iload_n 1, 1) := by decide +kernel
theorem dX5_deltaCodes_70 : decode cX5_deltaCodes 70 = .ok (.bipush 114, 2) := by decide +kernel
theorem dX5_deltaCodes_72 : decode cX5_deltaCodes 72 = .ok (.if_icmp .eq 9, 3) := by decide +kernel
theorem dX5_deltaCodes_75 : decode cX5_deltaCodes 75 = .ok (.iload_n 1, 1) := by decide +kernel
theorem dX5_deltaCodes_76 : decode cX5_deltaCodes 76 = .ok (.bipush 117, 2) := by decide +kernel
theorem dX5_deltaCodes_78 : decode cX5_deltaCodes 78 = .ok (.if_icmp .ne 9, 3) := by decide +kernel
theorem dX5_deltaCodes_81 : decode cX5_deltaCodes 81 = .ok (.lload_n 3, 1) := by decide +kernel
theorem dX5_deltaCodes_82 : decode cX5_deltaCodes 82 = .ok (.ldc2_w 549, 3) := by decide +kernel
theorem dX5_deltaCodes_85 : decode cX5_deltaCodes 85 = .ok (.ladd, 1) := by decide +kernel
theorem dX5_deltaCodes_86 : decode cX5_deltaCodes 86 = .ok (.lstore_n 3, 1) := by decide +kernel
theorem dX5_deltaCodes_87 : decode cX5_deltaCodes 87 = .ok (.iconst 0, 1) := by decide +kernel
theorem dX5_deltaCodes_88 : decode cX5_deltaCodes 88 = .ok (.istore 5, 2) := by decide +kernel
theorem dX5_deltaCodes_90 : decode cX5_deltaCodes 90 = .ok (.iload 5, 2) := by decide +kernel
theorem dX5_deltaCodes_92 : decode cX5_deltaCodes 92 = .ok (.iload_n 2, 1) := by decide +kernel
theorem dX5_deltaCodes_93 : decode cX5_deltaCodes 93 = .ok (.if_icmp .ge 111, 3) := by decide +kernel
theorem dX5_deltaCodes_96 : decode cX5_deltaCodes 96 = .ok (.aload_n 0, 1) := by decide +kernel
theorem dX5_deltaCodes_97 : decode cX5_deltaCodes 97 = .ok (.getfield 56, 3) := by decide +kernel
theorem dX5_deltaCodes_100 : decode cX5_deltaCodes 100 = .ok (.ifCond .ne 104, 3) := by decide +kernel
theorem dX5_deltaCodes_103 : decode cX5_deltaCodes 103 = .ok (.aload_n 0, 1) := by decide +kernel
theorem dX5_deltaCodes_104 : decode cX5_deltaCodes 104 = .ok (.invokevirtual 242, 3) := by decide +kernel
theorem dX5_deltaCodes_107 : decode cX5_deltaCodes 107 = .ok (.istore 6, 2) := by decide +kernel
theorem dX5_deltaCodes_109 : decode cX5_deltaCodes 109 = .ok (.aload_n 0, 1) := by decide +kernel
theorem dX5_deltaCodes_110 : decode cX5_deltaCodes 110 = .ok (.invokevirtual 242, 3) := by decide +kernel
theorem dX5_deltaCodes_113 : decode cX5_deltaCodes 113 = .ok (.istore 7, 2) := by decide +kernel
theorem dX5_deltaCodes_115 : decode cX5_deltaCodes 115 = .ok (.aload_n 0, 1) := by decide +kernel
theorem dX5_deltaCodes_116 : decode cX5_deltaCodes 116 = .ok (.getfield 59, 3) := by decide +kernel
theorem dX5_deltaCodes_119 : decode cX5_deltaCodes 119 = .ok (.i2l, 1) := by decide +kernel
theorem dX5_deltaCodes_120 : decode cX5_deltaCodes 120 = .ok (.lload_n 3, 1) := by decide +kernel
theorem dX5_deltaCodes_121 : decode cX5_deltaCodes 121 = .ok (.iload 7, 2) := by decide +kernel
theorem dX5_deltaCodes_123 : decode cX5_deltaCodes 123 = .ok (.iconst 4, 1) := by decide +kernel
theorem dX5_deltaCodes_124 : decode cX5_deltaCodes 124 = .ok (.ishr, 1) := by decide +kernel
theorem dX5_deltaCodes_125 : decode cX5_deltaCodes 125 = .ok (.bipush 15, 2) := by decide +kernel
theorem dX5_deltaCodes_127 : decode cX5_deltaCodes 127 = .ok (.iand, 1) := by decide +kernel
theorem dX5_deltaCodes_128 : decode cX5_deltaCodes 128 = .ok (.i2l, 1) := by decide +kernel
theorem dX5_deltaCodes_129 : decode cX5_deltaCodes 129 = .ok (.ladd, 1) := by decide +kernel
theorem dX5_deltaCodes_130 : decode cX5_deltaCodes 130 = .ok (.lcmp, 1) := by decide +kernel
theorem dX5_deltaCodes_131 : decode cX5_deltaCodes 131 = .ok (.ifCond .ne 67, 3) := by decide +kernel
theorem dX5_deltaCodes_134 : decode cX5_deltaCodes 134 = .ok (.iload 7, 2) := by decide +kernel
theorem dX5_deltaCodes_136 : decode cX5_deltaCodes 136 = .ok (.bipush 15, 2) := by decide +kernel
theorem dX5_deltaCodes_138 : decode cX5_deltaCodes 138 = .ok (.iand, 1) := by decide +kernel
theorem dX5_deltaCodes_139 : decode cX5_deltaCodes 139 = .ok (.bipush 8, 2) := by decide +kernel
theorem dX5_deltaCodes_141 : decode cX5_deltaCodes 141 = .ok (.if_icmp .ge 14, 3) := by decide +kernel
theorem dX5_deltaCodes_144 : decode cX5_deltaCodes 144 = .ok (.iload 7, 2) := by decide +kernel
theorem dX5_deltaCodes_146 : decode cX5_deltaCodes 146 = .ok (.bipush 15, 2) := by decide +kernel
theorem dX5_deltaCodes_148 : decode cX5_deltaCodes 148 = .ok (.iand, 1) := by decide +kernel
theorem dX5_deltaCodes_149 : decode cX5_deltaCodes 149 = .ok (.bipush 8, 2) := by decide +kernel
theorem dX5_deltaCodes_151 : decode cX5_deltaCodes 151 = .ok (.isub, 1) := by decide +kernel
theorem dX5_deltaCodes_152 : decode cX5_deltaCodes 152 = .ok (.goto 11, 3) := by decide +kernel
theorem dX5_deltaCodes_155 : decode cX5_deltaCodes 155 = .ok (.iload 7, 2) := by decide +kernel
theorem dX5_deltaCodes_157 : decode cX5_deltaCodes 157 = .ok (.bipush 15, 2) := by decide +kernel
theorem dX5_deltaCodes_159 : decode cX5_deltaCodes 159 = .ok (.iand, 1) := by decide +kernel
theorem dX5_deltaCodes_160 : decode cX5_deltaCodes 160 = .ok (.bipush 7, 2) := by decide +kernel
theorem dX5_deltaCodes_162 : decode cX5_deltaCodes 162 = .ok (.isub, 1) := by decide +kernel
theorem dX5_deltaCodes_163 : decode cX5_deltaCodes 163 = .ok (.istore 8, 2) := by decide +kernel
theorem dX5_deltaCodes_165 : decode cX5_deltaCodes 165 = .ok (.aload_n 0, 1) := by decide +kernel
theorem dX5_deltaCodes_166 : decode cX5_deltaCodes 166 = .ok (.iload_n 1, 1) := by decide +kernel
theorem dX5_deltaCodes_167 : decode cX5_deltaCodes 167 = .ok (.bipush 115, 2) := by decide +kernel
theorem dX5_deltaCodes_169 : decode cX5_deltaCodes 169 = .ok (.if_icmp .ge 7, 3) := by decide +kernel
theorem dX5_deltaCodes_172 : decode cX5_deltaCodes 172 = .ok (.iconst 1, 1) := by decide +kernel
theorem dX5_deltaCodes_173 : decode cX5_deltaCodes 173 = .ok (.goto 4, 3) := by decide +kernel
theorem dX5_deltaCodes_176 : decode cX5_deltaCodes 176 = .ok (.iconst 0, 1) := by decide +kernel
theorem dX5_deltaCodes_177 : decode cX5_deltaCodes 177 = .ok (.iload 6, 2) := by decide +kernel
theorem dX5_deltaCodes_179 : decode cX5_deltaCodes 179 = .ok (.iload 8, 2) := by decide +kernel
theorem dX5_deltaCodes_181 : decode cX5_deltaCodes 181 = .ok (.bipush 64, 2) := by decide +kernel
theorem dX5_deltaCodes_183 : decode cX5_deltaCodes 183 = .ok (.aload_n 0, 1) := by decide +kernel
theorem dX5_deltaCodes_184 : decode cX5_deltaCodes 184 = .ok (.getfield 49, 3) := by decide +kernel
theorem dX5_deltaCodes_187 : decode cX5_deltaCodes 187 = .ok (.getfield 272, 3) := by decide +kernel
theorem dX5_deltaCodes_190 : decode cX5_deltaCodes 190 = .ok (.bipush 6, 2) := by decide +kernel
theorem dX5_deltaCodes_192 : decode cX5_deltaCodes 192 = .ok (.iaload, 1) := by decide +kernel
theorem dX5_deltaCodes_193 : decode cX5_deltaCodes 193 = .ok (.ishr, 1) := by decide +kernel
theorem dX5_deltaCodes_194 : decode cX5_deltaCodes 194 = .ok (.imul, 1) := by decide +kernel
theorem dX5_deltaCodes_195 : decode cX5_deltaCodes 195 = .ok (.invokevirtual 551, 3) := by decide +kernel
theorem dX5_deltaCodes_198 : decode cX5_deltaCodes 198 = .ok (.iinc 5 1, 3) := by decide +kernel
theorem dX5_deltaCodes_201 : decode cX5_deltaCodes 201 = .ok (.goto (-111), 3) := by decide +kernel
theorem dX5_deltaCodes_204 : decode cX5_deltaCodes 204 = .ok (.return_, 1) := by decide +kernel
def B_X5_deltaCodes_198 (N : Nat) (k90 : Int32 → Int32 → Int64 → Int32 → sv_V → Option sv_V) (l1 : Int32) (l2 : Int32) (l3 : Int64) (l5 : Int32) (V : sv_V) : Option sv_V := sx_let (l5 + 1) (fun x1 => k90 l1 l2 l3 x1 V)
set_option maxRecDepth 20000 in
theorem tB_X5_deltaCodes_198 {g : sx_G} (hG : sx_Go g) {P : Option Value → sv_V → Prop} {Vr : sv_V} (hP : P none Vr) {N : Nat} {k90 : Int32 → Int32 → Int64 → Int32 → sv_V → Option sv_V} (hk90 : ∀ (l1 : Int32) (l2 : Int32) (l3 : Int64) (l5 : Int32) (V : sv_V), k90 l1 l2 l3 l5 V = some Vr → sv_N g qX5_deltaCodes 3 90 [(0, .ref 69), (1, .int l1), (2, .int l2), (3, .long l3), (5, .int l5)] [] V P) {l1 : Int32} {l2 : Int32} {l3 : Int64} {l5 : Int32} {V : sv_V} (h : B_X5_deltaCodes_198 N k90 l1 l2 l3 l5 V = some Vr) : sv_N g qX5_deltaCodes 3 198 [(0, .ref 69), (1, .int l1), (2, .int l2), (3, .long l3), (5, .int l5)] [] V P := by
  unfold B_X5_deltaCodes_198 at h
  obtain ⟨x1, hx1⟩ : ∃ z : Int32, z = l5 + 1 := ⟨_, rfl⟩
  have h := sx_letE hx1 h
  refine sx_iinc (pc := 198) (v := x1) (lo' := [(5, .int x1), (0, .ref 69), (1, .int l1), (2, .int l2), (3, .long l3)]) dX5_deltaCodes_198 sx_m4 (by rw [hx1]; rfl) (by decide) rfl ?_
  refine sx_goto (pc := 201) (tgt := 90) dX5_deltaCodes_201 (by decide) ?_
  refine sx_wk (sx_s1 sx_m1 (sx_s1 sx_m2 (sx_s1 sx_m3 (sx_s1 sx_m4 (sx_s1 sx_m0 sx_s0))))) ?_
  exact hk90 _ _ _ _ _ h
def B_X5_deltaCodes_177 (N : Nat) (k90 : Int32 → Int32 → Int64 → Int32 → sv_V → Option sv_V) (l1 : Int32) (l2 : Int32) (l3 : Int64) (l5 : Int32) (l6 : Int32) (l8 : Int32) (s1 : Int32) (V : sv_V) : Option sv_V := (V.2.2 69 6).bind (fun b2 => if lay b2 = .inl 7 then (cr b2 5).bind (fun b5 => (sv_len 0 b5).bind (fun n7 => if sx_in (6 : Int32) n7 = true then (F_X5_applyDelta s1 l6 (l8 * ((64 : Int32) >>> (V.1 b5 (6 : Int32).toNatClampNeg &&& 31))) V).bind (fun V10 => B_X5_deltaCodes_198 N k90 l1 l2 l3 l5 V10) else none)) else none)
set_option maxRecDepth 20000 in
theorem tB_X5_deltaCodes_177 {g : sx_G} (hG : sx_Go g) {P : Option Value → sv_V → Prop} {Vr : sv_V} (hP : P none Vr) {N : Nat} {k90 : Int32 → Int32 → Int64 → Int32 → sv_V → Option sv_V} (hk90 : ∀ (l1 : Int32) (l2 : Int32) (l3 : Int64) (l5 : Int32) (V : sv_V), k90 l1 l2 l3 l5 V = some Vr → sv_N g qX5_deltaCodes 3 90 [(0, .ref 69), (1, .int l1), (2, .int l2), (3, .long l3), (5, .int l5)] [] V P) {l1 : Int32} {l2 : Int32} {l3 : Int64} {l5 : Int32} {l6 : Int32} {l8 : Int32} {s1 : Int32} {V : sv_V} (h : B_X5_deltaCodes_177 N k90 l1 l2 l3 l5 l6 l8 s1 V = some Vr) : sv_N g qX5_deltaCodes 3 177 [(0, .ref 69), (1, .int l1), (2, .int l2), (3, .long l3), (5, .int l5), (6, .int l6), (8, .int l8)] [.int s1, .ref 69] V P := by
  unfold B_X5_deltaCodes_177 at h
  refine sx_iload (pc := 177) dX5_deltaCodes_177 sx_m5 ?_
  refine sx_iload (pc := 179) dX5_deltaCodes_179 sx_m6 ?_
  refine sx_bipush (pc := 181) (v := 64) dX5_deltaCodes_181 (by decide) ?_
  refine sx_aload_n (pc := 183) dX5_deltaCodes_183 sx_m0 ?_
  obtain ⟨b2, g3, h⟩ := sx_bnd h
  refine sv_getV (pc := 184) hG dX5_deltaCodes_184 f_5_49 lay_69 rfl rfl g3 ?_
  obtain ⟨g4, h⟩ := sx_grd h
  obtain ⟨b5, g6, h⟩ := sx_bnd h
  refine sv_getA (pc := 187) hG dX5_deltaCodes_187 f_5_272 g4 rfl g6 ?_
  refine sx_bipush (pc := 190) (v := 6) dX5_deltaCodes_190 (by decide) ?_
  obtain ⟨n7, g8, h⟩ := sx_bnd h
  obtain ⟨g9, h⟩ := sx_grd h
  refine sv_iald (pc := 192) hG dX5_deltaCodes_192 (sv_len_e g8) g9 ?_
  refine sx_ishr (pc := 193) dX5_deltaCodes_193 ?_
  refine sx_imul (pc := 194) dX5_deltaCodes_194 ?_
  obtain ⟨V10, g11, h⟩ := sx_bnd h
  refine sv_cV (pc := 195) (y := qX5_applyDelta) (o := none) (as := [.int s1, .int l6, .int (l8 * ((64 : Int32) >>> (V.1 b5 (6 : Int32).toNatClampNeg &&& 31)))]) (V1 := V10) hG dX5_deltaCodes_195 l_X5_551 y0X5_applyDelta yvX5_applyDelta rfl (Nat.le_of_ble_eq_true rfl) lay_69 kr_5 (by decide) (Nat.le_of_ble_eq_true rfl) rfl rfl rfl (t_X5_applyDelta hG ⟨rfl, rfl⟩ g11) ?_
  refine sx_wk (sx_s1 sx_m0 (sx_s1 sx_m1 (sx_s1 sx_m2 (sx_s1 sx_m3 (sx_s1 sx_m4 sx_s0))))) ?_
  exact tB_X5_deltaCodes_198 hG hP hk90 h
def B_X5_deltaCodes_163 (N : Nat) (k90 : Int32 → Int32 → Int64 → Int32 → sv_V → Option sv_V) (l1 : Int32) (l2 : Int32) (l3 : Int64) (l5 : Int32) (l6 : Int32) (s0 : Int32) (V : sv_V) : Option sv_V := if (115 : Int32) ≤ l1 then (B_X5_deltaCodes_177 N k90 l1 l2 l3 l5 l6 s0 (0 : Int32) V) else (B_X5_deltaCodes_177 N k90 l1 l2 l3 l5 l6 s0 (1 : Int32) V)
set_option maxRecDepth 20000 in
theorem tB_X5_deltaCodes_163 {g : sx_G} (hG : sx_Go g) {P : Option Value → sv_V → Prop} {Vr : sv_V} (hP : P none Vr) {N : Nat} {k90 : Int32 → Int32 → Int64 → Int32 → sv_V → Option sv_V} (hk90 : ∀ (l1 : Int32) (l2 : Int32) (l3 : Int64) (l5 : Int32) (V : sv_V), k90 l1 l2 l3 l5 V = some Vr → sv_N g qX5_deltaCodes 3 90 [(0, .ref 69), (1, .int l1), (2, .int l2), (3, .long l3), (5, .int l5)] [] V P) {l1 : Int32} {l2 : Int32} {l3 : Int64} {l5 : Int32} {l6 : Int32} {s0 : Int32} {V : sv_V} (h : B_X5_deltaCodes_163 N k90 l1 l2 l3 l5 l6 s0 V = some Vr) : sv_N g qX5_deltaCodes 3 163 [(0, .ref 69), (1, .int l1), (2, .int l2), (3, .long l3), (5, .int l5), (6, .int l6)] [.int s0] V P := by
  unfold B_X5_deltaCodes_163 at h
  refine sx_istore (pc := 163) (lo' := [(8, .int s0), (0, .ref 69), (1, .int l1), (2, .int l2), (3, .long l3), (5, .int l5), (6, .int l6)]) dX5_deltaCodes_163 (by decide) rfl ?_
  refine sx_aload_n (pc := 165) dX5_deltaCodes_165 sx_m1 ?_
  refine sx_iload_n (pc := 166) dX5_deltaCodes_166 sx_m2 ?_
  refine sx_bipush (pc := 167) (v := 115) dX5_deltaCodes_167 (by decide) ?_
  refine sx_icmp_ge (pc := 169) (tgt := 176) dX5_deltaCodes_169 (by decide) (fun c12 => ?_) (fun c12 => ?_)
  · have h := sx_pos c12 h
    refine sx_iconst (pc := 176) (v := 0) dX5_deltaCodes_176 (by decide) ?_
    refine sx_wk (sx_s1 sx_m1 (sx_s1 sx_m2 (sx_s1 sx_m3 (sx_s1 sx_m4 (sx_s1 sx_m5 (sx_s1 sx_m6 (sx_s1 sx_m0 sx_s0))))))) ?_
    exact tB_X5_deltaCodes_177 hG hP hk90 h
  · have h := sx_neg c12 h
    refine sx_iconst (pc := 172) (v := 1) dX5_deltaCodes_172 (by decide) ?_
    refine sx_goto (pc := 173) (tgt := 177) dX5_deltaCodes_173 (by decide) ?_
    refine sx_wk (sx_s1 sx_m1 (sx_s1 sx_m2 (sx_s1 sx_m3 (sx_s1 sx_m4 (sx_s1 sx_m5 (sx_s1 sx_m6 (sx_s1 sx_m0 sx_s0))))))) ?_
    exact tB_X5_deltaCodes_177 hG hP hk90 h
def B_X5_deltaCodes_90 (N : Nat) (k90 : Int32 → Int32 → Int64 → Int32 → sv_V → Option sv_V) (l1 : Int32) (l2 : Int32) (l3 : Int64) (l5 : Int32) (V : sv_V) : Option sv_V := if l2 ≤ l5 then (some V) else (if (V.1 69 14) = 0 then ((F_X5_pop  V).bind (fun (x17, V15) => (F_X5_pop  V15).bind (fun (x20, V18) => if (lg_cmp ((V18.1 69 12).toInt64) (l3 + (((x20 >>> ((4 : Int32) &&& 31)) &&& (15 : Int32)).toInt64))) = 0 then (if (8 : Int32) ≤ (x20 &&& (15 : Int32)) then (B_X5_deltaCodes_163 N k90 l1 l2 l3 l5 x17 ((x20 &&& (15 : Int32)) - (7 : Int32)) V18) else (B_X5_deltaCodes_163 N k90 l1 l2 l3 l5 x17 ((x20 &&& (15 : Int32)) - (8 : Int32)) V18)) else (B_X5_deltaCodes_198 N k90 l1 l2 l3 l5 V18)))) else (some V))
set_option maxRecDepth 20000 in
theorem tB_X5_deltaCodes_90 {g : sx_G} (hG : sx_Go g) {P : Option Value → sv_V → Prop} {Vr : sv_V} (hP : P none Vr) {N : Nat} {k90 : Int32 → Int32 → Int64 → Int32 → sv_V → Option sv_V} (hk90 : ∀ (l1 : Int32) (l2 : Int32) (l3 : Int64) (l5 : Int32) (V : sv_V), k90 l1 l2 l3 l5 V = some Vr → sv_N g qX5_deltaCodes 3 90 [(0, .ref 69), (1, .int l1), (2, .int l2), (3, .long l3), (5, .int l5)] [] V P) {l1 : Int32} {l2 : Int32} {l3 : Int64} {l5 : Int32} {V : sv_V} (h : B_X5_deltaCodes_90 N k90 l1 l2 l3 l5 V = some Vr) : sv_N g qX5_deltaCodes 3 90 [(0, .ref 69), (1, .int l1), (2, .int l2), (3, .long l3), (5, .int l5)] [] V P := by
  unfold B_X5_deltaCodes_90 at h
  refine sx_iload (pc := 90) dX5_deltaCodes_90 sx_m4 ?_
  refine sx_iload_n (pc := 92) dX5_deltaCodes_92 sx_m2 ?_
  refine sx_icmp_ge (pc := 93) (tgt := 204) dX5_deltaCodes_93 (by decide) (fun c13 => ?_) (fun c13 => ?_)
  · have h := sx_pos c13 h
    exact sv_vret (pc := 204) dX5_deltaCodes_204 rfl h hP
  · have h := sx_neg c13 h
    refine sx_aload_n (pc := 96) dX5_deltaCodes_96 sx_m0 ?_
    refine sv_getI (pc := 97) hG dX5_deltaCodes_97 f_5_56 lay_69 rfl ?_
    refine sx_if_ne (pc := 100) (tgt := 204) dX5_deltaCodes_100 (by decide) (fun c14 => ?_) (fun c14 => ?_)
    · have h := sx_neg c14 h
      exact sv_vret (pc := 204) dX5_deltaCodes_204 rfl h hP
    · have h := sx_pos c14 h
      refine sx_aload_n (pc := 103) dX5_deltaCodes_103 sx_m0 ?_
      obtain ⟨⟨x17, V15⟩, g16, h⟩ := sx_bnd h
      refine sv_cV (pc := 104) (y := qX5_pop) (o := (some (.int x17))) (as := []) (V1 := V15) hG dX5_deltaCodes_104 l_X5_242 y0X5_pop yvX5_pop rfl (Nat.le_of_ble_eq_true rfl) lay_69 kr_5 (by decide) (Nat.le_of_ble_eq_true rfl) rfl rfl rfl (t_X5_pop hG ⟨rfl, rfl⟩ g16) ?_
      refine sx_istore (pc := 107) (lo' := [(6, .int x17), (0, .ref 69), (1, .int l1), (2, .int l2), (3, .long l3), (5, .int l5)]) dX5_deltaCodes_107 (by decide) rfl ?_
      refine sx_aload_n (pc := 109) dX5_deltaCodes_109 sx_m1 ?_
      obtain ⟨⟨x20, V18⟩, g19, h⟩ := sx_bnd h
      refine sv_cV (pc := 110) (y := qX5_pop) (o := (some (.int x20))) (as := []) (V1 := V18) hG dX5_deltaCodes_110 l_X5_242 y0X5_pop yvX5_pop rfl (Nat.le_of_ble_eq_true rfl) lay_69 kr_5 (by decide) (Nat.le_of_ble_eq_true rfl) rfl rfl rfl (t_X5_pop hG ⟨rfl, rfl⟩ g19) ?_
      refine sx_istore (pc := 113) (lo' := [(7, .int x20), (6, .int x17), (0, .ref 69), (1, .int l1), (2, .int l2), (3, .long l3), (5, .int l5)]) dX5_deltaCodes_113 (by decide) rfl ?_
      refine sx_aload_n (pc := 115) dX5_deltaCodes_115 sx_m2 ?_
      refine sv_getI (pc := 116) hG dX5_deltaCodes_116 f_5_59 lay_69 rfl ?_
      refine sx_i2l (pc := 119) dX5_deltaCodes_119 ?_
      refine sx_lload_n (pc := 120) dX5_deltaCodes_120 sx_m5 ?_
      refine sx_iload (pc := 121) dX5_deltaCodes_121 sx_m0 ?_
      refine sx_iconst (pc := 123) (v := 4) dX5_deltaCodes_123 (by decide) ?_
      refine sx_ishr (pc := 124) dX5_deltaCodes_124 ?_
      refine sx_bipush (pc := 125) (v := 15) dX5_deltaCodes_125 (by decide) ?_
      refine sx_iand (pc := 127) dX5_deltaCodes_127 ?_
      refine sx_i2l (pc := 128) dX5_deltaCodes_128 ?_
      refine sx_ladd (pc := 129) dX5_deltaCodes_129 ?_
      refine sx_lcmp (pc := 130) dX5_deltaCodes_130 ?_
      refine sx_if_ne (pc := 131) (tgt := 198) dX5_deltaCodes_131 (by decide) (fun c21 => ?_) (fun c21 => ?_)
      · have h := sx_neg c21 h
        refine sx_wk (sx_s1 sx_m2 (sx_s1 sx_m3 (sx_s1 sx_m4 (sx_s1 sx_m5 (sx_s1 sx_m6 sx_s0))))) ?_
        exact tB_X5_deltaCodes_198 hG hP hk90 h
      · have h := sx_pos c21 h
        refine sx_iload (pc := 134) dX5_deltaCodes_134 sx_m0 ?_
        refine sx_bipush (pc := 136) (v := 15) dX5_deltaCodes_136 (by decide) ?_
        refine sx_iand (pc := 138) dX5_deltaCodes_138 ?_
        refine sx_bipush (pc := 139) (v := 8) dX5_deltaCodes_139 (by decide) ?_
        refine sx_icmp_ge (pc := 141) (tgt := 155) dX5_deltaCodes_141 (by decide) (fun c22 => ?_) (fun c22 => ?_)
        · have h := sx_pos c22 h
          refine sx_iload (pc := 155) dX5_deltaCodes_155 sx_m0 ?_
          refine sx_bipush (pc := 157) (v := 15) dX5_deltaCodes_157 (by decide) ?_
          refine sx_iand (pc := 159) dX5_deltaCodes_159 ?_
          refine sx_bipush (pc := 160) (v := 7) dX5_deltaCodes_160 (by decide) ?_
          refine sx_isub (pc := 162) dX5_deltaCodes_162 ?_
          refine sx_wk (sx_s1 sx_m2 (sx_s1 sx_m3 (sx_s1 sx_m4 (sx_s1 sx_m5 (sx_s1 sx_m6 (sx_s1 sx_m1 sx_s0)))))) ?_
          exact tB_X5_deltaCodes_163 hG hP hk90 h
        · have h := sx_neg c22 h
          refine sx_iload (pc := 144) dX5_deltaCodes_144 sx_m0 ?_
          refine sx_bipush (pc := 146) (v := 15) dX5_deltaCodes_146 (by decide) ?_
          refine sx_iand (pc := 148) dX5_deltaCodes_148 ?_
          refine sx_bipush (pc := 149) (v := 8) dX5_deltaCodes_149 (by decide) ?_
          refine sx_isub (pc := 151) dX5_deltaCodes_151 ?_
          refine sx_goto (pc := 152) (tgt := 163) dX5_deltaCodes_152 (by decide) ?_
          refine sx_wk (sx_s1 sx_m2 (sx_s1 sx_m3 (sx_s1 sx_m4 (sx_s1 sx_m5 (sx_s1 sx_m6 (sx_s1 sx_m1 sx_s0)))))) ?_
          exact tB_X5_deltaCodes_163 hG hP hk90 h
theorem tL_X5_deltaCodes_90 {g : sx_G} (hG : sx_Go g) {P : Option Value → sv_V → Prop} {Vr : sv_V} (hP : P none Vr) {N : Nat}   : ∀ (n : Nat) (l1 : Int32) (l2 : Int32) (l3 : Int64) (l5 : Int32) (V : sv_V), sx_lp5 (B_X5_deltaCodes_90 N ) n l1 l2 l3 l5 V = some Vr → sv_N g qX5_deltaCodes 3 90 [(0, .ref 69), (1, .int l1), (2, .int l2), (3, .long l3), (5, .int l5)] [] V P :=
  sx_lp5_ind (fun k0 ih _ _ _ _ V h => tB_X5_deltaCodes_90 hG hP ih h)
def B_X5_deltaCodes_87 (N : Nat)  (l1 : Int32) (l2 : Int32) (l3 : Int64) (V : sv_V) : Option sv_V := sx_lp5 (B_X5_deltaCodes_90 N ) N l1 l2 l3 (0 : Int32) V
set_option maxRecDepth 20000 in
theorem tB_X5_deltaCodes_87 {g : sx_G} (hG : sx_Go g) {P : Option Value → sv_V → Prop} {Vr : sv_V} (hP : P none Vr) {N : Nat}   {l1 : Int32} {l2 : Int32} {l3 : Int64} {V : sv_V} (h : B_X5_deltaCodes_87 N  l1 l2 l3 V = some Vr) : sv_N g qX5_deltaCodes 3 87 [(0, .ref 69), (1, .int l1), (2, .int l2), (3, .long l3)] [] V P := by
  unfold B_X5_deltaCodes_87 at h
  refine sx_iconst (pc := 87) (v := 0) dX5_deltaCodes_87 (by decide) ?_
  refine sx_istore (pc := 88) (lo' := [(5, .int (0 : Int32)), (0, .ref 69), (1, .int l1), (2, .int l2), (3, .long l3)]) dX5_deltaCodes_88 (by decide) rfl ?_
  refine sx_wk (sx_s1 sx_m1 (sx_s1 sx_m2 (sx_s1 sx_m3 (sx_s1 sx_m4 (sx_s1 sx_m0 sx_s0))))) ?_
  exact tL_X5_deltaCodes_90 hG hP  N _ _ _ _ _ h
def B_X5_deltaCodes_60 (N : Nat)  (l1 : Int32) (l2 : Int32) (l3 : Int64) (V : sv_V) : Option sv_V := sx_let (l3 + (16 : Int64)) (fun x23 => B_X5_deltaCodes_87 N  l1 l2 x23 V)
set_option maxRecDepth 20000 in
theorem tB_X5_deltaCodes_60 {g : sx_G} (hG : sx_Go g) {P : Option Value → sv_V → Prop} {Vr : sv_V} (hP : P none Vr) {N : Nat}   {l1 : Int32} {l2 : Int32} {l3 : Int64} {V : sv_V} (h : B_X5_deltaCodes_60 N  l1 l2 l3 V = some Vr) : sv_N g qX5_deltaCodes 3 60 [(0, .ref 69), (1, .int l1), (2, .int l2), (3, .long l3)] [] V P := by
  unfold B_X5_deltaCodes_60 at h
  refine sx_lload_n (pc := 60) dX5_deltaCodes_60 sx_m3 ?_
  refine sx_ldc2 (pc := 61) dX5_deltaCodes_61 k_X5_547 ?_
  refine sx_ladd (pc := 64) dX5_deltaCodes_64 ?_
  refine sv_tJ (fun x23 hx23 => ?_)
  have h := sx_letE hx23 h
  refine sx_lstore_n (pc := 65) (lo' := [(3, .long x23), (0, .ref 69), (1, .int l1), (2, .int l2)]) dX5_deltaCodes_65 (by decide) rfl ?_
  refine sx_goto (pc := 66) (tgt := 87) dX5_deltaCodes_66 (by decide) ?_
  refine sx_wk (sx_s1 sx_m1 (sx_s1 sx_m2 (sx_s1 sx_m3 (sx_s1 sx_m0 sx_s0)))) ?_
  exact tB_X5_deltaCodes_87 hG hP  h
def B_X5_deltaCodes_81 (N : Nat)  (l1 : Int32) (l2 : Int32) (l3 : Int64) (V : sv_V) : Option sv_V := sx_let (l3 + (32 : Int64)) (fun x24 => B_X5_deltaCodes_87 N  l1 l2 x24 V)
set_option maxRecDepth 20000 in
theorem tB_X5_deltaCodes_81 {g : sx_G} (hG : sx_Go g) {P : Option Value → sv_V → Prop} {Vr : sv_V} (hP : P none Vr) {N : Nat}   {l1 : Int32} {l2 : Int32} {l3 : Int64} {V : sv_V} (h : B_X5_deltaCodes_81 N  l1 l2 l3 V = some Vr) : sv_N g qX5_deltaCodes 3 81 [(0, .ref 69), (1, .int l1), (2, .int l2), (3, .long l3)] [] V P := by
  unfold B_X5_deltaCodes_81 at h
  refine sx_lload_n (pc := 81) dX5_deltaCodes_81 sx_m3 ?_
  refine sx_ldc2 (pc := 82) dX5_deltaCodes_82 k_X5_549 ?_
  refine sx_ladd (pc := 85) dX5_deltaCodes_85 ?_
  refine sv_tJ (fun x24 hx24 => ?_)
  have h := sx_letE hx24 h
  refine sx_lstore_n (pc := 86) (lo' := [(3, .long x24), (0, .ref 69), (1, .int l1), (2, .int l2)]) dX5_deltaCodes_86 (by decide) rfl ?_
  refine sx_wk (sx_s1 sx_m1 (sx_s1 sx_m2 (sx_s1 sx_m3 (sx_s1 sx_m0 sx_s0)))) ?_
  exact tB_X5_deltaCodes_87 hG hP  h
def F_X5_deltaCodes (N : Nat) (l1 : Int32) (V : sv_V) : Option sv_V := (F_X5_pop  V).bind (fun (x27, V25) => if 0 ≤ x27 then (if (lg_cmp ((2 : Int64) * x27.toInt64) ((V25.1 69 5).toInt64)) ≤ 0 then ((V25.2.2 69 6).bind (fun b30 => if lay b30 = .inl 7 then (cr b30 5).bind (fun b33 => (sv_len 0 b33).bind (fun n35 => if sx_in (5 : Int32) n35 = true then sx_let ((V25.1 b33 (5 : Int32).toNatClampNeg).toInt64) (fun x38 => if l1 = (113 : Int32) then (B_X5_deltaCodes_60 N  l1 x27 x38 V25) else (if l1 = (116 : Int32) then (B_X5_deltaCodes_60 N  l1 x27 x38 V25) else (if l1 = (114 : Int32) then (B_X5_deltaCodes_81 N  l1 x27 x38 V25) else (if l1 = (117 : Int32) then (B_X5_deltaCodes_81 N  l1 x27 x38 V25) else (B_X5_deltaCodes_87 N  l1 x27 x38 V25))))) else none)) else none)) else (sx_let (sv_I V25 69 14 (1 : Int32)) (fun V43 => some V43))) else (sx_let (sv_I V25 69 14 (11 : Int32)) (fun V44 => some V44)))
set_option maxRecDepth 20000 in
theorem t_X5_deltaCodes {g : sx_G} (hG : sx_Go g) {P : Option Value → sv_V → Prop} {Vr : sv_V} (hP : P none Vr) {N : Nat} {l1 : Int32} {V : sv_V} (h : F_X5_deltaCodes N l1 V = some Vr) : sv_N g qX5_deltaCodes 3 0 [(0, .ref 69), (1, .int l1)] [] V P := by
  unfold F_X5_deltaCodes at h
  refine sx_aload_n (pc := 0) dX5_deltaCodes_0 sx_m0 ?_
  obtain ⟨⟨x27, V25⟩, g26, h⟩ := sx_bnd h
  refine sv_cV (pc := 1) (y := qX5_pop) (o := (some (.int x27))) (as := []) (V1 := V25) hG dX5_deltaCodes_1 l_X5_242 y0X5_pop yvX5_pop rfl (Nat.le_of_ble_eq_true rfl) lay_69 kr_5 (by decide) (Nat.le_of_ble_eq_true rfl) rfl rfl rfl (t_X5_pop hG ⟨rfl, rfl⟩ g26) ?_
  refine sx_istore_n (pc := 4) (lo' := [(2, .int x27), (0, .ref 69), (1, .int l1)]) dX5_deltaCodes_4 (by decide) rfl ?_
  refine sx_iload_n (pc := 5) dX5_deltaCodes_5 sx_m0 ?_
  refine sx_if_ge (pc := 6) (tgt := 16) dX5_deltaCodes_6 (by decide) (fun c28 => ?_) (fun c28 => ?_)
  · have h := sx_pos c28 h
    refine sx_ldc2 (pc := 16) dX5_deltaCodes_16 k_X5_459 ?_
    refine sx_iload_n (pc := 19) dX5_deltaCodes_19 sx_m0 ?_
    refine sx_i2l (pc := 20) dX5_deltaCodes_20 ?_
    refine sx_lmul (pc := 21) dX5_deltaCodes_21 ?_
    refine sx_aload_n (pc := 22) dX5_deltaCodes_22 sx_m1 ?_
    refine sv_getI (pc := 23) hG dX5_deltaCodes_23 f_5_96 lay_69 rfl ?_
    refine sx_i2l (pc := 26) dX5_deltaCodes_26 ?_
    refine sx_lcmp (pc := 27) dX5_deltaCodes_27 ?_
    refine sx_if_le (pc := 28) (tgt := 37) dX5_deltaCodes_28 (by decide) (fun c29 => ?_) (fun c29 => ?_)
    · have h := sx_pos c29 h
      refine sx_aload_n (pc := 37) dX5_deltaCodes_37 sx_m1 ?_
      obtain ⟨b30, g31, h⟩ := sx_bnd h
      refine sv_getV (pc := 38) hG dX5_deltaCodes_38 f_5_49 lay_69 rfl rfl g31 ?_
      obtain ⟨g32, h⟩ := sx_grd h
      obtain ⟨b33, g34, h⟩ := sx_bnd h
      refine sv_getA (pc := 41) hG dX5_deltaCodes_41 f_5_272 g32 rfl g34 ?_
      refine sx_iconst (pc := 44) (v := 5) dX5_deltaCodes_44 (by decide) ?_
      obtain ⟨n35, g36, h⟩ := sx_bnd h
      obtain ⟨g37, h⟩ := sx_grd h
      refine sv_iald (pc := 45) hG dX5_deltaCodes_45 (sv_len_e g36) g37 ?_
      refine sx_i2l (pc := 46) dX5_deltaCodes_46 ?_
      refine sv_tJ (fun x38 hx38 => ?_)
      have h := sx_letE hx38 h
      refine sx_lstore_n (pc := 47) (lo' := [(3, .long x38), (2, .int x27), (0, .ref 69), (1, .int l1)]) dX5_deltaCodes_47 (by decide) rfl ?_
      refine sx_iload_n (pc := 48) dX5_deltaCodes_48 sx_m3 ?_
      refine sx_bipush (pc := 49) (v := 113) dX5_deltaCodes_49 (by decide) ?_
      refine sx_icmp_eq (pc := 51) (tgt := 60) dX5_deltaCodes_51 (by decide) (fun c39 => ?_) (fun c39 => ?_)
      · have h := sx_pos c39 h
        refine sx_wk (sx_s1 sx_m2 (sx_s1 sx_m3 (sx_s1 sx_m1 (sx_s1 sx_m0 sx_s0)))) ?_
        exact tB_X5_deltaCodes_60 hG hP  h
      · have h := sx_neg c39 h
        refine sx_iload_n (pc := 54) dX5_deltaCodes_54 sx_m3 ?_
        refine sx_bipush (pc := 55) (v := 116) dX5_deltaCodes_55 (by decide) ?_
        refine sx_icmp_ne (pc := 57) (tgt := 69) dX5_deltaCodes_57 (by decide) (fun c40 => ?_) (fun c40 => ?_)
        · have h := sx_neg c40 h
          refine sx_iload_n (pc := 69) dX5_deltaCodes_69 sx_m3 ?_
          refine sx_bipush (pc := 70) (v := 114) dX5_deltaCodes_70 (by decide) ?_
          refine sx_icmp_eq (pc := 72) (tgt := 81) dX5_deltaCodes_72 (by decide) (fun c41 => ?_) (fun c41 => ?_)
          · have h := sx_pos c41 h
            refine sx_wk (sx_s1 sx_m2 (sx_s1 sx_m3 (sx_s1 sx_m1 (sx_s1 sx_m0 sx_s0)))) ?_
            exact tB_X5_deltaCodes_81 hG hP  h
          · have h := sx_neg c41 h
            refine sx_iload_n (pc := 75) dX5_deltaCodes_75 sx_m3 ?_
            refine sx_bipush (pc := 76) (v := 117) dX5_deltaCodes_76 (by decide) ?_
            refine sx_icmp_ne (pc := 78) (tgt := 87) dX5_deltaCodes_78 (by decide) (fun c42 => ?_) (fun c42 => ?_)
            · have h := sx_neg c42 h
              refine sx_wk (sx_s1 sx_m2 (sx_s1 sx_m3 (sx_s1 sx_m1 (sx_s1 sx_m0 sx_s0)))) ?_
              exact tB_X5_deltaCodes_87 hG hP  h
            · have h := sx_pos c42 h
              refine sx_wk (sx_s1 sx_m2 (sx_s1 sx_m3 (sx_s1 sx_m1 (sx_s1 sx_m0 sx_s0)))) ?_
              exact tB_X5_deltaCodes_81 hG hP  h
        · have h := sx_pos c40 h
          refine sx_wk (sx_s1 sx_m2 (sx_s1 sx_m3 (sx_s1 sx_m1 (sx_s1 sx_m0 sx_s0)))) ?_
          exact tB_X5_deltaCodes_60 hG hP  h
    · have h := sx_neg c29 h
      refine sx_aload_n (pc := 31) dX5_deltaCodes_31 sx_m1 ?_
      refine sx_iconst (pc := 32) (v := 1) dX5_deltaCodes_32 (by decide) ?_
      obtain ⟨V43, hV43⟩ : ∃ z : sv_V, z = sv_I V25 69 14 (1 : Int32) := ⟨_, rfl⟩
      have h := sx_letE hV43 h
      refine sv_putI (pc := 33) hG dX5_deltaCodes_33 f_5_56 lay_69 rfl hV43 ?_
      exact sv_vret (pc := 36) dX5_deltaCodes_36 rfl h hP
  · have h := sx_neg c28 h
    refine sx_aload_n (pc := 9) dX5_deltaCodes_9 sx_m1 ?_
    refine sx_bipush (pc := 10) (v := 11) dX5_deltaCodes_10 (by decide) ?_
    obtain ⟨V44, hV44⟩ : ∃ z : sv_V, z = sv_I V25 69 14 (11 : Int32) := ⟨_, rfl⟩
    have h := sx_letE hV44 h
    refine sv_putI (pc := 12) hG dX5_deltaCodes_12 f_5_56 lay_69 rfl hV44 ?_
    exact sv_vret (pc := 15) dX5_deltaCodes_15 rfl h hP
theorem dX6_offset_0 : decode cX6_offset 0 = .ok (.aload_n 0, 1) := by decide +kernel
theorem dX6_offset_1 : decode cX6_offset 1 = .ok (.getfield 47, 3) := by decide +kernel
theorem dX6_offset_4 : decode cX6_offset 4 = .ok (.iload_n 1, 1) := by decide +kernel
theorem dX6_offset_5 : decode cX6_offset 5 = .ok (.i2l, 1) := by decide +kernel
theorem dX6_offset_6 : decode cX6_offset 6 = .ok (.invokevirtual 174, 3) := by decide +kernel
theorem dX6_offset_9 : decode cX6_offset 9 = .ok (.lstore_n 2, 1) := by decide +kernel
theorem dX6_offset_10 : decode cX6_offset 10 = .ok (.aload_n 0, 1) := by decide +kernel
theorem dX6_offset_11 : decode cX6_offset 11 = .ok (.getfield 38, 3) := by decide +kernel
theorem dX6_offset_14 : decode cX6_offset 14 = .ok (.getfield 209, 3) := by decide +kernel
theorem dX6_offset_17 : decode cX6_offset 17 = .ok (.iconst 4, 1) := by decide +kernel
theorem dX6_offset_18 : decode cX6_offset 18 = .ok (.iand, 1) := by decide +kernel
theorem dX6_offset_19 : decode cX6_offset 19 = .ok (.ifCond .eq 10, 3) := by decide +kernel
theorem dX6_offset_22 : decode cX6_offset 22 = .ok (.lload_n 2, 1) := by decide +kernel
theorem dX6_offset_23 : decode cX6_offset 23 = .ok (.invokestatic 255, 3) := by decide +kernel
theorem dX6_offset_26 : decode cX6_offset 26 = .ok (.goto 4, 3) := by decide +kernel
theorem dX6_offset_29 : decode cX6_offset 29 = .ok (.lload_n 2, 1) := by decide +kernel
theorem dX6_offset_30 : decode cX6_offset 30 = .ok (.l2i, 1) := by decide +kernel
theorem dX6_offset_31 : decode cX6_offset 31 = .ok (.ireturn, 1) := by decide +kernel
def F_X6_offset (l1 : Int32) (V : sv_V) : Option (Int32 × sv_V) := (F_X5_scaled l1.toInt64 V).bind (fun (x3, V1) => if ((V1.1 16 7) &&& (4 : Int32)) = 0 then (some (x3.toInt32, V1)) else ((F_X11_toWholePixel x3 V1).bind (fun (x7, V5) => some (x7.toInt32, V5))))
set_option maxRecDepth 20000 in
theorem t_X6_offset {g : sx_G} (hG : sx_Go g) {P : Option Value → sv_V → Prop} {r : Int32} {Vr : sv_V} (hP : P (some (.int r)) Vr) {l1 : Int32} {V : sv_V} (h : F_X6_offset l1 V = some (r, Vr)) : sv_N g qX6_offset 2 0 [(0, .ref 30), (1, .int l1)] [] V P := by
  unfold F_X6_offset at h
  refine sx_aload_n (pc := 0) dX6_offset_0 sx_m0 ?_
  refine sv_getO (pc := 1) hG dX6_offset_1 f_6_47 lay_30 rfl cr_30_2 ?_
  refine sx_iload_n (pc := 4) dX6_offset_4 sx_m1 ?_
  refine sx_i2l (pc := 5) dX6_offset_5 ?_
  obtain ⟨⟨x3, V1⟩, g2, h⟩ := sx_bnd h
  refine sv_cV (pc := 6) (y := qX5_scaled) (o := (some (.long x3))) (as := [.long l1.toInt64]) (V1 := V1) hG dX6_offset_6 l_X6_174 y0X5_scaled yvX5_scaled rfl (Nat.le_of_ble_eq_true rfl) lay_69 kr_5 (by decide) (Nat.le_of_ble_eq_true rfl) rfl rfl rfl (t_X5_scaled hG ⟨rfl, rfl⟩ g2) ?_
  refine sx_lstore_n (pc := 9) (lo' := [(2, .long x3), (0, .ref 30), (1, .int l1)]) dX6_offset_9 (by decide) rfl ?_
  refine sx_aload_n (pc := 10) dX6_offset_10 sx_m1 ?_
  refine sv_getO (pc := 11) hG dX6_offset_11 f_6_38 lay_30 rfl cr_30_1 ?_
  refine sv_getI (pc := 14) hG dX6_offset_14 f_6_209 lay_16 rfl ?_
  refine sx_iconst (pc := 17) (v := 4) dX6_offset_17 (by decide) ?_
  refine sx_iand (pc := 18) dX6_offset_18 ?_
  refine sx_if_eq (pc := 19) (tgt := 29) dX6_offset_19 (by decide) (fun c4 => ?_) (fun c4 => ?_)
  · have h := sx_pos c4 h
    refine sx_lload_n (pc := 29) dX6_offset_29 sx_m0 ?_
    refine sx_l2i (pc := 30) dX6_offset_30 ?_
    exact sv_iret (pc := 31) dX6_offset_31 rfl h hP
  · have h := sx_neg c4 h
    refine sx_lload_n (pc := 22) dX6_offset_22 sx_m0 ?_
    obtain ⟨⟨x7, V5⟩, g6, h⟩ := sx_bnd h
    refine sv_cN (pc := 23) (y := qX11_toWholePixel) (o := (some (.long x7))) (as := [.long x3]) (V1 := V5) dX6_offset_23 n_X6_255 y0X11_toWholePixel ysX11_toWholePixel rfl (Nat.le_of_ble_eq_true rfl) (by decide) (Nat.le_of_ble_eq_true rfl) rfl rfl rfl (t_X11_toWholePixel hG ⟨rfl, rfl⟩ g6) ?_
    refine sx_goto (pc := 26) (tgt := 30) dX6_offset_26 (by decide) ?_
    refine sx_l2i (pc := 30) dX6_offset_30 ?_
    exact sv_iret (pc := 31) dX6_offset_31 rfl h hP
theorem dX7_renew_0 : decode cX7_renew 0 = .ok (.aload_n 0, 1) := by decide +kernel
theorem dX7_renew_1 : decode cX7_renew 1 = .ok (.aload_n 1, 1) := by decide +kernel
theorem dX7_renew_2 : decode cX7_renew 2 = .ok (.getfield 33, 3) := by decide +kernel
theorem dX7_renew_5 : decode cX7_renew 5 = .ok (.bipush 8, 2) := by decide +kernel
theorem dX7_renew_7 : decode cX7_renew 7 = .ok (.iaload, 1) := by decide +kernel
theorem dX7_renew_8 : decode cX7_renew 8 = .ok (.iconst 2, 1) := by decide +kernel
theorem dX7_renew_9 : decode cX7_renew 9 = .ok (.idiv, 1) := by decide +kernel
theorem dX7_renew_10 : decode cX7_renew 10 = .ok (.sipush 256, 3) := by decide +kernel
theorem dX7_renew_13 : decode cX7_renew 13 = .ok (.invokestatic 38, 3) := by decide +kernel
theorem dX7_renew_16 : decode cX7_renew 16 = .ok (.putfield 44, 3) := by decide +kernel
theorem dX7_renew_19 : decode cX7_renew 19 = .ok (.iconst 0, 1) := by decide +kernel
theorem dX7_renew_20 : decode cX7_renew 20 = .ok (.istore_n 3, 1) := by decide +kernel
theorem dX7_renew_21 : decode cX7_renew 21 = .ok (.iload_n 3, 1) := by decide +kernel
theorem dX7_renew_22 : decode cX7_renew 22 = .ok (.aload_n 0, 1) := by decide +kernel
theorem dX7_renew_23 : decode cX7_renew 23 = .ok (.getfield 44, 3) := by decide +kernel
theorem dX7_renew_26 : decode cX7_renew 26 = .ok (.if_icmp .ge 51, 3) := by decide +kernel
theorem dX7_renew_29 : decode cX7_renew 29 = .ok (.aload_n 1, 1) := by decide +kernel
theorem dX7_renew_30 : decode cX7_renew 30 = .ok (.aload_n 1, 1) := by decide +kernel
theorem dX7_renew_31 : decode cX7_renew 31 = .ok (.getfield 48, 3) := by decide +kernel
theorem dX7_renew_34 : decode cX7_renew 34 = .ok (.bipush 8, 2) := by decide +kernel
theorem dX7_renew_36 : decode cX7_renew 36 = .ok (.iaload, 1) := by decide +kernel
theorem dX7_renew_37 : decode cX7_renew 37 = .ok (.iconst 2, 1) := by decide +kernel
theorem dX7_renew_38 : decode cX7_renew 38 = .ok (.iload_n 3, 1) := by decide +kernel
theorem dX7_renew_39 : decode cX7_renew 39 = .ok (.imul, 1) := by decide +kernel
theorem dX7_renew_40 : decode cX7_renew 40 = .ok (.iadd, 1) := by decide +kernel
theorem dX7_renew_41 : decode cX7_renew 41 = .ok (.invokevirtual 51, 3) := by decide +kernel
theorem dX7_renew_44 : decode cX7_renew 44 = .ok (.i2l, 1) := by decide +kernel
theorem dX7_renew_45 : decode cX7_renew 45 = .ok (.lstore 4, 2) := by decide +kernel
theorem dX7_renew_47 : decode cX7_renew 47 = .ok (.aload_n 0, 1) := by decide +kernel
theorem dX7_renew_48 : decode cX7_renew 48 = .ok (.getfield 9, 3) := by decide +kernel
theorem dX7_renew_51 : decode cX7_renew 51 = .ok (.iload_n 3, 1) := by decide +kernel
theorem dX7_renew_52 : decode cX7_renew 52 = .ok (.lload 4, 2) := by decide +kernel
theorem dX7_renew_54 : decode cX7_renew 54 = .ok (.iload_n 2, 1) := by decide +kernel
theorem dX7_renew_55 : decode cX7_renew 55 = .ok (.i2l, 1) := by decide +kernel
theorem dX7_renew_56 : decode cX7_renew 56 = .ok (.lmul, 1) := by decide +kernel
theorem dX7_renew_57 : decode cX7_renew 57 = .ok (.ldc2_w 55, 3) := by decide +kernel
theorem dX7_renew_60 : decode cX7_renew 60 = .ok (.lmul, 1) := by decide +kernel
theorem dX7_renew_61 : decode cX7_renew 61 = .ok (.aload_n 1, 1) := by decide +kernel
theorem dX7_renew_62 : decode cX7_renew 62 = .ok (.getfield 57, 3) := by decide +kernel
theorem dX7_renew_65 : decode cX7_renew 65 = .ok (.i2l, 1) := by decide +kernel
theorem dX7_renew_66 : decode cX7_renew 66 = .ok (.invokestatic 60, 3) := by decide +kernel
theorem dX7_renew_69 : decode cX7_renew 69 = .ok (.l2i, 1) := by decide +kernel
theorem dX7_renew_70 : decode cX7_renew 70 = .ok (.iastore, 1) := by decide +kernel
theorem dX7_renew_71 : decode cX7_renew 71 = .ok (.iinc 3 1, 3) := by decide +kernel
theorem dX7_renew_74 : decode cX7_renew 74 = .ok (.goto (-53), 3) := by decide +kernel
theorem dX7_renew_77 : decode cX7_renew 77 = .ok (.aload_n 0, 1) := by decide +kernel
theorem dX7_renew_78 : decode cX7_renew 78 = .ok (.aload_n 1, 1) := by decide +kernel
theorem dX7_renew_79 : decode cX7_renew 79 = .ok (.getfield 64, 3) := by decide +kernel
theorem dX7_renew_82 : decode cX7_renew 82 = .ok (.iconst 2, 1) := by decide +kernel
theorem dX7_renew_83 : decode cX7_renew 83 = .ok (.iaload, 1) := by decide +kernel
theorem dX7_renew_84 : decode cX7_renew 84 = .ok (.putfield 67, 3) := by decide +kernel
theorem dX7_renew_87 : decode cX7_renew 87 = .ok (.aload_n 0, 1) := by decide +kernel
theorem dX7_renew_88 : decode cX7_renew 88 = .ok (.getfield 15, 3) := by decide +kernel
theorem dX7_renew_91 : decode cX7_renew 91 = .ok (.iconst 0, 1) := by decide +kernel
theorem dX7_renew_92 : decode cX7_renew 92 = .ok (.invokestatic 70, 3) := by decide +kernel
theorem dX7_renew_95 : decode cX7_renew 95 = .ok (.aload_n 0, 1) := by decide +kernel
theorem dX7_renew_96 : decode cX7_renew 96 = .ok (.getfield 23, 3) := by decide +kernel
theorem dX7_renew_99 : decode cX7_renew 99 = .ok (.aload_n 1, 1) := by decide +kernel
theorem dX7_renew_100 : decode cX7_renew 100 = .ok (.getfield 64, 3) := by decide +kernel
theorem dX7_renew_103 : decode cX7_renew 103 = .ok (.iconst 1, 1) := by decide +kernel
theorem dX7_renew_104 : decode cX7_renew 104 = .ok (.iaload, 1) := by decide +kernel
theorem dX7_renew_105 : decode cX7_renew 105 = .ok (.invokevirtual 76, 3) := by decide +kernel
theorem dX7_renew_108 : decode cX7_renew 108 = .ok (.getstatic 27, 3) := by decide +kernel
theorem dX7_renew_111 : decode cX7_renew 111 = .ok (.iconst 0, 1) := by decide +kernel
theorem dX7_renew_112 : decode cX7_renew 112 = .ok (.aload_n 0, 1) := by decide +kernel
theorem dX7_renew_113 : decode cX7_renew 113 = .ok (.getfield 30, 3) := by decide +kernel
theorem dX7_renew_116 : decode cX7_renew 116 = .ok (.iconst 0, 1) := by decide +kernel
theorem dX7_renew_117 : decode cX7_renew 117 = .ok (.aload_n 0, 1) := by decide +kernel
theorem dX7_renew_118 : decode cX7_renew 118 = .ok (.getfield 30, 3) := by decide +kernel
theorem dX7_renew_121 : decode cX7_renew 121 = .ok (.arraylength, 1) := by decide +kernel
theorem dX7_renew_122 : decode cX7_renew 122 = .ok (.invokestatic 80, 3) := by decide +kernel
theorem dX7_renew_125 : decode cX7_renew 125 = .ok (.return_, 1) := by decide +kernel
def B_X7_renew_21 (N : Nat) (k21 : Nat → Int32 → Int32 → sv_V → Option sv_V) (l0 : Nat) (l2 : Int32) (l3 : Int32) (V : sv_V) : Option sv_V := if lay l0 = .inl 7 then if (V.1 l0 1) ≤ l3 then (sx_let (sv_I V l0 3 (V.1 6 (2 : Int32).toNatClampNeg)) (fun V3 => (cr l0 2).bind (fun b4 => (F_J7_fill_53178 N b4 (0 : Int32) V3).bind (fun V6 => (cr l0 4).bind (fun b8 => (F_X8_clearTo N b8 (V6.1 6 (1 : Int32).toNatClampNeg) V6).bind (fun V10 => if lay b8 = .inl 8 then (cr l0 5).bind (fun b13 => (sv_len 0 b13).bind (fun n15 => if sv_cpo (0 : Int32) (Int32.ofNat n15) 9 = true then if sv_cpo (0 : Int32) (Int32.ofNat n15) n15 = true then sx_let (sv_C V10 1003 (0 : Int32).toNatClampNeg b13 (0 : Int32).toNatClampNeg (Int32.ofNat n15).toNatClampNeg) (fun V19 => some V19) else none else none)) else none)))))) else ((F_X2_s2 ((V.1 4 (8 : Int32).toNatClampNeg) + ((2 : Int32) * l3)) V).bind (fun (x22, V20) => sx_let (x22.toInt64) (fun x23 => (cr l0 0).bind (fun b24 => (F_X11_nearest ((x23 * l2.toInt64) * (64 : Int64)) ((V20.1 2 6).toInt64) V20).bind (fun (x28, V26) => (sv_len 0 b24).bind (fun n29 => if sx_in l3 n29 = true then sx_let (sv_I V26 b24 l3.toNatClampNeg x28.toInt32) (fun V32 => sx_let (l3 + 1) (fun x33 => k21 l0 l2 x33 V32)) else none)))))) else none
set_option maxRecDepth 20000 in
theorem tB_X7_renew_21 {g : sx_G} (hG : sx_Go g) {P : Option Value → sv_V → Prop} {Vr : sv_V} (hP : P none Vr) {N : Nat} {k21 : Nat → Int32 → Int32 → sv_V → Option sv_V} (hk21 : ∀ (l0 : Nat) (l2 : Int32) (l3 : Int32) (V : sv_V), k21 l0 l2 l3 V = some Vr → sv_N g qX7_renew 2 21 [(0, .ref l0), (1, .ref 2), (2, .int l2), (3, .int l3)] [] V P) {l0 : Nat} {l2 : Int32} {l3 : Int32} {V : sv_V} (h : B_X7_renew_21 N k21 l0 l2 l3 V = some Vr) : sv_N g qX7_renew 2 21 [(0, .ref l0), (1, .ref 2), (2, .int l2), (3, .int l3)] [] V P := by
  unfold B_X7_renew_21 at h
  refine sx_iload_n (pc := 21) dX7_renew_21 sx_m3 ?_
  refine sx_aload_n (pc := 22) dX7_renew_22 sx_m0 ?_
  obtain ⟨g1, h⟩ := sx_grd h
  refine sv_getI (pc := 23) hG dX7_renew_23 f_7_44 g1 rfl ?_
  refine sx_icmp_ge (pc := 26) (tgt := 77) dX7_renew_26 (by decide) (fun c2 => ?_) (fun c2 => ?_)
  · have h := sx_pos c2 h
    refine sx_aload_n (pc := 77) dX7_renew_77 sx_m0 ?_
    refine sx_aload_n (pc := 78) dX7_renew_78 sx_m1 ?_
    refine sv_getA (pc := 79) hG dX7_renew_79 f_7_64 lay_2 rfl cr_2_10 ?_
    refine sx_iconst (pc := 82) (v := 2) dX7_renew_82 (by decide) ?_
    refine sv_iald (pc := 83) hG dX7_renew_83 lay_6 (by decide) ?_
    obtain ⟨V3, hV3⟩ : ∃ z : sv_V, z = sv_I V l0 3 (V.1 6 (2 : Int32).toNatClampNeg) := ⟨_, rfl⟩
    have h := sx_letE hV3 h
    refine sv_putI (pc := 84) hG dX7_renew_84 f_7_67 g1 rfl hV3 ?_
    refine sx_aload_n (pc := 87) dX7_renew_87 sx_m0 ?_
    obtain ⟨b4, g5, h⟩ := sx_bnd h
    refine sv_getA (pc := 88) hG dX7_renew_88 f_7_15 g1 rfl g5 ?_
    refine sx_iconst (pc := 91) (v := 0) dX7_renew_91 (by decide) ?_
    obtain ⟨V6, g7, h⟩ := sx_bnd h
    refine sv_cS (pc := 92) (y := qJ7_fill_53178) (o := none) (as := [.ref b4, .int (0 : Int32)]) (V1 := V6) dX7_renew_92 l_X7_70 y0J7_fill_53178 ysJ7_fill_53178 rfl (Nat.le_of_ble_eq_true rfl) (by decide) (Nat.le_of_ble_eq_true rfl) rfl rfl rfl (t_J7_fill_53178 hG ⟨rfl, rfl⟩ g7) ?_
    refine sx_aload_n (pc := 95) dX7_renew_95 sx_m0 ?_
    obtain ⟨b8, g9, h⟩ := sx_bnd h
    refine sv_getO (pc := 96) hG dX7_renew_96 f_7_23 g1 rfl g9 ?_
    refine sx_aload_n (pc := 99) dX7_renew_99 sx_m1 ?_
    refine sv_getA (pc := 100) hG dX7_renew_100 f_7_64 lay_2 rfl cr_2_10 ?_
    refine sx_iconst (pc := 103) (v := 1) dX7_renew_103 (by decide) ?_
    refine sv_iald (pc := 104) hG dX7_renew_104 lay_6 (by decide) ?_
    obtain ⟨V10, g11, h⟩ := sx_bnd h
    obtain ⟨g12, h⟩ := sx_grd h
    refine sv_cV (pc := 105) (y := qX8_clearTo) (o := none) (as := [.int (V6.1 6 (1 : Int32).toNatClampNeg)]) (V1 := V10) hG dX7_renew_105 l_X7_76 y0X8_clearTo yvX8_clearTo rfl (Nat.le_of_ble_eq_true rfl) g12 kr_8 (by decide) (Nat.le_of_ble_eq_true rfl) rfl rfl rfl (t_X8_clearTo hG ⟨rfl, rfl⟩ g11) ?_
    refine sv_getS (pc := 108) (j := 2) dX7_renew_108 rfl n_X7_27 ?_
    refine sx_iconst (pc := 111) (v := 0) dX7_renew_111 (by decide) ?_
    refine sx_aload_n (pc := 112) dX7_renew_112 sx_m0 ?_
    obtain ⟨b13, g14, h⟩ := sx_bnd h
    refine sv_getA (pc := 113) hG dX7_renew_113 f_7_30 g1 rfl g14 ?_
    refine sx_iconst (pc := 116) (v := 0) dX7_renew_116 (by decide) ?_
    refine sx_aload_n (pc := 117) dX7_renew_117 sx_m0 ?_
    refine sv_getA (pc := 118) hG dX7_renew_118 f_7_30 g1 rfl g14 ?_
    obtain ⟨n15, g16, h⟩ := sx_bnd h
    refine sv_alen (pc := 121) hG dX7_renew_121 (by decide) (sv_len_e g16) ?_
    obtain ⟨g17, h⟩ := sx_grd h
    obtain ⟨g18, h⟩ := sx_grd h
    obtain ⟨V19, hV19⟩ : ∃ z : sv_V, z = sv_C V10 1003 (0 : Int32).toNatClampNeg b13 (0 : Int32).toNatClampNeg (Int32.ofNat n15).toNatClampNeg := ⟨_, rfl⟩
    have h := sx_letE hV19 h
    refine sv_copyX (pc := 122) hG dX7_renew_122 l_X7_80 lay_1003 (sv_len_e g16) g17 g18 (by decide) (Nat.le_of_ble_eq_true rfl) hV19 ?_
    exact sv_vret (pc := 125) dX7_renew_125 rfl h hP
  · have h := sx_neg c2 h
    refine sx_aload_n (pc := 29) dX7_renew_29 sx_m1 ?_
    refine sx_aload_n (pc := 30) dX7_renew_30 sx_m1 ?_
    refine sv_getA (pc := 31) hG dX7_renew_31 f_7_48 lay_2 rfl cr_2_3 ?_
    refine sx_bipush (pc := 34) (v := 8) dX7_renew_34 (by decide) ?_
    refine sv_iald (pc := 36) hG dX7_renew_36 lay_4 (by decide) ?_
    refine sx_iconst (pc := 37) (v := 2) dX7_renew_37 (by decide) ?_
    refine sx_iload_n (pc := 38) dX7_renew_38 sx_m3 ?_
    refine sx_imul (pc := 39) dX7_renew_39 ?_
    refine sx_iadd (pc := 40) dX7_renew_40 ?_
    obtain ⟨⟨x22, V20⟩, g21, h⟩ := sx_bnd h
    refine sv_cV (pc := 41) (y := qX2_s2) (o := (some (.int x22))) (as := [.int ((V.1 4 (8 : Int32).toNatClampNeg) + ((2 : Int32) * l3))]) (V1 := V20) hG dX7_renew_41 l_X7_51 y0X2_s2 yvX2_s2 rfl (Nat.le_of_ble_eq_true rfl) lay_2 kr_2 (by decide) (Nat.le_of_ble_eq_true rfl) rfl rfl rfl (t_X2_s2 hG ⟨rfl, rfl⟩ g21) ?_
    refine sx_i2l (pc := 44) dX7_renew_44 ?_
    refine sv_tJ (fun x23 hx23 => ?_)
    have h := sx_letE hx23 h
    refine sx_lstore (pc := 45) (lo' := [(4, .long x23), (0, .ref l0), (1, .ref 2), (2, .int l2), (3, .int l3)]) dX7_renew_45 (by decide) rfl ?_
    refine sx_aload_n (pc := 47) dX7_renew_47 sx_m1 ?_
    obtain ⟨b24, g25, h⟩ := sx_bnd h
    refine sv_getA (pc := 48) hG dX7_renew_48 f_7_9 g1 rfl g25 ?_
    refine sx_iload_n (pc := 51) dX7_renew_51 sx_m4 ?_
    refine sx_lload (pc := 52) dX7_renew_52 sx_m0 ?_
    refine sx_iload_n (pc := 54) dX7_renew_54 sx_m3 ?_
    refine sx_i2l (pc := 55) dX7_renew_55 ?_
    refine sx_lmul (pc := 56) dX7_renew_56 ?_
    refine sx_ldc2 (pc := 57) dX7_renew_57 k_X7_55 ?_
    refine sx_lmul (pc := 60) dX7_renew_60 ?_
    refine sx_aload_n (pc := 61) dX7_renew_61 sx_m2 ?_
    refine sv_getI (pc := 62) hG dX7_renew_62 f_7_57 lay_2 rfl ?_
    refine sx_i2l (pc := 65) dX7_renew_65 ?_
    obtain ⟨⟨x28, V26⟩, g27, h⟩ := sx_bnd h
    refine sv_cN (pc := 66) (y := qX11_nearest) (o := (some (.long x28))) (as := [.long ((x23 * l2.toInt64) * (64 : Int64)), .long ((V20.1 2 6).toInt64)]) (V1 := V26) dX7_renew_66 n_X7_60 y0X11_nearest ysX11_nearest rfl (Nat.le_of_ble_eq_true rfl) (by decide) (Nat.le_of_ble_eq_true rfl) rfl rfl rfl (t_X11_nearest hG ⟨rfl, rfl⟩ g27) ?_
    refine sx_l2i (pc := 69) dX7_renew_69 ?_
    obtain ⟨n29, g30, h⟩ := sx_bnd h
    obtain ⟨g31, h⟩ := sx_grd h
    obtain ⟨V32, hV32⟩ : ∃ z : sv_V, z = sv_I V26 b24 l3.toNatClampNeg x28.toInt32 := ⟨_, rfl⟩
    have h := sx_letE hV32 h
    refine sv_iast (pc := 70) hG dX7_renew_70 (sv_len_e g30) g31 hV32 ?_
    obtain ⟨x33, hx33⟩ : ∃ z : Int32, z = l3 + 1 := ⟨_, rfl⟩
    have h := sx_letE hx33 h
    refine sx_iinc (pc := 71) (v := x33) (lo' := [(3, .int x33), (4, .long x23), (0, .ref l0), (1, .ref 2), (2, .int l2)]) dX7_renew_71 sx_m4 (by rw [hx33]; rfl) (by decide) rfl ?_
    refine sx_goto (pc := 74) (tgt := 21) dX7_renew_74 (by decide) ?_
    refine sx_wk (sx_s1 sx_m2 (sx_s1 sx_m3 (sx_s1 sx_m4 (sx_s1 sx_m0 sx_s0)))) ?_
    exact hk21 _ _ _ _ h
theorem tL_X7_renew_21 {g : sx_G} (hG : sx_Go g) {P : Option Value → sv_V → Prop} {Vr : sv_V} (hP : P none Vr) {N : Nat}   : ∀ (n : Nat) (l0 : Nat) (l2 : Int32) (l3 : Int32) (V : sv_V), sx_lp4 (B_X7_renew_21 N ) n l0 l2 l3 V = some Vr → sv_N g qX7_renew 2 21 [(0, .ref l0), (1, .ref 2), (2, .int l2), (3, .int l3)] [] V P :=
  sx_lp4_ind (fun k0 ih _ _ _ V h => tB_X7_renew_21 hG hP ih h)
def F_X7_renew (N : Nat) (l0 : Nat) (l2 : Int32) (V : sv_V) : Option sv_V := (F_J9_min_7cf53 ((V.1 5 (8 : Int32).toNatClampNeg) / (2 : Int32)) (256 : Int32) V).bind (fun (x36, V34) => if lay l0 = .inl 7 then sx_let (sv_I V34 l0 1 x36) (fun V38 => sx_lp4 (B_X7_renew_21 N ) N l0 l2 (0 : Int32) V38) else none)
set_option maxRecDepth 20000 in
theorem t_X7_renew {g : sx_G} (hG : sx_Go g) {P : Option Value → sv_V → Prop} {Vr : sv_V} (hP : P none Vr) {N : Nat} {l0 : Nat} {l2 : Int32} {V : sv_V} (h : F_X7_renew N l0 l2 V = some Vr) : sv_N g qX7_renew 2 0 [(0, .ref l0), (1, .ref 2), (2, .int l2)] [] V P := by
  unfold F_X7_renew at h
  refine sx_aload_n (pc := 0) dX7_renew_0 sx_m0 ?_
  refine sx_aload_n (pc := 1) dX7_renew_1 sx_m1 ?_
  refine sv_getA (pc := 2) hG dX7_renew_2 f_7_33 lay_2 rfl cr_2_4 ?_
  refine sx_bipush (pc := 5) (v := 8) dX7_renew_5 (by decide) ?_
  refine sv_iald (pc := 7) hG dX7_renew_7 lay_5 (by decide) ?_
  refine sx_iconst (pc := 8) (v := 2) dX7_renew_8 (by decide) ?_
  refine sx_idiv (pc := 9) dX7_renew_9 (by decide) ?_
  refine sx_sipush (pc := 10) (v := 256) dX7_renew_10 (by decide) ?_
  obtain ⟨⟨x36, V34⟩, g35, h⟩ := sx_bnd h
  refine sv_cS (pc := 13) (y := qJ9_min_7cf53) (o := (some (.int x36))) (as := [.int ((V.1 5 (8 : Int32).toNatClampNeg) / (2 : Int32)), .int (256 : Int32)]) (V1 := V34) dX7_renew_13 l_X7_38 y0J9_min_7cf53 ysJ9_min_7cf53 rfl (Nat.le_of_ble_eq_true rfl) (by decide) (Nat.le_of_ble_eq_true rfl) rfl rfl rfl (t_J9_min_7cf53 hG ⟨rfl, rfl⟩ g35) ?_
  obtain ⟨g37, h⟩ := sx_grd h
  obtain ⟨V38, hV38⟩ : ∃ z : sv_V, z = sv_I V34 l0 1 x36 := ⟨_, rfl⟩
  have h := sx_letE hV38 h
  refine sv_putI (pc := 16) hG dX7_renew_16 f_7_44 g37 rfl hV38 ?_
  refine sx_iconst (pc := 19) (v := 0) dX7_renew_19 (by decide) ?_
  refine sx_istore_n (pc := 20) (lo' := [(3, .int (0 : Int32)), (0, .ref l0), (1, .ref 2), (2, .int l2)]) dX7_renew_20 (by decide) rfl ?_
  refine sx_wk (sx_s1 sx_m1 (sx_s1 sx_m2 (sx_s1 sx_m3 (sx_s1 sx_m0 sx_s0)))) ?_
  exact tL_X7_renew_21 hG hP  N _ _ _ _ h
theorem dX8_beginProgram_0 : decode cX8_beginProgram 0 = .ok (.iconst 0, 1) := by decide +kernel
theorem dX8_beginProgram_1 : decode cX8_beginProgram 1 = .ok (.istore_n 1, 1) := by decide +kernel
theorem dX8_beginProgram_2 : decode cX8_beginProgram 2 = .ok (.iload_n 1, 1) := by decide +kernel
theorem dX8_beginProgram_3 : decode cX8_beginProgram 3 = .ok (.aload_n 0, 1) := by decide +kernel
theorem dX8_beginProgram_4 : decode cX8_beginProgram 4 = .ok (.getfield 39, 3) := by decide +kernel
theorem dX8_beginProgram_7 : decode cX8_beginProgram 7 = .ok (.if_icmp .ge 43, 3) := by decide +kernel
theorem dX8_beginProgram_10 : decode cX8_beginProgram 10 = .ok (.aload_n 0, 1) := by decide +kernel
theorem dX8_beginProgram_11 : decode cX8_beginProgram 11 = .ok (.getfield 21, 3) := by decide +kernel
theorem dX8_beginProgram_14 : decode cX8_beginProgram 14 = .ok (.aload_n 0, 1) := by decide +kernel
theorem dX8_beginProgram_15 : decode cX8_beginProgram 15 = .ok (.getfield 43, 3) := by decide +kernel
theorem dX8_beginProgram_18 : decode cX8_beginProgram 18 = .ok (.iload_n 1, 1) := by decide +kernel
theorem dX8_beginProgram_19 : decode cX8_beginProgram 19 = .ok (.iadd, 1) := by decide +kernel
theorem dX8_beginProgram_20 : decode cX8_beginProgram 20 = .ok (.aload_n 0, 1) := by decide +kernel
theorem dX8_beginProgram_21 : decode cX8_beginProgram 21 = .ok (.getfield 15, 3) := by decide +kernel
theorem dX8_beginProgram_24 : decode cX8_beginProgram 24 = .ok (.iload_n 1, 1) := by decide +kernel
theorem dX8_beginProgram_25 : decode cX8_beginProgram 25 = .ok (.iaload, 1) := by decide +kernel
theorem dX8_beginProgram_26 : decode cX8_beginProgram 26 = .ok (.iastore, 1) := by decide +kernel
theorem dX8_beginProgram_27 : decode cX8_beginProgram 27 = .ok (.aload_n 0, 1) := by decide +kernel
theorem dX8_beginProgram_28 : decode cX8_beginProgram 28 = .ok (.getfield 24, 3) := by decide +kernel
theorem dX8_beginProgram_31 : decode cX8_beginProgram 31 = .ok (.aload_n 0, 1) := by decide +kernel
theorem dX8_beginProgram_32 : decode cX8_beginProgram 32 = .ok (.getfield 43, 3) := by decide +kernel
theorem dX8_beginProgram_35 : decode cX8_beginProgram 35 = .ok (.iload_n 1, 1) := by decide +kernel
theorem dX8_beginProgram_36 : decode cX8_beginProgram 36 = .ok (.iadd, 1) := by decide +kernel
theorem dX8_beginProgram_37 : decode cX8_beginProgram 37 = .ok (.aload_n 0, 1) := by decide +kernel
theorem dX8_beginProgram_38 : decode cX8_beginProgram 38 = .ok (.getfield 18, 3) := by decide +kernel
theorem dX8_beginProgram_41 : decode cX8_beginProgram 41 = .ok (.iload_n 1, 1) := by decide +kernel
theorem dX8_beginProgram_42 : decode cX8_beginProgram 42 = .ok (.iaload, 1) := by decide +kernel
theorem dX8_beginProgram_43 : decode cX8_beginProgram 43 = .ok (.iastore, 1) := by decide +kernel
theorem dX8_beginProgram_44 : decode cX8_beginProgram 44 = .ok (.iinc 1 1, 3) := by decide +kernel
theorem dX8_beginProgram_47 : decode cX8_beginProgram 47 = .ok (.goto (-45), 3) := by decide +kernel
theorem dX8_beginProgram_50 : decode cX8_beginProgram 50 = .ok (.aload_n 0, 1) := by decide +kernel
theorem dX8_beginProgram_51 : decode cX8_beginProgram 51 = .ok (.getfield 43, 3) := by decide +kernel
theorem dX8_beginProgram_54 : decode cX8_beginProgram 54 = .ok (.aload_n 0, 1) := by decide +kernel
theorem dX8_beginProgram_55 : decode cX8_beginProgram 55 = .ok (.getfield 39, 3) := by decide +kernel
theorem dX8_beginProgram_58 : decode cX8_beginProgram 58 = .ok (.iadd, 1) := by decide +kernel
theorem dX8_beginProgram_59 : decode cX8_beginProgram 59 = .ok (.istore_n 1, 1) := by decide +kernel
theorem dX8_beginProgram_60 : decode cX8_beginProgram 60 = .ok (.aload_n 0, 1) := by decide +kernel
theorem dX8_beginProgram_61 : decode cX8_beginProgram 61 = .ok (.getfield 21, 3) := by decide +kernel
theorem dX8_beginProgram_64 : decode cX8_beginProgram 64 = .ok (.iconst 0, 1) := by decide +kernel
theorem dX8_beginProgram_65 : decode cX8_beginProgram 65 = .ok (.aload_n 0, 1) := by decide +kernel
theorem dX8_beginProgram_66 : decode cX8_beginProgram 66 = .ok (.getfield 27, 3) := by decide +kernel
theorem dX8_beginProgram_69 : decode cX8_beginProgram 69 = .ok (.iconst 0, 1) := by decide +kernel
theorem dX8_beginProgram_70 : decode cX8_beginProgram 70 = .ok (.iload_n 1, 1) := by decide +kernel
theorem dX8_beginProgram_71 : decode cX8_beginProgram 71 = .ok (.invokestatic 55, 3) := by decide +kernel
theorem dX8_beginProgram_74 : decode cX8_beginProgram 74 = .ok (.aload_n 0, 1) := by decide +kernel
theorem dX8_beginProgram_75 : decode cX8_beginProgram 75 = .ok (.getfield 24, 3) := by decide +kernel
theorem dX8_beginProgram_78 : decode cX8_beginProgram 78 = .ok (.iconst 0, 1) := by decide +kernel
theorem dX8_beginProgram_79 : decode cX8_beginProgram 79 = .ok (.aload_n 0, 1) := by decide +kernel
theorem dX8_beginProgram_80 : decode cX8_beginProgram 80 = .ok (.getfield 30, 3) := by decide +kernel
theorem dX8_beginProgram_83 : decode cX8_beginProgram 83 = .ok (.iconst 0, 1) := by decide +kernel
theorem dX8_beginProgram_84 : decode cX8_beginProgram 84 = .ok (.iload_n 1, 1) := by decide +kernel
theorem dX8_beginProgram_85 : decode cX8_beginProgram 85 = .ok (.invokestatic 55, 3) := by decide +kernel
theorem dX8_beginProgram_88 : decode cX8_beginProgram 88 = .ok (.aload_n 0, 1) := by decide +kernel
theorem dX8_beginProgram_89 : decode cX8_beginProgram 89 = .ok (.getfield 33, 3) := by decide +kernel
theorem dX8_beginProgram_92 : decode cX8_beginProgram 92 = .ok (.iconst 0, 1) := by decide +kernel
theorem dX8_beginProgram_93 : decode cX8_beginProgram 93 = .ok (.invokestatic 49, 3) := by decide +kernel
theorem dX8_beginProgram_96 : decode cX8_beginProgram 96 = .ok (.aload_n 0, 1) := by decide +kernel
theorem dX8_beginProgram_97 : decode cX8_beginProgram 97 = .ok (.getfield 43, 3) := by decide +kernel
theorem dX8_beginProgram_100 : decode cX8_beginProgram 100 = .ok (.istore_n 2, 1) := by decide +kernel
theorem dX8_beginProgram_101 : decode cX8_beginProgram 101 = .ok (.iload_n 2, 1) := by decide +kernel
theorem dX8_beginProgram_102 : decode cX8_beginProgram 102 = .ok (.iload_n 1, 1) := by decide +kernel
theorem dX8_beginProgram_103 : decode cX8_beginProgram 103 = .ok (.if_icmp .ge 26, 3) := by decide +kernel
theorem dX8_beginProgram_106 : decode cX8_beginProgram 106 = .ok (.aload_n 0, 1) := by decide +kernel
theorem dX8_beginProgram_107 : decode cX8_beginProgram 107 = .ok (.getfield 21, 3) := by decide +kernel
theorem dX8_beginProgram_110 : decode cX8_beginProgram 110 = .ok (.iload_n 2, 1) := by decide +kernel
theorem dX8_beginProgram_111 : decode cX8_beginProgram 111 = .ok (.aload_n 0, 1) := by decide +kernel
theorem dX8_beginProgram_112 : decode cX8_beginProgram 112 = .ok (.getfield 21, 3) := by decide +kernel
theorem dX8_beginProgram_115 : decode cX8_beginProgram 115 = .ok (.iload_n 2, 1) := by decide +kernel
theorem dX8_beginProgram_116 : decode cX8_beginProgram 116 = .ok (.iaload, 1) := by decide +kernel
theorem dX8_beginProgram_117 : decode cX8_beginProgram 117 = .ok (.i2l, 1) := by decide +kernel
theorem dX8_beginProgram_118 : decode cX8_beginProgram 118 = .ok (.invokestatic 61, 3) := by decide +kernel
theorem dX8_beginProgram_121 : decode cX8_beginProgram 121 = .ok (.l2i, 1) := by decide +kernel
theorem dX8_beginProgram_122 : decode cX8_beginProgram 122 = .ok (.iastore, 1) := by decide +kernel
theorem dX8_beginProgram_123 : decode cX8_beginProgram 123 = .ok (.iinc 2 1, 3) := by decide +kernel
theorem dX8_beginProgram_126 : decode cX8_beginProgram 126 = .ok (.goto (-25), 3) := by decide +kernel
theorem dX8_beginProgram_129 : decode cX8_beginProgram 129 = .ok (.return_, 1) := by decide +kernel
def B_X8_beginProgram_101 (N : Nat) (k101 : Nat → Int32 → Int32 → sv_V → Option sv_V) (l0 : Nat) (l1 : Int32) (l2 : Int32) (V : sv_V) : Option sv_V := if l1 ≤ l2 then (some V) else (if lay l0 = .inl 8 then (cr l0 0).bind (fun b3 => (sv_len 0 b3).bind (fun n5 => if sx_in l2 n5 = true then (F_X11_toWholePixel ((V.1 b3 l2.toNatClampNeg).toInt64) V).bind (fun (x10, V8) => if sx_in l2 n5 = true then sx_let (sv_I V8 b3 l2.toNatClampNeg x10.toInt32) (fun V12 => sx_let (l2 + 1) (fun x13 => k101 l0 l1 x13 V12)) else none) else none)) else none)
set_option maxRecDepth 20000 in
theorem tB_X8_beginProgram_101 {g : sx_G} (hG : sx_Go g) {P : Option Value → sv_V → Prop} {Vr : sv_V} (hP : P none Vr) {N : Nat} {k101 : Nat → Int32 → Int32 → sv_V → Option sv_V} (hk101 : ∀ (l0 : Nat) (l1 : Int32) (l2 : Int32) (V : sv_V), k101 l0 l1 l2 V = some Vr → sv_N g qX8_beginProgram 2 101 [(0, .ref l0), (1, .int l1), (2, .int l2)] [] V P) {l0 : Nat} {l1 : Int32} {l2 : Int32} {V : sv_V} (h : B_X8_beginProgram_101 N k101 l0 l1 l2 V = some Vr) : sv_N g qX8_beginProgram 2 101 [(0, .ref l0), (1, .int l1), (2, .int l2)] [] V P := by
  unfold B_X8_beginProgram_101 at h
  refine sx_iload_n (pc := 101) dX8_beginProgram_101 sx_m2 ?_
  refine sx_iload_n (pc := 102) dX8_beginProgram_102 sx_m1 ?_
  refine sx_icmp_ge (pc := 103) (tgt := 129) dX8_beginProgram_103 (by decide) (fun c1 => ?_) (fun c1 => ?_)
  · have h := sx_pos c1 h
    exact sv_vret (pc := 129) dX8_beginProgram_129 rfl h hP
  · have h := sx_neg c1 h
    refine sx_aload_n (pc := 106) dX8_beginProgram_106 sx_m0 ?_
    obtain ⟨g2, h⟩ := sx_grd h
    obtain ⟨b3, g4, h⟩ := sx_bnd h
    refine sv_getA (pc := 107) hG dX8_beginProgram_107 f_8_21 g2 rfl g4 ?_
    refine sx_iload_n (pc := 110) dX8_beginProgram_110 sx_m2 ?_
    refine sx_aload_n (pc := 111) dX8_beginProgram_111 sx_m0 ?_
    refine sv_getA (pc := 112) hG dX8_beginProgram_112 f_8_21 g2 rfl g4 ?_
    refine sx_iload_n (pc := 115) dX8_beginProgram_115 sx_m2 ?_
    obtain ⟨n5, g6, h⟩ := sx_bnd h
    obtain ⟨g7, h⟩ := sx_grd h
    refine sv_iald (pc := 116) hG dX8_beginProgram_116 (sv_len_e g6) g7 ?_
    refine sx_i2l (pc := 117) dX8_beginProgram_117 ?_
    obtain ⟨⟨x10, V8⟩, g9, h⟩ := sx_bnd h
    refine sv_cN (pc := 118) (y := qX11_toWholePixel) (o := (some (.long x10))) (as := [.long ((V.1 b3 l2.toNatClampNeg).toInt64)]) (V1 := V8) dX8_beginProgram_118 n_X8_61 y0X11_toWholePixel ysX11_toWholePixel rfl (Nat.le_of_ble_eq_true rfl) (by decide) (Nat.le_of_ble_eq_true rfl) rfl rfl rfl (t_X11_toWholePixel hG ⟨rfl, rfl⟩ g9) ?_
    refine sx_l2i (pc := 121) dX8_beginProgram_121 ?_
    obtain ⟨g11, h⟩ := sx_grd h
    obtain ⟨V12, hV12⟩ : ∃ z : sv_V, z = sv_I V8 b3 l2.toNatClampNeg x10.toInt32 := ⟨_, rfl⟩
    have h := sx_letE hV12 h
    refine sv_iast (pc := 122) hG dX8_beginProgram_122 (sv_len_e g6) g11 hV12 ?_
    obtain ⟨x13, hx13⟩ : ∃ z : Int32, z = l2 + 1 := ⟨_, rfl⟩
    have h := sx_letE hx13 h
    refine sx_iinc (pc := 123) (v := x13) (lo' := [(2, .int x13), (0, .ref l0), (1, .int l1)]) dX8_beginProgram_123 sx_m2 (by rw [hx13]; rfl) (by decide) rfl ?_
    refine sx_goto (pc := 126) (tgt := 101) dX8_beginProgram_126 (by decide) ?_
    refine sx_wk (sx_s1 sx_m1 (sx_s1 sx_m2 (sx_s1 sx_m0 sx_s0))) ?_
    exact hk101 _ _ _ _ h
theorem tL_X8_beginProgram_101 {g : sx_G} (hG : sx_Go g) {P : Option Value → sv_V → Prop} {Vr : sv_V} (hP : P none Vr) {N : Nat}   : ∀ (n : Nat) (l0 : Nat) (l1 : Int32) (l2 : Int32) (V : sv_V), sx_lp4 (B_X8_beginProgram_101 N ) n l0 l1 l2 V = some Vr → sv_N g qX8_beginProgram 2 101 [(0, .ref l0), (1, .int l1), (2, .int l2)] [] V P :=
  sx_lp4_ind (fun k0 ih _ _ _ V h => tB_X8_beginProgram_101 hG hP ih h)
def B_X8_beginProgram_2 (N : Nat) (k2 : Nat → Int32 → sv_V → Option sv_V) (l0 : Nat) (l1 : Int32) (V : sv_V) : Option sv_V := if lay l0 = .inl 8 then if (V.1 l0 11) ≤ l1 then (sx_let ((V.1 l0 9) + (V.1 l0 11)) (fun x16 => (cr l0 0).bind (fun b17 => (cr l0 2).bind (fun b19 => (sv_len 0 b17).bind (fun n21 => (sv_len 0 b19).bind (fun n23 => if sv_cpo (0 : Int32) x16 n21 = true then if sv_cpo (0 : Int32) x16 n23 = true then sx_let (sv_C V b17 (0 : Int32).toNatClampNeg b19 (0 : Int32).toNatClampNeg x16.toNatClampNeg) (fun V27 => (cr l0 1).bind (fun b28 => (cr l0 3).bind (fun b30 => (sv_len 0 b28).bind (fun n32 => (sv_len 0 b30).bind (fun n34 => if sv_cpo (0 : Int32) x16 n32 = true then if sv_cpo (0 : Int32) x16 n34 = true then sx_let (sv_C V27 b28 (0 : Int32).toNatClampNeg b30 (0 : Int32).toNatClampNeg x16.toNatClampNeg) (fun V38 => (cr l0 4).bind (fun b39 => (F_J7_fill_53178 N b39 (0 : Int32) V38).bind (fun V41 => sx_let (V41.1 l0 9) (fun x43 => sx_lp4 (B_X8_beginProgram_101 N ) N l0 x16 x43 V41)))) else none else none))))) else none else none)))))) else ((cr l0 0).bind (fun b44 => (cr l0 7).bind (fun b46 => (sv_len 0 b46).bind (fun n48 => if sx_in l1 n48 = true then (sv_len 0 b44).bind (fun n51 => if sx_in ((V.1 l0 9) + l1) n51 = true then sx_let (sv_I V b44 ((V.1 l0 9) + l1).toNatClampNeg (V.1 b46 l1.toNatClampNeg)) (fun V54 => (cr l0 1).bind (fun b55 => (cr l0 8).bind (fun b57 => (sv_len 0 b57).bind (fun n59 => if sx_in l1 n59 = true then (sv_len 0 b55).bind (fun n62 => if sx_in ((V54.1 l0 9) + l1) n62 = true then sx_let (sv_I V54 b55 ((V54.1 l0 9) + l1).toNatClampNeg (V54.1 b57 l1.toNatClampNeg)) (fun V65 => sx_let (l1 + 1) (fun x66 => k2 l0 x66 V65)) else none) else none)))) else none) else none)))) else none
set_option maxRecDepth 20000 in
theorem tB_X8_beginProgram_2 {g : sx_G} (hG : sx_Go g) {P : Option Value → sv_V → Prop} {Vr : sv_V} (hP : P none Vr) {N : Nat} {k2 : Nat → Int32 → sv_V → Option sv_V} (hk2 : ∀ (l0 : Nat) (l1 : Int32) (V : sv_V), k2 l0 l1 V = some Vr → sv_N g qX8_beginProgram 2 2 [(0, .ref l0), (1, .int l1)] [] V P) {l0 : Nat} {l1 : Int32} {V : sv_V} (h : B_X8_beginProgram_2 N k2 l0 l1 V = some Vr) : sv_N g qX8_beginProgram 2 2 [(0, .ref l0), (1, .int l1)] [] V P := by
  unfold B_X8_beginProgram_2 at h
  refine sx_iload_n (pc := 2) dX8_beginProgram_2 sx_m1 ?_
  refine sx_aload_n (pc := 3) dX8_beginProgram_3 sx_m0 ?_
  obtain ⟨g14, h⟩ := sx_grd h
  refine sv_getI (pc := 4) hG dX8_beginProgram_4 f_8_39 g14 rfl ?_
  refine sx_icmp_ge (pc := 7) (tgt := 50) dX8_beginProgram_7 (by decide) (fun c15 => ?_) (fun c15 => ?_)
  · have h := sx_pos c15 h
    refine sx_aload_n (pc := 50) dX8_beginProgram_50 sx_m0 ?_
    refine sv_getI (pc := 51) hG dX8_beginProgram_51 f_8_43 g14 rfl ?_
    refine sx_aload_n (pc := 54) dX8_beginProgram_54 sx_m0 ?_
    refine sv_getI (pc := 55) hG dX8_beginProgram_55 f_8_39 g14 rfl ?_
    refine sx_iadd (pc := 58) dX8_beginProgram_58 ?_
    refine sv_tI (fun x16 hx16 => ?_)
    have h := sx_letE hx16 h
    refine sx_istore_n (pc := 59) (lo' := [(1, .int x16), (0, .ref l0)]) dX8_beginProgram_59 (by decide) rfl ?_
    refine sx_aload_n (pc := 60) dX8_beginProgram_60 sx_m1 ?_
    obtain ⟨b17, g18, h⟩ := sx_bnd h
    refine sv_getA (pc := 61) hG dX8_beginProgram_61 f_8_21 g14 rfl g18 ?_
    refine sx_iconst (pc := 64) (v := 0) dX8_beginProgram_64 (by decide) ?_
    refine sx_aload_n (pc := 65) dX8_beginProgram_65 sx_m1 ?_
    obtain ⟨b19, g20, h⟩ := sx_bnd h
    refine sv_getA (pc := 66) hG dX8_beginProgram_66 f_8_27 g14 rfl g20 ?_
    refine sx_iconst (pc := 69) (v := 0) dX8_beginProgram_69 (by decide) ?_
    refine sx_iload_n (pc := 70) dX8_beginProgram_70 sx_m0 ?_
    obtain ⟨n21, g22, h⟩ := sx_bnd h
    obtain ⟨n23, g24, h⟩ := sx_bnd h
    obtain ⟨g25, h⟩ := sx_grd h
    obtain ⟨g26, h⟩ := sx_grd h
    obtain ⟨V27, hV27⟩ : ∃ z : sv_V, z = sv_C V b17 (0 : Int32).toNatClampNeg b19 (0 : Int32).toNatClampNeg x16.toNatClampNeg := ⟨_, rfl⟩
    have h := sx_letE hV27 h
    refine sv_copyI (pc := 71) hG dX8_beginProgram_71 l_X8_55 (sv_len_e g22) (sv_len_e g24) g25 g26 (by decide) (Nat.le_of_ble_eq_true rfl) hV27 ?_
    refine sx_aload_n (pc := 74) dX8_beginProgram_74 sx_m1 ?_
    obtain ⟨b28, g29, h⟩ := sx_bnd h
    refine sv_getA (pc := 75) hG dX8_beginProgram_75 f_8_24 g14 rfl g29 ?_
    refine sx_iconst (pc := 78) (v := 0) dX8_beginProgram_78 (by decide) ?_
    refine sx_aload_n (pc := 79) dX8_beginProgram_79 sx_m1 ?_
    obtain ⟨b30, g31, h⟩ := sx_bnd h
    refine sv_getA (pc := 80) hG dX8_beginProgram_80 f_8_30 g14 rfl g31 ?_
    refine sx_iconst (pc := 83) (v := 0) dX8_beginProgram_83 (by decide) ?_
    refine sx_iload_n (pc := 84) dX8_beginProgram_84 sx_m0 ?_
    obtain ⟨n32, g33, h⟩ := sx_bnd h
    obtain ⟨n34, g35, h⟩ := sx_bnd h
    obtain ⟨g36, h⟩ := sx_grd h
    obtain ⟨g37, h⟩ := sx_grd h
    obtain ⟨V38, hV38⟩ : ∃ z : sv_V, z = sv_C V27 b28 (0 : Int32).toNatClampNeg b30 (0 : Int32).toNatClampNeg x16.toNatClampNeg := ⟨_, rfl⟩
    have h := sx_letE hV38 h
    refine sv_copyI (pc := 85) hG dX8_beginProgram_85 l_X8_55 (sv_len_e g33) (sv_len_e g35) g36 g37 (by decide) (Nat.le_of_ble_eq_true rfl) hV38 ?_
    refine sx_aload_n (pc := 88) dX8_beginProgram_88 sx_m1 ?_
    obtain ⟨b39, g40, h⟩ := sx_bnd h
    refine sv_getA (pc := 89) hG dX8_beginProgram_89 f_8_33 g14 rfl g40 ?_
    refine sx_iconst (pc := 92) (v := 0) dX8_beginProgram_92 (by decide) ?_
    obtain ⟨V41, g42, h⟩ := sx_bnd h
    refine sv_cS (pc := 93) (y := qJ7_fill_53178) (o := none) (as := [.ref b39, .int (0 : Int32)]) (V1 := V41) dX8_beginProgram_93 l_X8_49 y0J7_fill_53178 ysJ7_fill_53178 rfl (Nat.le_of_ble_eq_true rfl) (by decide) (Nat.le_of_ble_eq_true rfl) rfl rfl rfl (t_J7_fill_53178 hG ⟨rfl, rfl⟩ g42) ?_
    refine sx_aload_n (pc := 96) dX8_beginProgram_96 sx_m1 ?_
    refine sv_getI (pc := 97) hG dX8_beginProgram_97 f_8_43 g14 rfl ?_
    refine sv_tI (fun x43 hx43 => ?_)
    have h := sx_letE hx43 h
    refine sx_istore_n (pc := 100) (lo' := [(2, .int x43), (1, .int x16), (0, .ref l0)]) dX8_beginProgram_100 (by decide) rfl ?_
    refine sx_wk (sx_s1 sx_m2 (sx_s1 sx_m1 (sx_s1 sx_m0 sx_s0))) ?_
    exact tL_X8_beginProgram_101 hG hP  N _ _ _ _ h
  · have h := sx_neg c15 h
    refine sx_aload_n (pc := 10) dX8_beginProgram_10 sx_m0 ?_
    obtain ⟨b44, g45, h⟩ := sx_bnd h
    refine sv_getA (pc := 11) hG dX8_beginProgram_11 f_8_21 g14 rfl g45 ?_
    refine sx_aload_n (pc := 14) dX8_beginProgram_14 sx_m0 ?_
    refine sv_getI (pc := 15) hG dX8_beginProgram_15 f_8_43 g14 rfl ?_
    refine sx_iload_n (pc := 18) dX8_beginProgram_18 sx_m1 ?_
    refine sx_iadd (pc := 19) dX8_beginProgram_19 ?_
    refine sx_aload_n (pc := 20) dX8_beginProgram_20 sx_m0 ?_
    obtain ⟨b46, g47, h⟩ := sx_bnd h
    refine sv_getA (pc := 21) hG dX8_beginProgram_21 f_8_15 g14 rfl g47 ?_
    refine sx_iload_n (pc := 24) dX8_beginProgram_24 sx_m1 ?_
    obtain ⟨n48, g49, h⟩ := sx_bnd h
    obtain ⟨g50, h⟩ := sx_grd h
    refine sv_iald (pc := 25) hG dX8_beginProgram_25 (sv_len_e g49) g50 ?_
    obtain ⟨n51, g52, h⟩ := sx_bnd h
    obtain ⟨g53, h⟩ := sx_grd h
    obtain ⟨V54, hV54⟩ : ∃ z : sv_V, z = sv_I V b44 ((V.1 l0 9) + l1).toNatClampNeg (V.1 b46 l1.toNatClampNeg) := ⟨_, rfl⟩
    have h := sx_letE hV54 h
    refine sv_iast (pc := 26) hG dX8_beginProgram_26 (sv_len_e g52) g53 hV54 ?_
    refine sx_aload_n (pc := 27) dX8_beginProgram_27 sx_m0 ?_
    obtain ⟨b55, g56, h⟩ := sx_bnd h
    refine sv_getA (pc := 28) hG dX8_beginProgram_28 f_8_24 g14 rfl g56 ?_
    refine sx_aload_n (pc := 31) dX8_beginProgram_31 sx_m0 ?_
    refine sv_getI (pc := 32) hG dX8_beginProgram_32 f_8_43 g14 rfl ?_
    refine sx_iload_n (pc := 35) dX8_beginProgram_35 sx_m1 ?_
    refine sx_iadd (pc := 36) dX8_beginProgram_36 ?_
    refine sx_aload_n (pc := 37) dX8_beginProgram_37 sx_m0 ?_
    obtain ⟨b57, g58, h⟩ := sx_bnd h
    refine sv_getA (pc := 38) hG dX8_beginProgram_38 f_8_18 g14 rfl g58 ?_
    refine sx_iload_n (pc := 41) dX8_beginProgram_41 sx_m1 ?_
    obtain ⟨n59, g60, h⟩ := sx_bnd h
    obtain ⟨g61, h⟩ := sx_grd h
    refine sv_iald (pc := 42) hG dX8_beginProgram_42 (sv_len_e g60) g61 ?_
    obtain ⟨n62, g63, h⟩ := sx_bnd h
    obtain ⟨g64, h⟩ := sx_grd h
    obtain ⟨V65, hV65⟩ : ∃ z : sv_V, z = sv_I V54 b55 ((V54.1 l0 9) + l1).toNatClampNeg (V54.1 b57 l1.toNatClampNeg) := ⟨_, rfl⟩
    have h := sx_letE hV65 h
    refine sv_iast (pc := 43) hG dX8_beginProgram_43 (sv_len_e g63) g64 hV65 ?_
    obtain ⟨x66, hx66⟩ : ∃ z : Int32, z = l1 + 1 := ⟨_, rfl⟩
    have h := sx_letE hx66 h
    refine sx_iinc (pc := 44) (v := x66) (lo' := [(1, .int x66), (0, .ref l0)]) dX8_beginProgram_44 sx_m1 (by rw [hx66]; rfl) (by decide) rfl ?_
    refine sx_goto (pc := 47) (tgt := 2) dX8_beginProgram_47 (by decide) ?_
    refine sx_wk (sx_s1 sx_m1 (sx_s1 sx_m0 sx_s0)) ?_
    exact hk2 _ _ _ h
theorem tL_X8_beginProgram_2 {g : sx_G} (hG : sx_Go g) {P : Option Value → sv_V → Prop} {Vr : sv_V} (hP : P none Vr) {N : Nat}   : ∀ (n : Nat) (l0 : Nat) (l1 : Int32) (V : sv_V), sx_lp3 (B_X8_beginProgram_2 N ) n l0 l1 V = some Vr → sv_N g qX8_beginProgram 2 2 [(0, .ref l0), (1, .int l1)] [] V P :=
  sx_lp3_ind (fun k0 ih _ _ V h => tB_X8_beginProgram_2 hG hP ih h)
def F_X8_beginProgram (N : Nat) (l0 : Nat) (V : sv_V) : Option sv_V := sx_lp3 (B_X8_beginProgram_2 N ) N l0 (0 : Int32) V
set_option maxRecDepth 20000 in
theorem t_X8_beginProgram {g : sx_G} (hG : sx_Go g) {P : Option Value → sv_V → Prop} {Vr : sv_V} (hP : P none Vr) {N : Nat} {l0 : Nat} {V : sv_V} (h : F_X8_beginProgram N l0 V = some Vr) : sv_N g qX8_beginProgram 2 0 [(0, .ref l0)] [] V P := by
  unfold F_X8_beginProgram at h
  refine sx_iconst (pc := 0) (v := 0) dX8_beginProgram_0 (by decide) ?_
  refine sx_istore_n (pc := 1) (lo' := [(1, .int (0 : Int32)), (0, .ref l0)]) dX8_beginProgram_1 (by decide) rfl ?_
  refine sx_wk (sx_s1 sx_m1 (sx_s1 sx_m0 sx_s0)) ?_
  exact tL_X8_beginProgram_2 hG hP  N _ _ _ h
theorem dX9_renew_0 : decode cX9_renew 0 = .ok (.aload_n 0, 1) := by decide +kernel
theorem dX9_renew_1 : decode cX9_renew 1 = .ok (.iconst 1, 1) := by decide +kernel
theorem dX9_renew_2 : decode cX9_renew 2 = .ok (.invokevirtual 18, 3) := by decide +kernel
theorem dX9_renew_5 : decode cX9_renew 5 = .ok (.aload_n 0, 1) := by decide +kernel
theorem dX9_renew_6 : decode cX9_renew 6 = .ok (.getfield 9, 3) := by decide +kernel
theorem dX9_renew_9 : decode cX9_renew 9 = .ok (.iconst 0, 1) := by decide +kernel
theorem dX9_renew_10 : decode cX9_renew 10 = .ok (.invokestatic 22, 3) := by decide +kernel
theorem dX9_renew_13 : decode cX9_renew 13 = .ok (.aload_n 0, 1) := by decide +kernel
theorem dX9_renew_14 : decode cX9_renew 14 = .ok (.getfield 15, 3) := by decide +kernel
theorem dX9_renew_17 : decode cX9_renew 17 = .ok (.iconst 1, 1) := by decide +kernel
theorem dX9_renew_18 : decode cX9_renew 18 = .ok (.invokestatic 22, 3) := by decide +kernel
theorem dX9_renew_21 : decode cX9_renew 21 = .ok (.aload_n 0, 1) := by decide +kernel
theorem dX9_renew_22 : decode cX9_renew 22 = .ok (.iconst 1, 1) := by decide +kernel
theorem dX9_renew_23 : decode cX9_renew 23 = .ok (.putfield 28, 3) := by decide +kernel
theorem dX9_renew_26 : decode cX9_renew 26 = .ok (.aload_n 0, 1) := by decide +kernel
theorem dX9_renew_27 : decode cX9_renew 27 = .ok (.bipush 24, 2) := by decide +kernel
theorem dX9_renew_29 : decode cX9_renew 29 = .ok (.invokevirtual 32, 3) := by decide +kernel
theorem dX9_renew_32 : decode cX9_renew 32 = .ok (.return_, 1) := by decide +kernel
def F_X9_renew (N : Nat)  (V : sv_V) : Option sv_V := (F_X9_goAlong (1 : Int32) V).bind (fun V1 => (F_J7_fill_53178 N 71 (0 : Int32) V1).bind (fun V3 => (F_J7_fill_53178 N 72 (1 : Int32) V3).bind (fun V5 => sx_let (sv_I V5 70 8 (1 : Int32)) (fun V7 => (F_X9_roundBy (24 : Int32) V7).bind (fun V8 => some V8)))))
set_option maxRecDepth 20000 in
theorem t_X9_renew {g : sx_G} (hG : sx_Go g) {P : Option Value → sv_V → Prop} {Vr : sv_V} (hP : P none Vr) {N : Nat}  {V : sv_V} (h : F_X9_renew N  V = some Vr) : sv_N g qX9_renew 2 0 [(0, .ref 70)] [] V P := by
  unfold F_X9_renew at h
  refine sx_aload_n (pc := 0) dX9_renew_0 sx_m0 ?_
  refine sx_iconst (pc := 1) (v := 1) dX9_renew_1 (by decide) ?_
  obtain ⟨V1, g2, h⟩ := sx_bnd h
  refine sv_cV (pc := 2) (y := qX9_goAlong) (o := none) (as := [.int (1 : Int32)]) (V1 := V1) hG dX9_renew_2 l_X9_18 y0X9_goAlong yvX9_goAlong rfl (Nat.le_of_ble_eq_true rfl) lay_70 kr_9 (by decide) (Nat.le_of_ble_eq_true rfl) rfl rfl rfl (t_X9_goAlong hG ⟨rfl, rfl⟩ g2) ?_
  refine sx_aload_n (pc := 5) dX9_renew_5 sx_m0 ?_
  refine sv_getA (pc := 6) hG dX9_renew_6 f_9_9 lay_70 rfl cr_70_6 ?_
  refine sx_iconst (pc := 9) (v := 0) dX9_renew_9 (by decide) ?_
  obtain ⟨V3, g4, h⟩ := sx_bnd h
  refine sv_cS (pc := 10) (y := qJ7_fill_53178) (o := none) (as := [.ref 71, .int (0 : Int32)]) (V1 := V3) dX9_renew_10 l_X9_22 y0J7_fill_53178 ysJ7_fill_53178 rfl (Nat.le_of_ble_eq_true rfl) (by decide) (Nat.le_of_ble_eq_true rfl) rfl rfl rfl (t_J7_fill_53178 hG ⟨rfl, rfl⟩ g4) ?_
  refine sx_aload_n (pc := 13) dX9_renew_13 sx_m0 ?_
  refine sv_getA (pc := 14) hG dX9_renew_14 f_9_15 lay_70 rfl cr_70_7 ?_
  refine sx_iconst (pc := 17) (v := 1) dX9_renew_17 (by decide) ?_
  obtain ⟨V5, g6, h⟩ := sx_bnd h
  refine sv_cS (pc := 18) (y := qJ7_fill_53178) (o := none) (as := [.ref 72, .int (1 : Int32)]) (V1 := V5) dX9_renew_18 l_X9_22 y0J7_fill_53178 ysJ7_fill_53178 rfl (Nat.le_of_ble_eq_true rfl) (by decide) (Nat.le_of_ble_eq_true rfl) rfl rfl rfl (t_J7_fill_53178 hG ⟨rfl, rfl⟩ g6) ?_
  refine sx_aload_n (pc := 21) dX9_renew_21 sx_m0 ?_
  refine sx_iconst (pc := 22) (v := 1) dX9_renew_22 (by decide) ?_
  obtain ⟨V7, hV7⟩ : ∃ z : sv_V, z = sv_I V5 70 8 (1 : Int32) := ⟨_, rfl⟩
  have h := sx_letE hV7 h
  refine sv_putI (pc := 23) hG dX9_renew_23 f_9_28 lay_70 rfl hV7 ?_
  refine sx_aload_n (pc := 26) dX9_renew_26 sx_m0 ?_
  refine sx_bipush (pc := 27) (v := 24) dX9_renew_27 (by decide) ?_
  obtain ⟨V8, g9, h⟩ := sx_bnd h
  refine sv_cV (pc := 29) (y := qX9_roundBy) (o := none) (as := [.int (24 : Int32)]) (V1 := V8) hG dX9_renew_29 l_X9_32 y0X9_roundBy yvX9_roundBy rfl (Nat.le_of_ble_eq_true rfl) lay_70 kr_9 (by decide) (Nat.le_of_ble_eq_true rfl) rfl rfl rfl (t_X9_roundBy hG ⟨rfl, rfl⟩ g9) ?_
  exact sv_vret (pc := 32) dX9_renew_32 rfl h hP
theorem dX10_trace_0 : decode cX10_trace 0 = .ok (.aload_n 0, 1) := by decide +kernel
theorem dX10_trace_1 : decode cX10_trace 1 = .ok (.iconst 0, 1) := by decide +kernel
theorem dX10_trace_2 : decode cX10_trace 2 = .ok (.putfield 37, 3) := by decide +kernel
theorem dX10_trace_5 : decode cX10_trace 5 = .ok (.iconst 0, 1) := by decide +kernel
theorem dX10_trace_6 : decode cX10_trace 6 = .ok (.istore_n 2, 1) := by decide +kernel
theorem dX10_trace_7 : decode cX10_trace 7 = .ok (.iload_n 2, 1) := by decide +kernel
theorem dX10_trace_8 : decode cX10_trace 8 = .ok (.aload_n 1, 1) := by decide +kernel
theorem dX10_trace_9 : decode cX10_trace 9 = .ok (.getfield 41, 3) := by decide +kernel
theorem dX10_trace_12 : decode cX10_trace 12 = .ok (.if_icmp .ge 25, 3) := by decide +kernel
theorem dX10_trace_15 : decode cX10_trace 15 = .ok (.aload_n 0, 1) := by decide +kernel
theorem dX10_trace_16 : decode cX10_trace 16 = .ok (.aload_n 1, 1) := by decide +kernel
theorem dX10_trace_17 : decode cX10_trace 17 = .ok (.aload_n 1, 1) := by decide +kernel
theorem dX10_trace_18 : decode cX10_trace 18 = .ok (.iload_n 2, 1) := by decide +kernel
theorem dX10_trace_19 : decode cX10_trace 19 = .ok (.invokevirtual 46, 3) := by decide +kernel
theorem dX10_trace_22 : decode cX10_trace 22 = .ok (.aload_n 1, 1) := by decide +kernel
theorem dX10_trace_23 : decode cX10_trace 23 = .ok (.getfield 50, 3) := by decide +kernel
theorem dX10_trace_26 : decode cX10_trace 26 = .ok (.iload_n 2, 1) := by decide +kernel
theorem dX10_trace_27 : decode cX10_trace 27 = .ok (.iaload, 1) := by decide +kernel
theorem dX10_trace_28 : decode cX10_trace 28 = .ok (.invokevirtual 53, 3) := by decide +kernel
theorem dX10_trace_31 : decode cX10_trace 31 = .ok (.iinc 2 1, 3) := by decide +kernel
theorem dX10_trace_34 : decode cX10_trace 34 = .ok (.goto (-27), 3) := by decide +kernel
theorem dX10_trace_37 : decode cX10_trace 37 = .ok (.aload_n 0, 1) := by decide +kernel
theorem dX10_trace_38 : decode cX10_trace 38 = .ok (.sipush 8193, 3) := by decide +kernel
theorem dX10_trace_41 : decode cX10_trace 41 = .ok (.putfield 57, 3) := by decide +kernel
theorem dX10_trace_44 : decode cX10_trace 44 = .ok (.aload_n 0, 1) := by decide +kernel
theorem dX10_trace_45 : decode cX10_trace 45 = .ok (.aload_n 0, 1) := by decide +kernel
theorem dX10_trace_46 : decode cX10_trace 46 = .ok (.getfield 57, 3) := by decide +kernel
theorem dX10_trace_49 : decode cX10_trace 49 = .ok (.ineg, 1) := by decide +kernel
theorem dX10_trace_50 : decode cX10_trace 50 = .ok (.putfield 60, 3) := by decide +kernel
theorem dX10_trace_53 : decode cX10_trace 53 = .ok (.iconst 0, 1) := by decide +kernel
theorem dX10_trace_54 : decode cX10_trace 54 = .ok (.istore_n 2, 1) := by decide +kernel
theorem dX10_trace_55 : decode cX10_trace 55 = .ok (.iload_n 2, 1) := by decide +kernel
theorem dX10_trace_56 : decode cX10_trace 56 = .ok (.aload_n 1, 1) := by decide +kernel
theorem dX10_trace_57 : decode cX10_trace 57 = .ok (.getfield 63, 3) := by decide +kernel
theorem dX10_trace_60 : decode cX10_trace 60 = .ok (.if_icmp .ge 47, 3) := by decide +kernel
theorem dX10_trace_63 : decode cX10_trace 63 = .ok (.aload_n 0, 1) := by decide +kernel
theorem dX10_trace_64 : decode cX10_trace 64 = .ok (.aload_n 0, 1) := by decide +kernel
theorem dX10_trace_65 : decode cX10_trace 65 = .ok (.getfield 57, 3) := by decide +kernel
theorem dX10_trace_68 : decode cX10_trace 68 = .ok (.iconst 2, 1) := by decide +kernel
theorem dX10_trace_69 : decode cX10_trace 69 = .ok (.aload_n 1, 1) := by decide +kernel
theorem dX10_trace_70 : decode cX10_trace 70 = .ok (.getfield 66, 3) := by decide +kernel
theorem dX10_trace_73 : decode cX10_trace 73 = .ok (.iload_n 2, 1) := by decide +kernel
theorem dX10_trace_74 : decode cX10_trace 74 = .ok (.iaload, 1) := by decide +kernel
theorem dX10_trace_75 : decode cX10_trace 75 = .ok (.imul, 1) := by decide +kernel
theorem dX10_trace_76 : decode cX10_trace 76 = .ok (.invokestatic 69, 3) := by decide +kernel
theorem dX10_trace_79 : decode cX10_trace 79 = .ok (.putfield 57, 3) := by decide +kernel
theorem dX10_trace_82 : decode cX10_trace 82 = .ok (.aload_n 0, 1) := by decide +kernel
theorem dX10_trace_83 : decode cX10_trace 83 = .ok (.aload_n 0, 1) := by decide +kernel
theorem dX10_trace_84 : decode cX10_trace 84 = .ok (.getfield 60, 3) := by decide +kernel
theorem dX10_trace_87 : decode cX10_trace 87 = .ok (.iconst 2, 1) := by decide +kernel
theorem dX10_trace_88 : decode cX10_trace 88 = .ok (.aload_n 1, 1) := by decide +kernel
theorem dX10_trace_89 : decode cX10_trace 89 = .ok (.getfield 66, 3) := by decide +kernel
theorem dX10_trace_92 : decode cX10_trace 92 = .ok (.iload_n 2, 1) := by decide +kernel
theorem dX10_trace_93 : decode cX10_trace 93 = .ok (.iaload, 1) := by decide +kernel
theorem dX10_trace_94 : decode cX10_trace 94 = .ok (.imul, 1) := by decide +kernel
theorem dX10_trace_95 : decode cX10_trace 95 = .ok (.invokestatic 75, 3) := by decide +kernel
theorem dX10_trace_98 : decode cX10_trace 98 = .ok (.putfield 60, 3) := by decide +kernel
theorem dX10_trace_101 : decode cX10_trace 101 = .ok (.iinc 2 1, 3) := by decide +kernel
theorem dX10_trace_104 : decode cX10_trace 104 = .ok (.goto (-49), 3) := by decide +kernel
theorem dX10_trace_107 : decode cX10_trace 107 = .ok (.return_, 1) := by decide +kernel
def B_X10_trace_55 (N : Nat) (k55 : Nat → Int32 → sv_V → Option sv_V) (l1 : Nat) (l2 : Int32) (V : sv_V) : Option sv_V := if lay l1 = .inl 8 then if (V.1 l1 9) ≤ l2 then (some V) else ((cr l1 0).bind (fun b3 => (sv_len 0 b3).bind (fun n5 => if sx_in l2 n5 = true then (F_J9_min_7cf53 (V.1 60 11) ((2 : Int32) * (V.1 b3 l2.toNatClampNeg)) V).bind (fun (x10, V8) => sx_let (sv_I V8 60 11 x10) (fun V11 => if sx_in l2 n5 = true then (F_J9_max_7cf53 (V11.1 60 12) ((2 : Int32) * (V11.1 b3 l2.toNatClampNeg)) V11).bind (fun (x15, V13) => sx_let (sv_I V13 60 12 x15) (fun V16 => sx_let (l2 + 1) (fun x17 => k55 l1 x17 V16))) else none)) else none))) else none
set_option maxRecDepth 20000 in
theorem tB_X10_trace_55 {g : sx_G} (hG : sx_Go g) {P : Option Value → sv_V → Prop} {Vr : sv_V} (hP : P none Vr) {N : Nat} {k55 : Nat → Int32 → sv_V → Option sv_V} (hk55 : ∀ (l1 : Nat) (l2 : Int32) (V : sv_V), k55 l1 l2 V = some Vr → sv_N g qX10_trace 2 55 [(0, .ref 60), (1, .ref l1), (2, .int l2)] [] V P) {l1 : Nat} {l2 : Int32} {V : sv_V} (h : B_X10_trace_55 N k55 l1 l2 V = some Vr) : sv_N g qX10_trace 2 55 [(0, .ref 60), (1, .ref l1), (2, .int l2)] [] V P := by
  unfold B_X10_trace_55 at h
  refine sx_iload_n (pc := 55) dX10_trace_55 sx_m2 ?_
  refine sx_aload_n (pc := 56) dX10_trace_56 sx_m1 ?_
  obtain ⟨g1, h⟩ := sx_grd h
  refine sv_getI (pc := 57) hG dX10_trace_57 f_10_63 g1 rfl ?_
  refine sx_icmp_ge (pc := 60) (tgt := 107) dX10_trace_60 (by decide) (fun c2 => ?_) (fun c2 => ?_)
  · have h := sx_pos c2 h
    exact sv_vret (pc := 107) dX10_trace_107 rfl h hP
  · have h := sx_neg c2 h
    refine sx_aload_n (pc := 63) dX10_trace_63 sx_m0 ?_
    refine sx_aload_n (pc := 64) dX10_trace_64 sx_m0 ?_
    refine sv_getI (pc := 65) hG dX10_trace_65 f_10_57 lay_60 rfl ?_
    refine sx_iconst (pc := 68) (v := 2) dX10_trace_68 (by decide) ?_
    refine sx_aload_n (pc := 69) dX10_trace_69 sx_m1 ?_
    obtain ⟨b3, g4, h⟩ := sx_bnd h
    refine sv_getA (pc := 70) hG dX10_trace_70 f_10_66 g1 rfl g4 ?_
    refine sx_iload_n (pc := 73) dX10_trace_73 sx_m2 ?_
    obtain ⟨n5, g6, h⟩ := sx_bnd h
    obtain ⟨g7, h⟩ := sx_grd h
    refine sv_iald (pc := 74) hG dX10_trace_74 (sv_len_e g6) g7 ?_
    refine sx_imul (pc := 75) dX10_trace_75 ?_
    obtain ⟨⟨x10, V8⟩, g9, h⟩ := sx_bnd h
    refine sv_cS (pc := 76) (y := qJ9_min_7cf53) (o := (some (.int x10))) (as := [.int (V.1 60 11), .int ((2 : Int32) * (V.1 b3 l2.toNatClampNeg))]) (V1 := V8) dX10_trace_76 l_X10_69 y0J9_min_7cf53 ysJ9_min_7cf53 rfl (Nat.le_of_ble_eq_true rfl) (by decide) (Nat.le_of_ble_eq_true rfl) rfl rfl rfl (t_J9_min_7cf53 hG ⟨rfl, rfl⟩ g9) ?_
    obtain ⟨V11, hV11⟩ : ∃ z : sv_V, z = sv_I V8 60 11 x10 := ⟨_, rfl⟩
    have h := sx_letE hV11 h
    refine sv_putI (pc := 79) hG dX10_trace_79 f_10_57 lay_60 rfl hV11 ?_
    refine sx_aload_n (pc := 82) dX10_trace_82 sx_m0 ?_
    refine sx_aload_n (pc := 83) dX10_trace_83 sx_m0 ?_
    refine sv_getI (pc := 84) hG dX10_trace_84 f_10_60 lay_60 rfl ?_
    refine sx_iconst (pc := 87) (v := 2) dX10_trace_87 (by decide) ?_
    refine sx_aload_n (pc := 88) dX10_trace_88 sx_m1 ?_
    refine sv_getA (pc := 89) hG dX10_trace_89 f_10_66 g1 rfl g4 ?_
    refine sx_iload_n (pc := 92) dX10_trace_92 sx_m2 ?_
    obtain ⟨g12, h⟩ := sx_grd h
    refine sv_iald (pc := 93) hG dX10_trace_93 (sv_len_e g6) g12 ?_
    refine sx_imul (pc := 94) dX10_trace_94 ?_
    obtain ⟨⟨x15, V13⟩, g14, h⟩ := sx_bnd h
    refine sv_cS (pc := 95) (y := qJ9_max_7cf53) (o := (some (.int x15))) (as := [.int (V11.1 60 12), .int ((2 : Int32) * (V11.1 b3 l2.toNatClampNeg))]) (V1 := V13) dX10_trace_95 l_X10_75 y0J9_max_7cf53 ysJ9_max_7cf53 rfl (Nat.le_of_ble_eq_true rfl) (by decide) (Nat.le_of_ble_eq_true rfl) rfl rfl rfl (t_J9_max_7cf53 hG ⟨rfl, rfl⟩ g14) ?_
    obtain ⟨V16, hV16⟩ : ∃ z : sv_V, z = sv_I V13 60 12 x15 := ⟨_, rfl⟩
    have h := sx_letE hV16 h
    refine sv_putI (pc := 98) hG dX10_trace_98 f_10_60 lay_60 rfl hV16 ?_
    obtain ⟨x17, hx17⟩ : ∃ z : Int32, z = l2 + 1 := ⟨_, rfl⟩
    have h := sx_letE hx17 h
    refine sx_iinc (pc := 101) (v := x17) (lo' := [(2, .int x17), (0, .ref 60), (1, .ref l1)]) dX10_trace_101 sx_m2 (by rw [hx17]; rfl) (by decide) rfl ?_
    refine sx_goto (pc := 104) (tgt := 55) dX10_trace_104 (by decide) ?_
    refine sx_wk (sx_s1 sx_m1 (sx_s1 sx_m2 (sx_s1 sx_m0 sx_s0))) ?_
    exact hk55 _ _ _ h
theorem tL_X10_trace_55 {g : sx_G} (hG : sx_Go g) {P : Option Value → sv_V → Prop} {Vr : sv_V} (hP : P none Vr) {N : Nat}   : ∀ (n : Nat) (l1 : Nat) (l2 : Int32) (V : sv_V), sx_lp3 (B_X10_trace_55 N ) n l1 l2 V = some Vr → sv_N g qX10_trace 2 55 [(0, .ref 60), (1, .ref l1), (2, .int l2)] [] V P :=
  sx_lp3_ind (fun k0 ih _ _ V h => tB_X10_trace_55 hG hP ih h)
def B_X10_trace_7 (N : Nat) (k7 : Nat → Int32 → sv_V → Option sv_V) (l1 : Nat) (l2 : Int32) (V : sv_V) : Option sv_V := if lay l1 = .inl 8 then if (V.1 l1 10) ≤ l2 then (sx_let (sv_I V 60 11 (8193 : Int32)) (fun V20 => sx_let (sv_I V20 60 12 (-(V20.1 60 11))) (fun V21 => sx_lp3 (B_X10_trace_55 N ) N l1 (0 : Int32) V21))) else ((F_X8_firstOf l1 l2 V).bind (fun (x24, V22) => (cr l1 6).bind (fun b25 => (sv_len 0 b25).bind (fun n27 => if sx_in l2 n27 = true then (F_X10_traceContour N l1 x24 (V22.1 b25 l2.toNatClampNeg) V22).bind (fun V30 => sx_let (l2 + 1) (fun x32 => k7 l1 x32 V30)) else none)))) else none
set_option maxRecDepth 20000 in
theorem tB_X10_trace_7 {g : sx_G} (hG : sx_Go g) {P : Option Value → sv_V → Prop} {Vr : sv_V} (hP : P none Vr) {N : Nat} {k7 : Nat → Int32 → sv_V → Option sv_V} (hk7 : ∀ (l1 : Nat) (l2 : Int32) (V : sv_V), k7 l1 l2 V = some Vr → sv_N g qX10_trace 2 7 [(0, .ref 60), (1, .ref l1), (2, .int l2)] [] V P) {l1 : Nat} {l2 : Int32} {V : sv_V} (h : B_X10_trace_7 N k7 l1 l2 V = some Vr) : sv_N g qX10_trace 2 7 [(0, .ref 60), (1, .ref l1), (2, .int l2)] [] V P := by
  unfold B_X10_trace_7 at h
  refine sx_iload_n (pc := 7) dX10_trace_7 sx_m2 ?_
  refine sx_aload_n (pc := 8) dX10_trace_8 sx_m1 ?_
  obtain ⟨g18, h⟩ := sx_grd h
  refine sv_getI (pc := 9) hG dX10_trace_9 f_10_41 g18 rfl ?_
  refine sx_icmp_ge (pc := 12) (tgt := 37) dX10_trace_12 (by decide) (fun c19 => ?_) (fun c19 => ?_)
  · have h := sx_pos c19 h
    refine sx_aload_n (pc := 37) dX10_trace_37 sx_m0 ?_
    refine sx_sipush (pc := 38) (v := 8193) dX10_trace_38 (by decide) ?_
    obtain ⟨V20, hV20⟩ : ∃ z : sv_V, z = sv_I V 60 11 (8193 : Int32) := ⟨_, rfl⟩
    have h := sx_letE hV20 h
    refine sv_putI (pc := 41) hG dX10_trace_41 f_10_57 lay_60 rfl hV20 ?_
    refine sx_aload_n (pc := 44) dX10_trace_44 sx_m0 ?_
    refine sx_aload_n (pc := 45) dX10_trace_45 sx_m0 ?_
    refine sv_getI (pc := 46) hG dX10_trace_46 f_10_57 lay_60 rfl ?_
    refine sx_ineg (pc := 49) dX10_trace_49 ?_
    obtain ⟨V21, hV21⟩ : ∃ z : sv_V, z = sv_I V20 60 12 (-(V20.1 60 11)) := ⟨_, rfl⟩
    have h := sx_letE hV21 h
    refine sv_putI (pc := 50) hG dX10_trace_50 f_10_60 lay_60 rfl hV21 ?_
    refine sx_iconst (pc := 53) (v := 0) dX10_trace_53 (by decide) ?_
    refine sx_istore_n (pc := 54) (lo' := [(2, .int (0 : Int32)), (0, .ref 60), (1, .ref l1)]) dX10_trace_54 (by decide) rfl ?_
    refine sx_wk (sx_s1 sx_m1 (sx_s1 sx_m2 (sx_s1 sx_m0 sx_s0))) ?_
    exact tL_X10_trace_55 hG hP  N _ _ _ h
  · have h := sx_neg c19 h
    refine sx_aload_n (pc := 15) dX10_trace_15 sx_m0 ?_
    refine sx_aload_n (pc := 16) dX10_trace_16 sx_m1 ?_
    refine sx_aload_n (pc := 17) dX10_trace_17 sx_m1 ?_
    refine sx_iload_n (pc := 18) dX10_trace_18 sx_m2 ?_
    obtain ⟨⟨x24, V22⟩, g23, h⟩ := sx_bnd h
    refine sv_cV (pc := 19) (y := qX8_firstOf) (o := (some (.int x24))) (as := [.int l2]) (V1 := V22) hG dX10_trace_19 l_X10_46 y0X8_firstOf yvX8_firstOf rfl (Nat.le_of_ble_eq_true rfl) g18 kr_8 (by decide) (Nat.le_of_ble_eq_true rfl) rfl rfl rfl (t_X8_firstOf hG ⟨rfl, rfl⟩ g23) ?_
    refine sx_aload_n (pc := 22) dX10_trace_22 sx_m1 ?_
    obtain ⟨b25, g26, h⟩ := sx_bnd h
    refine sv_getA (pc := 23) hG dX10_trace_23 f_10_50 g18 rfl g26 ?_
    refine sx_iload_n (pc := 26) dX10_trace_26 sx_m2 ?_
    obtain ⟨n27, g28, h⟩ := sx_bnd h
    obtain ⟨g29, h⟩ := sx_grd h
    refine sv_iald (pc := 27) hG dX10_trace_27 (sv_len_e g28) g29 ?_
    obtain ⟨V30, g31, h⟩ := sx_bnd h
    refine sv_cV (pc := 28) (y := qX10_traceContour) (o := none) (as := [.ref l1, .int x24, .int (V22.1 b25 l2.toNatClampNeg)]) (V1 := V30) hG dX10_trace_28 l_X10_53 y0X10_traceContour yvX10_traceContour rfl (Nat.le_of_ble_eq_true rfl) lay_60 kr_10 (by decide) (Nat.le_of_ble_eq_true rfl) rfl rfl rfl (t_X10_traceContour hG ⟨rfl, rfl⟩ g31) ?_
    obtain ⟨x32, hx32⟩ : ∃ z : Int32, z = l2 + 1 := ⟨_, rfl⟩
    have h := sx_letE hx32 h
    refine sx_iinc (pc := 31) (v := x32) (lo' := [(2, .int x32), (0, .ref 60), (1, .ref l1)]) dX10_trace_31 sx_m2 (by rw [hx32]; rfl) (by decide) rfl ?_
    refine sx_goto (pc := 34) (tgt := 7) dX10_trace_34 (by decide) ?_
    refine sx_wk (sx_s1 sx_m1 (sx_s1 sx_m2 (sx_s1 sx_m0 sx_s0))) ?_
    exact hk7 _ _ _ h
theorem tL_X10_trace_7 {g : sx_G} (hG : sx_Go g) {P : Option Value → sv_V → Prop} {Vr : sv_V} (hP : P none Vr) {N : Nat}   : ∀ (n : Nat) (l1 : Nat) (l2 : Int32) (V : sv_V), sx_lp3 (B_X10_trace_7 N ) n l1 l2 V = some Vr → sv_N g qX10_trace 2 7 [(0, .ref 60), (1, .ref l1), (2, .int l2)] [] V P :=
  sx_lp3_ind (fun k0 ih _ _ V h => tB_X10_trace_7 hG hP ih h)
def F_X10_trace (N : Nat) (l1 : Nat) (V : sv_V) : Option sv_V := sx_let (sv_I V 60 7 (0 : Int32)) (fun V33 => sx_lp3 (B_X10_trace_7 N ) N l1 (0 : Int32) V33)
set_option maxRecDepth 20000 in
theorem t_X10_trace {g : sx_G} (hG : sx_Go g) {P : Option Value → sv_V → Prop} {Vr : sv_V} (hP : P none Vr) {N : Nat} {l1 : Nat} {V : sv_V} (h : F_X10_trace N l1 V = some Vr) : sv_N g qX10_trace 2 0 [(0, .ref 60), (1, .ref l1)] [] V P := by
  unfold F_X10_trace at h
  refine sx_aload_n (pc := 0) dX10_trace_0 sx_m0 ?_
  refine sx_iconst (pc := 1) (v := 0) dX10_trace_1 (by decide) ?_
  obtain ⟨V33, hV33⟩ : ∃ z : sv_V, z = sv_I V 60 7 (0 : Int32) := ⟨_, rfl⟩
  have h := sx_letE hV33 h
  refine sv_putI (pc := 2) hG dX10_trace_2 f_10_37 lay_60 rfl hV33 ?_
  refine sx_iconst (pc := 5) (v := 0) dX10_trace_5 (by decide) ?_
  refine sx_istore_n (pc := 6) (lo' := [(2, .int (0 : Int32)), (0, .ref 60), (1, .ref l1)]) dX10_trace_6 (by decide) rfl ?_
  refine sx_wk (sx_s1 sx_m1 (sx_s1 sx_m2 (sx_s1 sx_m0 sx_s0))) ?_
  exact tL_X10_trace_7 hG hP  N _ _ _ h
theorem dX10_holds_0 : decode cX10_holds 0 = .ok (.aload_n 0, 1) := by decide +kernel
theorem dX10_holds_1 : decode cX10_holds 1 = .ok (.iconst 0, 1) := by decide +kernel
theorem dX10_holds_2 : decode cX10_holds 2 = .ok (.putfield 94, 3) := by decide +kernel
theorem dX10_holds_5 : decode cX10_holds 5 = .ok (.iconst 0, 1) := by decide +kernel
theorem dX10_holds_6 : decode cX10_holds 6 = .ok (.istore_n 3, 1) := by decide +kernel
theorem dX10_holds_7 : decode cX10_holds 7 = .ok (.iload_n 3, 1) := by decide +kernel
theorem dX10_holds_8 : decode cX10_holds 8 = .ok (.aload_n 0, 1) := by decide +kernel
theorem dX10_holds_9 : decode cX10_holds 9 = .ok (.getfield 91, 3) := by decide +kernel
theorem dX10_holds_12 : decode cX10_holds 12 = .ok (.if_icmp .ge 75, 3) := by decide +kernel
theorem dX10_holds_15 : decode cX10_holds 15 = .ok (.aload_n 0, 1) := by decide +kernel
theorem dX10_holds_16 : decode cX10_holds 16 = .ok (.getfield 34, 3) := by decide +kernel
theorem dX10_holds_19 : decode cX10_holds 19 = .ok (.iload_n 3, 1) := by decide +kernel
theorem dX10_holds_20 : decode cX10_holds 20 = .ok (.iaload, 1) := by decide +kernel
theorem dX10_holds_21 : decode cX10_holds 21 = .ok (.istore 4, 2) := by decide +kernel
theorem dX10_holds_23 : decode cX10_holds 23 = .ok (.aload_n 0, 1) := by decide +kernel
theorem dX10_holds_24 : decode cX10_holds 24 = .ok (.getfield 9, 3) := by decide +kernel
theorem dX10_holds_27 : decode cX10_holds 27 = .ok (.iload 4, 2) := by decide +kernel
theorem dX10_holds_29 : decode cX10_holds 29 = .ok (.iaload, 1) := by decide +kernel
theorem dX10_holds_30 : decode cX10_holds 30 = .ok (.iload_n 1, 1) := by decide +kernel
theorem dX10_holds_31 : decode cX10_holds 31 = .ok (.if_icmp .ge 29, 3) := by decide +kernel
theorem dX10_holds_34 : decode cX10_holds 34 = .ok (.aload_n 0, 1) := by decide +kernel
theorem dX10_holds_35 : decode cX10_holds 35 = .ok (.getfield 18, 3) := by decide +kernel
theorem dX10_holds_38 : decode cX10_holds 38 = .ok (.iload 4, 2) := by decide +kernel
theorem dX10_holds_40 : decode cX10_holds 40 = .ok (.iaload, 1) := by decide +kernel
theorem dX10_holds_41 : decode cX10_holds 41 = .ok (.iload_n 1, 1) := by decide +kernel
theorem dX10_holds_42 : decode cX10_holds 42 = .ok (.if_icmp .ge 18, 3) := by decide +kernel
theorem dX10_holds_45 : decode cX10_holds 45 = .ok (.aload_n 0, 1) := by decide +kernel
theorem dX10_holds_46 : decode cX10_holds 46 = .ok (.getfield 24, 3) := by decide +kernel
theorem dX10_holds_49 : decode cX10_holds 49 = .ok (.iload 4, 2) := by decide +kernel
theorem dX10_holds_51 : decode cX10_holds 51 = .ok (.iaload, 1) := by decide +kernel
theorem dX10_holds_52 : decode cX10_holds 52 = .ok (.iload_n 1, 1) := by decide +kernel
theorem dX10_holds_53 : decode cX10_holds 53 = .ok (.if_icmp .ge 7, 3) := by decide +kernel
theorem dX10_holds_56 : decode cX10_holds 56 = .ok (.iconst 1, 1) := by decide +kernel
theorem dX10_holds_57 : decode cX10_holds 57 = .ok (.goto 4, 3) := by decide +kernel
theorem dX10_holds_60 : decode cX10_holds 60 = .ok (.iconst 0, 1) := by decide +kernel
theorem dX10_holds_61 : decode cX10_holds 61 = .ok (.istore 5, 2) := by decide +kernel
theorem dX10_holds_63 : decode cX10_holds 63 = .ok (.iload 5, 2) := by decide +kernel
theorem dX10_holds_65 : decode cX10_holds 65 = .ok (.ifCond .ne 16, 3) := by decide +kernel
theorem dX10_holds_68 : decode cX10_holds 68 = .ok (.aload_n 0, 1) := by decide +kernel
theorem dX10_holds_69 : decode cX10_holds 69 = .ok (.iload 4, 2) := by decide +kernel
theorem dX10_holds_71 : decode cX10_holds 71 = .ok (.iload_n 1, 1) := by decide +kernel
theorem dX10_holds_72 : decode cX10_holds 72 = .ok (.iload_n 2, 1) := by decide +kernel
theorem dX10_holds_73 : decode cX10_holds 73 = .ok (.invokevirtual 97, 3) := by decide +kernel
theorem dX10_holds_76 : decode cX10_holds 76 = .ok (.ifCond .eq 5, 3) := by decide +kernel
theorem dX10_holds_79 : decode cX10_holds 79 = .ok (.iconst 1, 1) := by decide +kernel
theorem dX10_holds_80 : decode cX10_holds 80 = .ok (.ireturn, 1) := by decide +kernel
theorem dX10_holds_81 : decode cX10_holds 81 = .ok (.iinc 3 1, 3) := by decide +kernel
theorem dX10_holds_84 : decode cX10_holds 84 = .ok (.goto (-77), 3) := by decide +kernel
theorem dX10_holds_87 : decode cX10_holds 87 = .ok (.aload_n 0, 1) := by decide +kernel
theorem dX10_holds_88 : decode cX10_holds 88 = .ok (.getfield 94, 3) := by decide +kernel
theorem dX10_holds_91 : decode cX10_holds 91 = .ok (.ifCond .eq 7, 3) := by decide +kernel
theorem dX10_holds_94 : decode cX10_holds 94 = .ok (.iconst 1, 1) := by decide +kernel
theorem dX10_holds_95 : decode cX10_holds 95 = .ok (.goto 4, 3) := by decide +kernel
theorem dX10_holds_98 : decode cX10_holds 98 = .ok (.iconst 0, 1) := by decide +kernel
theorem dX10_holds_99 : decode cX10_holds 99 = .ok (.ireturn, 1) := by decide +kernel
def B_X10_holds_81 (N : Nat) (k7 : Int32 → Int32 → Int32 → sv_V → Option (Int32 × sv_V)) (l1 : Int32) (l2 : Int32) (l3 : Int32) (V : sv_V) : Option (Int32 × sv_V) := sx_let (l3 + 1) (fun x1 => k7 l1 l2 x1 V)
set_option maxRecDepth 20000 in
theorem tB_X10_holds_81 {g : sx_G} (hG : sx_Go g) {P : Option Value → sv_V → Prop} {r : Int32} {Vr : sv_V} (hP : P (some (.int r)) Vr) {N : Nat} {k7 : Int32 → Int32 → Int32 → sv_V → Option (Int32 × sv_V)} (hk7 : ∀ (l1 : Int32) (l2 : Int32) (l3 : Int32) (V : sv_V), k7 l1 l2 l3 V = some (r, Vr) → sv_N g qX10_holds 3 7 [(0, .ref 60), (1, .int l1), (2, .int l2), (3, .int l3)] [] V P) {l1 : Int32} {l2 : Int32} {l3 : Int32} {V : sv_V} (h : B_X10_holds_81 N k7 l1 l2 l3 V = some (r, Vr)) : sv_N g qX10_holds 3 81 [(0, .ref 60), (1, .int l1), (2, .int l2), (3, .int l3)] [] V P := by
  unfold B_X10_holds_81 at h
  obtain ⟨x1, hx1⟩ : ∃ z : Int32, z = l3 + 1 := ⟨_, rfl⟩
  have h := sx_letE hx1 h
  refine sx_iinc (pc := 81) (v := x1) (lo' := [(3, .int x1), (0, .ref 60), (1, .int l1), (2, .int l2)]) dX10_holds_81 sx_m3 (by rw [hx1]; rfl) (by decide) rfl ?_
  refine sx_goto (pc := 84) (tgt := 7) dX10_holds_84 (by decide) ?_
  refine sx_wk (sx_s1 sx_m1 (sx_s1 sx_m2 (sx_s1 sx_m3 (sx_s1 sx_m0 sx_s0)))) ?_
  exact hk7 _ _ _ _ h
def B_X10_holds_61 (N : Nat) (k7 : Int32 → Int32 → Int32 → sv_V → Option (Int32 × sv_V)) (l1 : Int32) (l2 : Int32) (l3 : Int32) (l4 : Int32) (s0 : Int32) (V : sv_V) : Option (Int32 × sv_V) := if s0 = 0 then ((F_X10_meets l4 l1 l2 V).bind (fun (x5, V3) => if x5 = 0 then (B_X10_holds_81 N k7 l1 l2 l3 V3) else (some ((1 : Int32), V3)))) else (B_X10_holds_81 N k7 l1 l2 l3 V)
set_option maxRecDepth 20000 in
theorem tB_X10_holds_61 {g : sx_G} (hG : sx_Go g) {P : Option Value → sv_V → Prop} {r : Int32} {Vr : sv_V} (hP : P (some (.int r)) Vr) {N : Nat} {k7 : Int32 → Int32 → Int32 → sv_V → Option (Int32 × sv_V)} (hk7 : ∀ (l1 : Int32) (l2 : Int32) (l3 : Int32) (V : sv_V), k7 l1 l2 l3 V = some (r, Vr) → sv_N g qX10_holds 3 7 [(0, .ref 60), (1, .int l1), (2, .int l2), (3, .int l3)] [] V P) {l1 : Int32} {l2 : Int32} {l3 : Int32} {l4 : Int32} {s0 : Int32} {V : sv_V} (h : B_X10_holds_61 N k7 l1 l2 l3 l4 s0 V = some (r, Vr)) : sv_N g qX10_holds 3 61 [(0, .ref 60), (1, .int l1), (2, .int l2), (3, .int l3), (4, .int l4)] [.int s0] V P := by
  unfold B_X10_holds_61 at h
  refine sx_istore (pc := 61) (lo' := [(5, .int s0), (0, .ref 60), (1, .int l1), (2, .int l2), (3, .int l3), (4, .int l4)]) dX10_holds_61 (by decide) rfl ?_
  refine sx_iload (pc := 63) dX10_holds_63 sx_m0 ?_
  refine sx_if_ne (pc := 65) (tgt := 81) dX10_holds_65 (by decide) (fun c2 => ?_) (fun c2 => ?_)
  · have h := sx_neg c2 h
    refine sx_wk (sx_s1 sx_m1 (sx_s1 sx_m2 (sx_s1 sx_m3 (sx_s1 sx_m4 sx_s0)))) ?_
    exact tB_X10_holds_81 hG hP hk7 h
  · have h := sx_pos c2 h
    refine sx_aload_n (pc := 68) dX10_holds_68 sx_m1 ?_
    refine sx_iload (pc := 69) dX10_holds_69 sx_m5 ?_
    refine sx_iload_n (pc := 71) dX10_holds_71 sx_m2 ?_
    refine sx_iload_n (pc := 72) dX10_holds_72 sx_m3 ?_
    obtain ⟨⟨x5, V3⟩, g4, h⟩ := sx_bnd h
    refine sv_cV (pc := 73) (y := qX10_meets) (o := (some (.int x5))) (as := [.int l4, .int l1, .int l2]) (V1 := V3) hG dX10_holds_73 l_X10_97 y0X10_meets yvX10_meets rfl (Nat.le_of_ble_eq_true rfl) lay_60 kr_10 (by decide) (Nat.le_of_ble_eq_true rfl) rfl rfl rfl (t_X10_meets hG ⟨rfl, rfl⟩ g4) ?_
    refine sx_if_eq (pc := 76) (tgt := 81) dX10_holds_76 (by decide) (fun c6 => ?_) (fun c6 => ?_)
    · have h := sx_pos c6 h
      refine sx_wk (sx_s1 sx_m1 (sx_s1 sx_m2 (sx_s1 sx_m3 (sx_s1 sx_m4 sx_s0)))) ?_
      exact tB_X10_holds_81 hG hP hk7 h
    · have h := sx_neg c6 h
      refine sx_iconst (pc := 79) (v := 1) dX10_holds_79 (by decide) ?_
      exact sv_zret (pc := 80) dX10_holds_80 rfl rfl h hP
def B_X10_holds_60 (N : Nat) (k7 : Int32 → Int32 → Int32 → sv_V → Option (Int32 × sv_V)) (l1 : Int32) (l2 : Int32) (l3 : Int32) (l4 : Int32) (V : sv_V) : Option (Int32 × sv_V) := B_X10_holds_61 N k7 l1 l2 l3 l4 (0 : Int32) V
set_option maxRecDepth 20000 in
theorem tB_X10_holds_60 {g : sx_G} (hG : sx_Go g) {P : Option Value → sv_V → Prop} {r : Int32} {Vr : sv_V} (hP : P (some (.int r)) Vr) {N : Nat} {k7 : Int32 → Int32 → Int32 → sv_V → Option (Int32 × sv_V)} (hk7 : ∀ (l1 : Int32) (l2 : Int32) (l3 : Int32) (V : sv_V), k7 l1 l2 l3 V = some (r, Vr) → sv_N g qX10_holds 3 7 [(0, .ref 60), (1, .int l1), (2, .int l2), (3, .int l3)] [] V P) {l1 : Int32} {l2 : Int32} {l3 : Int32} {l4 : Int32} {V : sv_V} (h : B_X10_holds_60 N k7 l1 l2 l3 l4 V = some (r, Vr)) : sv_N g qX10_holds 3 60 [(0, .ref 60), (1, .int l1), (2, .int l2), (3, .int l3), (4, .int l4)] [] V P := by
  unfold B_X10_holds_60 at h
  refine sx_iconst (pc := 60) (v := 0) dX10_holds_60 (by decide) ?_
  refine sx_wk (sx_s1 sx_m0 (sx_s1 sx_m1 (sx_s1 sx_m2 (sx_s1 sx_m3 (sx_s1 sx_m4 sx_s0))))) ?_
  exact tB_X10_holds_61 hG hP hk7 h
def B_X10_holds_7 (N : Nat) (k7 : Int32 → Int32 → Int32 → sv_V → Option (Int32 × sv_V)) (l1 : Int32) (l2 : Int32) (l3 : Int32) (V : sv_V) : Option (Int32 × sv_V) := if (V.1 60 9) ≤ l3 then (if (V.1 60 10) = 0 then (some ((0 : Int32), V)) else (some ((1 : Int32), V))) else (if sx_in l3 100 = true then sx_let (V.1 68 l3.toNatClampNeg) (fun x10 => if sx_in x10 100 = true then if l1 ≤ (V.1 61 x10.toNatClampNeg) then (B_X10_holds_60 N k7 l1 l2 l3 x10 V) else (if sx_in x10 100 = true then if l1 ≤ (V.1 63 x10.toNatClampNeg) then (B_X10_holds_60 N k7 l1 l2 l3 x10 V) else (if sx_in x10 100 = true then if l1 ≤ (V.1 65 x10.toNatClampNeg) then (B_X10_holds_60 N k7 l1 l2 l3 x10 V) else (B_X10_holds_61 N k7 l1 l2 l3 x10 (1 : Int32) V) else none) else none) else none) else none)
set_option maxRecDepth 20000 in
theorem tB_X10_holds_7 {g : sx_G} (hG : sx_Go g) {P : Option Value → sv_V → Prop} {r : Int32} {Vr : sv_V} (hP : P (some (.int r)) Vr) {N : Nat} {k7 : Int32 → Int32 → Int32 → sv_V → Option (Int32 × sv_V)} (hk7 : ∀ (l1 : Int32) (l2 : Int32) (l3 : Int32) (V : sv_V), k7 l1 l2 l3 V = some (r, Vr) → sv_N g qX10_holds 3 7 [(0, .ref 60), (1, .int l1), (2, .int l2), (3, .int l3)] [] V P) {l1 : Int32} {l2 : Int32} {l3 : Int32} {V : sv_V} (h : B_X10_holds_7 N k7 l1 l2 l3 V = some (r, Vr)) : sv_N g qX10_holds 3 7 [(0, .ref 60), (1, .int l1), (2, .int l2), (3, .int l3)] [] V P := by
  unfold B_X10_holds_7 at h
  refine sx_iload_n (pc := 7) dX10_holds_7 sx_m3 ?_
  refine sx_aload_n (pc := 8) dX10_holds_8 sx_m0 ?_
  refine sv_getI (pc := 9) hG dX10_holds_9 f_10_91 lay_60 rfl ?_
  refine sx_icmp_ge (pc := 12) (tgt := 87) dX10_holds_12 (by decide) (fun c7 => ?_) (fun c7 => ?_)
  · have h := sx_pos c7 h
    refine sx_aload_n (pc := 87) dX10_holds_87 sx_m0 ?_
    refine sv_getI (pc := 88) hG dX10_holds_88 f_10_94 lay_60 rfl ?_
    refine sx_if_eq (pc := 91) (tgt := 98) dX10_holds_91 (by decide) (fun c8 => ?_) (fun c8 => ?_)
    · have h := sx_pos c8 h
      refine sx_iconst (pc := 98) (v := 0) dX10_holds_98 (by decide) ?_
      exact sv_zret (pc := 99) dX10_holds_99 rfl rfl h hP
    · have h := sx_neg c8 h
      refine sx_iconst (pc := 94) (v := 1) dX10_holds_94 (by decide) ?_
      refine sx_goto (pc := 95) (tgt := 99) dX10_holds_95 (by decide) ?_
      exact sv_zret (pc := 99) dX10_holds_99 rfl rfl h hP
  · have h := sx_neg c7 h
    refine sx_aload_n (pc := 15) dX10_holds_15 sx_m0 ?_
    refine sv_getA (pc := 16) hG dX10_holds_16 f_10_34 lay_60 rfl cr_60_8 ?_
    refine sx_iload_n (pc := 19) dX10_holds_19 sx_m3 ?_
    obtain ⟨g9, h⟩ := sx_grd h
    refine sv_iald (pc := 20) hG dX10_holds_20 lay_68 g9 ?_
    refine sv_tI (fun x10 hx10 => ?_)
    have h := sx_letE hx10 h
    refine sx_istore (pc := 21) (lo' := [(4, .int x10), (0, .ref 60), (1, .int l1), (2, .int l2), (3, .int l3)]) dX10_holds_21 (by decide) rfl ?_
    refine sx_aload_n (pc := 23) dX10_holds_23 sx_m1 ?_
    refine sv_getA (pc := 24) hG dX10_holds_24 f_10_9 lay_60 rfl cr_60_0 ?_
    refine sx_iload (pc := 27) dX10_holds_27 sx_m0 ?_
    obtain ⟨g11, h⟩ := sx_grd h
    refine sv_iald (pc := 29) hG dX10_holds_29 lay_61 g11 ?_
    refine sx_iload_n (pc := 30) dX10_holds_30 sx_m2 ?_
    refine sx_icmp_ge (pc := 31) (tgt := 60) dX10_holds_31 (by decide) (fun c12 => ?_) (fun c12 => ?_)
    · have h := sx_pos c12 h
      refine sx_wk (sx_s1 sx_m1 (sx_s1 sx_m2 (sx_s1 sx_m3 (sx_s1 sx_m4 (sx_s1 sx_m0 sx_s0))))) ?_
      exact tB_X10_holds_60 hG hP hk7 h
    · have h := sx_neg c12 h
      refine sx_aload_n (pc := 34) dX10_holds_34 sx_m1 ?_
      refine sv_getA (pc := 35) hG dX10_holds_35 f_10_18 lay_60 rfl cr_60_2 ?_
      refine sx_iload (pc := 38) dX10_holds_38 sx_m0 ?_
      obtain ⟨g13, h⟩ := sx_grd h
      refine sv_iald (pc := 40) hG dX10_holds_40 lay_63 g13 ?_
      refine sx_iload_n (pc := 41) dX10_holds_41 sx_m2 ?_
      refine sx_icmp_ge (pc := 42) (tgt := 60) dX10_holds_42 (by decide) (fun c14 => ?_) (fun c14 => ?_)
      · have h := sx_pos c14 h
        refine sx_wk (sx_s1 sx_m1 (sx_s1 sx_m2 (sx_s1 sx_m3 (sx_s1 sx_m4 (sx_s1 sx_m0 sx_s0))))) ?_
        exact tB_X10_holds_60 hG hP hk7 h
      · have h := sx_neg c14 h
        refine sx_aload_n (pc := 45) dX10_holds_45 sx_m1 ?_
        refine sv_getA (pc := 46) hG dX10_holds_46 f_10_24 lay_60 rfl cr_60_4 ?_
        refine sx_iload (pc := 49) dX10_holds_49 sx_m0 ?_
        obtain ⟨g15, h⟩ := sx_grd h
        refine sv_iald (pc := 51) hG dX10_holds_51 lay_65 g15 ?_
        refine sx_iload_n (pc := 52) dX10_holds_52 sx_m2 ?_
        refine sx_icmp_ge (pc := 53) (tgt := 60) dX10_holds_53 (by decide) (fun c16 => ?_) (fun c16 => ?_)
        · have h := sx_pos c16 h
          refine sx_wk (sx_s1 sx_m1 (sx_s1 sx_m2 (sx_s1 sx_m3 (sx_s1 sx_m4 (sx_s1 sx_m0 sx_s0))))) ?_
          exact tB_X10_holds_60 hG hP hk7 h
        · have h := sx_neg c16 h
          refine sx_iconst (pc := 56) (v := 1) dX10_holds_56 (by decide) ?_
          refine sx_goto (pc := 57) (tgt := 61) dX10_holds_57 (by decide) ?_
          refine sx_wk (sx_s1 sx_m1 (sx_s1 sx_m2 (sx_s1 sx_m3 (sx_s1 sx_m4 (sx_s1 sx_m0 sx_s0))))) ?_
          exact tB_X10_holds_61 hG hP hk7 h
theorem tL_X10_holds_7 {g : sx_G} (hG : sx_Go g) {P : Option Value → sv_V → Prop} {r : Int32} {Vr : sv_V} (hP : P (some (.int r)) Vr) {N : Nat}   : ∀ (n : Nat) (l1 : Int32) (l2 : Int32) (l3 : Int32) (V : sv_V), sx_lp4 (B_X10_holds_7 N ) n l1 l2 l3 V = some (r, Vr) → sv_N g qX10_holds 3 7 [(0, .ref 60), (1, .int l1), (2, .int l2), (3, .int l3)] [] V P :=
  sx_lp4_ind (fun k0 ih _ _ _ V h => tB_X10_holds_7 hG hP ih h)
def F_X10_holds (N : Nat) (l1 : Int32) (l2 : Int32) (V : sv_V) : Option (Int32 × sv_V) := sx_let (sv_I V 60 10 (0 : Int32)) (fun V17 => sx_lp4 (B_X10_holds_7 N ) N l1 l2 (0 : Int32) V17)
set_option maxRecDepth 20000 in
theorem t_X10_holds {g : sx_G} (hG : sx_Go g) {P : Option Value → sv_V → Prop} {r : Int32} {Vr : sv_V} (hP : P (some (.int r)) Vr) {N : Nat} {l1 : Int32} {l2 : Int32} {V : sv_V} (h : F_X10_holds N l1 l2 V = some (r, Vr)) : sv_N g qX10_holds 3 0 [(0, .ref 60), (1, .int l1), (2, .int l2)] [] V P := by
  unfold F_X10_holds at h
  refine sx_aload_n (pc := 0) dX10_holds_0 sx_m0 ?_
  refine sx_iconst (pc := 1) (v := 0) dX10_holds_1 (by decide) ?_
  obtain ⟨V17, hV17⟩ : ∃ z : sv_V, z = sv_I V 60 10 (0 : Int32) := ⟨_, rfl⟩
  have h := sx_letE hV17 h
  refine sv_putI (pc := 2) hG dX10_holds_2 f_10_94 lay_60 rfl hV17 ?_
  refine sx_iconst (pc := 5) (v := 0) dX10_holds_5 (by decide) ?_
  refine sx_istore_n (pc := 6) (lo' := [(3, .int (0 : Int32)), (0, .ref 60), (1, .int l1), (2, .int l2)]) dX10_holds_6 (by decide) rfl ?_
  refine sx_wk (sx_s1 sx_m1 (sx_s1 sx_m2 (sx_s1 sx_m3 (sx_s1 sx_m0 sx_s0)))) ?_
  exact tL_X10_holds_7 hG hP  N _ _ _ _ h
theorem dX11_glyphOf_0 : decode cX11_glyphOf 0 = .ok (.aload_n 0, 1) := by decide +kernel
theorem dX11_glyphOf_1 : decode cX11_glyphOf 1 = .ok (.getfield 16, 3) := by decide +kernel
theorem dX11_glyphOf_4 : decode cX11_glyphOf 4 = .ok (.getfield 67, 3) := by decide +kernel
theorem dX11_glyphOf_7 : decode cX11_glyphOf 7 = .ok (.ifCond .ne 6, 3) := by decide +kernel
theorem dX11_glyphOf_10 : decode cX11_glyphOf 10 = .ok (.bipush (-3), 2) := by decide +kernel
theorem dX11_glyphOf_12 : decode cX11_glyphOf 12 = .ok (.ireturn, 1) := by decide +kernel
theorem dX11_glyphOf_13 : decode cX11_glyphOf 13 = .ok (.iload_n 1, 1) := by decide +kernel
theorem dX11_glyphOf_14 : decode cX11_glyphOf 14 = .ok (.ifCond .lt 9, 3) := by decide +kernel
theorem dX11_glyphOf_17 : decode cX11_glyphOf 17 = .ok (.iload_n 1, 1) := by decide +kernel
theorem dX11_glyphOf_18 : decode cX11_glyphOf 18 = .ok (.ldc 111, 2) := by decide +kernel
theorem dX11_glyphOf_20 : decode cX11_glyphOf 20 = .ok (.if_icmp .le 6, 3) := by decide +kernel
theorem dX11_glyphOf_23 : decode cX11_glyphOf 23 = .ok (.bipush (-2), 2) := by decide +kernel
theorem dX11_glyphOf_25 : decode cX11_glyphOf 25 = .ok (.ireturn, 1) := by decide +kernel
theorem dX11_glyphOf_26 : decode cX11_glyphOf 26 = .ok (.aload_n 0, 1) := by decide +kernel
theorem dX11_glyphOf_27 : decode cX11_glyphOf 27 = .ok (.getfield 16, 3) := by decide +kernel
theorem dX11_glyphOf_30 : decode cX11_glyphOf 30 = .ok (.iload_n 1, 1) := by decide +kernel
theorem dX11_glyphOf_31 : decode cX11_glyphOf 31 = .ok (.invokevirtual 112, 3) := by decide +kernel
theorem dX11_glyphOf_34 : decode cX11_glyphOf 34 = .ok (.ireturn, 1) := by decide +kernel
def F_X11_glyphOf (N : Nat) (l1 : Int32) (V : sv_V) : Option (Int32 × sv_V) := if (V.1 2 2) = 0 then (some ((-3 : Int32), V)) else (if l1 < 0 then (some ((-2 : Int32), V)) else (if l1 ≤ (1114111 : Int32) then ((F_X2_findGlyph N l1 V).bind (fun (x6, V4) => some (x6, V4))) else (some ((-2 : Int32), V))))
set_option maxRecDepth 20000 in
theorem t_X11_glyphOf {g : sx_G} (hG : sx_Go g) {P : Option Value → sv_V → Prop} {r : Int32} {Vr : sv_V} (hP : P (some (.int r)) Vr) {N : Nat} {l1 : Int32} {V : sv_V} (h : F_X11_glyphOf N l1 V = some (r, Vr)) : sv_N g qX11_glyphOf 4 0 [(0, .ref 0), (1, .int l1)] [] V P := by
  unfold F_X11_glyphOf at h
  refine sx_aload_n (pc := 0) dX11_glyphOf_0 sx_m0 ?_
  refine sv_getO (pc := 1) hG dX11_glyphOf_1 f_11_16 lay_0 rfl cr_0_2 ?_
  refine sv_getZ (pc := 4) hG dX11_glyphOf_4 f_11_67 lay_2 rfl ?_
  refine sx_if_ne (pc := 7) (tgt := 13) dX11_glyphOf_7 (by decide) (fun c1 => ?_) (fun c1 => ?_)
  · have h := sx_neg c1 h
    refine sx_iload_n (pc := 13) dX11_glyphOf_13 sx_m1 ?_
    refine sx_if_lt (pc := 14) (tgt := 23) dX11_glyphOf_14 (by decide) (fun c2 => ?_) (fun c2 => ?_)
    · have h := sx_pos c2 h
      refine sx_bipush (pc := 23) (v := (-2)) dX11_glyphOf_23 (by decide) ?_
      exact sv_iret (pc := 25) dX11_glyphOf_25 rfl h hP
    · have h := sx_neg c2 h
      refine sx_iload_n (pc := 17) dX11_glyphOf_17 sx_m1 ?_
      refine sx_ldc (pc := 18) dX11_glyphOf_18 k_X11_111 ?_
      refine sx_icmp_le (pc := 20) (tgt := 26) dX11_glyphOf_20 (by decide) (fun c3 => ?_) (fun c3 => ?_)
      · have h := sx_pos c3 h
        refine sx_aload_n (pc := 26) dX11_glyphOf_26 sx_m0 ?_
        refine sv_getO (pc := 27) hG dX11_glyphOf_27 f_11_16 lay_0 rfl cr_0_2 ?_
        refine sx_iload_n (pc := 30) dX11_glyphOf_30 sx_m1 ?_
        obtain ⟨⟨x6, V4⟩, g5, h⟩ := sx_bnd h
        refine sv_cV (pc := 31) (y := qX2_findGlyph) (o := (some (.int x6))) (as := [.int l1]) (V1 := V4) hG dX11_glyphOf_31 l_X11_112 y0X2_findGlyph yvX2_findGlyph rfl (Nat.le_of_ble_eq_true rfl) lay_2 kr_2 (by decide) (Nat.le_of_ble_eq_true rfl) rfl rfl rfl (t_X2_findGlyph hG ⟨rfl, rfl⟩ g5) ?_
        exact sv_iret (pc := 34) dX11_glyphOf_34 rfl h hP
      · have h := sx_neg c3 h
        refine sx_bipush (pc := 23) (v := (-2)) dX11_glyphOf_23 (by decide) ?_
        exact sv_iret (pc := 25) dX11_glyphOf_25 rfl h hP
  · have h := sx_pos c1 h
    refine sx_bipush (pc := 10) (v := (-3)) dX11_glyphOf_10 (by decide) ?_
    exact sv_iret (pc := 12) dX11_glyphOf_12 rfl h hP
