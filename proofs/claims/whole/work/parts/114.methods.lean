/-! methods: X5_manyPointCodes, X5_deltaCodes, X9_renew, X10_holds, X11_glyphOf, X12_over, X12_isGlyph, X12_areWithin, X12_by, X12_longOf, X12_between, X12_originally, X12_shiftBy, X12_move, X12_scaled, X12_setCvt, X12_followAll -/
theorem dX5_manyPointCodes_0 : decode cX5_manyPointCodes 0 = .ok (.iload_n 1, 1) := by decide +kernel
theorem dX5_manyPointCodes_1 : decode cX5_manyPointCodes 1 = .ok (.tableswitch 56 56 60 #[35, 42, 56, 56, 49], 35) := by decide +kernel
theorem dX5_manyPointCodes_36 : decode cX5_manyPointCodes 36 = .ok (.aload_n 0, 1) := by decide +kernel
theorem dX5_manyPointCodes_37 : decode cX5_manyPointCodes 37 = .ok (.invokevirtual 495, 3) := by decide +kernel
theorem dX5_manyPointCodes_40 : decode cX5_manyPointCodes 40 = .ok (.goto 21, 3) := by decide +kernel
theorem dX5_manyPointCodes_43 : decode cX5_manyPointCodes 43 = .ok (.aload_n 0, 1) := by decide +kernel
theorem dX5_manyPointCodes_44 : decode cX5_manyPointCodes 44 = .ok (.invokevirtual 498, 3) := by decide +kernel
theorem dX5_manyPointCodes_47 : decode cX5_manyPointCodes 47 = .ok (.goto 14, 3) := by decide +kernel
theorem dX5_manyPointCodes_50 : decode cX5_manyPointCodes 50 = .ok (.aload_n 0, 1) := by decide +kernel
theorem dX5_manyPointCodes_51 : decode cX5_manyPointCodes 51 = .ok (.invokevirtual 501, 3) := by decide +kernel
theorem dX5_manyPointCodes_54 : decode cX5_manyPointCodes 54 = .ok (.goto 7, 3) := by decide +kernel
theorem dX5_manyPointCodes_57 : decode cX5_manyPointCodes 57 = .ok (.aload_n 0, 1) := by decide +kernel
theorem dX5_manyPointCodes_58 : decode cX5_manyPointCodes 58 = .ok (.invokevirtual 504, 3) := by decide +kernel
theorem dX5_manyPointCodes_61 : decode cX5_manyPointCodes 61 = .ok (.return_, 1) := by decide +kernel
def B_X5_manyPointCodes_57 (N : Nat)   (V : sv_V) : Option sv_V := (F_X5_turnPoints N  V).bind (fun V1 => some V1)
set_option maxRecDepth 20000 in
theorem tB_X5_manyPointCodes_57 {g : sx_G} (hG : sx_Go g) {P : Option Value → sv_V → Prop} {Vr : sv_V} (hP : P none Vr) {N : Nat}    {V : sv_V} (h : B_X5_manyPointCodes_57 N   V = some Vr) : sv_N g qX5_manyPointCodes 3 57 [(0, .ref 69)] [] V P := by
  unfold B_X5_manyPointCodes_57 at h
  refine sx_aload_n (pc := 57) dX5_manyPointCodes_57 sx_m0 ?_
  obtain ⟨V1, g2, h⟩ := sx_bnd h
  refine sv_cV (pc := 58) (y := qX5_turnPoints) (o := none) (as := []) (V1 := V1) hG dX5_manyPointCodes_58 l_X5_504 y0X5_turnPoints yvX5_turnPoints rfl (Nat.le_of_ble_eq_true rfl) lay_69 kr_5 (by decide) (Nat.le_of_ble_eq_true rfl) rfl rfl rfl (t_X5_turnPoints hG ⟨rfl, rfl⟩ g2) ?_
  exact sv_vret (pc := 61) dX5_manyPointCodes_61 rfl h hP
def F_X5_manyPointCodes (N : Nat) (l1 : Int32) (V : sv_V) : Option sv_V := if l1 = 56 then ((F_X5_shiftByPixels N  V).bind (fun V4 => some V4)) else (if l1 = 57 then ((F_X5_interpolate N  V).bind (fun V7 => some V7)) else (if l1 = 58 then (B_X5_manyPointCodes_57 N   V) else (if l1 = 59 then (B_X5_manyPointCodes_57 N   V) else (if l1 = 60 then ((F_X5_alignToReference N  V).bind (fun V12 => some V12)) else (B_X5_manyPointCodes_57 N   V)))))
set_option maxRecDepth 20000 in
theorem t_X5_manyPointCodes {g : sx_G} (hG : sx_Go g) {P : Option Value → sv_V → Prop} {Vr : sv_V} (hP : P none Vr) {N : Nat} {l1 : Int32} {V : sv_V} (h : F_X5_manyPointCodes N l1 V = some Vr) : sv_N g qX5_manyPointCodes 3 0 [(0, .ref 69), (1, .int l1)] [] V P := by
  unfold F_X5_manyPointCodes at h
  refine sx_iload_n (pc := 0) dX5_manyPointCodes_0 sx_m1 ?_
  by_cases c3 : l1 = 56
  · have h := sx_pos c3 h
    refine sx_tabI (pc := 1) (off := 35) (tgt := 36) dX5_manyPointCodes_1 (by rw [c3]; decide) (by rw [c3]; decide) (by rw [c3]; rfl) (by decide) ?_
    refine sx_aload_n (pc := 36) dX5_manyPointCodes_36 sx_m0 ?_
    obtain ⟨V4, g5, h⟩ := sx_bnd h
    refine sv_cV (pc := 37) (y := qX5_shiftByPixels) (o := none) (as := []) (V1 := V4) hG dX5_manyPointCodes_37 l_X5_495 y0X5_shiftByPixels yvX5_shiftByPixels rfl (Nat.le_of_ble_eq_true rfl) lay_69 kr_5 (by decide) (Nat.le_of_ble_eq_true rfl) rfl rfl rfl (t_X5_shiftByPixels hG ⟨rfl, rfl⟩ g5) ?_
    refine sx_goto (pc := 40) (tgt := 61) dX5_manyPointCodes_40 (by decide) ?_
    exact sv_vret (pc := 61) dX5_manyPointCodes_61 rfl h hP
  have h := sx_neg c3 h
  by_cases c6 : l1 = 57
  · have h := sx_pos c6 h
    refine sx_tabI (pc := 1) (off := 42) (tgt := 43) dX5_manyPointCodes_1 (by rw [c6]; decide) (by rw [c6]; decide) (by rw [c6]; rfl) (by decide) ?_
    refine sx_aload_n (pc := 43) dX5_manyPointCodes_43 sx_m0 ?_
    obtain ⟨V7, g8, h⟩ := sx_bnd h
    refine sv_cV (pc := 44) (y := qX5_interpolate) (o := none) (as := []) (V1 := V7) hG dX5_manyPointCodes_44 l_X5_498 y0X5_interpolate yvX5_interpolate rfl (Nat.le_of_ble_eq_true rfl) lay_69 kr_5 (by decide) (Nat.le_of_ble_eq_true rfl) rfl rfl rfl (t_X5_interpolate hG ⟨rfl, rfl⟩ g8) ?_
    refine sx_goto (pc := 47) (tgt := 61) dX5_manyPointCodes_47 (by decide) ?_
    exact sv_vret (pc := 61) dX5_manyPointCodes_61 rfl h hP
  have h := sx_neg c6 h
  by_cases c9 : l1 = 58
  · have h := sx_pos c9 h
    refine sx_tabI (pc := 1) (off := 56) (tgt := 57) dX5_manyPointCodes_1 (by rw [c9]; decide) (by rw [c9]; decide) (by rw [c9]; rfl) (by decide) ?_
    refine sx_wk (sx_s1 sx_m0 sx_s0) ?_
    exact tB_X5_manyPointCodes_57 hG hP  h
  have h := sx_neg c9 h
  by_cases c10 : l1 = 59
  · have h := sx_pos c10 h
    refine sx_tabI (pc := 1) (off := 56) (tgt := 57) dX5_manyPointCodes_1 (by rw [c10]; decide) (by rw [c10]; decide) (by rw [c10]; rfl) (by decide) ?_
    refine sx_wk (sx_s1 sx_m0 sx_s0) ?_
    exact tB_X5_manyPointCodes_57 hG hP  h
  have h := sx_neg c10 h
  by_cases c11 : l1 = 60
  · have h := sx_pos c11 h
    refine sx_tabI (pc := 1) (off := 49) (tgt := 50) dX5_manyPointCodes_1 (by rw [c11]; decide) (by rw [c11]; decide) (by rw [c11]; rfl) (by decide) ?_
    refine sx_aload_n (pc := 50) dX5_manyPointCodes_50 sx_m0 ?_
    obtain ⟨V12, g13, h⟩ := sx_bnd h
    refine sv_cV (pc := 51) (y := qX5_alignToReference) (o := none) (as := []) (V1 := V12) hG dX5_manyPointCodes_51 l_X5_501 y0X5_alignToReference yvX5_alignToReference rfl (Nat.le_of_ble_eq_true rfl) lay_69 kr_5 (by decide) (Nat.le_of_ble_eq_true rfl) rfl rfl rfl (t_X5_alignToReference hG ⟨rfl, rfl⟩ g13) ?_
    refine sx_goto (pc := 54) (tgt := 61) dX5_manyPointCodes_54 (by decide) ?_
    exact sv_vret (pc := 61) dX5_manyPointCodes_61 rfl h hP
  have h := sx_neg c11 h
  refine sx_tabO (pc := 1) (tgt := 57) dX5_manyPointCodes_1 (by have ec3 := lv_neT (a := 56) c3 rfl; have ec6 := lv_neT (a := 57) c6 rfl; have ec9 := lv_neT (a := 58) c9 rfl; have ec10 := lv_neT (a := 59) c10 rfl; have ec11 := lv_neT (a := 60) c11 rfl; omega) (by decide) ?_
  refine sx_wk (sx_s1 sx_m0 sx_s0) ?_
  exact tB_X5_manyPointCodes_57 hG hP  h
theorem dX5_deltaCodes_0 : decode cX5_deltaCodes 0 = .ok (.aload_n 0, 1) := by decide +kernel
theorem dX5_deltaCodes_1 : decode cX5_deltaCodes 1 = .ok (.invokevirtual 242, 3) := by decide +kernel
theorem dX5_deltaCodes_4 : decode cX5_deltaCodes 4 = .ok (.istore_n 2, 1) := by decide +kernel
theorem dX5_deltaCodes_5 : decode cX5_deltaCodes 5 = .ok (.iload_n 2, 1) := by decide +kernel
theorem dX5_deltaCodes_6 : decode cX5_deltaCodes 6 = .ok (.ifCond .ge 10, 3) := by decide +kernel
theorem dX5_deltaCodes_9 : decode cX5_deltaCodes 9 = .ok (.aload_n 0, 1) := by decide +kernel
theorem dX5_deltaCodes_10 : decode cX5_deltaCodes 10 = .ok (.bipush 11, 2) := by decide +kernel
theorem dX5_deltaCodes_12 : decode cX5_deltaCodes 12 = .ok (.putfield 56, 3) := by decide +kernel
theorem dX5_deltaCodes_15 : decode cX5_deltaCodes 15 = .ok (.return_, 1) := by decide +kernel
theorem dX5_deltaCodes_16 : decode cX5_deltaCodes 16 = .ok (.ldc2_w 459, 3) := by decide +kernel
theorem dX5_deltaCodes_19 : decode cX5_deltaCodes 19 = .ok (.iload_n 2, 1) := by decide +kernel
theorem dX5_deltaCodes_20 : decode cX5_deltaCodes 20 = .ok (.i2l, 1) := by decide +kernel
theorem dX5_deltaCodes_21 : decode cX5_deltaCodes 21 = .ok (.lmul, 1) := by decide +kernel
theorem dX5_deltaCodes_22 : decode cX5_deltaCodes 22 = .ok (.aload_n 0, 1) := by decide +kernel
theorem dX5_deltaCodes_23 : decode cX5_deltaCodes 23 = .ok (.getfield 96, 3) := by decide +kernel
theorem dX5_deltaCodes_26 : decode cX5_deltaCodes 26 = .ok (.i2l, 1) := by decide +kernel
theorem dX5_deltaCodes_27 : decode cX5_deltaCodes 27 = .ok (.lcmp, 1) := by decide +kernel
theorem dX5_deltaCodes_28 : decode cX5_deltaCodes 28 = .ok (.ifCond .le 9, 3) := by decide +kernel
theorem dX5_deltaCodes_31 : decode cX5_deltaCodes 31 = .ok (.aload_n 0, 1) := by decide +kernel
theorem dX5_deltaCodes_32 : decode cX5_deltaCodes 32 = .ok (.iconst 1, 1) := by decide +kernel
theorem dX5_deltaCodes_33 : decode cX5_deltaCodes 33 = .ok (.putfield 56, 3) := by decide +kernel
theorem dX5_deltaCodes_36 : decode cX5_deltaCodes 36 = .ok (.return_, 1) := by decide +kernel
theorem dX5_deltaCodes_37 : decode cX5_deltaCodes 37 = .ok (.aload_n 0, 1) := by decide +kernel
theorem dX5_deltaCodes_38 : decode cX5_deltaCodes 38 = .ok (.getfield 49, 3) := by decide +kernel
theorem dX5_deltaCodes_41 : decode cX5_deltaCodes 41 = .ok (.getfield 272, 3) := by decide +kernel
theorem dX5_deltaCodes_44 : decode cX5_deltaCodes 44 = .ok (.iconst 5, 1) := by decide +kernel
theorem dX5_deltaCodes_45 : decode cX5_deltaCodes 45 = .ok (.iaload, 1) := by decide +kernel
theorem dX5_deltaCodes_46 : decode cX5_deltaCodes 46 = .ok (.i2l, 1) := by decide +kernel
theorem dX5_deltaCodes_47 : decode cX5_deltaCodes 47 = .ok (.lstore_n 3, 1) := by decide +kernel
theorem dX5_deltaCodes_48 : decode cX5_deltaCodes 48 = .ok (.iload_n 1, 1) := by decide +kernel
theorem dX5_deltaCodes_49 : decode cX5_deltaCodes 49 = .ok (.bipush 113, 2) := by decide +kernel
theorem dX5_deltaCodes_51 : decode cX5_deltaCodes 51 = .ok (.if_icmp .eq 9, 3) := by decide +kernel
theorem dX5_deltaCodes_54 : decode cX5_deltaCodes 54 = .ok (.iload_n 1, 1) := by decide +kernel
theorem dX5_deltaCodes_55 : decode cX5_deltaCodes 55 = .ok (.bipush 116, 2) := by decide +kernel
theorem dX5_deltaCodes_57 : decode cX5_deltaCodes 57 = .ok (.if_icmp .ne 12, 3) := by decide +kernel
theorem dX5_deltaCodes_60 : decode cX5_deltaCodes 60 = .ok (.lload_n 3, 1) := by decide +kernel
theorem dX5_deltaCodes_61 : decode cX5_deltaCodes 61 = .ok (.ldc2_w 547, 3) := by decide +kernel
theorem dX5_deltaCodes_64 : decode cX5_deltaCodes 64 = .ok (.ladd, 1) := by decide +kernel
theorem dX5_deltaCodes_65 : decode cX5_deltaCodes 65 = .ok (.lstore_n 3, 1) := by decide +kernel
theorem dX5_deltaCodes_66 : decode cX5_deltaCodes 66 = .ok (.goto 21, 3) := by decide +kernel
theorem dX5_deltaCodes_69 : decode cX5_deltaCodes 69 = .ok (.iload_n 1, 1) := by decide +kernel
theorem dX5_deltaCodes_70 : decode cX5_deltaCodes 70 = .ok (.bipush 114, 2) := by decide +kernel
theorem dX5_deltaCodes_72 : decode cX5_deltaCodes 72 = .ok (.if_icmp .eq 9, 3) := by decide +kernel
theorem dX5_deltaCodes_75 : decode cX5_deltaCodes 75 = .ok (.iload_n 1, 1) := by decide +kernel
theorem dX5_deltaCodes_76 : decode cX5_deltaCodes 76 = .ok (.bipush 117, 2) := by decide +kernel
theorem dX5_deltaCodes_78 : decode cX5_deltaCodes 78 = .ok (.if_icmp .ne 9, 3) := by decide +kernel
theorem dX5_deltaCodes_81 : decode cX5_deltaCodes 81 = .ok (.lload_n 3, 1) := by decide +kernel
theorem dX5_deltaCodes_82 : decode cX5_deltaCodes 82 = .ok (.ldc2_w 549, 3) := by decide +kernel
theorem dX5_deltaCodes_85 : decode cX5_deltaCodes 85 = .ok (.ladd, 1) := by decide +kernel
theorem dX5_deltaCodes_86 : decode cX5_deltaCodes 86 = .ok (.lstore_n 3, 1) := by decide +kernel
theorem dX5_deltaCodes_87 : decode cX5_deltaCodes 87 = .ok (.iconst 0, 1) := by decide +kernel
theorem dX5_deltaCodes_88 : decode cX5_deltaCodes 88 = .ok (.istore 5, 2) := by decide +kernel
theorem dX5_deltaCodes_90 : decode cX5_deltaCodes 90 = .ok (.iload 5, 2) := by decide +kernel
theorem dX5_deltaCodes_92 : decode cX5_deltaCodes 92 = .ok (.iload_n 2, 1) := by decide +kernel
theorem dX5_deltaCodes_93 : decode cX5_deltaCodes 93 = .ok (.if_icmp .ge 111, 3) := by decide +kernel
theorem dX5_deltaCodes_96 : decode cX5_deltaCodes 96 = .ok (.aload_n 0, 1) := by decide +kernel
theorem dX5_deltaCodes_97 : decode cX5_deltaCodes 97 = .ok (.getfield 56, 3) := by decide +kernel
theorem dX5_deltaCodes_100 : decode cX5_deltaCodes 100 = .ok (.ifCond .ne 104, 3) := by decide +kernel
theorem dX5_deltaCodes_103 : decode cX5_deltaCodes 103 = .ok (.aload_n 0, 1) := by decide +kernel
theorem dX5_deltaCodes_104 : decode cX5_deltaCodes 104 = .ok (.invokevirtual 242, 3) := by decide +kernel
theorem dX5_deltaCodes_107 : decode cX5_deltaCodes 107 = .ok (.istore 6, 2) := by decide +kernel
theorem dX5_deltaCodes_109 : decode cX5_deltaCodes 109 = .ok (.aload_n 0, 1) := by decide +kernel
theorem dX5_deltaCodes_110 : decode cX5_deltaCodes 110 = .ok (.invokevirtual 242, 3) := by decide +kernel
theorem dX5_deltaCodes_113 : decode cX5_deltaCodes 113 = .ok (.istore 7, 2) := by decide +kernel
theorem dX5_deltaCodes_115 : decode cX5_deltaCodes 115 = .ok (.aload_n 0, 1) := by decide +kernel
theorem dX5_deltaCodes_116 : decode cX5_deltaCodes 116 = .ok (.getfield 59, 3) := by decide +kernel
theorem dX5_deltaCodes_119 : decode cX5_deltaCodes 119 = .ok (.i2l, 1) := by decide +kernel
theorem dX5_deltaCodes_120 : decode cX5_deltaCodes 120 = .ok (.lload_n 3, 1) := by decide +kernel
theorem dX5_deltaCodes_121 : decode cX5_deltaCodes 121 = .ok (.iload 7, 2) := by decide +kernel
theorem dX5_deltaCodes_123 : decode cX5_deltaCodes 123 = .ok (.iconst 4, 1) := by decide +kernel
theorem dX5_deltaCodes_124 : decode cX5_deltaCodes 124 = .ok (.ishr, 1) := by decide +kernel
theorem dX5_deltaCodes_125 : decode cX5_deltaCodes 125 = .ok (.bipush 15, 2) := by decide +kernel
theorem dX5_deltaCodes_127 : decode cX5_deltaCodes 127 = .ok (.iand, 1) := by decide +kernel
theorem dX5_deltaCodes_128 : decode cX5_deltaCodes 128 = .ok (.i2l, 1) := by decide +kernel
theorem dX5_deltaCodes_129 : decode cX5_deltaCodes 129 = .ok (.ladd, 1) := by decide +kernel
theorem dX5_deltaCodes_130 : decode cX5_deltaCodes 130 = .ok (.lcmp, 1) := by decide +kernel
theorem dX5_deltaCodes_131 : decode cX5_deltaCodes 131 = .ok (.ifCond .ne 67, 3) := by decide +kernel
theorem dX5_deltaCodes_134 : decode cX5_deltaCodes 134 = .ok (.iload 7, 2) := by decide +kernel
theorem dX5_deltaCodes_136 : decode cX5_deltaCodes 136 = .ok (.bipush 15, 2) := by decide +kernel
theorem dX5_deltaCodes_138 : decode cX5_deltaCodes 138 = .ok (.iand, 1) := by decide +kernel
theorem dX5_deltaCodes_139 : decode cX5_deltaCodes 139 = .ok (.bipush 8, 2) := by decide +kernel
theorem dX5_deltaCodes_141 : decode cX5_deltaCodes 141 = .ok (.if_icmp .ge 14, 3) := by decide +kernel
theorem dX5_deltaCodes_144 : decode cX5_deltaCodes 144 = .ok (.iload 7, 2) := by decide +kernel
theorem dX5_deltaCodes_146 : decode cX5_deltaCodes 146 = .ok (.bipush 15, 2) := by decide +kernel
theorem dX5_deltaCodes_148 : decode cX5_deltaCodes 148 = .ok (.iand, 1) := by decide +kernel
theorem dX5_deltaCodes_149 : decode cX5_deltaCodes 149 = .ok (.bipush 8, 2) := by decide +kernel
theorem dX5_deltaCodes_151 : decode cX5_deltaCodes 151 = .ok (.isub, 1) := by decide +kernel
theorem dX5_deltaCodes_152 : decode cX5_deltaCodes 152 = .ok (.goto 11, 3) := by decide +kernel
theorem dX5_deltaCodes_155 : decode cX5_deltaCodes 155 = .ok (.iload 7, 2) := by decide +kernel
theorem dX5_deltaCodes_157 : decode cX5_deltaCodes 157 = .ok (.bipush 15, 2) := by decide +kernel
theorem dX5_deltaCodes_159 : decode cX5_deltaCodes 159 = .ok (.iand, 1) := by decide +kernel
theorem dX5_deltaCodes_160 : decode cX5_deltaCodes 160 = .ok (.bipush 7, 2) := by decide +kernel
theorem dX5_deltaCodes_162 : decode cX5_deltaCodes 162 = .ok (.isub, 1) := by decide +kernel
theorem dX5_deltaCodes_163 : decode cX5_deltaCodes 163 = .ok (.istore 8, 2) := by decide +kernel
theorem dX5_deltaCodes_165 : decode cX5_deltaCodes 165 = .ok (.aload_n 0, 1) := by decide +kernel
theorem dX5_deltaCodes_166 : decode cX5_deltaCodes 166 = .ok (.iload_n 1, 1) := by decide +kernel
theorem dX5_deltaCodes_167 : decode cX5_deltaCodes 167 = .ok (.bipush 115, 2) := by decide +kernel
theorem dX5_deltaCodes_169 : decode cX5_deltaCodes 169 = .ok (.if_icmp .ge 7, 3) := by decide +kernel
theorem dX5_deltaCodes_172 : decode cX5_deltaCodes 172 = .ok (.iconst 1, 1) := by decide +kernel
theorem dX5_deltaCodes_173 : decode cX5_deltaCodes 173 = .ok (.goto 4, 3) := by decide +kernel
theorem dX5_deltaCodes_176 : decode cX5_deltaCodes 176 = .ok (.iconst 0, 1) := by decide +kernel
theorem dX5_deltaCodes_177 : decode cX5_deltaCodes 177 = .ok (.iload 6, 2) := by decide +kernel
theorem dX5_deltaCodes_179 : decode cX5_deltaCodes 179 = .ok (.iload 8, 2) := by decide +kernel
theorem dX5_deltaCodes_181 : decode cX5_deltaCodes 181 = .ok (.bipush 64, 2) := by decide +kernel
theorem dX5_deltaCodes_183 : decode cX5_deltaCodes 183 = .ok (.aload_n 0, 1) := by decide +kernel
theorem dX5_deltaCodes_184 : decode cX5_deltaCodes 184 = .ok (.getfield 49, 3) := by decide +kernel
theorem dX5_deltaCodes_187 : decode cX5_deltaCodes 187 = .ok (.getfield 272, 3) := by decide +kernel
theorem dX5_deltaCodes_190 : decode cX5_deltaCodes 190 = .ok (.bipush 6, 2) := by decide +kernel
theorem dX5_deltaCodes_192 : decode cX5_deltaCodes 192 = .ok (.iaload, 1) := by decide +kernel
theorem dX5_deltaCodes_193 : decode cX5_deltaCodes 193 = .ok (.ishr, 1) := by decide +kernel
theorem dX5_deltaCodes_194 : decode cX5_deltaCodes 194 = .ok (.imul, 1) := by decide +kernel
theorem dX5_deltaCodes_195 : decode cX5_deltaCodes 195 = .ok (.invokevirtual 551, 3) := by decide +kernel
theorem dX5_deltaCodes_198 : decode cX5_deltaCodes 198 = .ok (.iinc 5 1, 3) := by decide +kernel
theorem dX5_deltaCodes_201 : decode cX5_deltaCodes 201 = .ok (.goto (-111), 3) := by decide +kernel
theorem dX5_deltaCodes_204 : decode cX5_deltaCodes 204 = .ok (.return_, 1) := by decide +kernel
def B_X5_deltaCodes_198 (N : Nat) (k90 : Int32 → Int32 → Int64 → Int32 → sv_V → Option sv_V) (l1 : Int32) (l2 : Int32) (l3 : Int64) (l5 : Int32) (V : sv_V) : Option sv_V := sx_let (l5 + 1) (fun x1 => k90 l1 l2 l3 x1 V)
set_option maxRecDepth 20000 in
theorem tB_X5_deltaCodes_198 {g : sx_G} (hG : sx_Go g) {P : Option Value → sv_V → Prop} {Vr : sv_V} (hP : P none Vr) {N : Nat} {k90 : Int32 → Int32 → Int64 → Int32 → sv_V → Option sv_V} (hk90 : ∀ (l1 : Int32) (l2 : Int32) (l3 : Int64) (l5 : Int32) (V : sv_V), k90 l1 l2 l3 l5 V = some Vr → sv_N g qX5_deltaCodes 3 90 [(0, .ref 69), (1, .int l1), (2, .int l2), (3, .long l3), (5, .int l5)] [] V P) {l1 : Int32} {l2 : Int32} {l3 : Int64} {l5 : Int32} {V : sv_V} (h : B_X5_deltaCodes_198 N k90 l1 l2 l3 l5 V = some Vr) : sv_N g qX5_deltaCodes 3 198 [(0, .ref 69), (1, .int l1), (2, .int l2), (3, .long l3), (5, .int l5)] [] V P := by
  unfold B_X5_deltaCodes_198 at h
  obtain ⟨x1, hx1⟩ : ∃ z : Int32, z = l5 + 1 := ⟨_, rfl⟩
  have h := sx_letE hx1 h
  refine sx_iinc (pc := 198) (v := x1) (lo' := [(5, .int x1), (0, .ref 69), (1, .int l1), (2, .int l2), (3, .long l3)]) dX5_deltaCodes_198 sx_m4 (by rw [hx1]; rfl) (by decide) rfl ?_
  refine sx_goto (pc := 201) (tgt := 90) dX5_deltaCodes_201 (by decide) ?_
  refine sx_wk (sx_s1 sx_m1 (sx_s1 sx_m2 (sx_s1 sx_m3 (sx_s1 sx_m4 (sx_s1 sx_m0 sx_s0))))) ?_
  exact hk90 _ _ _ _ _ h
def B_X5_deltaCodes_177 (N : Nat) (k90 : Int32 → Int32 → Int64 → Int32 → sv_V → Option sv_V) (l1 : Int32) (l2 : Int32) (l3 : Int64) (l5 : Int32) (l6 : Int32) (l8 : Int32) (s1 : Int32) (V : sv_V) : Option sv_V := (V.2.2 69 6).bind (fun b2 => if lay b2 = .inl 7 then (cr b2 5).bind (fun b5 => (sv_len 0 b5).bind (fun n7 => if sx_in (6 : Int32) n7 = true then (F_X5_applyDelta s1 l6 (l8 * ((64 : Int32) >>> (V.1 b5 (6 : Int32).toNatClampNeg &&& 31))) V).bind (fun V10 => B_X5_deltaCodes_198 N k90 l1 l2 l3 l5 V10) else none)) else none)
set_option maxRecDepth 20000 in
theorem tB_X5_deltaCodes_177 {g : sx_G} (hG : sx_Go g) {P : Option Value → sv_V → Prop} {Vr : sv_V} (hP : P none Vr) {N : Nat} {k90 : Int32 → Int32 → Int64 → Int32 → sv_V → Option sv_V} (hk90 : ∀ (l1 : Int32) (l2 : Int32) (l3 : Int64) (l5 : Int32) (V : sv_V), k90 l1 l2 l3 l5 V = some Vr → sv_N g qX5_deltaCodes 3 90 [(0, .ref 69), (1, .int l1), (2, .int l2), (3, .long l3), (5, .int l5)] [] V P) {l1 : Int32} {l2 : Int32} {l3 : Int64} {l5 : Int32} {l6 : Int32} {l8 : Int32} {s1 : Int32} {V : sv_V} (h : B_X5_deltaCodes_177 N k90 l1 l2 l3 l5 l6 l8 s1 V = some Vr) : sv_N g qX5_deltaCodes 3 177 [(0, .ref 69), (1, .int l1), (2, .int l2), (3, .long l3), (5, .int l5), (6, .int l6), (8, .int l8)] [.int s1, .ref 69] V P := by
  unfold B_X5_deltaCodes_177 at h
  refine sx_iload (pc := 177) dX5_deltaCodes_177 sx_m5 ?_
  refine sx_iload (pc := 179) dX5_deltaCodes_179 sx_m6 ?_
  refine sx_bipush (pc := 181) (v := 64) dX5_deltaCodes_181 (by decide) ?_
  refine sx_aload_n (pc := 183) dX5_deltaCodes_183 sx_m0 ?_
  obtain ⟨b2, g3, h⟩ := sx_bnd h
  refine sv_getV (pc := 184) hG dX5_deltaCodes_184 f_5_49 lay_69 rfl rfl g3 ?_
  obtain ⟨g4, h⟩ := sx_grd h
  obtain ⟨b5, g6, h⟩ := sx_bnd h
  refine sv_getA (pc := 187) hG dX5_deltaCodes_187 f_5_272 g4 rfl g6 ?_
  refine sx_bipush (pc := 190) (v := 6) dX5_deltaCodes_190 (by decide) ?_
  obtain ⟨n7, g8, h⟩ := sx_bnd h
  obtain ⟨g9, h⟩ := sx_grd h
  refine sv_iald (pc := 192) hG dX5_deltaCodes_192 (sv_len_e g8) g9 ?_
  refine sx_ishr (pc := 193) dX5_deltaCodes_193 ?_
  refine sx_imul (pc := 194) dX5_deltaCodes_194 ?_
  obtain ⟨V10, g11, h⟩ := sx_bnd h
  refine sv_cV (pc := 195) (y := qX5_applyDelta) (o := none) (as := [.int s1, .int l6, .int (l8 * ((64 : Int32) >>> (V.1 b5 (6 : Int32).toNatClampNeg &&& 31)))]) (V1 := V10) hG dX5_deltaCodes_195 l_X5_551 y0X5_applyDelta yvX5_applyDelta rfl (Nat.le_of_ble_eq_true rfl) lay_69 kr_5 (by decide) (Nat.le_of_ble_eq_true rfl) rfl rfl rfl (t_X5_applyDelta hG ⟨rfl, rfl⟩ g11) ?_
  refine sx_wk (sx_s1 sx_m0 (sx_s1 sx_m1 (sx_s1 sx_m2 (sx_s1 sx_m3 (sx_s1 sx_m4 sx_s0))))) ?_
  exact tB_X5_deltaCodes_198 hG hP hk90 h
def B_X5_deltaCodes_163 (N : Nat) (k90 : Int32 → Int32 → Int64 → Int32 → sv_V → Option sv_V) (l1 : Int32) (l2 : Int32) (l3 : Int64) (l5 : Int32) (l6 : Int32) (s0 : Int32) (V : sv_V) : Option sv_V := if (115 : Int32) ≤ l1 then (B_X5_deltaCodes_177 N k90 l1 l2 l3 l5 l6 s0 (0 : Int32) V) else (B_X5_deltaCodes_177 N k90 l1 l2 l3 l5 l6 s0 (1 : Int32) V)
set_option maxRecDepth 20000 in
theorem tB_X5_deltaCodes_163 {g : sx_G} (hG : sx_Go g) {P : Option Value → sv_V → Prop} {Vr : sv_V} (hP : P none Vr) {N : Nat} {k90 : Int32 → Int32 → Int64 → Int32 → sv_V → Option sv_V} (hk90 : ∀ (l1 : Int32) (l2 : Int32) (l3 : Int64) (l5 : Int32) (V : sv_V), k90 l1 l2 l3 l5 V = some Vr → sv_N g qX5_deltaCodes 3 90 [(0, .ref 69), (1, .int l1), (2, .int l2), (3, .long l3), (5, .int l5)] [] V P) {l1 : Int32} {l2 : Int32} {l3 : Int64} {l5 : Int32} {l6 : Int32} {s0 : Int32} {V : sv_V} (h : B_X5_deltaCodes_163 N k90 l1 l2 l3 l5 l6 s0 V = some Vr) : sv_N g qX5_deltaCodes 3 163 [(0, .ref 69), (1, .int l1), (2, .int l2), (3, .long l3), (5, .int l5), (6, .int l6)] [.int s0] V P := by
  unfold B_X5_deltaCodes_163 at h
  refine sx_istore (pc := 163) (lo' := [(8, .int s0), (0, .ref 69), (1, .int l1), (2, .int l2), (3, .long l3), (5, .int l5), (6, .int l6)]) dX5_deltaCodes_163 (by decide) rfl ?_
  refine sx_aload_n (pc := 165) dX5_deltaCodes_165 sx_m1 ?_
  refine sx_iload_n (pc := 166) dX5_deltaCodes_166 sx_m2 ?_
  refine sx_bipush (pc := 167) (v := 115) dX5_deltaCodes_167 (by decide) ?_
  refine sx_icmp_ge (pc := 169) (tgt := 176) dX5_deltaCodes_169 (by decide) (fun c12 => ?_) (fun c12 => ?_)
  · have h := sx_pos c12 h
    refine sx_iconst (pc := 176) (v := 0) dX5_deltaCodes_176 (by decide) ?_
    refine sx_wk (sx_s1 sx_m1 (sx_s1 sx_m2 (sx_s1 sx_m3 (sx_s1 sx_m4 (sx_s1 sx_m5 (sx_s1 sx_m6 (sx_s1 sx_m0 sx_s0))))))) ?_
    exact tB_X5_deltaCodes_177 hG hP hk90 h
  · have h := sx_neg c12 h
    refine sx_iconst (pc := 172) (v := 1) dX5_deltaCodes_172 (by decide) ?_
    refine sx_goto (pc := 173) (tgt := 177) dX5_deltaCodes_173 (by decide) ?_
    refine sx_wk (sx_s1 sx_m1 (sx_s1 sx_m2 (sx_s1 sx_m3 (sx_s1 sx_m4 (sx_s1 sx_m5 (sx_s1 sx_m6 (sx_s1 sx_m0 sx_s0))))))) ?_
    exact tB_X5_deltaCodes_177 hG hP hk90 h
def B_X5_deltaCodes_90 (N : Nat) (k90 : Int32 → Int32 → Int64 → Int32 → sv_V → Option sv_V) (l1 : Int32) (l2 : Int32) (l3 : Int64) (l5 : Int32) (V : sv_V) : Option sv_V := if l2 ≤ l5 then (some V) else (if (V.1 69 14) = 0 then ((F_X5_pop  V).bind (fun (x17, V15) => (F_X5_pop  V15).bind (fun (x20, V18) => if (lg_cmp ((V18.1 69 12).toInt64) (l3 + (((x20 >>> ((4 : Int32) &&& 31)) &&& (15 : Int32)).toInt64))) = 0 then (if (8 : Int32) ≤ (x20 &&& (15 : Int32)) then (B_X5_deltaCodes_163 N k90 l1 l2 l3 l5 x17 ((x20 &&& (15 : Int32)) - (7 : Int32)) V18) else (B_X5_deltaCodes_163 N k90 l1 l2 l3 l5 x17 ((x20 &&& (15 : Int32)) - (8 : Int32)) V18)) else (B_X5_deltaCodes_198 N k90 l1 l2 l3 l5 V18)))) else (some V))
set_option maxRecDepth 20000 in
theorem tB_X5_deltaCodes_90 {g : sx_G} (hG : sx_Go g) {P : Option Value → sv_V → Prop} {Vr : sv_V} (hP : P none Vr) {N : Nat} {k90 : Int32 → Int32 → Int64 → Int32 → sv_V → Option sv_V} (hk90 : ∀ (l1 : Int32) (l2 : Int32) (l3 : Int64) (l5 : Int32) (V : sv_V), k90 l1 l2 l3 l5 V = some Vr → sv_N g qX5_deltaCodes 3 90 [(0, .ref 69), (1, .int l1), (2, .int l2), (3, .long l3), (5, .int l5)] [] V P) {l1 : Int32} {l2 : Int32} {l3 : Int64} {l5 : Int32} {V : sv_V} (h : B_X5_deltaCodes_90 N k90 l1 l2 l3 l5 V = some Vr) : sv_N g qX5_deltaCodes 3 90 [(0, .ref 69), (1, .int l1), (2, .int l2), (3, .long l3), (5, .int l5)] [] V P := by
  unfold B_X5_deltaCodes_90 at h
  refine sx_iload (pc := 90) dX5_deltaCodes_90 sx_m4 ?_
  refine sx_iload_n (pc := 92) dX5_deltaCodes_92 sx_m2 ?_
  refine sx_icmp_ge (pc := 93) (tgt := 204) dX5_deltaCodes_93 (by decide) (fun c13 => ?_) (fun c13 => ?_)
  · have h := sx_pos c13 h
    exact sv_vret (pc := 204) dX5_deltaCodes_204 rfl h hP
  · have h := sx_neg c13 h
    refine sx_aload_n (pc := 96) dX5_deltaCodes_96 sx_m0 ?_
    refine sv_getI (pc := 97) hG dX5_deltaCodes_97 f_5_56 lay_69 rfl ?_
    refine sx_if_ne (pc := 100) (tgt := 204) dX5_deltaCodes_100 (by decide) (fun c14 => ?_) (fun c14 => ?_)
    · have h := sx_neg c14 h
      exact sv_vret (pc := 204) dX5_deltaCodes_204 rfl h hP
    · have h := sx_pos c14 h
      refine sx_aload_n (pc := 103) dX5_deltaCodes_103 sx_m0 ?_
      obtain ⟨⟨x17, V15⟩, g16, h⟩ := sx_bnd h
      refine sv_cV (pc := 104) (y := qX5_pop) (o := (some (.int x17))) (as := []) (V1 := V15) hG dX5_deltaCodes_104 l_X5_242 y0X5_pop yvX5_pop rfl (Nat.le_of_ble_eq_true rfl) lay_69 kr_5 (by decide) (Nat.le_of_ble_eq_true rfl) rfl rfl rfl (t_X5_pop hG ⟨rfl, rfl⟩ g16) ?_
      refine sx_istore (pc := 107) (lo' := [(6, .int x17), (0, .ref 69), (1, .int l1), (2, .int l2), (3, .long l3), (5, .int l5)]) dX5_deltaCodes_107 (by decide) rfl ?_
      refine sx_aload_n (pc := 109) dX5_deltaCodes_109 sx_m1 ?_
      obtain ⟨⟨x20, V18⟩, g19, h⟩ := sx_bnd h
      refine sv_cV (pc := 110) (y := qX5_pop) (o := (some (.int x20))) (as := []) (V1 := V18) hG dX5_deltaCodes_110 l_X5_242 y0X5_pop yvX5_pop rfl (Nat.le_of_ble_eq_true rfl) lay_69 kr_5 (by decide) (Nat.le_of_ble_eq_true rfl) rfl rfl rfl (t_X5_pop hG ⟨rfl, rfl⟩ g19) ?_
      refine sx_istore (pc := 113) (lo' := [(7, .int x20), (6, .int x17), (0, .ref 69), (1, .int l1), (2, .int l2), (3, .long l3), (5, .int l5)]) dX5_deltaCodes_113 (by decide) rfl ?_
      refine sx_aload_n (pc := 115) dX5_deltaCodes_115 sx_m2 ?_
      refine sv_getI (pc := 116) hG dX5_deltaCodes_116 f_5_59 lay_69 rfl ?_
      refine sx_i2l (pc := 119) dX5_deltaCodes_119 ?_
      refine sx_lload_n (pc := 120) dX5_deltaCodes_120 sx_m5 ?_
      refine sx_iload (pc := 121) dX5_deltaCodes_121 sx_m0 ?_
      refine sx_iconst (pc := 123) (v := 4) dX5_deltaCodes_123 (by decide) ?_
      refine sx_ishr (pc := 124) dX5_deltaCodes_124 ?_
      refine sx_bipush (pc := 125) (v := 15) dX5_deltaCodes_125 (by decide) ?_
      refine sx_iand (pc := 127) dX5_deltaCodes_127 ?_
      refine sx_i2l (pc := 128) dX5_deltaCodes_128 ?_
      refine sx_ladd (pc := 129) dX5_deltaCodes_129 ?_
      refine sx_lcmp (pc := 130) dX5_deltaCodes_130 ?_
      refine sx_if_ne (pc := 131) (tgt := 198) dX5_deltaCodes_131 (by decide) (fun c21 => ?_) (fun c21 => ?_)
      · have h := sx_neg c21 h
        refine sx_wk (sx_s1 sx_m2 (sx_s1 sx_m3 (sx_s1 sx_m4 (sx_s1 sx_m5 (sx_s1 sx_m6 sx_s0))))) ?_
        exact tB_X5_deltaCodes_198 hG hP hk90 h
      · have h := sx_pos c21 h
        refine sx_iload (pc := 134) dX5_deltaCodes_134 sx_m0 ?_
        refine sx_bipush (pc := 136) (v := 15) dX5_deltaCodes_136 (by decide) ?_
        refine sx_iand (pc := 138) dX5_deltaCodes_138 ?_
        refine sx_bipush (pc := 139) (v := 8) dX5_deltaCodes_139 (by decide) ?_
        refine sx_icmp_ge (pc := 141) (tgt := 155) dX5_deltaCodes_141 (by decide) (fun c22 => ?_) (fun c22 => ?_)
        · have h := sx_pos c22 h
          refine sx_iload (pc := 155) dX5_deltaCodes_155 sx_m0 ?_
          refine sx_bipush (pc := 157) (v := 15) dX5_deltaCodes_157 (by decide) ?_
          refine sx_iand (pc := 159) dX5_deltaCodes_159 ?_
          refine sx_bipush (pc := 160) (v := 7) dX5_deltaCodes_160 (by decide) ?_
          refine sx_isub (pc := 162) dX5_deltaCodes_162 ?_
          refine sx_wk (sx_s1 sx_m2 (sx_s1 sx_m3 (sx_s1 sx_m4 (sx_s1 sx_m5 (sx_s1 sx_m6 (sx_s1 sx_m1 sx_s0)))))) ?_
          exact tB_X5_deltaCodes_163 hG hP hk90 h
        · have h := sx_neg c22 h
          refine sx_iload (pc := 144) dX5_deltaCodes_144 sx_m0 ?_
          refine sx_bipush (pc := 146) (v := 15) dX5_deltaCodes_146 (by decide) ?_
          refine sx_iand (pc := 148) dX5_deltaCodes_148 ?_
          refine sx_bipush (pc := 149) (v := 8) dX5_deltaCodes_149 (by decide) ?_
          refine sx_isub (pc := 151) dX5_deltaCodes_151 ?_
          refine sx_goto (pc := 152) (tgt := 163) dX5_deltaCodes_152 (by decide) ?_
          refine sx_wk (sx_s1 sx_m2 (sx_s1 sx_m3 (sx_s1 sx_m4 (sx_s1 sx_m5 (sx_s1 sx_m6 (sx_s1 sx_m1 sx_s0)))))) ?_
          exact tB_X5_deltaCodes_163 hG hP hk90 h
theorem tL_X5_deltaCodes_90 {g : sx_G} (hG : sx_Go g) {P : Option Value → sv_V → Prop} {Vr : sv_V} (hP : P none Vr) {N : Nat}   : ∀ (n : Nat) (l1 : Int32) (l2 : Int32) (l3 : Int64) (l5 : Int32) (V : sv_V), sx_lp5 (B_X5_deltaCodes_90 N ) n l1 l2 l3 l5 V = some Vr → sv_N g qX5_deltaCodes 3 90 [(0, .ref 69), (1, .int l1), (2, .int l2), (3, .long l3), (5, .int l5)] [] V P :=
  sx_lp5_ind (fun k0 ih _ _ _ _ V h => tB_X5_deltaCodes_90 hG hP ih h)
def B_X5_deltaCodes_87 (N : Nat)  (l1 : Int32) (l2 : Int32) (l3 : Int64) (V : sv_V) : Option sv_V := sx_lp5 (B_X5_deltaCodes_90 N ) N l1 l2 l3 (0 : Int32) V
set_option maxRecDepth 20000 in
theorem tB_X5_deltaCodes_87 {g : sx_G} (hG : sx_Go g) {P : Option Value → sv_V → Prop} {Vr : sv_V} (hP : P none Vr) {N : Nat}   {l1 : Int32} {l2 : Int32} {l3 : Int64} {V : sv_V} (h : B_X5_deltaCodes_87 N  l1 l2 l3 V = some Vr) : sv_N g qX5_deltaCodes 3 87 [(0, .ref 69), (1, .int l1), (2, .int l2), (3, .long l3)] [] V P := by
  unfold B_X5_deltaCodes_87 at h
  refine sx_iconst (pc := 87) (v := 0) dX5_deltaCodes_87 (by decide) ?_
  refine sx_istore (pc := 88) (lo' := [(5, .int (0 : Int32)), (0, .ref 69), (1, .int l1), (2, .int l2), (3, .long l3)]) dX5_deltaCodes_88 (by decide) rfl ?_
  refine sx_wk (sx_s1 sx_m1 (sx_s1 sx_m2 (sx_s1 sx_m3 (sx_s1 sx_m4 (sx_s1 sx_m0 sx_s0))))) ?_
  exact tL_X5_deltaCodes_90 hG hP  N _ _ _ _ _ h
def B_X5_deltaCodes_60 (N : Nat)  (l1 : Int32) (l2 : Int32) (l3 : Int64) (V : sv_V) : Option sv_V := sx_let (l3 + (16 : Int64)) (fun x23 => B_X5_deltaCodes_87 N  l1 l2 x23 V)
set_option maxRecDepth 20000 in
theorem tB_X5_deltaCodes_60 {g : sx_G} (hG : sx_Go g) {P : Option Value → sv_V → Prop} {Vr : sv_V} (hP : P none Vr) {N : Nat}   {l1 : Int32} {l2 : Int32} {l3 : Int64} {V : sv_V} (h : B_X5_deltaCodes_60 N  l1 l2 l3 V = some Vr) : sv_N g qX5_deltaCodes 3 60 [(0, .ref 69), (1, .int l1), (2, .int l2), (3, .long l3)] [] V P := by
  unfold B_X5_deltaCodes_60 at h
  refine sx_lload_n (pc := 60) dX5_deltaCodes_60 sx_m3 ?_
  refine sx_ldc2 (pc := 61) dX5_deltaCodes_61 k_X5_547 ?_
  refine sx_ladd (pc := 64) dX5_deltaCodes_64 ?_
  refine sv_tJ (fun x23 hx23 => ?_)
  have h := sx_letE hx23 h
  refine sx_lstore_n (pc := 65) (lo' := [(3, .long x23), (0, .ref 69), (1, .int l1), (2, .int l2)]) dX5_deltaCodes_65 (by decide) rfl ?_
  refine sx_goto (pc := 66) (tgt := 87) dX5_deltaCodes_66 (by decide) ?_
  refine sx_wk (sx_s1 sx_m1 (sx_s1 sx_m2 (sx_s1 sx_m3 (sx_s1 sx_m0 sx_s0)))) ?_
  exact tB_X5_deltaCodes_87 hG hP  h
def B_X5_deltaCodes_81 (N : Nat)  (l1 : Int32) (l2 : Int32) (l3 : Int64) (V : sv_V) : Option sv_V := sx_let (l3 + (32 : Int64)) (fun x24 => B_X5_deltaCodes_87 N  l1 l2 x24 V)
set_option maxRecDepth 20000 in
theorem tB_X5_deltaCodes_81 {g : sx_G} (hG : sx_Go g) {P : Option Value → sv_V → Prop} {Vr : sv_V} (hP : P none Vr) {N : Nat}   {l1 : Int32} {l2 : Int32} {l3 : Int64} {V : sv_V} (h : B_X5_deltaCodes_81 N  l1 l2 l3 V = some Vr) : sv_N g qX5_deltaCodes 3 81 [(0, .ref 69), (1, .int l1), (2, .int l2), (3, .long l3)] [] V P := by
  unfold B_X5_deltaCodes_81 at h
  refine sx_lload_n (pc := 81) dX5_deltaCodes_81 sx_m3 ?_
  refine sx_ldc2 (pc := 82) dX5_deltaCodes_82 k_X5_549 ?_
  refine sx_ladd (pc := 85) dX5_deltaCodes_85 ?_
  refine sv_tJ (fun x24 hx24 => ?_)
  have h := sx_letE hx24 h
  refine sx_lstore_n (pc := 86) (lo' := [(3, .long x24), (0, .ref 69), (1, .int l1), (2, .int l2)]) dX5_deltaCodes_86 (by decide) rfl ?_
  refine sx_wk (sx_s1 sx_m1 (sx_s1 sx_m2 (sx_s1 sx_m3 (sx_s1 sx_m0 sx_s0)))) ?_
  exact tB_X5_deltaCodes_87 hG hP  h
def F_X5_deltaCodes (N : Nat) (l1 : Int32) (V : sv_V) : Option sv_V := (F_X5_pop  V).bind (fun (x27, V25) => if 0 ≤ x27 then (if (lg_cmp ((2 : Int64) * x27.toInt64) ((V25.1 69 5).toInt64)) ≤ 0 then ((V25.2.2 69 6).bind (fun b30 => if lay b30 = .inl 7 then (cr b30 5).bind (fun b33 => (sv_len 0 b33).bind (fun n35 => if sx_in (5 : Int32) n35 = true then sx_let ((V25.1 b33 (5 : Int32).toNatClampNeg).toInt64) (fun x38 => if l1 = (113 : Int32) then (B_X5_deltaCodes_60 N  l1 x27 x38 V25) else (if l1 = (116 : Int32) then (B_X5_deltaCodes_60 N  l1 x27 x38 V25) else (if l1 = (114 : Int32) then (B_X5_deltaCodes_81 N  l1 x27 x38 V25) else (if l1 = (117 : Int32) then (B_X5_deltaCodes_81 N  l1 x27 x38 V25) else (B_X5_deltaCodes_87 N  l1 x27 x38 V25))))) else none)) else none)) else (sx_let (sv_I V25 69 14 (1 : Int32)) (fun V43 => some V43))) else (sx_let (sv_I V25 69 14 (11 : Int32)) (fun V44 => some V44)))
set_option maxRecDepth 20000 in
theorem t_X5_deltaCodes {g : sx_G} (hG : sx_Go g) {P : Option Value → sv_V → Prop} {Vr : sv_V} (hP : P none Vr) {N : Nat} {l1 : Int32} {V : sv_V} (h : F_X5_deltaCodes N l1 V = some Vr) : sv_N g qX5_deltaCodes 3 0 [(0, .ref 69), (1, .int l1)] [] V P := by
  unfold F_X5_deltaCodes at h
  refine sx_aload_n (pc := 0) dX5_deltaCodes_0 sx_m0 ?_
  obtain ⟨⟨x27, V25⟩, g26, h⟩ := sx_bnd h
  refine sv_cV (pc := 1) (y := qX5_pop) (o := (some (.int x27))) (as := []) (V1 := V25) hG dX5_deltaCodes_1 l_X5_242 y0X5_pop yvX5_pop rfl (Nat.le_of_ble_eq_true rfl) lay_69 kr_5 (by decide) (Nat.le_of_ble_eq_true rfl) rfl rfl rfl (t_X5_pop hG ⟨rfl, rfl⟩ g26) ?_
  refine sx_istore_n (pc := 4) (lo' := [(2, .int x27), (0, .ref 69), (1, .int l1)]) dX5_deltaCodes_4 (by decide) rfl ?_
  refine sx_iload_n (pc := 5) dX5_deltaCodes_5 sx_m0 ?_
  refine sx_if_ge (pc := 6) (tgt := 16) dX5_deltaCodes_6 (by decide) (fun c28 => ?_) (fun c28 => ?_)
  · have h := sx_pos c28 h
    refine sx_ldc2 (pc := 16) dX5_deltaCodes_16 k_X5_459 ?_
    refine sx_iload_n (pc := 19) dX5_deltaCodes_19 sx_m0 ?_
    refine sx_i2l (pc := 20) dX5_deltaCodes_20 ?_
    refine sx_lmul (pc := 21) dX5_deltaCodes_21 ?_
    refine sx_aload_n (pc := 22) dX5_deltaCodes_22 sx_m1 ?_
    refine sv_getI (pc := 23) hG dX5_deltaCodes_23 f_5_96 lay_69 rfl ?_
    refine sx_i2l (pc := 26) dX5_deltaCodes_26 ?_
    refine sx_lcmp (pc := 27) dX5_deltaCodes_27 ?_
    refine sx_if_le (pc := 28) (tgt := 37) dX5_deltaCodes_28 (by decide) (fun c29 => ?_) (fun c29 => ?_)
    · have h := sx_pos c29 h
      refine sx_aload_n (pc := 37) dX5_deltaCodes_37 sx_m1 ?_
      obtain ⟨b30, g31, h⟩ := sx_bnd h
      refine sv_getV (pc := 38) hG dX5_deltaCodes_38 f_5_49 lay_69 rfl rfl g31 ?_
      obtain ⟨g32, h⟩ := sx_grd h
      obtain ⟨b33, g34, h⟩ := sx_bnd h
      refine sv_getA (pc := 41) hG dX5_deltaCodes_41 f_5_272 g32 rfl g34 ?_
      refine sx_iconst (pc := 44) (v := 5) dX5_deltaCodes_44 (by decide) ?_
      obtain ⟨n35, g36, h⟩ := sx_bnd h
      obtain ⟨g37, h⟩ := sx_grd h
      refine sv_iald (pc := 45) hG dX5_deltaCodes_45 (sv_len_e g36) g37 ?_
      refine sx_i2l (pc := 46) dX5_deltaCodes_46 ?_
      refine sv_tJ (fun x38 hx38 => ?_)
      have h := sx_letE hx38 h
      refine sx_lstore_n (pc := 47) (lo' := [(3, .long x38), (2, .int x27), (0, .ref 69), (1, .int l1)]) dX5_deltaCodes_47 (by decide) rfl ?_
      refine sx_iload_n (pc := 48) dX5_deltaCodes_48 sx_m3 ?_
      refine sx_bipush (pc := 49) (v := 113) dX5_deltaCodes_49 (by decide) ?_
      refine sx_icmp_eq (pc := 51) (tgt := 60) dX5_deltaCodes_51 (by decide) (fun c39 => ?_) (fun c39 => ?_)
      · have h := sx_pos c39 h
        refine sx_wk (sx_s1 sx_m2 (sx_s1 sx_m3 (sx_s1 sx_m1 (sx_s1 sx_m0 sx_s0)))) ?_
        exact tB_X5_deltaCodes_60 hG hP  h
      · have h := sx_neg c39 h
        refine sx_iload_n (pc := 54) dX5_deltaCodes_54 sx_m3 ?_
        refine sx_bipush (pc := 55) (v := 116) dX5_deltaCodes_55 (by decide) ?_
        refine sx_icmp_ne (pc := 57) (tgt := 69) dX5_deltaCodes_57 (by decide) (fun c40 => ?_) (fun c40 => ?_)
        · have h := sx_neg c40 h
          refine sx_iload_n (pc := 69) dX5_deltaCodes_69 sx_m3 ?_
          refine sx_bipush (pc := 70) (v := 114) dX5_deltaCodes_70 (by decide) ?_
          refine sx_icmp_eq (pc := 72) (tgt := 81) dX5_deltaCodes_72 (by decide) (fun c41 => ?_) (fun c41 => ?_)
          · have h := sx_pos c41 h
            refine sx_wk (sx_s1 sx_m2 (sx_s1 sx_m3 (sx_s1 sx_m1 (sx_s1 sx_m0 sx_s0)))) ?_
            exact tB_X5_deltaCodes_81 hG hP  h
          · have h := sx_neg c41 h
            refine sx_iload_n (pc := 75) dX5_deltaCodes_75 sx_m3 ?_
            refine sx_bipush (pc := 76) (v := 117) dX5_deltaCodes_76 (by decide) ?_
            refine sx_icmp_ne (pc := 78) (tgt := 87) dX5_deltaCodes_78 (by decide) (fun c42 => ?_) (fun c42 => ?_)
            · have h := sx_neg c42 h
              refine sx_wk (sx_s1 sx_m2 (sx_s1 sx_m3 (sx_s1 sx_m1 (sx_s1 sx_m0 sx_s0)))) ?_
              exact tB_X5_deltaCodes_87 hG hP  h
            · have h := sx_pos c42 h
              refine sx_wk (sx_s1 sx_m2 (sx_s1 sx_m3 (sx_s1 sx_m1 (sx_s1 sx_m0 sx_s0)))) ?_
              exact tB_X5_deltaCodes_81 hG hP  h
        · have h := sx_pos c40 h
          refine sx_wk (sx_s1 sx_m2 (sx_s1 sx_m3 (sx_s1 sx_m1 (sx_s1 sx_m0 sx_s0)))) ?_
          exact tB_X5_deltaCodes_60 hG hP  h
    · have h := sx_neg c29 h
      refine sx_aload_n (pc := 31) dX5_deltaCodes_31 sx_m1 ?_
      refine sx_iconst (pc := 32) (v := 1) dX5_deltaCodes_32 (by decide) ?_
      obtain ⟨V43, hV43⟩ : ∃ z : sv_V, z = sv_I V25 69 14 (1 : Int32) := ⟨_, rfl⟩
      have h := sx_letE hV43 h
      refine sv_putI (pc := 33) hG dX5_deltaCodes_33 f_5_56 lay_69 rfl hV43 ?_
      exact sv_vret (pc := 36) dX5_deltaCodes_36 rfl h hP
  · have h := sx_neg c28 h
    refine sx_aload_n (pc := 9) dX5_deltaCodes_9 sx_m1 ?_
    refine sx_bipush (pc := 10) (v := 11) dX5_deltaCodes_10 (by decide) ?_
    obtain ⟨V44, hV44⟩ : ∃ z : sv_V, z = sv_I V25 69 14 (11 : Int32) := ⟨_, rfl⟩
    have h := sx_letE hV44 h
    refine sv_putI (pc := 12) hG dX5_deltaCodes_12 f_5_56 lay_69 rfl hV44 ?_
    exact sv_vret (pc := 15) dX5_deltaCodes_15 rfl h hP
theorem dX9_renew_0 : decode cX9_renew 0 = .ok (.aload_n 0, 1) := by decide +kernel
theorem dX9_renew_1 : decode cX9_renew 1 = .ok (.iconst 1, 1) := by decide +kernel
theorem dX9_renew_2 : decode cX9_renew 2 = .ok (.invokevirtual 18, 3) := by decide +kernel
theorem dX9_renew_5 : decode cX9_renew 5 = .ok (.aload_n 0, 1) := by decide +kernel
theorem dX9_renew_6 : decode cX9_renew 6 = .ok (.getfield 9, 3) := by decide +kernel
theorem dX9_renew_9 : decode cX9_renew 9 = .ok (.iconst 0, 1) := by decide +kernel
theorem dX9_renew_10 : decode cX9_renew 10 = .ok (.invokestatic 22, 3) := by decide +kernel
theorem dX9_renew_13 : decode cX9_renew 13 = .ok (.aload_n 0, 1) := by decide +kernel
theorem dX9_renew_14 : decode cX9_renew 14 = .ok (.getfield 15, 3) := by decide +kernel
theorem dX9_renew_17 : decode cX9_renew 17 = .ok (.iconst 1, 1) := by decide +kernel
theorem dX9_renew_18 : decode cX9_renew 18 = .ok (.invokestatic 22, 3) := by decide +kernel
theorem dX9_renew_21 : decode cX9_renew 21 = .ok (.aload_n 0, 1) := by decide +kernel
theorem dX9_renew_22 : decode cX9_renew 22 = .ok (.iconst 1, 1) := by decide +kernel
theorem dX9_renew_23 : decode cX9_renew 23 = .ok (.putfield 28, 3) := by decide +kernel
theorem dX9_renew_26 : decode cX9_renew 26 = .ok (.aload_n 0, 1) := by decide +kernel
theorem dX9_renew_27 : decode cX9_renew 27 = .ok (.bipush 24, 2) := by decide +kernel
theorem dX9_renew_29 : decode cX9_renew 29 = .ok (.invokevirtual 32, 3) := by decide +kernel
theorem dX9_renew_32 : decode cX9_renew 32 = .ok (.return_, 1) := by decide +kernel
def F_X9_renew (N : Nat)  (V : sv_V) : Option sv_V := (F_X9_goAlong (1 : Int32) V).bind (fun V1 => (F_J7_fill_53178 N 71 (0 : Int32) V1).bind (fun V3 => (F_J7_fill_53178 N 72 (1 : Int32) V3).bind (fun V5 => sx_let (sv_I V5 70 8 (1 : Int32)) (fun V7 => (F_X9_roundBy (24 : Int32) V7).bind (fun V8 => some V8)))))
set_option maxRecDepth 20000 in
theorem t_X9_renew {g : sx_G} (hG : sx_Go g) {P : Option Value → sv_V → Prop} {Vr : sv_V} (hP : P none Vr) {N : Nat}  {V : sv_V} (h : F_X9_renew N  V = some Vr) : sv_N g qX9_renew 2 0 [(0, .ref 70)] [] V P := by
  unfold F_X9_renew at h
  refine sx_aload_n (pc := 0) dX9_renew_0 sx_m0 ?_
  refine sx_iconst (pc := 1) (v := 1) dX9_renew_1 (by decide) ?_
  obtain ⟨V1, g2, h⟩ := sx_bnd h
  refine sv_cV (pc := 2) (y := qX9_goAlong) (o := none) (as := [.int (1 : Int32)]) (V1 := V1) hG dX9_renew_2 l_X9_18 y0X9_goAlong yvX9_goAlong rfl (Nat.le_of_ble_eq_true rfl) lay_70 kr_9 (by decide) (Nat.le_of_ble_eq_true rfl) rfl rfl rfl (t_X9_goAlong hG ⟨rfl, rfl⟩ g2) ?_
  refine sx_aload_n (pc := 5) dX9_renew_5 sx_m0 ?_
  refine sv_getA (pc := 6) hG dX9_renew_6 f_9_9 lay_70 rfl cr_70_6 ?_
  refine sx_iconst (pc := 9) (v := 0) dX9_renew_9 (by decide) ?_
  obtain ⟨V3, g4, h⟩ := sx_bnd h
  refine sv_cS (pc := 10) (y := qJ7_fill_53178) (o := none) (as := [.ref 71, .int (0 : Int32)]) (V1 := V3) dX9_renew_10 l_X9_22 y0J7_fill_53178 ysJ7_fill_53178 rfl (Nat.le_of_ble_eq_true rfl) (by decide) (Nat.le_of_ble_eq_true rfl) rfl rfl rfl (t_J7_fill_53178 hG ⟨rfl, rfl⟩ g4) ?_
  refine sx_aload_n (pc := 13) dX9_renew_13 sx_m0 ?_
  refine sv_getA (pc := 14) hG dX9_renew_14 f_9_15 lay_70 rfl cr_70_7 ?_
  refine sx_iconst (pc := 17) (v := 1) dX9_renew_17 (by decide) ?_
  obtain ⟨V5, g6, h⟩ := sx_bnd h
  refine sv_cS (pc := 18) (y := qJ7_fill_53178) (o := none) (as := [.ref 72, .int (1 : Int32)]) (V1 := V5) dX9_renew_18 l_X9_22 y0J7_fill_53178 ysJ7_fill_53178 rfl (Nat.le_of_ble_eq_true rfl) (by decide) (Nat.le_of_ble_eq_true rfl) rfl rfl rfl (t_J7_fill_53178 hG ⟨rfl, rfl⟩ g6) ?_
  refine sx_aload_n (pc := 21) dX9_renew_21 sx_m0 ?_
  refine sx_iconst (pc := 22) (v := 1) dX9_renew_22 (by decide) ?_
  obtain ⟨V7, hV7⟩ : ∃ z : sv_V, z = sv_I V5 70 8 (1 : Int32) := ⟨_, rfl⟩
  have h := sx_letE hV7 h
  refine sv_putI (pc := 23) hG dX9_renew_23 f_9_28 lay_70 rfl hV7 ?_
  refine sx_aload_n (pc := 26) dX9_renew_26 sx_m0 ?_
  refine sx_bipush (pc := 27) (v := 24) dX9_renew_27 (by decide) ?_
  obtain ⟨V8, g9, h⟩ := sx_bnd h
  refine sv_cV (pc := 29) (y := qX9_roundBy) (o := none) (as := [.int (24 : Int32)]) (V1 := V8) hG dX9_renew_29 l_X9_32 y0X9_roundBy yvX9_roundBy rfl (Nat.le_of_ble_eq_true rfl) lay_70 kr_9 (by decide) (Nat.le_of_ble_eq_true rfl) rfl rfl rfl (t_X9_roundBy hG ⟨rfl, rfl⟩ g9) ?_
  exact sv_vret (pc := 32) dX9_renew_32 rfl h hP
theorem dX10_holds_0 : decode cX10_holds 0 = .ok (.aload_n 0, 1) := by decide +kernel
theorem dX10_holds_1 : decode cX10_holds 1 = .ok (.iconst 0, 1) := by decide +kernel
theorem dX10_holds_2 : decode cX10_holds 2 = .ok (.putfield 94, 3) := by decide +kernel
theorem dX10_holds_5 : decode cX10_holds 5 = .ok (.iconst 0, 1) := by decide +kernel
theorem dX10_holds_6 : decode cX10_holds 6 = .ok (.istore_n 3, 1) := by decide +kernel
theorem dX10_holds_7 : decode cX10_holds 7 = .ok (.iload_n 3, 1) := by decide +kernel
theorem dX10_holds_8 : decode cX10_holds 8 = .ok (.aload_n 0, 1) := by decide +kernel
theorem dX10_holds_9 : decode cX10_holds 9 = .ok (.getfield 91, 3) := by decide +kernel
theorem dX10_holds_12 : decode cX10_holds 12 = .ok (.if_icmp .ge 75, 3) := by decide +kernel
theorem dX10_holds_15 : decode cX10_holds 15 = .ok (.aload_n 0, 1) := by decide +kernel
theorem dX10_holds_16 : decode cX10_holds 16 = .ok (.getfield 34, 3) := by decide +kernel
theorem dX10_holds_19 : decode cX10_holds 19 = .ok (.iload_n 3, 1) := by decide +kernel
theorem dX10_holds_20 : decode cX10_holds 20 = .ok (.iaload, 1) := by decide +kernel
theorem dX10_holds_21 : decode cX10_holds 21 = .ok (.istore 4, 2) := by decide +kernel
theorem dX10_holds_23 : decode cX10_holds 23 = .ok (.aload_n 0, 1) := by decide +kernel
theorem dX10_holds_24 : decode cX10_holds 24 = .ok (.getfield 9, 3) := by decide +kernel
theorem dX10_holds_27 : decode cX10_holds 27 = .ok (.iload 4, 2) := by decide +kernel
theorem dX10_holds_29 : decode cX10_holds 29 = .ok (.iaload, 1) := by decide +kernel
theorem dX10_holds_30 : decode cX10_holds 30 = .ok (.iload_n 1, 1) := by decide +kernel
theorem dX10_holds_31 : decode cX10_holds 31 = .ok (.if_icmp .ge 29, 3) := by decide +kernel
theorem dX10_holds_34 : decode cX10_holds 34 = .ok (.aload_n 0, 1) := by decide +kernel
theorem dX10_holds_35 : decode cX10_holds 35 = .ok (.getfield 18, 3) := by decide +kernel
theorem dX10_holds_38 : decode cX10_holds 38 = .ok (.iload 4, 2) := by decide +kernel
theorem dX10_holds_40 : decode cX10_holds 40 = .ok (.iaload, 1) := by decide +kernel
theorem dX10_holds_41 : decode cX10_holds 41 = .ok (.iload_n 1, 1) := by decide +kernel
theorem dX10_holds_42 : decode cX10_holds 42 = .ok (.if_icmp .ge 18, 3) := by decide +kernel
theorem dX10_holds_45 : decode cX10_holds 45 = .ok (.aload_n 0, 1) := by decide +kernel
theorem dX10_holds_46 : decode cX10_holds 46 = .ok (.getfield 24, 3) := by decide +kernel
theorem dX10_holds_49 : decode cX10_holds 49 = .ok (.iload 4, 2) := by decide +kernel
theorem dX10_holds_51 : decode cX10_holds 51 = .ok (.iaload, 1) := by decide +kernel
theorem dX10_holds_52 : decode cX10_holds 52 = .ok (.iload_n 1, 1) := by decide +kernel
theorem dX10_holds_53 : decode cX10_holds 53 = .ok (.if_icmp .ge 7, 3) := by decide +kernel
theorem dX10_holds_56 : decode cX10_holds 56 = .ok (.iconst 1, 1) := by decide +kernel
theorem dX10_holds_57 : decode cX10_holds 57 = .ok (.goto 4, 3) := by decide +kernel
theorem dX10_holds_60 : decode cX10_holds 60 = .ok (.iconst 0, 1) := by decide +kernel
theorem dX10_holds_61 : decode cX10_holds 61 = .ok (.istore 5, 2) := by decide +kernel
theorem dX10_holds_63 : decode cX10_holds 63 = .ok (.iload 5, 2) := by decide +kernel
theorem dX10_holds_65 : decode cX10_holds 65 = .ok (.ifCond .ne 16, 3) := by decide +kernel
theorem dX10_holds_68 : decode cX10_holds 68 = .ok (.aload_n 0, 1) := by decide +kernel
theorem dX10_holds_69 : decode cX10_holds 69 = .ok (.iload 4, 2) := by decide +kernel
theorem dX10_holds_71 : decode cX10_holds 71 = .ok (.iload_n 1, 1) := by decide +kernel
theorem dX10_holds_72 : decode cX10_holds 72 = .ok (.iload_n 2, 1) := by decide +kernel
theorem dX10_holds_73 : decode cX10_holds 73 = .ok (.invokevirtual 97, 3) := by decide +kernel
theorem dX10_holds_76 : decode cX10_holds 76 = .ok (.ifCond .eq 5, 3) := by decide +kernel
theorem dX10_holds_79 : decode cX10_holds 79 = .ok (.iconst 1, 1) := by decide +kernel
theorem dX10_holds_80 : decode cX10_holds 80 = .ok (.ireturn, 1) := by decide +kernel
theorem dX10_holds_81 : decode cX10_holds 81 = .ok (.iinc 3 1, 3) := by decide +kernel
theorem dX10_holds_84 : decode cX10_holds 84 = .ok (.goto (-77), 3) := by decide +kernel
theorem dX10_holds_87 : decode cX10_holds 87 = .ok (.aload_n 0, 1) := by decide +kernel
theorem dX10_holds_88 : decode cX10_holds 88 = .ok (.getfield 94, 3) := by decide +kernel
theorem dX10_holds_91 : decode cX10_holds 91 = .ok (.ifCond .eq 7, 3) := by decide +kernel
theorem dX10_holds_94 : decode cX10_holds 94 = .ok (.iconst 1, 1) := by decide +kernel
theorem dX10_holds_95 : decode cX10_holds 95 = .ok (.goto 4, 3) := by decide +kernel
theorem dX10_holds_98 : decode cX10_holds 98 = .ok (.iconst 0, 1) := by decide +kernel
theorem dX10_holds_99 : decode cX10_holds 99 = .ok (.ireturn, 1) := by decide +kernel
def B_X10_holds_81 (N : Nat) (k7 : Int32 → Int32 → Int32 → sv_V → Option (Int32 × sv_V)) (l1 : Int32) (l2 : Int32) (l3 : Int32) (V : sv_V) : Option (Int32 × sv_V) := sx_let (l3 + 1) (fun x1 => k7 l1 l2 x1 V)
set_option maxRecDepth 20000 in
theorem tB_X10_holds_81 {g : sx_G} (hG : sx_Go g) {P : Option Value → sv_V → Prop} {r : Int32} {Vr : sv_V} (hP : P (some (.int r)) Vr) {N : Nat} {k7 : Int32 → Int32 → Int32 → sv_V → Option (Int32 × sv_V)} (hk7 : ∀ (l1 : Int32) (l2 : Int32) (l3 : Int32) (V : sv_V), k7 l1 l2 l3 V = some (r, Vr) → sv_N g qX10_holds 3 7 [(0, .ref 60), (1, .int l1), (2, .int l2), (3, .int l3)] [] V P) {l1 : Int32} {l2 : Int32} {l3 : Int32} {V : sv_V} (h : B_X10_holds_81 N k7 l1 l2 l3 V = some (r, Vr)) : sv_N g qX10_holds 3 81 [(0, .ref 60), (1, .int l1), (2, .int l2), (3, .int l3)] [] V P := by
  unfold B_X10_holds_81 at h
  obtain ⟨x1, hx1⟩ : ∃ z : Int32, z = l3 + 1 := ⟨_, rfl⟩
  have h := sx_letE hx1 h
  refine sx_iinc (pc := 81) (v := x1) (lo' := [(3, .int x1), (0, .ref 60), (1, .int l1), (2, .int l2)]) dX10_holds_81 sx_m3 (by rw [hx1]; rfl) (by decide) rfl ?_
  refine sx_goto (pc := 84) (tgt := 7) dX10_holds_84 (by decide) ?_
  refine sx_wk (sx_s1 sx_m1 (sx_s1 sx_m2 (sx_s1 sx_m3 (sx_s1 sx_m0 sx_s0)))) ?_
  exact hk7 _ _ _ _ h
def B_X10_holds_61 (N : Nat) (k7 : Int32 → Int32 → Int32 → sv_V → Option (Int32 × sv_V)) (l1 : Int32) (l2 : Int32) (l3 : Int32) (l4 : Int32) (s0 : Int32) (V : sv_V) : Option (Int32 × sv_V) := if s0 = 0 then ((F_X10_meets l4 l1 l2 V).bind (fun (x5, V3) => if x5 = 0 then (B_X10_holds_81 N k7 l1 l2 l3 V3) else (some ((1 : Int32), V3)))) else (B_X10_holds_81 N k7 l1 l2 l3 V)
set_option maxRecDepth 20000 in
theorem tB_X10_holds_61 {g : sx_G} (hG : sx_Go g) {P : Option Value → sv_V → Prop} {r : Int32} {Vr : sv_V} (hP : P (some (.int r)) Vr) {N : Nat} {k7 : Int32 → Int32 → Int32 → sv_V → Option (Int32 × sv_V)} (hk7 : ∀ (l1 : Int32) (l2 : Int32) (l3 : Int32) (V : sv_V), k7 l1 l2 l3 V = some (r, Vr) → sv_N g qX10_holds 3 7 [(0, .ref 60), (1, .int l1), (2, .int l2), (3, .int l3)] [] V P) {l1 : Int32} {l2 : Int32} {l3 : Int32} {l4 : Int32} {s0 : Int32} {V : sv_V} (h : B_X10_holds_61 N k7 l1 l2 l3 l4 s0 V = some (r, Vr)) : sv_N g qX10_holds 3 61 [(0, .ref 60), (1, .int l1), (2, .int l2), (3, .int l3), (4, .int l4)] [.int s0] V P := by
  unfold B_X10_holds_61 at h
  refine sx_istore (pc := 61) (lo' := [(5, .int s0), (0, .ref 60), (1, .int l1), (2, .int l2), (3, .int l3), (4, .int l4)]) dX10_holds_61 (by decide) rfl ?_
  refine sx_iload (pc := 63) dX10_holds_63 sx_m0 ?_
  refine sx_if_ne (pc := 65) (tgt := 81) dX10_holds_65 (by decide) (fun c2 => ?_) (fun c2 => ?_)
  · have h := sx_neg c2 h
    refine sx_wk (sx_s1 sx_m1 (sx_s1 sx_m2 (sx_s1 sx_m3 (sx_s1 sx_m4 sx_s0)))) ?_
    exact tB_X10_holds_81 hG hP hk7 h
  · have h := sx_pos c2 h
    refine sx_aload_n (pc := 68) dX10_holds_68 sx_m1 ?_
    refine sx_iload (pc := 69) dX10_holds_69 sx_m5 ?_
    refine sx_iload_n (pc := 71) dX10_holds_71 sx_m2 ?_
    refine sx_iload_n (pc := 72) dX10_holds_72 sx_m3 ?_
    obtain ⟨⟨x5, V3⟩, g4, h⟩ := sx_bnd h
    refine sv_cV (pc := 73) (y := qX10_meets) (o := (some (.int x5))) (as := [.int l4, .int l1, .int l2]) (V1 := V3) hG dX10_holds_73 l_X10_97 y0X10_meets yvX10_meets rfl (Nat.le_of_ble_eq_true rfl) lay_60 kr_10 (by decide) (Nat.le_of_ble_eq_true rfl) rfl rfl rfl (t_X10_meets hG ⟨rfl, rfl⟩ g4) ?_
    refine sx_if_eq (pc := 76) (tgt := 81) dX10_holds_76 (by decide) (fun c6 => ?_) (fun c6 => ?_)
    · have h := sx_pos c6 h
      refine sx_wk (sx_s1 sx_m1 (sx_s1 sx_m2 (sx_s1 sx_m3 (sx_s1 sx_m4 sx_s0)))) ?_
      exact tB_X10_holds_81 hG hP hk7 h
    · have h := sx_neg c6 h
      refine sx_iconst (pc := 79) (v := 1) dX10_holds_79 (by decide) ?_
      exact sv_zret (pc := 80) dX10_holds_80 rfl rfl h hP
def B_X10_holds_60 (N : Nat) (k7 : Int32 → Int32 → Int32 → sv_V → Option (Int32 × sv_V)) (l1 : Int32) (l2 : Int32) (l3 : Int32) (l4 : Int32) (V : sv_V) : Option (Int32 × sv_V) := B_X10_holds_61 N k7 l1 l2 l3 l4 (0 : Int32) V
set_option maxRecDepth 20000 in
theorem tB_X10_holds_60 {g : sx_G} (hG : sx_Go g) {P : Option Value → sv_V → Prop} {r : Int32} {Vr : sv_V} (hP : P (some (.int r)) Vr) {N : Nat} {k7 : Int32 → Int32 → Int32 → sv_V → Option (Int32 × sv_V)} (hk7 : ∀ (l1 : Int32) (l2 : Int32) (l3 : Int32) (V : sv_V), k7 l1 l2 l3 V = some (r, Vr) → sv_N g qX10_holds 3 7 [(0, .ref 60), (1, .int l1), (2, .int l2), (3, .int l3)] [] V P) {l1 : Int32} {l2 : Int32} {l3 : Int32} {l4 : Int32} {V : sv_V} (h : B_X10_holds_60 N k7 l1 l2 l3 l4 V = some (r, Vr)) : sv_N g qX10_holds 3 60 [(0, .ref 60), (1, .int l1), (2, .int l2), (3, .int l3), (4, .int l4)] [] V P := by
  unfold B_X10_holds_60 at h
  refine sx_iconst (pc := 60) (v := 0) dX10_holds_60 (by decide) ?_
  refine sx_wk (sx_s1 sx_m0 (sx_s1 sx_m1 (sx_s1 sx_m2 (sx_s1 sx_m3 (sx_s1 sx_m4 sx_s0))))) ?_
  exact tB_X10_holds_61 hG hP hk7 h
def B_X10_holds_7 (N : Nat) (k7 : Int32 → Int32 → Int32 → sv_V → Option (Int32 × sv_V)) (l1 : Int32) (l2 : Int32) (l3 : Int32) (V : sv_V) : Option (Int32 × sv_V) := if (V.1 60 9) ≤ l3 then (if (V.1 60 10) = 0 then (some ((0 : Int32), V)) else (some ((1 : Int32), V))) else (if sx_in l3 100 = true then sx_let (V.1 68 l3.toNatClampNeg) (fun x10 => if sx_in x10 100 = true then if l1 ≤ (V.1 61 x10.toNatClampNeg) then (B_X10_holds_60 N k7 l1 l2 l3 x10 V) else (if sx_in x10 100 = true then if l1 ≤ (V.1 63 x10.toNatClampNeg) then (B_X10_holds_60 N k7 l1 l2 l3 x10 V) else (if sx_in x10 100 = true then if l1 ≤ (V.1 65 x10.toNatClampNeg) then (B_X10_holds_60 N k7 l1 l2 l3 x10 V) else (B_X10_holds_61 N k7 l1 l2 l3 x10 (1 : Int32) V) else none) else none) else none) else none)
set_option maxRecDepth 20000 in
theorem tB_X10_holds_7 {g : sx_G} (hG : sx_Go g) {P : Option Value → sv_V → Prop} {r : Int32} {Vr : sv_V} (hP : P (some (.int r)) Vr) {N : Nat} {k7 : Int32 → Int32 → Int32 → sv_V → Option (Int32 × sv_V)} (hk7 : ∀ (l1 : Int32) (l2 : Int32) (l3 : Int32) (V : sv_V), k7 l1 l2 l3 V = some (r, Vr) → sv_N g qX10_holds 3 7 [(0, .ref 60), (1, .int l1), (2, .int l2), (3, .int l3)] [] V P) {l1 : Int32} {l2 : Int32} {l3 : Int32} {V : sv_V} (h : B_X10_holds_7 N k7 l1 l2 l3 V = some (r, Vr)) : sv_N g qX10_holds 3 7 [(0, .ref 60), (1, .int l1), (2, .int l2), (3, .int l3)] [] V P := by
  unfold B_X10_holds_7 at h
  refine sx_iload_n (pc := 7) dX10_holds_7 sx_m3 ?_
  refine sx_aload_n (pc := 8) dX10_holds_8 sx_m0 ?_
  refine sv_getI (pc := 9) hG dX10_holds_9 f_10_91 lay_60 rfl ?_
  refine sx_icmp_ge (pc := 12) (tgt := 87) dX10_holds_12 (by decide) (fun c7 => ?_) (fun c7 => ?_)
  · have h := sx_pos c7 h
    refine sx_aload_n (pc := 87) dX10_holds_87 sx_m0 ?_
    refine sv_getI (pc := 88) hG dX10_holds_88 f_10_94 lay_60 rfl ?_
    refine sx_if_eq (pc := 91) (tgt := 98) dX10_holds_91 (by decide) (fun c8 => ?_) (fun c8 => ?_)
    · have h := sx_pos c8 h
      refine sx_iconst (pc := 98) (v := 0) dX10_holds_98 (by decide) ?_
      exact sv_zret (pc := 99) dX10_holds_99 rfl rfl h hP
    · have h := sx_neg c8 h
      refine sx_iconst (pc := 94) (v := 1) dX10_holds_94 (by decide) ?_
      refine sx_goto (pc := 95) (tgt := 99) dX10_holds_95 (by decide) ?_
      exact sv_zret (pc := 99) dX10_holds_99 rfl rfl h hP
  · have h := sx_neg c7 h
    refine sx_aload_n (pc := 15) dX10_holds_15 sx_m0 ?_
    refine sv_getA (pc := 16) hG dX10_holds_16 f_10_34 lay_60 rfl cr_60_8 ?_
    refine sx_iload_n (pc := 19) dX10_holds_19 sx_m3 ?_
    obtain ⟨g9, h⟩ := sx_grd h
    refine sv_iald (pc := 20) hG dX10_holds_20 lay_68 g9 ?_
    refine sv_tI (fun x10 hx10 => ?_)
    have h := sx_letE hx10 h
    refine sx_istore (pc := 21) (lo' := [(4, .int x10), (0, .ref 60), (1, .int l1), (2, .int l2), (3, .int l3)]) dX10_holds_21 (by decide) rfl ?_
    refine sx_aload_n (pc := 23) dX10_holds_23 sx_m1 ?_
    refine sv_getA (pc := 24) hG dX10_holds_24 f_10_9 lay_60 rfl cr_60_0 ?_
    refine sx_iload (pc := 27) dX10_holds_27 sx_m0 ?_
    obtain ⟨g11, h⟩ := sx_grd h
    refine sv_iald (pc := 29) hG dX10_holds_29 lay_61 g11 ?_
    refine sx_iload_n (pc := 30) dX10_holds_30 sx_m2 ?_
    refine sx_icmp_ge (pc := 31) (tgt := 60) dX10_holds_31 (by decide) (fun c12 => ?_) (fun c12 => ?_)
    · have h := sx_pos c12 h
      refine sx_wk (sx_s1 sx_m1 (sx_s1 sx_m2 (sx_s1 sx_m3 (sx_s1 sx_m4 (sx_s1 sx_m0 sx_s0))))) ?_
      exact tB_X10_holds_60 hG hP hk7 h
    · have h := sx_neg c12 h
      refine sx_aload_n (pc := 34) dX10_holds_34 sx_m1 ?_
      refine sv_getA (pc := 35) hG dX10_holds_35 f_10_18 lay_60 rfl cr_60_2 ?_
      refine sx_iload (pc := 38) dX10_holds_38 sx_m0 ?_
      obtain ⟨g13, h⟩ := sx_grd h
      refine sv_iald (pc := 40) hG dX10_holds_40 lay_63 g13 ?_
      refine sx_iload_n (pc := 41) dX10_holds_41 sx_m2 ?_
      refine sx_icmp_ge (pc := 42) (tgt := 60) dX10_holds_42 (by decide) (fun c14 => ?_) (fun c14 => ?_)
      · have h := sx_pos c14 h
        refine sx_wk (sx_s1 sx_m1 (sx_s1 sx_m2 (sx_s1 sx_m3 (sx_s1 sx_m4 (sx_s1 sx_m0 sx_s0))))) ?_
        exact tB_X10_holds_60 hG hP hk7 h
      · have h := sx_neg c14 h
        refine sx_aload_n (pc := 45) dX10_holds_45 sx_m1 ?_
        refine sv_getA (pc := 46) hG dX10_holds_46 f_10_24 lay_60 rfl cr_60_4 ?_
        refine sx_iload (pc := 49) dX10_holds_49 sx_m0 ?_
        obtain ⟨g15, h⟩ := sx_grd h
        refine sv_iald (pc := 51) hG dX10_holds_51 lay_65 g15 ?_
        refine sx_iload_n (pc := 52) dX10_holds_52 sx_m2 ?_
        refine sx_icmp_ge (pc := 53) (tgt := 60) dX10_holds_53 (by decide) (fun c16 => ?_) (fun c16 => ?_)
        · have h := sx_pos c16 h
          refine sx_wk (sx_s1 sx_m1 (sx_s1 sx_m2 (sx_s1 sx_m3 (sx_s1 sx_m4 (sx_s1 sx_m0 sx_s0))))) ?_
          exact tB_X10_holds_60 hG hP hk7 h
        · have h := sx_neg c16 h
          refine sx_iconst (pc := 56) (v := 1) dX10_holds_56 (by decide) ?_
          refine sx_goto (pc := 57) (tgt := 61) dX10_holds_57 (by decide) ?_
          refine sx_wk (sx_s1 sx_m1 (sx_s1 sx_m2 (sx_s1 sx_m3 (sx_s1 sx_m4 (sx_s1 sx_m0 sx_s0))))) ?_
          exact tB_X10_holds_61 hG hP hk7 h
theorem tL_X10_holds_7 {g : sx_G} (hG : sx_Go g) {P : Option Value → sv_V → Prop} {r : Int32} {Vr : sv_V} (hP : P (some (.int r)) Vr) {N : Nat}   : ∀ (n : Nat) (l1 : Int32) (l2 : Int32) (l3 : Int32) (V : sv_V), sx_lp4 (B_X10_holds_7 N ) n l1 l2 l3 V = some (r, Vr) → sv_N g qX10_holds 3 7 [(0, .ref 60), (1, .int l1), (2, .int l2), (3, .int l3)] [] V P :=
  sx_lp4_ind (fun k0 ih _ _ _ V h => tB_X10_holds_7 hG hP ih h)
def F_X10_holds (N : Nat) (l1 : Int32) (l2 : Int32) (V : sv_V) : Option (Int32 × sv_V) := sx_let (sv_I V 60 10 (0 : Int32)) (fun V17 => sx_lp4 (B_X10_holds_7 N ) N l1 l2 (0 : Int32) V17)
set_option maxRecDepth 20000 in
theorem t_X10_holds {g : sx_G} (hG : sx_Go g) {P : Option Value → sv_V → Prop} {r : Int32} {Vr : sv_V} (hP : P (some (.int r)) Vr) {N : Nat} {l1 : Int32} {l2 : Int32} {V : sv_V} (h : F_X10_holds N l1 l2 V = some (r, Vr)) : sv_N g qX10_holds 3 0 [(0, .ref 60), (1, .int l1), (2, .int l2)] [] V P := by
  unfold F_X10_holds at h
  refine sx_aload_n (pc := 0) dX10_holds_0 sx_m0 ?_
  refine sx_iconst (pc := 1) (v := 0) dX10_holds_1 (by decide) ?_
  obtain ⟨V17, hV17⟩ : ∃ z : sv_V, z = sv_I V 60 10 (0 : Int32) := ⟨_, rfl⟩
  have h := sx_letE hV17 h
  refine sv_putI (pc := 2) hG dX10_holds_2 f_10_94 lay_60 rfl hV17 ?_
  refine sx_iconst (pc := 5) (v := 0) dX10_holds_5 (by decide) ?_
  refine sx_istore_n (pc := 6) (lo' := [(3, .int (0 : Int32)), (0, .ref 60), (1, .int l1), (2, .int l2)]) dX10_holds_6 (by decide) rfl ?_
  refine sx_wk (sx_s1 sx_m1 (sx_s1 sx_m2 (sx_s1 sx_m3 (sx_s1 sx_m0 sx_s0)))) ?_
  exact tL_X10_holds_7 hG hP  N _ _ _ _ h
theorem dX11_glyphOf_0 : decode cX11_glyphOf 0 = .ok (.aload_n 0, 1) := by decide +kernel
theorem dX11_glyphOf_1 : decode cX11_glyphOf 1 = .ok (.getfield 16, 3) := by decide +kernel
theorem dX11_glyphOf_4 : decode cX11_glyphOf 4 = .ok (.getfield 67, 3) := by decide +kernel
theorem dX11_glyphOf_7 : decode cX11_glyphOf 7 = .ok (.ifCond .ne 6, 3) := by decide +kernel
theorem dX11_glyphOf_10 : decode cX11_glyphOf 10 = .ok (.bipush (-3), 2) := by decide +kernel
theorem dX11_glyphOf_12 : decode cX11_glyphOf 12 = .ok (.ireturn, 1) := by decide +kernel
theorem dX11_glyphOf_13 : decode cX11_glyphOf 13 = .ok (.iload_n 1, 1) := by decide +kernel
theorem dX11_glyphOf_14 : decode cX11_glyphOf 14 = .ok (.ifCond .lt 9, 3) := by decide +kernel
theorem dX11_glyphOf_17 : decode cX11_glyphOf 17 = .ok (.iload_n 1, 1) := by decide +kernel
theorem dX11_glyphOf_18 : decode cX11_glyphOf 18 = .ok (.ldc 111, 2) := by decide +kernel
theorem dX11_glyphOf_20 : decode cX11_glyphOf 20 = .ok (.if_icmp .le 6, 3) := by decide +kernel
theorem dX11_glyphOf_23 : decode cX11_glyphOf 23 = .ok (.bipush (-2), 2) := by decide +kernel
theorem dX11_glyphOf_25 : decode cX11_glyphOf 25 = .ok (.ireturn, 1) := by decide +kernel
theorem dX11_glyphOf_26 : decode cX11_glyphOf 26 = .ok (.aload_n 0, 1) := by decide +kernel
theorem dX11_glyphOf_27 : decode cX11_glyphOf 27 = .ok (.getfield 16, 3) := by decide +kernel
theorem dX11_glyphOf_30 : decode cX11_glyphOf 30 = .ok (.iload_n 1, 1) := by decide +kernel
theorem dX11_glyphOf_31 : decode cX11_glyphOf 31 = .ok (.invokevirtual 112, 3) := by decide +kernel
theorem dX11_glyphOf_34 : decode cX11_glyphOf 34 = .ok (.ireturn, 1) := by decide +kernel
def F_X11_glyphOf (N : Nat) (l1 : Int32) (V : sv_V) : Option (Int32 × sv_V) := if (V.1 2 2) = 0 then (some ((-3 : Int32), V)) else (if l1 < 0 then (some ((-2 : Int32), V)) else (if l1 ≤ (1114111 : Int32) then ((F_X2_findGlyph N l1 V).bind (fun (x6, V4) => some (x6, V4))) else (some ((-2 : Int32), V))))
set_option maxRecDepth 20000 in
theorem t_X11_glyphOf {g : sx_G} (hG : sx_Go g) {P : Option Value → sv_V → Prop} {r : Int32} {Vr : sv_V} (hP : P (some (.int r)) Vr) {N : Nat} {l1 : Int32} {V : sv_V} (h : F_X11_glyphOf N l1 V = some (r, Vr)) : sv_N g qX11_glyphOf 4 0 [(0, .ref 0), (1, .int l1)] [] V P := by
  unfold F_X11_glyphOf at h
  refine sx_aload_n (pc := 0) dX11_glyphOf_0 sx_m0 ?_
  refine sv_getO (pc := 1) hG dX11_glyphOf_1 f_11_16 lay_0 rfl cr_0_2 ?_
  refine sv_getZ (pc := 4) hG dX11_glyphOf_4 f_11_67 lay_2 rfl ?_
  refine sx_if_ne (pc := 7) (tgt := 13) dX11_glyphOf_7 (by decide) (fun c1 => ?_) (fun c1 => ?_)
  · have h := sx_neg c1 h
    refine sx_iload_n (pc := 13) dX11_glyphOf_13 sx_m1 ?_
    refine sx_if_lt (pc := 14) (tgt := 23) dX11_glyphOf_14 (by decide) (fun c2 => ?_) (fun c2 => ?_)
    · have h := sx_pos c2 h
      refine sx_bipush (pc := 23) (v := (-2)) dX11_glyphOf_23 (by decide) ?_
      exact sv_iret (pc := 25) dX11_glyphOf_25 rfl h hP
    · have h := sx_neg c2 h
      refine sx_iload_n (pc := 17) dX11_glyphOf_17 sx_m1 ?_
      refine sx_ldc (pc := 18) dX11_glyphOf_18 k_X11_111 ?_
      refine sx_icmp_le (pc := 20) (tgt := 26) dX11_glyphOf_20 (by decide) (fun c3 => ?_) (fun c3 => ?_)
      · have h := sx_pos c3 h
        refine sx_aload_n (pc := 26) dX11_glyphOf_26 sx_m0 ?_
        refine sv_getO (pc := 27) hG dX11_glyphOf_27 f_11_16 lay_0 rfl cr_0_2 ?_
        refine sx_iload_n (pc := 30) dX11_glyphOf_30 sx_m1 ?_
        obtain ⟨⟨x6, V4⟩, g5, h⟩ := sx_bnd h
        refine sv_cV (pc := 31) (y := qX2_findGlyph) (o := (some (.int x6))) (as := [.int l1]) (V1 := V4) hG dX11_glyphOf_31 l_X11_112 y0X2_findGlyph yvX2_findGlyph rfl (Nat.le_of_ble_eq_true rfl) lay_2 kr_2 (by decide) (Nat.le_of_ble_eq_true rfl) rfl rfl rfl (t_X2_findGlyph hG ⟨rfl, rfl⟩ g5) ?_
        exact sv_iret (pc := 34) dX11_glyphOf_34 rfl h hP
      · have h := sx_neg c3 h
        refine sx_bipush (pc := 23) (v := (-2)) dX11_glyphOf_23 (by decide) ?_
        exact sv_iret (pc := 25) dX11_glyphOf_25 rfl h hP
  · have h := sx_pos c1 h
    refine sx_bipush (pc := 10) (v := (-3)) dX11_glyphOf_10 (by decide) ?_
    exact sv_iret (pc := 12) dX11_glyphOf_12 rfl h hP
theorem dX12_over_0 : decode cX12_over 0 = .ok (.lload_n 0, 1) := by decide +kernel
theorem dX12_over_1 : decode cX12_over 1 = .ok (.lload_n 2, 1) := by decide +kernel
theorem dX12_over_2 : decode cX12_over 2 = .ok (.invokestatic 194, 3) := by decide +kernel
theorem dX12_over_5 : decode cX12_over 5 = .ok (.lreturn, 1) := by decide +kernel
def F_X12_over (l0 : Int64) (l2 : Int64) (V : sv_V) : Option (Int64 × sv_V) := (F_X12_nearest l0 l2 V).bind (fun (x3, V1) => some (x3, V1))
set_option maxRecDepth 20000 in
theorem t_X12_over {g : sx_G} (hG : sx_Go g) {P : Option Value → sv_V → Prop} {r : Int64} {Vr : sv_V} (hP : P (some (.long r)) Vr) {l0 : Int64} {l2 : Int64} {V : sv_V} (h : F_X12_over l0 l2 V = some (r, Vr)) : sv_N g qX12_over 2 0 [(0, .long l0), (2, .long l2)] [] V P := by
  unfold F_X12_over at h
  refine sx_lload_n (pc := 0) dX12_over_0 sx_m0 ?_
  refine sx_lload_n (pc := 1) dX12_over_1 sx_m1 ?_
  obtain ⟨⟨x3, V1⟩, g2, h⟩ := sx_bnd h
  refine sv_cS (pc := 2) (y := qX12_nearest) (o := (some (.long x3))) (as := [.long l0, .long l2]) (V1 := V1) dX12_over_2 l_X12_194 y0X12_nearest ysX12_nearest rfl (Nat.le_of_ble_eq_true rfl) (by decide) (Nat.le_of_ble_eq_true rfl) rfl rfl rfl (t_X12_nearest hG ⟨rfl, rfl⟩ g2) ?_
  exact sv_lret (pc := 5) dX12_over_5 rfl h hP
theorem dX12_isGlyph_0 : decode cX12_isGlyph 0 = .ok (.aload_n 0, 1) := by decide +kernel
theorem dX12_isGlyph_1 : decode cX12_isGlyph 1 = .ok (.iload_n 1, 1) := by decide +kernel
theorem dX12_isGlyph_2 : decode cX12_isGlyph 2 = .ok (.invokevirtual 363, 3) := by decide +kernel
theorem dX12_isGlyph_5 : decode cX12_isGlyph 5 = .ok (.aload_n 0, 1) := by decide +kernel
theorem dX12_isGlyph_6 : decode cX12_isGlyph 6 = .ok (.getfield 342, 3) := by decide +kernel
theorem dX12_isGlyph_9 : decode cX12_isGlyph 9 = .ok (.aload_n 0, 1) := by decide +kernel
theorem dX12_isGlyph_10 : decode cX12_isGlyph 10 = .ok (.getfield 345, 3) := by decide +kernel
theorem dX12_isGlyph_13 : decode cX12_isGlyph 13 = .ok (.if_icmp .ne 5, 3) := by decide +kernel
theorem dX12_isGlyph_16 : decode cX12_isGlyph 16 = .ok (.iconst 1, 1) := by decide +kernel
theorem dX12_isGlyph_17 : decode cX12_isGlyph 17 = .ok (.ireturn, 1) := by decide +kernel
theorem dX12_isGlyph_18 : decode cX12_isGlyph 18 = .ok (.aload_n 0, 1) := by decide +kernel
theorem dX12_isGlyph_19 : decode cX12_isGlyph 19 = .ok (.getfield 345, 3) := by decide +kernel
theorem dX12_isGlyph_22 : decode cX12_isGlyph 22 = .ok (.aload_n 0, 1) := by decide +kernel
theorem dX12_isGlyph_23 : decode cX12_isGlyph 23 = .ok (.getfield 342, 3) := by decide +kernel
theorem dX12_isGlyph_26 : decode cX12_isGlyph 26 = .ok (.isub, 1) := by decide +kernel
theorem dX12_isGlyph_27 : decode cX12_isGlyph 27 = .ok (.bipush 10, 2) := by decide +kernel
theorem dX12_isGlyph_29 : decode cX12_isGlyph 29 = .ok (.if_icmp .ge 5, 3) := by decide +kernel
theorem dX12_isGlyph_32 : decode cX12_isGlyph 32 = .ok (.iconst 0, 1) := by decide +kernel
theorem dX12_isGlyph_33 : decode cX12_isGlyph 33 = .ok (.ireturn, 1) := by decide +kernel
theorem dX12_isGlyph_34 : decode cX12_isGlyph 34 = .ok (.aload_n 0, 1) := by decide +kernel
theorem dX12_isGlyph_35 : decode cX12_isGlyph 35 = .ok (.getfield 348, 3) := by decide +kernel
theorem dX12_isGlyph_38 : decode cX12_isGlyph 38 = .ok (.i2l, 1) := by decide +kernel
theorem dX12_isGlyph_39 : decode cX12_isGlyph 39 = .ok (.lconst 0, 1) := by decide +kernel
theorem dX12_isGlyph_40 : decode cX12_isGlyph 40 = .ok (.ldc2_w 230, 3) := by decide +kernel
theorem dX12_isGlyph_43 : decode cX12_isGlyph 43 = .ok (.invokestatic 263, 3) := by decide +kernel
theorem dX12_isGlyph_46 : decode cX12_isGlyph 46 = .ok (.ifCond .eq 10, 3) := by decide +kernel
theorem dX12_isGlyph_49 : decode cX12_isGlyph 49 = .ok (.aload_n 0, 1) := by decide +kernel
theorem dX12_isGlyph_50 : decode cX12_isGlyph 50 = .ok (.invokevirtual 367, 3) := by decide +kernel
theorem dX12_isGlyph_53 : decode cX12_isGlyph 53 = .ok (.goto 23, 3) := by decide +kernel
theorem dX12_isGlyph_56 : decode cX12_isGlyph 56 = .ok (.aload_n 0, 1) := by decide +kernel
theorem dX12_isGlyph_57 : decode cX12_isGlyph 57 = .ok (.getfield 348, 3) := by decide +kernel
theorem dX12_isGlyph_60 : decode cX12_isGlyph 60 = .ok (.iconst (-1), 1) := by decide +kernel
theorem dX12_isGlyph_61 : decode cX12_isGlyph 61 = .ok (.if_icmp .ne 14, 3) := by decide +kernel
theorem dX12_isGlyph_64 : decode cX12_isGlyph 64 = .ok (.aload_n 0, 1) := by decide +kernel
theorem dX12_isGlyph_65 : decode cX12_isGlyph 65 = .ok (.invokevirtual 370, 3) := by decide +kernel
theorem dX12_isGlyph_68 : decode cX12_isGlyph 68 = .ok (.ifCond .eq 7, 3) := by decide +kernel
theorem dX12_isGlyph_71 : decode cX12_isGlyph 71 = .ok (.iconst 1, 1) := by decide +kernel
theorem dX12_isGlyph_72 : decode cX12_isGlyph 72 = .ok (.goto 4, 3) := by decide +kernel
theorem dX12_isGlyph_75 : decode cX12_isGlyph 75 = .ok (.iconst 0, 1) := by decide +kernel
theorem dX12_isGlyph_76 : decode cX12_isGlyph 76 = .ok (.ireturn, 1) := by decide +kernel
def F_X12_isGlyph (N : Nat) (l1 : Int32) (V : sv_V) : Option (Int32 × sv_V) := (F_X12_bytesOf N l1 V).bind (fun V1 => if (V1.1 146 26) = (V1.1 146 27) then (some ((1 : Int32), V1)) else (if (10 : Int32) ≤ ((V1.1 146 27) - (V1.1 146 26)) then ((F_X12_in ((V1.1 146 28).toInt64) (0 : Int64) (12 : Int64) V1).bind (fun (x7, V5) => if x7 = 0 then (if (V5.1 146 28) = (-1 : Int32) then ((F_X12_composed N  V5).bind (fun (x12, V10) => if x12 = 0 then (some ((0 : Int32), V10)) else (some ((1 : Int32), V10)))) else (some ((0 : Int32), V5))) else ((F_X12_simple N  V5).bind (fun (x16, V14) => if sv_bl x16 = true then some (x16, V14) else none)))) else (some ((0 : Int32), V1))))
set_option maxRecDepth 20000 in
theorem t_X12_isGlyph {g : sx_G} (hG : sx_Go g) {P : Option Value → sv_V → Prop} {r : Int32} {Vr : sv_V} (hP : P (some (.int r)) Vr) {N : Nat} {l1 : Int32} {V : sv_V} (h : F_X12_isGlyph N l1 V = some (r, Vr)) : sv_N g qX12_isGlyph 5 0 [(0, .ref 146), (1, .int l1)] [] V P := by
  unfold F_X12_isGlyph at h
  refine sx_aload_n (pc := 0) dX12_isGlyph_0 sx_m0 ?_
  refine sx_iload_n (pc := 1) dX12_isGlyph_1 sx_m1 ?_
  obtain ⟨V1, g2, h⟩ := sx_bnd h
  refine sv_cV (pc := 2) (y := qX12_bytesOf) (o := none) (as := [.int l1]) (V1 := V1) hG dX12_isGlyph_2 l_X12_363 y0X12_bytesOf yvX12_bytesOf rfl (Nat.le_of_ble_eq_true rfl) lay_146 kr_12 (by decide) (Nat.le_of_ble_eq_true rfl) rfl rfl rfl (t_X12_bytesOf hG ⟨rfl, rfl⟩ g2) ?_
  refine sx_aload_n (pc := 5) dX12_isGlyph_5 sx_m0 ?_
  refine sv_getI (pc := 6) hG dX12_isGlyph_6 f_12_342 lay_146 rfl ?_
  refine sx_aload_n (pc := 9) dX12_isGlyph_9 sx_m0 ?_
  refine sv_getI (pc := 10) hG dX12_isGlyph_10 f_12_345 lay_146 rfl ?_
  refine sx_icmp_ne (pc := 13) (tgt := 18) dX12_isGlyph_13 (by decide) (fun c3 => ?_) (fun c3 => ?_)
  · have h := sx_neg c3 h
    refine sx_aload_n (pc := 18) dX12_isGlyph_18 sx_m0 ?_
    refine sv_getI (pc := 19) hG dX12_isGlyph_19 f_12_345 lay_146 rfl ?_
    refine sx_aload_n (pc := 22) dX12_isGlyph_22 sx_m0 ?_
    refine sv_getI (pc := 23) hG dX12_isGlyph_23 f_12_342 lay_146 rfl ?_
    refine sx_isub (pc := 26) dX12_isGlyph_26 ?_
    refine sx_bipush (pc := 27) (v := 10) dX12_isGlyph_27 (by decide) ?_
    refine sx_icmp_ge (pc := 29) (tgt := 34) dX12_isGlyph_29 (by decide) (fun c4 => ?_) (fun c4 => ?_)
    · have h := sx_pos c4 h
      refine sx_aload_n (pc := 34) dX12_isGlyph_34 sx_m0 ?_
      refine sv_getI (pc := 35) hG dX12_isGlyph_35 f_12_348 lay_146 rfl ?_
      refine sx_i2l (pc := 38) dX12_isGlyph_38 ?_
      refine sx_lconst (pc := 39) (v := 0) dX12_isGlyph_39 rfl ?_
      refine sx_ldc2 (pc := 40) dX12_isGlyph_40 k_X12_230 ?_
      obtain ⟨⟨x7, V5⟩, g6, h⟩ := sx_bnd h
      refine sv_cS (pc := 43) (y := qX12_in) (o := (some (.int x7))) (as := [.long ((V1.1 146 28).toInt64), .long (0 : Int64), .long (12 : Int64)]) (V1 := V5) dX12_isGlyph_43 l_X12_263 y0X12_in ysX12_in rfl (Nat.le_of_ble_eq_true rfl) (by decide) (Nat.le_of_ble_eq_true rfl) rfl rfl rfl (t_X12_in hG ⟨rfl, rfl⟩ g6) ?_
      refine sx_if_eq (pc := 46) (tgt := 56) dX12_isGlyph_46 (by decide) (fun c8 => ?_) (fun c8 => ?_)
      · have h := sx_pos c8 h
        refine sx_aload_n (pc := 56) dX12_isGlyph_56 sx_m0 ?_
        refine sv_getI (pc := 57) hG dX12_isGlyph_57 f_12_348 lay_146 rfl ?_
        refine sx_iconst (pc := 60) (v := (-1)) dX12_isGlyph_60 (by decide) ?_
        refine sx_icmp_ne (pc := 61) (tgt := 75) dX12_isGlyph_61 (by decide) (fun c9 => ?_) (fun c9 => ?_)
        · have h := sx_neg c9 h
          refine sx_iconst (pc := 75) (v := 0) dX12_isGlyph_75 (by decide) ?_
          exact sv_zret (pc := 76) dX12_isGlyph_76 rfl rfl h hP
        · have h := sx_pos c9 h
          refine sx_aload_n (pc := 64) dX12_isGlyph_64 sx_m0 ?_
          obtain ⟨⟨x12, V10⟩, g11, h⟩ := sx_bnd h
          refine sv_cV (pc := 65) (y := qX12_composed) (o := (some (.int x12))) (as := []) (V1 := V10) hG dX12_isGlyph_65 l_X12_370 y0X12_composed yvX12_composed rfl (Nat.le_of_ble_eq_true rfl) lay_146 kr_12 (by decide) (Nat.le_of_ble_eq_true rfl) rfl rfl rfl (t_X12_composed hG ⟨rfl, rfl⟩ g11) ?_
          refine sx_if_eq (pc := 68) (tgt := 75) dX12_isGlyph_68 (by decide) (fun c13 => ?_) (fun c13 => ?_)
          · have h := sx_pos c13 h
            refine sx_iconst (pc := 75) (v := 0) dX12_isGlyph_75 (by decide) ?_
            exact sv_zret (pc := 76) dX12_isGlyph_76 rfl rfl h hP
          · have h := sx_neg c13 h
            refine sx_iconst (pc := 71) (v := 1) dX12_isGlyph_71 (by decide) ?_
            refine sx_goto (pc := 72) (tgt := 76) dX12_isGlyph_72 (by decide) ?_
            exact sv_zret (pc := 76) dX12_isGlyph_76 rfl rfl h hP
      · have h := sx_neg c8 h
        refine sx_aload_n (pc := 49) dX12_isGlyph_49 sx_m0 ?_
        obtain ⟨⟨x16, V14⟩, g15, h⟩ := sx_bnd h
        refine sv_cV (pc := 50) (y := qX12_simple) (o := (some (.int x16))) (as := []) (V1 := V14) hG dX12_isGlyph_50 l_X12_367 y0X12_simple yvX12_simple rfl (Nat.le_of_ble_eq_true rfl) lay_146 kr_12 (by decide) (Nat.le_of_ble_eq_true rfl) rfl rfl rfl (t_X12_simple hG ⟨rfl, rfl⟩ g15) ?_
        refine sx_goto (pc := 53) (tgt := 76) dX12_isGlyph_53 (by decide) ?_
        obtain ⟨g17, h⟩ := sx_grd h
        exact sv_zret (pc := 76) dX12_isGlyph_76 rfl g17 h hP
    · have h := sx_neg c4 h
      refine sx_iconst (pc := 32) (v := 0) dX12_isGlyph_32 (by decide) ?_
      exact sv_zret (pc := 33) dX12_isGlyph_33 rfl rfl h hP
  · have h := sx_pos c3 h
    refine sx_iconst (pc := 16) (v := 1) dX12_isGlyph_16 (by decide) ?_
    exact sv_zret (pc := 17) dX12_isGlyph_17 rfl rfl h hP
theorem dX12_areWithin_0 : decode cX12_areWithin 0 = .ok (.iconst 0, 1) := by decide +kernel
theorem dX12_areWithin_1 : decode cX12_areWithin 1 = .ok (.istore_n 1, 1) := by decide +kernel
theorem dX12_areWithin_2 : decode cX12_areWithin 2 = .ok (.iload_n 1, 1) := by decide +kernel
theorem dX12_areWithin_3 : decode cX12_areWithin 3 = .ok (.aload_n 0, 1) := by decide +kernel
theorem dX12_areWithin_4 : decode cX12_areWithin 4 = .ok (.getfield 331, 3) := by decide +kernel
theorem dX12_areWithin_7 : decode cX12_areWithin 7 = .ok (.if_icmp .gt 143, 3) := by decide +kernel
theorem dX12_areWithin_10 : decode cX12_areWithin 10 = .ok (.iconst 0, 1) := by decide +kernel
theorem dX12_areWithin_11 : decode cX12_areWithin 11 = .ok (.istore_n 2, 1) := by decide +kernel
theorem dX12_areWithin_12 : decode cX12_areWithin 12 = .ok (.iload_n 2, 1) := by decide +kernel
theorem dX12_areWithin_13 : decode cX12_areWithin 13 = .ok (.aload_n 0, 1) := by decide +kernel
theorem dX12_areWithin_14 : decode cX12_areWithin 14 = .ok (.getfield 260, 3) := by decide +kernel
theorem dX12_areWithin_17 : decode cX12_areWithin 17 = .ok (.if_icmp .ge 99, 3) := by decide +kernel
theorem dX12_areWithin_20 : decode cX12_areWithin 20 = .ok (.aload_n 0, 1) := by decide +kernel
theorem dX12_areWithin_21 : decode cX12_areWithin 21 = .ok (.iload_n 2, 1) := by decide +kernel
theorem dX12_areWithin_22 : decode cX12_areWithin 22 = .ok (.invokevirtual 278, 3) := by decide +kernel
theorem dX12_areWithin_25 : decode cX12_areWithin 25 = .ok (.istore_n 3, 1) := by decide +kernel
theorem dX12_areWithin_26 : decode cX12_areWithin 26 = .ok (.aload_n 0, 1) := by decide +kernel
theorem dX12_areWithin_27 : decode cX12_areWithin 27 = .ok (.getfield 61, 3) := by decide +kernel
theorem dX12_areWithin_30 : decode cX12_areWithin 30 = .ok (.iload_n 2, 1) := by decide +kernel
theorem dX12_areWithin_31 : decode cX12_areWithin 31 = .ok (.aload_n 0, 1) := by decide +kernel
theorem dX12_areWithin_32 : decode cX12_areWithin 32 = .ok (.getfield 348, 3) := by decide +kernel
theorem dX12_areWithin_35 : decode cX12_areWithin 35 = .ok (.iconst (-1), 1) := by decide +kernel
theorem dX12_areWithin_36 : decode cX12_areWithin 36 = .ok (.if_icmp .ne 7, 3) := by decide +kernel
theorem dX12_areWithin_39 : decode cX12_areWithin 39 = .ok (.iload_n 1, 1) := by decide +kernel
theorem dX12_areWithin_40 : decode cX12_areWithin 40 = .ok (.ifCond .le 7, 3) := by decide +kernel
theorem dX12_areWithin_43 : decode cX12_areWithin 43 = .ok (.iconst 1, 1) := by decide +kernel
theorem dX12_areWithin_44 : decode cX12_areWithin 44 = .ok (.goto 4, 3) := by decide +kernel
theorem dX12_areWithin_47 : decode cX12_areWithin 47 = .ok (.iconst 0, 1) := by decide +kernel
theorem dX12_areWithin_48 : decode cX12_areWithin 48 = .ok (.bastore, 1) := by decide +kernel
theorem dX12_areWithin_49 : decode cX12_areWithin 49 = .ok (.iconst 0, 1) := by decide +kernel
theorem dX12_areWithin_50 : decode cX12_areWithin 50 = .ok (.istore 4, 2) := by decide +kernel
theorem dX12_areWithin_52 : decode cX12_areWithin 52 = .ok (.iload 4, 2) := by decide +kernel
theorem dX12_areWithin_54 : decode cX12_areWithin 54 = .ok (.aload_n 0, 1) := by decide +kernel
theorem dX12_areWithin_55 : decode cX12_areWithin 55 = .ok (.getfield 354, 3) := by decide +kernel
theorem dX12_areWithin_58 : decode cX12_areWithin 58 = .ok (.if_icmp .ge 52, 3) := by decide +kernel
theorem dX12_areWithin_61 : decode cX12_areWithin 61 = .ok (.aload_n 0, 1) := by decide +kernel
theorem dX12_areWithin_62 : decode cX12_areWithin 62 = .ok (.getfield 348, 3) := by decide +kernel
theorem dX12_areWithin_65 : decode cX12_areWithin 65 = .ok (.iconst (-1), 1) := by decide +kernel
theorem dX12_areWithin_66 : decode cX12_areWithin 66 = .ok (.if_icmp .ne 44, 3) := by decide +kernel
theorem dX12_areWithin_69 : decode cX12_areWithin 69 = .ok (.aload_n 0, 1) := by decide +kernel
theorem dX12_areWithin_70 : decode cX12_areWithin 70 = .ok (.getfield 61, 3) := by decide +kernel
theorem dX12_areWithin_73 : decode cX12_areWithin 73 = .ok (.iload_n 2, 1) := by decide +kernel
theorem dX12_areWithin_74 : decode cX12_areWithin 74 = .ok (.aload_n 0, 1) := by decide +kernel
theorem dX12_areWithin_75 : decode cX12_areWithin 75 = .ok (.getfield 61, 3) := by decide +kernel
theorem dX12_areWithin_78 : decode cX12_areWithin 78 = .ok (.iload_n 2, 1) := by decide +kernel
theorem dX12_areWithin_79 : decode cX12_areWithin 79 = .ok (.baload, 1) := by decide +kernel
theorem dX12_areWithin_80 : decode cX12_areWithin 80 = .ok (.ifCond .eq 22, 3) := by decide +kernel
theorem dX12_areWithin_83 : decode cX12_areWithin 83 = .ok (.aload_n 0, 1) := by decide +kernel
theorem dX12_areWithin_84 : decode cX12_areWithin 84 = .ok (.getfield 57, 3) := by decide +kernel
theorem dX12_areWithin_87 : decode cX12_areWithin 87 = .ok (.aload_n 0, 1) := by decide +kernel
theorem dX12_areWithin_88 : decode cX12_areWithin 88 = .ok (.getfield 45, 3) := by decide +kernel
theorem dX12_areWithin_91 : decode cX12_areWithin 91 = .ok (.iload 4, 2) := by decide +kernel
theorem dX12_areWithin_93 : decode cX12_areWithin 93 = .ok (.iaload, 1) := by decide +kernel
theorem dX12_areWithin_94 : decode cX12_areWithin 94 = .ok (.baload, 1) := by decide +kernel
theorem dX12_areWithin_95 : decode cX12_areWithin 95 = .ok (.ifCond .eq 7, 3) := by decide +kernel
theorem dX12_areWithin_98 : decode cX12_areWithin 98 = .ok (.iconst 1, 1) := by decide +kernel
theorem dX12_areWithin_99 : decode cX12_areWithin 99 = .ok (.goto 4, 3) := by decide +kernel
theorem dX12_areWithin_102 : decode cX12_areWithin 102 = .ok (.iconst 0, 1) := by decide +kernel
theorem dX12_areWithin_103 : decode cX12_areWithin 103 = .ok (.bastore, 1) := by decide +kernel
theorem dX12_areWithin_104 : decode cX12_areWithin 104 = .ok (.iinc 4 1, 3) := by decide +kernel
theorem dX12_areWithin_107 : decode cX12_areWithin 107 = .ok (.goto (-55), 3) := by decide +kernel
theorem dX12_areWithin_110 : decode cX12_areWithin 110 = .ok (.iinc 2 1, 3) := by decide +kernel
theorem dX12_areWithin_113 : decode cX12_areWithin 113 = .ok (.goto (-101), 3) := by decide +kernel
theorem dX12_areWithin_116 : decode cX12_areWithin 116 = .ok (.iconst 0, 1) := by decide +kernel
theorem dX12_areWithin_117 : decode cX12_areWithin 117 = .ok (.istore_n 2, 1) := by decide +kernel
theorem dX12_areWithin_118 : decode cX12_areWithin 118 = .ok (.iload_n 2, 1) := by decide +kernel
theorem dX12_areWithin_119 : decode cX12_areWithin 119 = .ok (.aload_n 0, 1) := by decide +kernel
theorem dX12_areWithin_120 : decode cX12_areWithin 120 = .ok (.getfield 260, 3) := by decide +kernel
theorem dX12_areWithin_123 : decode cX12_areWithin 123 = .ok (.if_icmp .ge 21, 3) := by decide +kernel
theorem dX12_areWithin_126 : decode cX12_areWithin 126 = .ok (.aload_n 0, 1) := by decide +kernel
theorem dX12_areWithin_127 : decode cX12_areWithin 127 = .ok (.getfield 57, 3) := by decide +kernel
theorem dX12_areWithin_130 : decode cX12_areWithin 130 = .ok (.iload_n 2, 1) := by decide +kernel
theorem dX12_areWithin_131 : decode cX12_areWithin 131 = .ok (.aload_n 0, 1) := by decide +kernel
theorem dX12_areWithin_132 : decode cX12_areWithin 132 = .ok (.getfield 61, 3) := by decide +kernel
theorem dX12_areWithin_135 : decode cX12_areWithin 135 = .ok (.iload_n 2, 1) := by decide +kernel
theorem dX12_areWithin_136 : decode cX12_areWithin 136 = .ok (.baload, 1) := by decide +kernel
theorem dX12_areWithin_137 : decode cX12_areWithin 137 = .ok (.bastore, 1) := by decide +kernel
theorem dX12_areWithin_138 : decode cX12_areWithin 138 = .ok (.iinc 2 1, 3) := by decide +kernel
theorem dX12_areWithin_141 : decode cX12_areWithin 141 = .ok (.goto (-23), 3) := by decide +kernel
theorem dX12_areWithin_144 : decode cX12_areWithin 144 = .ok (.iinc 1 1, 3) := by decide +kernel
theorem dX12_areWithin_147 : decode cX12_areWithin 147 = .ok (.goto (-145), 3) := by decide +kernel
theorem dX12_areWithin_150 : decode cX12_areWithin 150 = .ok (.iconst 0, 1) := by decide +kernel
theorem dX12_areWithin_151 : decode cX12_areWithin 151 = .ok (.istore_n 1, 1) := by decide +kernel
theorem dX12_areWithin_152 : decode cX12_areWithin 152 = .ok (.iload_n 1, 1) := by decide +kernel
theorem dX12_areWithin_153 : decode cX12_areWithin 153 = .ok (.aload_n 0, 1) := by decide +kernel
theorem dX12_areWithin_154 : decode cX12_areWithin 154 = .ok (.getfield 260, 3) := by decide +kernel
theorem dX12_areWithin_157 : decode cX12_areWithin 157 = .ok (.if_icmp .ge 20, 3) := by decide +kernel
theorem dX12_areWithin_160 : decode cX12_areWithin 160 = .ok (.aload_n 0, 1) := by decide +kernel
theorem dX12_areWithin_161 : decode cX12_areWithin 161 = .ok (.getfield 57, 3) := by decide +kernel
theorem dX12_areWithin_164 : decode cX12_areWithin 164 = .ok (.iload_n 1, 1) := by decide +kernel
theorem dX12_areWithin_165 : decode cX12_areWithin 165 = .ok (.baload, 1) := by decide +kernel
theorem dX12_areWithin_166 : decode cX12_areWithin 166 = .ok (.ifCond .ne 5, 3) := by decide +kernel
theorem dX12_areWithin_169 : decode cX12_areWithin 169 = .ok (.iconst 0, 1) := by decide +kernel
theorem dX12_areWithin_170 : decode cX12_areWithin 170 = .ok (.ireturn, 1) := by decide +kernel
theorem dX12_areWithin_171 : decode cX12_areWithin 171 = .ok (.iinc 1 1, 3) := by decide +kernel
theorem dX12_areWithin_174 : decode cX12_areWithin 174 = .ok (.goto (-22), 3) := by decide +kernel
theorem dX12_areWithin_177 : decode cX12_areWithin 177 = .ok (.iconst 1, 1) := by decide +kernel
theorem dX12_areWithin_178 : decode cX12_areWithin 178 = .ok (.ireturn, 1) := by decide +kernel
def B_X12_areWithin_103 (N : Nat) (k2 : Int32 → sv_V → Option (Int32 × sv_V)) (k12 : Int32 → Int32 → sv_V → Option (Int32 × sv_V)) (k52 : Int32 → Int32 → Int32 → sv_V → Option (Int32 × sv_V)) (l1 : Int32) (l2 : Int32) (l4 : Int32) (s1 : Int32) (s2 : Int32) (V : sv_V) : Option (Int32 × sv_V) := if sx_in s1 200 = true then if sv_bl s2 = true then sx_let (sv_I V 163 s1.toNatClampNeg s2) (fun V3 => sx_let (l4 + 1) (fun x4 => k52 l1 l2 x4 V3)) else none else none
set_option maxRecDepth 20000 in
theorem tB_X12_areWithin_103 {g : sx_G} (hG : sx_Go g) {P : Option Value → sv_V → Prop} {r : Int32} {Vr : sv_V} (hP : P (some (.int r)) Vr) {N : Nat} {k2 : Int32 → sv_V → Option (Int32 × sv_V)} {k12 : Int32 → Int32 → sv_V → Option (Int32 × sv_V)} {k52 : Int32 → Int32 → Int32 → sv_V → Option (Int32 × sv_V)} (hk2 : ∀ (l1 : Int32) (V : sv_V), k2 l1 V = some (r, Vr) → sv_N g qX12_areWithin 6 2 [(0, .ref 146), (1, .int l1)] [] V P) (hk12 : ∀ (l1 : Int32) (l2 : Int32) (V : sv_V), k12 l1 l2 V = some (r, Vr) → sv_N g qX12_areWithin 6 12 [(0, .ref 146), (1, .int l1), (2, .int l2)] [] V P) (hk52 : ∀ (l1 : Int32) (l2 : Int32) (l4 : Int32) (V : sv_V), k52 l1 l2 l4 V = some (r, Vr) → sv_N g qX12_areWithin 6 52 [(0, .ref 146), (1, .int l1), (2, .int l2), (4, .int l4)] [] V P) {l1 : Int32} {l2 : Int32} {l4 : Int32} {s1 : Int32} {s2 : Int32} {V : sv_V} (h : B_X12_areWithin_103 N k2 k12 k52 l1 l2 l4 s1 s2 V = some (r, Vr)) : sv_N g qX12_areWithin 6 103 [(0, .ref 146), (1, .int l1), (2, .int l2), (4, .int l4)] [.int s2, .int s1, .ref 163] V P := by
  unfold B_X12_areWithin_103 at h
  obtain ⟨g1, h⟩ := sx_grd h
  obtain ⟨g2, h⟩ := sx_grd h
  obtain ⟨V3, hV3⟩ : ∃ z : sv_V, z = sv_I V 163 s1.toNatClampNeg s2 := ⟨_, rfl⟩
  have h := sx_letE hV3 h
  refine sv_zast (pc := 103) hG dX12_areWithin_103 lay_163 g1 g2 hV3 ?_
  obtain ⟨x4, hx4⟩ : ∃ z : Int32, z = l4 + 1 := ⟨_, rfl⟩
  have h := sx_letE hx4 h
  refine sx_iinc (pc := 104) (v := x4) (lo' := [(4, .int x4), (0, .ref 146), (1, .int l1), (2, .int l2)]) dX12_areWithin_104 sx_m3 (by rw [hx4]; rfl) (by decide) rfl ?_
  refine sx_goto (pc := 107) (tgt := 52) dX12_areWithin_107 (by decide) ?_
  refine sx_wk (sx_s1 sx_m1 (sx_s1 sx_m2 (sx_s1 sx_m3 (sx_s1 sx_m0 sx_s0)))) ?_
  exact hk52 _ _ _ _ h
def B_X12_areWithin_102 (N : Nat) (k2 : Int32 → sv_V → Option (Int32 × sv_V)) (k12 : Int32 → Int32 → sv_V → Option (Int32 × sv_V)) (k52 : Int32 → Int32 → Int32 → sv_V → Option (Int32 × sv_V)) (l1 : Int32) (l2 : Int32) (l4 : Int32) (s1 : Int32) (V : sv_V) : Option (Int32 × sv_V) := B_X12_areWithin_103 N k2 k12 k52 l1 l2 l4 s1 (0 : Int32) V
set_option maxRecDepth 20000 in
theorem tB_X12_areWithin_102 {g : sx_G} (hG : sx_Go g) {P : Option Value → sv_V → Prop} {r : Int32} {Vr : sv_V} (hP : P (some (.int r)) Vr) {N : Nat} {k2 : Int32 → sv_V → Option (Int32 × sv_V)} {k12 : Int32 → Int32 → sv_V → Option (Int32 × sv_V)} {k52 : Int32 → Int32 → Int32 → sv_V → Option (Int32 × sv_V)} (hk2 : ∀ (l1 : Int32) (V : sv_V), k2 l1 V = some (r, Vr) → sv_N g qX12_areWithin 6 2 [(0, .ref 146), (1, .int l1)] [] V P) (hk12 : ∀ (l1 : Int32) (l2 : Int32) (V : sv_V), k12 l1 l2 V = some (r, Vr) → sv_N g qX12_areWithin 6 12 [(0, .ref 146), (1, .int l1), (2, .int l2)] [] V P) (hk52 : ∀ (l1 : Int32) (l2 : Int32) (l4 : Int32) (V : sv_V), k52 l1 l2 l4 V = some (r, Vr) → sv_N g qX12_areWithin 6 52 [(0, .ref 146), (1, .int l1), (2, .int l2), (4, .int l4)] [] V P) {l1 : Int32} {l2 : Int32} {l4 : Int32} {s1 : Int32} {V : sv_V} (h : B_X12_areWithin_102 N k2 k12 k52 l1 l2 l4 s1 V = some (r, Vr)) : sv_N g qX12_areWithin 6 102 [(0, .ref 146), (1, .int l1), (2, .int l2), (4, .int l4)] [.int s1, .ref 163] V P := by
  unfold B_X12_areWithin_102 at h
  refine sx_iconst (pc := 102) (v := 0) dX12_areWithin_102 (by decide) ?_
  refine sx_wk (sx_s1 sx_m0 (sx_s1 sx_m1 (sx_s1 sx_m2 (sx_s1 sx_m3 sx_s0)))) ?_
  exact tB_X12_areWithin_103 hG hP hk2 hk12 hk52 h
def B_X12_areWithin_110 (N : Nat) (k2 : Int32 → sv_V → Option (Int32 × sv_V)) (k12 : Int32 → Int32 → sv_V → Option (Int32 × sv_V)) (l1 : Int32) (l2 : Int32) (V : sv_V) : Option (Int32 × sv_V) := sx_let (l2 + 1) (fun x5 => k12 l1 x5 V)
set_option maxRecDepth 20000 in
theorem tB_X12_areWithin_110 {g : sx_G} (hG : sx_Go g) {P : Option Value → sv_V → Prop} {r : Int32} {Vr : sv_V} (hP : P (some (.int r)) Vr) {N : Nat} {k2 : Int32 → sv_V → Option (Int32 × sv_V)} {k12 : Int32 → Int32 → sv_V → Option (Int32 × sv_V)} (hk2 : ∀ (l1 : Int32) (V : sv_V), k2 l1 V = some (r, Vr) → sv_N g qX12_areWithin 6 2 [(0, .ref 146), (1, .int l1)] [] V P) (hk12 : ∀ (l1 : Int32) (l2 : Int32) (V : sv_V), k12 l1 l2 V = some (r, Vr) → sv_N g qX12_areWithin 6 12 [(0, .ref 146), (1, .int l1), (2, .int l2)] [] V P) {l1 : Int32} {l2 : Int32} {V : sv_V} (h : B_X12_areWithin_110 N k2 k12 l1 l2 V = some (r, Vr)) : sv_N g qX12_areWithin 6 110 [(0, .ref 146), (1, .int l1), (2, .int l2)] [] V P := by
  unfold B_X12_areWithin_110 at h
  obtain ⟨x5, hx5⟩ : ∃ z : Int32, z = l2 + 1 := ⟨_, rfl⟩
  have h := sx_letE hx5 h
  refine sx_iinc (pc := 110) (v := x5) (lo' := [(2, .int x5), (0, .ref 146), (1, .int l1)]) dX12_areWithin_110 sx_m2 (by rw [hx5]; rfl) (by decide) rfl ?_
  refine sx_goto (pc := 113) (tgt := 12) dX12_areWithin_113 (by decide) ?_
  refine sx_wk (sx_s1 sx_m1 (sx_s1 sx_m2 (sx_s1 sx_m0 sx_s0))) ?_
  exact hk12 _ _ _ h
def B_X12_areWithin_52 (N : Nat) (k2 : Int32 → sv_V → Option (Int32 × sv_V)) (k12 : Int32 → Int32 → sv_V → Option (Int32 × sv_V)) (k52 : Int32 → Int32 → Int32 → sv_V → Option (Int32 × sv_V)) (l1 : Int32) (l2 : Int32) (l4 : Int32) (V : sv_V) : Option (Int32 × sv_V) := if (V.1 146 30) ≤ l4 then (B_X12_areWithin_110 N k2 k12 l1 l2 V) else (if (V.1 146 28) = (-1 : Int32) then (if sx_in l2 200 = true then if (V.1 163 l2.toNatClampNeg) = 0 then (B_X12_areWithin_102 N k2 k12 k52 l1 l2 l4 l2 V) else (if sx_in l4 8 = true then if sx_in (V.1 158 l4.toNatClampNeg) 200 = true then if (V.1 162 (V.1 158 l4.toNatClampNeg).toNatClampNeg) = 0 then (B_X12_areWithin_102 N k2 k12 k52 l1 l2 l4 l2 V) else (B_X12_areWithin_103 N k2 k12 k52 l1 l2 l4 l2 (1 : Int32) V) else none else none) else none) else (B_X12_areWithin_110 N k2 k12 l1 l2 V))
set_option maxRecDepth 20000 in
theorem tB_X12_areWithin_52 {g : sx_G} (hG : sx_Go g) {P : Option Value → sv_V → Prop} {r : Int32} {Vr : sv_V} (hP : P (some (.int r)) Vr) {N : Nat} {k2 : Int32 → sv_V → Option (Int32 × sv_V)} {k12 : Int32 → Int32 → sv_V → Option (Int32 × sv_V)} {k52 : Int32 → Int32 → Int32 → sv_V → Option (Int32 × sv_V)} (hk2 : ∀ (l1 : Int32) (V : sv_V), k2 l1 V = some (r, Vr) → sv_N g qX12_areWithin 6 2 [(0, .ref 146), (1, .int l1)] [] V P) (hk12 : ∀ (l1 : Int32) (l2 : Int32) (V : sv_V), k12 l1 l2 V = some (r, Vr) → sv_N g qX12_areWithin 6 12 [(0, .ref 146), (1, .int l1), (2, .int l2)] [] V P) (hk52 : ∀ (l1 : Int32) (l2 : Int32) (l4 : Int32) (V : sv_V), k52 l1 l2 l4 V = some (r, Vr) → sv_N g qX12_areWithin 6 52 [(0, .ref 146), (1, .int l1), (2, .int l2), (4, .int l4)] [] V P) {l1 : Int32} {l2 : Int32} {l4 : Int32} {V : sv_V} (h : B_X12_areWithin_52 N k2 k12 k52 l1 l2 l4 V = some (r, Vr)) : sv_N g qX12_areWithin 6 52 [(0, .ref 146), (1, .int l1), (2, .int l2), (4, .int l4)] [] V P := by
  unfold B_X12_areWithin_52 at h
  refine sx_iload (pc := 52) dX12_areWithin_52 sx_m3 ?_
  refine sx_aload_n (pc := 54) dX12_areWithin_54 sx_m0 ?_
  refine sv_getI (pc := 55) hG dX12_areWithin_55 f_12_354 lay_146 rfl ?_
  refine sx_icmp_ge (pc := 58) (tgt := 110) dX12_areWithin_58 (by decide) (fun c6 => ?_) (fun c6 => ?_)
  · have h := sx_pos c6 h
    refine sx_wk (sx_s1 sx_m0 (sx_s1 sx_m1 (sx_s1 sx_m2 sx_s0))) ?_
    exact tB_X12_areWithin_110 hG hP hk2 hk12 h
  · have h := sx_neg c6 h
    refine sx_aload_n (pc := 61) dX12_areWithin_61 sx_m0 ?_
    refine sv_getI (pc := 62) hG dX12_areWithin_62 f_12_348 lay_146 rfl ?_
    refine sx_iconst (pc := 65) (v := (-1)) dX12_areWithin_65 (by decide) ?_
    refine sx_icmp_ne (pc := 66) (tgt := 110) dX12_areWithin_66 (by decide) (fun c7 => ?_) (fun c7 => ?_)
    · have h := sx_neg c7 h
      refine sx_wk (sx_s1 sx_m0 (sx_s1 sx_m1 (sx_s1 sx_m2 sx_s0))) ?_
      exact tB_X12_areWithin_110 hG hP hk2 hk12 h
    · have h := sx_pos c7 h
      refine sx_aload_n (pc := 69) dX12_areWithin_69 sx_m0 ?_
      refine sv_getA (pc := 70) hG dX12_areWithin_70 f_12_61 lay_146 rfl cr_146_43 ?_
      refine sx_iload_n (pc := 73) dX12_areWithin_73 sx_m2 ?_
      refine sx_aload_n (pc := 74) dX12_areWithin_74 sx_m0 ?_
      refine sv_getA (pc := 75) hG dX12_areWithin_75 f_12_61 lay_146 rfl cr_146_43 ?_
      refine sx_iload_n (pc := 78) dX12_areWithin_78 sx_m2 ?_
      obtain ⟨g8, h⟩ := sx_grd h
      refine sv_zald (pc := 79) hG dX12_areWithin_79 lay_163 g8 ?_
      refine sx_if_eq (pc := 80) (tgt := 102) dX12_areWithin_80 (by decide) (fun c9 => ?_) (fun c9 => ?_)
      · have h := sx_pos c9 h
        refine sx_wk (sx_s1 sx_m0 (sx_s1 sx_m1 (sx_s1 sx_m2 (sx_s1 sx_m3 sx_s0)))) ?_
        exact tB_X12_areWithin_102 hG hP hk2 hk12 hk52 h
      · have h := sx_neg c9 h
        refine sx_aload_n (pc := 83) dX12_areWithin_83 sx_m0 ?_
        refine sv_getA (pc := 84) hG dX12_areWithin_84 f_12_57 lay_146 rfl cr_146_42 ?_
        refine sx_aload_n (pc := 87) dX12_areWithin_87 sx_m0 ?_
        refine sv_getA (pc := 88) hG dX12_areWithin_88 f_12_45 lay_146 rfl cr_146_38 ?_
        refine sx_iload (pc := 91) dX12_areWithin_91 sx_m3 ?_
        obtain ⟨g10, h⟩ := sx_grd h
        refine sv_iald (pc := 93) hG dX12_areWithin_93 lay_158 g10 ?_
        obtain ⟨g11, h⟩ := sx_grd h
        refine sv_zald (pc := 94) hG dX12_areWithin_94 lay_162 g11 ?_
        refine sx_if_eq (pc := 95) (tgt := 102) dX12_areWithin_95 (by decide) (fun c12 => ?_) (fun c12 => ?_)
        · have h := sx_pos c12 h
          refine sx_wk (sx_s1 sx_m0 (sx_s1 sx_m1 (sx_s1 sx_m2 (sx_s1 sx_m3 sx_s0)))) ?_
          exact tB_X12_areWithin_102 hG hP hk2 hk12 hk52 h
        · have h := sx_neg c12 h
          refine sx_iconst (pc := 98) (v := 1) dX12_areWithin_98 (by decide) ?_
          refine sx_goto (pc := 99) (tgt := 103) dX12_areWithin_99 (by decide) ?_
          refine sx_wk (sx_s1 sx_m0 (sx_s1 sx_m1 (sx_s1 sx_m2 (sx_s1 sx_m3 sx_s0)))) ?_
          exact tB_X12_areWithin_103 hG hP hk2 hk12 hk52 h
theorem tL_X12_areWithin_52 {g : sx_G} (hG : sx_Go g) {P : Option Value → sv_V → Prop} {r : Int32} {Vr : sv_V} (hP : P (some (.int r)) Vr) {N : Nat} {k2 : Int32 → sv_V → Option (Int32 × sv_V)} {k12 : Int32 → Int32 → sv_V → Option (Int32 × sv_V)} (hk2 : ∀ (l1 : Int32) (V : sv_V), k2 l1 V = some (r, Vr) → sv_N g qX12_areWithin 6 2 [(0, .ref 146), (1, .int l1)] [] V P) (hk12 : ∀ (l1 : Int32) (l2 : Int32) (V : sv_V), k12 l1 l2 V = some (r, Vr) → sv_N g qX12_areWithin 6 12 [(0, .ref 146), (1, .int l1), (2, .int l2)] [] V P) : ∀ (n : Nat) (l1 : Int32) (l2 : Int32) (l4 : Int32) (V : sv_V), sx_lp4 (B_X12_areWithin_52 N k2 k12) n l1 l2 l4 V = some (r, Vr) → sv_N g qX12_areWithin 6 52 [(0, .ref 146), (1, .int l1), (2, .int l2), (4, .int l4)] [] V P :=
  sx_lp4_ind (fun k0 ih _ _ _ V h => tB_X12_areWithin_52 hG hP hk2 hk12 ih h)
def B_X12_areWithin_48 (N : Nat) (k2 : Int32 → sv_V → Option (Int32 × sv_V)) (k12 : Int32 → Int32 → sv_V → Option (Int32 × sv_V)) (l1 : Int32) (l2 : Int32) (s1 : Int32) (s2 : Int32) (V : sv_V) : Option (Int32 × sv_V) := if sx_in s1 200 = true then if sv_bl s2 = true then sx_let (sv_I V 163 s1.toNatClampNeg s2) (fun V15 => sx_lp4 (B_X12_areWithin_52 N k2 k12) N l1 l2 (0 : Int32) V15) else none else none
set_option maxRecDepth 20000 in
theorem tB_X12_areWithin_48 {g : sx_G} (hG : sx_Go g) {P : Option Value → sv_V → Prop} {r : Int32} {Vr : sv_V} (hP : P (some (.int r)) Vr) {N : Nat} {k2 : Int32 → sv_V → Option (Int32 × sv_V)} {k12 : Int32 → Int32 → sv_V → Option (Int32 × sv_V)} (hk2 : ∀ (l1 : Int32) (V : sv_V), k2 l1 V = some (r, Vr) → sv_N g qX12_areWithin 6 2 [(0, .ref 146), (1, .int l1)] [] V P) (hk12 : ∀ (l1 : Int32) (l2 : Int32) (V : sv_V), k12 l1 l2 V = some (r, Vr) → sv_N g qX12_areWithin 6 12 [(0, .ref 146), (1, .int l1), (2, .int l2)] [] V P) {l1 : Int32} {l2 : Int32} {s1 : Int32} {s2 : Int32} {V : sv_V} (h : B_X12_areWithin_48 N k2 k12 l1 l2 s1 s2 V = some (r, Vr)) : sv_N g qX12_areWithin 6 48 [(0, .ref 146), (1, .int l1), (2, .int l2)] [.int s2, .int s1, .ref 163] V P := by
  unfold B_X12_areWithin_48 at h
  obtain ⟨g13, h⟩ := sx_grd h
  obtain ⟨g14, h⟩ := sx_grd h
  obtain ⟨V15, hV15⟩ : ∃ z : sv_V, z = sv_I V 163 s1.toNatClampNeg s2 := ⟨_, rfl⟩
  have h := sx_letE hV15 h
  refine sv_zast (pc := 48) hG dX12_areWithin_48 lay_163 g13 g14 hV15 ?_
  refine sx_iconst (pc := 49) (v := 0) dX12_areWithin_49 (by decide) ?_
  refine sx_istore (pc := 50) (lo' := [(4, .int (0 : Int32)), (0, .ref 146), (1, .int l1), (2, .int l2)]) dX12_areWithin_50 (by decide) rfl ?_
  refine sx_wk (sx_s1 sx_m1 (sx_s1 sx_m2 (sx_s1 sx_m3 (sx_s1 sx_m0 sx_s0)))) ?_
  exact tL_X12_areWithin_52 hG hP hk2 hk12 N _ _ _ _ h
def B_X12_areWithin_43 (N : Nat) (k2 : Int32 → sv_V → Option (Int32 × sv_V)) (k12 : Int32 → Int32 → sv_V → Option (Int32 × sv_V)) (l1 : Int32) (l2 : Int32) (s1 : Int32) (V : sv_V) : Option (Int32 × sv_V) := B_X12_areWithin_48 N k2 k12 l1 l2 s1 (1 : Int32) V
set_option maxRecDepth 20000 in
theorem tB_X12_areWithin_43 {g : sx_G} (hG : sx_Go g) {P : Option Value → sv_V → Prop} {r : Int32} {Vr : sv_V} (hP : P (some (.int r)) Vr) {N : Nat} {k2 : Int32 → sv_V → Option (Int32 × sv_V)} {k12 : Int32 → Int32 → sv_V → Option (Int32 × sv_V)} (hk2 : ∀ (l1 : Int32) (V : sv_V), k2 l1 V = some (r, Vr) → sv_N g qX12_areWithin 6 2 [(0, .ref 146), (1, .int l1)] [] V P) (hk12 : ∀ (l1 : Int32) (l2 : Int32) (V : sv_V), k12 l1 l2 V = some (r, Vr) → sv_N g qX12_areWithin 6 12 [(0, .ref 146), (1, .int l1), (2, .int l2)] [] V P) {l1 : Int32} {l2 : Int32} {s1 : Int32} {V : sv_V} (h : B_X12_areWithin_43 N k2 k12 l1 l2 s1 V = some (r, Vr)) : sv_N g qX12_areWithin 6 43 [(0, .ref 146), (1, .int l1), (2, .int l2)] [.int s1, .ref 163] V P := by
  unfold B_X12_areWithin_43 at h
  refine sx_iconst (pc := 43) (v := 1) dX12_areWithin_43 (by decide) ?_
  refine sx_goto (pc := 44) (tgt := 48) dX12_areWithin_44 (by decide) ?_
  refine sx_wk (sx_s1 sx_m0 (sx_s1 sx_m1 (sx_s1 sx_m2 sx_s0))) ?_
  exact tB_X12_areWithin_48 hG hP hk2 hk12 h
def B_X12_areWithin_118 (N : Nat) (k2 : Int32 → sv_V → Option (Int32 × sv_V)) (k118 : Int32 → Int32 → sv_V → Option (Int32 × sv_V)) (l1 : Int32) (l2 : Int32) (V : sv_V) : Option (Int32 × sv_V) := if (V.1 146 12) ≤ l2 then (sx_let (l1 + 1) (fun x17 => k2 x17 V)) else (if sx_in l2 200 = true then if sx_in l2 200 = true then if sv_bl (V.1 163 l2.toNatClampNeg) = true then sx_let (sv_I V 162 l2.toNatClampNeg (V.1 163 l2.toNatClampNeg)) (fun V21 => sx_let (l2 + 1) (fun x22 => k118 l1 x22 V21)) else none else none else none)
set_option maxRecDepth 20000 in
theorem tB_X12_areWithin_118 {g : sx_G} (hG : sx_Go g) {P : Option Value → sv_V → Prop} {r : Int32} {Vr : sv_V} (hP : P (some (.int r)) Vr) {N : Nat} {k2 : Int32 → sv_V → Option (Int32 × sv_V)} {k118 : Int32 → Int32 → sv_V → Option (Int32 × sv_V)} (hk2 : ∀ (l1 : Int32) (V : sv_V), k2 l1 V = some (r, Vr) → sv_N g qX12_areWithin 6 2 [(0, .ref 146), (1, .int l1)] [] V P) (hk118 : ∀ (l1 : Int32) (l2 : Int32) (V : sv_V), k118 l1 l2 V = some (r, Vr) → sv_N g qX12_areWithin 6 118 [(0, .ref 146), (1, .int l1), (2, .int l2)] [] V P) {l1 : Int32} {l2 : Int32} {V : sv_V} (h : B_X12_areWithin_118 N k2 k118 l1 l2 V = some (r, Vr)) : sv_N g qX12_areWithin 6 118 [(0, .ref 146), (1, .int l1), (2, .int l2)] [] V P := by
  unfold B_X12_areWithin_118 at h
  refine sx_iload_n (pc := 118) dX12_areWithin_118 sx_m2 ?_
  refine sx_aload_n (pc := 119) dX12_areWithin_119 sx_m0 ?_
  refine sv_getI (pc := 120) hG dX12_areWithin_120 f_12_260 lay_146 rfl ?_
  refine sx_icmp_ge (pc := 123) (tgt := 144) dX12_areWithin_123 (by decide) (fun c16 => ?_) (fun c16 => ?_)
  · have h := sx_pos c16 h
    obtain ⟨x17, hx17⟩ : ∃ z : Int32, z = l1 + 1 := ⟨_, rfl⟩
    have h := sx_letE hx17 h
    refine sx_iinc (pc := 144) (v := x17) (lo' := [(1, .int x17), (0, .ref 146), (2, .int l2)]) dX12_areWithin_144 sx_m1 (by rw [hx17]; rfl) (by decide) rfl ?_
    refine sx_goto (pc := 147) (tgt := 2) dX12_areWithin_147 (by decide) ?_
    refine sx_wk (sx_s1 sx_m1 (sx_s1 sx_m0 sx_s0)) ?_
    exact hk2 _ _ h
  · have h := sx_neg c16 h
    refine sx_aload_n (pc := 126) dX12_areWithin_126 sx_m0 ?_
    refine sv_getA (pc := 127) hG dX12_areWithin_127 f_12_57 lay_146 rfl cr_146_42 ?_
    refine sx_iload_n (pc := 130) dX12_areWithin_130 sx_m2 ?_
    refine sx_aload_n (pc := 131) dX12_areWithin_131 sx_m0 ?_
    refine sv_getA (pc := 132) hG dX12_areWithin_132 f_12_61 lay_146 rfl cr_146_43 ?_
    refine sx_iload_n (pc := 135) dX12_areWithin_135 sx_m2 ?_
    obtain ⟨g18, h⟩ := sx_grd h
    refine sv_zald (pc := 136) hG dX12_areWithin_136 lay_163 g18 ?_
    obtain ⟨g19, h⟩ := sx_grd h
    obtain ⟨g20, h⟩ := sx_grd h
    obtain ⟨V21, hV21⟩ : ∃ z : sv_V, z = sv_I V 162 l2.toNatClampNeg (V.1 163 l2.toNatClampNeg) := ⟨_, rfl⟩
    have h := sx_letE hV21 h
    refine sv_zast (pc := 137) hG dX12_areWithin_137 lay_162 g19 g20 hV21 ?_
    obtain ⟨x22, hx22⟩ : ∃ z : Int32, z = l2 + 1 := ⟨_, rfl⟩
    have h := sx_letE hx22 h
    refine sx_iinc (pc := 138) (v := x22) (lo' := [(2, .int x22), (0, .ref 146), (1, .int l1)]) dX12_areWithin_138 sx_m2 (by rw [hx22]; rfl) (by decide) rfl ?_
    refine sx_goto (pc := 141) (tgt := 118) dX12_areWithin_141 (by decide) ?_
    refine sx_wk (sx_s1 sx_m1 (sx_s1 sx_m2 (sx_s1 sx_m0 sx_s0))) ?_
    exact hk118 _ _ _ h
theorem tL_X12_areWithin_118 {g : sx_G} (hG : sx_Go g) {P : Option Value → sv_V → Prop} {r : Int32} {Vr : sv_V} (hP : P (some (.int r)) Vr) {N : Nat} {k2 : Int32 → sv_V → Option (Int32 × sv_V)} (hk2 : ∀ (l1 : Int32) (V : sv_V), k2 l1 V = some (r, Vr) → sv_N g qX12_areWithin 6 2 [(0, .ref 146), (1, .int l1)] [] V P) : ∀ (n : Nat) (l1 : Int32) (l2 : Int32) (V : sv_V), sx_lp3 (B_X12_areWithin_118 N k2) n l1 l2 V = some (r, Vr) → sv_N g qX12_areWithin 6 118 [(0, .ref 146), (1, .int l1), (2, .int l2)] [] V P :=
  sx_lp3_ind (fun k0 ih _ _ V h => tB_X12_areWithin_118 hG hP hk2 ih h)
def B_X12_areWithin_12 (N : Nat) (k2 : Int32 → sv_V → Option (Int32 × sv_V)) (k12 : Int32 → Int32 → sv_V → Option (Int32 × sv_V)) (l1 : Int32) (l2 : Int32) (V : sv_V) : Option (Int32 × sv_V) := if (V.1 146 12) ≤ l2 then (sx_lp3 (B_X12_areWithin_118 N k2) N l1 (0 : Int32) V) else ((F_X12_isGlyph N l2 V).bind (fun (x26, V24) => if (V24.1 146 28) = (-1 : Int32) then (if l1 ≤ 0 then (B_X12_areWithin_48 N k2 k12 l1 l2 l2 (0 : Int32) V24) else (B_X12_areWithin_43 N k2 k12 l1 l2 l2 V24)) else (B_X12_areWithin_43 N k2 k12 l1 l2 l2 V24)))
set_option maxRecDepth 20000 in
theorem tB_X12_areWithin_12 {g : sx_G} (hG : sx_Go g) {P : Option Value → sv_V → Prop} {r : Int32} {Vr : sv_V} (hP : P (some (.int r)) Vr) {N : Nat} {k2 : Int32 → sv_V → Option (Int32 × sv_V)} {k12 : Int32 → Int32 → sv_V → Option (Int32 × sv_V)} (hk2 : ∀ (l1 : Int32) (V : sv_V), k2 l1 V = some (r, Vr) → sv_N g qX12_areWithin 6 2 [(0, .ref 146), (1, .int l1)] [] V P) (hk12 : ∀ (l1 : Int32) (l2 : Int32) (V : sv_V), k12 l1 l2 V = some (r, Vr) → sv_N g qX12_areWithin 6 12 [(0, .ref 146), (1, .int l1), (2, .int l2)] [] V P) {l1 : Int32} {l2 : Int32} {V : sv_V} (h : B_X12_areWithin_12 N k2 k12 l1 l2 V = some (r, Vr)) : sv_N g qX12_areWithin 6 12 [(0, .ref 146), (1, .int l1), (2, .int l2)] [] V P := by
  unfold B_X12_areWithin_12 at h
  refine sx_iload_n (pc := 12) dX12_areWithin_12 sx_m2 ?_
  refine sx_aload_n (pc := 13) dX12_areWithin_13 sx_m0 ?_
  refine sv_getI (pc := 14) hG dX12_areWithin_14 f_12_260 lay_146 rfl ?_
  refine sx_icmp_ge (pc := 17) (tgt := 116) dX12_areWithin_17 (by decide) (fun c23 => ?_) (fun c23 => ?_)
  · have h := sx_pos c23 h
    refine sx_iconst (pc := 116) (v := 0) dX12_areWithin_116 (by decide) ?_
    refine sx_istore_n (pc := 117) (lo' := [(2, .int (0 : Int32)), (0, .ref 146), (1, .int l1)]) dX12_areWithin_117 (by decide) rfl ?_
    refine sx_wk (sx_s1 sx_m1 (sx_s1 sx_m2 (sx_s1 sx_m0 sx_s0))) ?_
    exact tL_X12_areWithin_118 hG hP hk2 N _ _ _ h
  · have h := sx_neg c23 h
    refine sx_aload_n (pc := 20) dX12_areWithin_20 sx_m0 ?_
    refine sx_iload_n (pc := 21) dX12_areWithin_21 sx_m2 ?_
    obtain ⟨⟨x26, V24⟩, g25, h⟩ := sx_bnd h
    refine sv_cV (pc := 22) (y := qX12_isGlyph) (o := (some (.int x26))) (as := [.int l2]) (V1 := V24) hG dX12_areWithin_22 l_X12_278 y0X12_isGlyph yvX12_isGlyph rfl (Nat.le_of_ble_eq_true rfl) lay_146 kr_12 (by decide) (Nat.le_of_ble_eq_true rfl) rfl rfl rfl (t_X12_isGlyph hG ⟨rfl, rfl⟩ g25) ?_
    refine sx_istore_n (pc := 25) (lo' := [(3, .int x26), (0, .ref 146), (1, .int l1), (2, .int l2)]) dX12_areWithin_25 (by decide) rfl ?_
    refine sx_aload_n (pc := 26) dX12_areWithin_26 sx_m1 ?_
    refine sv_getA (pc := 27) hG dX12_areWithin_27 f_12_61 lay_146 rfl cr_146_43 ?_
    refine sx_iload_n (pc := 30) dX12_areWithin_30 sx_m3 ?_
    refine sx_aload_n (pc := 31) dX12_areWithin_31 sx_m1 ?_
    refine sv_getI (pc := 32) hG dX12_areWithin_32 f_12_348 lay_146 rfl ?_
    refine sx_iconst (pc := 35) (v := (-1)) dX12_areWithin_35 (by decide) ?_
    refine sx_icmp_ne (pc := 36) (tgt := 43) dX12_areWithin_36 (by decide) (fun c27 => ?_) (fun c27 => ?_)
    · have h := sx_neg c27 h
      refine sx_wk (sx_s1 sx_m1 (sx_s1 sx_m2 (sx_s1 sx_m3 sx_s0))) ?_
      exact tB_X12_areWithin_43 hG hP hk2 hk12 h
    · have h := sx_pos c27 h
      refine sx_iload_n (pc := 39) dX12_areWithin_39 sx_m2 ?_
      refine sx_if_le (pc := 40) (tgt := 47) dX12_areWithin_40 (by decide) (fun c28 => ?_) (fun c28 => ?_)
      · have h := sx_pos c28 h
        refine sx_iconst (pc := 47) (v := 0) dX12_areWithin_47 (by decide) ?_
        refine sx_wk (sx_s1 sx_m1 (sx_s1 sx_m2 (sx_s1 sx_m3 sx_s0))) ?_
        exact tB_X12_areWithin_48 hG hP hk2 hk12 h
      · have h := sx_neg c28 h
        refine sx_wk (sx_s1 sx_m1 (sx_s1 sx_m2 (sx_s1 sx_m3 sx_s0))) ?_
        exact tB_X12_areWithin_43 hG hP hk2 hk12 h
theorem tL_X12_areWithin_12 {g : sx_G} (hG : sx_Go g) {P : Option Value → sv_V → Prop} {r : Int32} {Vr : sv_V} (hP : P (some (.int r)) Vr) {N : Nat} {k2 : Int32 → sv_V → Option (Int32 × sv_V)} (hk2 : ∀ (l1 : Int32) (V : sv_V), k2 l1 V = some (r, Vr) → sv_N g qX12_areWithin 6 2 [(0, .ref 146), (1, .int l1)] [] V P) : ∀ (n : Nat) (l1 : Int32) (l2 : Int32) (V : sv_V), sx_lp3 (B_X12_areWithin_12 N k2) n l1 l2 V = some (r, Vr) → sv_N g qX12_areWithin 6 12 [(0, .ref 146), (1, .int l1), (2, .int l2)] [] V P :=
  sx_lp3_ind (fun k0 ih _ _ V h => tB_X12_areWithin_12 hG hP hk2 ih h)
def B_X12_areWithin_152 (N : Nat) (k152 : Int32 → sv_V → Option (Int32 × sv_V)) (l1 : Int32) (V : sv_V) : Option (Int32 × sv_V) := if (V.1 146 12) ≤ l1 then (some ((1 : Int32), V)) else (if sx_in l1 200 = true then if (V.1 162 l1.toNatClampNeg) = 0 then (some ((0 : Int32), V)) else (sx_let (l1 + 1) (fun x32 => k152 x32 V)) else none)
set_option maxRecDepth 20000 in
theorem tB_X12_areWithin_152 {g : sx_G} (hG : sx_Go g) {P : Option Value → sv_V → Prop} {r : Int32} {Vr : sv_V} (hP : P (some (.int r)) Vr) {N : Nat} {k152 : Int32 → sv_V → Option (Int32 × sv_V)} (hk152 : ∀ (l1 : Int32) (V : sv_V), k152 l1 V = some (r, Vr) → sv_N g qX12_areWithin 6 152 [(0, .ref 146), (1, .int l1)] [] V P) {l1 : Int32} {V : sv_V} (h : B_X12_areWithin_152 N k152 l1 V = some (r, Vr)) : sv_N g qX12_areWithin 6 152 [(0, .ref 146), (1, .int l1)] [] V P := by
  unfold B_X12_areWithin_152 at h
  refine sx_iload_n (pc := 152) dX12_areWithin_152 sx_m1 ?_
  refine sx_aload_n (pc := 153) dX12_areWithin_153 sx_m0 ?_
  refine sv_getI (pc := 154) hG dX12_areWithin_154 f_12_260 lay_146 rfl ?_
  refine sx_icmp_ge (pc := 157) (tgt := 177) dX12_areWithin_157 (by decide) (fun c29 => ?_) (fun c29 => ?_)
  · have h := sx_pos c29 h
    refine sx_iconst (pc := 177) (v := 1) dX12_areWithin_177 (by decide) ?_
    exact sv_zret (pc := 178) dX12_areWithin_178 rfl rfl h hP
  · have h := sx_neg c29 h
    refine sx_aload_n (pc := 160) dX12_areWithin_160 sx_m0 ?_
    refine sv_getA (pc := 161) hG dX12_areWithin_161 f_12_57 lay_146 rfl cr_146_42 ?_
    refine sx_iload_n (pc := 164) dX12_areWithin_164 sx_m1 ?_
    obtain ⟨g30, h⟩ := sx_grd h
    refine sv_zald (pc := 165) hG dX12_areWithin_165 lay_162 g30 ?_
    refine sx_if_ne (pc := 166) (tgt := 171) dX12_areWithin_166 (by decide) (fun c31 => ?_) (fun c31 => ?_)
    · have h := sx_neg c31 h
      obtain ⟨x32, hx32⟩ : ∃ z : Int32, z = l1 + 1 := ⟨_, rfl⟩
      have h := sx_letE hx32 h
      refine sx_iinc (pc := 171) (v := x32) (lo' := [(1, .int x32), (0, .ref 146)]) dX12_areWithin_171 sx_m1 (by rw [hx32]; rfl) (by decide) rfl ?_
      refine sx_goto (pc := 174) (tgt := 152) dX12_areWithin_174 (by decide) ?_
      refine sx_wk (sx_s1 sx_m1 (sx_s1 sx_m0 sx_s0)) ?_
      exact hk152 _ _ h
    · have h := sx_pos c31 h
      refine sx_iconst (pc := 169) (v := 0) dX12_areWithin_169 (by decide) ?_
      exact sv_zret (pc := 170) dX12_areWithin_170 rfl rfl h hP
theorem tL_X12_areWithin_152 {g : sx_G} (hG : sx_Go g) {P : Option Value → sv_V → Prop} {r : Int32} {Vr : sv_V} (hP : P (some (.int r)) Vr) {N : Nat}   : ∀ (n : Nat) (l1 : Int32) (V : sv_V), sx_lp2 (B_X12_areWithin_152 N ) n l1 V = some (r, Vr) → sv_N g qX12_areWithin 6 152 [(0, .ref 146), (1, .int l1)] [] V P :=
  sx_lp2_ind (fun k0 ih _ V h => tB_X12_areWithin_152 hG hP ih h)
def B_X12_areWithin_2 (N : Nat) (k2 : Int32 → sv_V → Option (Int32 × sv_V)) (l1 : Int32) (V : sv_V) : Option (Int32 × sv_V) := if (V.1 146 19) < l1 then (sx_lp2 (B_X12_areWithin_152 N ) N (0 : Int32) V) else (sx_lp3 (B_X12_areWithin_12 N k2) N l1 (0 : Int32) V)
set_option maxRecDepth 20000 in
theorem tB_X12_areWithin_2 {g : sx_G} (hG : sx_Go g) {P : Option Value → sv_V → Prop} {r : Int32} {Vr : sv_V} (hP : P (some (.int r)) Vr) {N : Nat} {k2 : Int32 → sv_V → Option (Int32 × sv_V)} (hk2 : ∀ (l1 : Int32) (V : sv_V), k2 l1 V = some (r, Vr) → sv_N g qX12_areWithin 6 2 [(0, .ref 146), (1, .int l1)] [] V P) {l1 : Int32} {V : sv_V} (h : B_X12_areWithin_2 N k2 l1 V = some (r, Vr)) : sv_N g qX12_areWithin 6 2 [(0, .ref 146), (1, .int l1)] [] V P := by
  unfold B_X12_areWithin_2 at h
  refine sx_iload_n (pc := 2) dX12_areWithin_2 sx_m1 ?_
  refine sx_aload_n (pc := 3) dX12_areWithin_3 sx_m0 ?_
  refine sv_getI (pc := 4) hG dX12_areWithin_4 f_12_331 lay_146 rfl ?_
  refine sx_icmp_gt (pc := 7) (tgt := 150) dX12_areWithin_7 (by decide) (fun c33 => ?_) (fun c33 => ?_)
  · have h := sx_pos c33 h
    refine sx_iconst (pc := 150) (v := 0) dX12_areWithin_150 (by decide) ?_
    refine sx_istore_n (pc := 151) (lo' := [(1, .int (0 : Int32)), (0, .ref 146)]) dX12_areWithin_151 (by decide) rfl ?_
    refine sx_wk (sx_s1 sx_m1 (sx_s1 sx_m0 sx_s0)) ?_
    exact tL_X12_areWithin_152 hG hP  N _ _ h
  · have h := sx_neg c33 h
    refine sx_iconst (pc := 10) (v := 0) dX12_areWithin_10 (by decide) ?_
    refine sx_istore_n (pc := 11) (lo' := [(2, .int (0 : Int32)), (0, .ref 146), (1, .int l1)]) dX12_areWithin_11 (by decide) rfl ?_
    refine sx_wk (sx_s1 sx_m1 (sx_s1 sx_m2 (sx_s1 sx_m0 sx_s0))) ?_
    exact tL_X12_areWithin_12 hG hP hk2 N _ _ _ h
theorem tL_X12_areWithin_2 {g : sx_G} (hG : sx_Go g) {P : Option Value → sv_V → Prop} {r : Int32} {Vr : sv_V} (hP : P (some (.int r)) Vr) {N : Nat}   : ∀ (n : Nat) (l1 : Int32) (V : sv_V), sx_lp2 (B_X12_areWithin_2 N ) n l1 V = some (r, Vr) → sv_N g qX12_areWithin 6 2 [(0, .ref 146), (1, .int l1)] [] V P :=
  sx_lp2_ind (fun k0 ih _ V h => tB_X12_areWithin_2 hG hP ih h)
def F_X12_areWithin (N : Nat)  (V : sv_V) : Option (Int32 × sv_V) := sx_lp2 (B_X12_areWithin_2 N ) N (0 : Int32) V
set_option maxRecDepth 20000 in
theorem t_X12_areWithin {g : sx_G} (hG : sx_Go g) {P : Option Value → sv_V → Prop} {r : Int32} {Vr : sv_V} (hP : P (some (.int r)) Vr) {N : Nat}  {V : sv_V} (h : F_X12_areWithin N  V = some (r, Vr)) : sv_N g qX12_areWithin 6 0 [(0, .ref 146)] [] V P := by
  unfold F_X12_areWithin at h
  refine sx_iconst (pc := 0) (v := 0) dX12_areWithin_0 (by decide) ?_
  refine sx_istore_n (pc := 1) (lo' := [(1, .int (0 : Int32)), (0, .ref 146)]) dX12_areWithin_1 (by decide) rfl ?_
  refine sx_wk (sx_s1 sx_m1 (sx_s1 sx_m0 sx_s0)) ?_
  exact tL_X12_areWithin_2 hG hP  N _ _ h
theorem dX12_by_0 : decode cX12_by 0 = .ok (.iload_n 0, 1) := by decide +kernel
theorem dX12_by_1 : decode cX12_by 1 = .ok (.i2l, 1) := by decide +kernel
theorem dX12_by_2 : decode cX12_by 2 = .ok (.iload_n 2, 1) := by decide +kernel
theorem dX12_by_3 : decode cX12_by 3 = .ok (.i2l, 1) := by decide +kernel
theorem dX12_by_4 : decode cX12_by 4 = .ok (.lmul, 1) := by decide +kernel
theorem dX12_by_5 : decode cX12_by 5 = .ok (.iload_n 1, 1) := by decide +kernel
theorem dX12_by_6 : decode cX12_by 6 = .ok (.i2l, 1) := by decide +kernel
theorem dX12_by_7 : decode cX12_by 7 = .ok (.iload_n 3, 1) := by decide +kernel
theorem dX12_by_8 : decode cX12_by 8 = .ok (.i2l, 1) := by decide +kernel
theorem dX12_by_9 : decode cX12_by 9 = .ok (.lmul, 1) := by decide +kernel
theorem dX12_by_10 : decode cX12_by 10 = .ok (.ladd, 1) := by decide +kernel
theorem dX12_by_11 : decode cX12_by 11 = .ok (.ldc2_w 310, 3) := by decide +kernel
theorem dX12_by_14 : decode cX12_by 14 = .ok (.invokestatic 517, 3) := by decide +kernel
theorem dX12_by_17 : decode cX12_by 17 = .ok (.l2i, 1) := by decide +kernel
theorem dX12_by_18 : decode cX12_by 18 = .ok (.ireturn, 1) := by decide +kernel
def F_X12_by (l0 : Int32) (l1 : Int32) (l2 : Int32) (l3 : Int32) (V : sv_V) : Option (Int32 × sv_V) := (F_X12_over ((l0.toInt64 * l2.toInt64) + (l1.toInt64 * l3.toInt64)) (16384 : Int64) V).bind (fun (x3, V1) => some (x3.toInt32, V1))
set_option maxRecDepth 20000 in
theorem t_X12_by {g : sx_G} (hG : sx_Go g) {P : Option Value → sv_V → Prop} {r : Int32} {Vr : sv_V} (hP : P (some (.int r)) Vr) {l0 : Int32} {l1 : Int32} {l2 : Int32} {l3 : Int32} {V : sv_V} (h : F_X12_by l0 l1 l2 l3 V = some (r, Vr)) : sv_N g qX12_by 3 0 [(0, .int l0), (1, .int l1), (2, .int l2), (3, .int l3)] [] V P := by
  unfold F_X12_by at h
  refine sx_iload_n (pc := 0) dX12_by_0 sx_m0 ?_
  refine sx_i2l (pc := 1) dX12_by_1 ?_
  refine sx_iload_n (pc := 2) dX12_by_2 sx_m2 ?_
  refine sx_i2l (pc := 3) dX12_by_3 ?_
  refine sx_lmul (pc := 4) dX12_by_4 ?_
  refine sx_iload_n (pc := 5) dX12_by_5 sx_m1 ?_
  refine sx_i2l (pc := 6) dX12_by_6 ?_
  refine sx_iload_n (pc := 7) dX12_by_7 sx_m3 ?_
  refine sx_i2l (pc := 8) dX12_by_8 ?_
  refine sx_lmul (pc := 9) dX12_by_9 ?_
  refine sx_ladd (pc := 10) dX12_by_10 ?_
  refine sx_ldc2 (pc := 11) dX12_by_11 k_X12_310 ?_
  obtain ⟨⟨x3, V1⟩, g2, h⟩ := sx_bnd h
  refine sv_cS (pc := 14) (y := qX12_over) (o := (some (.long x3))) (as := [.long ((l0.toInt64 * l2.toInt64) + (l1.toInt64 * l3.toInt64)), .long (16384 : Int64)]) (V1 := V1) dX12_by_14 l_X12_517 y0X12_over ysX12_over rfl (Nat.le_of_ble_eq_true rfl) (by decide) (Nat.le_of_ble_eq_true rfl) rfl rfl rfl (t_X12_over hG ⟨rfl, rfl⟩ g2) ?_
  refine sx_l2i (pc := 17) dX12_by_17 ?_
  exact sv_iret (pc := 18) dX12_by_18 rfl h hP
theorem dX12_longOf_0 : decode cX12_longOf 0 = .ok (.aload_n 0, 1) := by decide +kernel
theorem dX12_longOf_1 : decode cX12_longOf 1 = .ok (.getfield 76, 3) := by decide +kernel
theorem dX12_longOf_4 : decode cX12_longOf 4 = .ok (.iload_n 1, 1) := by decide +kernel
theorem dX12_longOf_5 : decode cX12_longOf 5 = .ok (.iaload, 1) := by decide +kernel
theorem dX12_longOf_6 : decode cX12_longOf 6 = .ok (.aload_n 0, 1) := by decide +kernel
theorem dX12_longOf_7 : decode cX12_longOf 7 = .ok (.getfield 79, 3) := by decide +kernel
theorem dX12_longOf_10 : decode cX12_longOf 10 = .ok (.iload_n 1, 1) := by decide +kernel
theorem dX12_longOf_11 : decode cX12_longOf 11 = .ok (.iaload, 1) := by decide +kernel
theorem dX12_longOf_12 : decode cX12_longOf 12 = .ok (.aload_n 0, 1) := by decide +kernel
theorem dX12_longOf_13 : decode cX12_longOf 13 = .ok (.getfield 439, 3) := by decide +kernel
theorem dX12_longOf_16 : decode cX12_longOf 16 = .ok (.aload_n 0, 1) := by decide +kernel
theorem dX12_longOf_17 : decode cX12_longOf 17 = .ok (.getfield 442, 3) := by decide +kernel
theorem dX12_longOf_20 : decode cX12_longOf 20 = .ok (.invokestatic 520, 3) := by decide +kernel
theorem dX12_longOf_23 : decode cX12_longOf 23 = .ok (.ireturn, 1) := by decide +kernel
def F_X12_longOf (l1 : Int32) (V : sv_V) : Option (Int32 × sv_V) := if sx_in l1 204 = true then if sx_in l1 204 = true then (F_X12_by (V.1 168 l1.toNatClampNeg) (V.1 169 l1.toNatClampNeg) (V.1 146 65) (V.1 146 66) V).bind (fun (x5, V3) => some (x5, V3)) else none else none
set_option maxRecDepth 20000 in
theorem t_X12_longOf {g : sx_G} (hG : sx_Go g) {P : Option Value → sv_V → Prop} {r : Int32} {Vr : sv_V} (hP : P (some (.int r)) Vr) {l1 : Int32} {V : sv_V} (h : F_X12_longOf l1 V = some (r, Vr)) : sv_N g qX12_longOf 4 0 [(0, .ref 146), (1, .int l1)] [] V P := by
  unfold F_X12_longOf at h
  refine sx_aload_n (pc := 0) dX12_longOf_0 sx_m0 ?_
  refine sv_getA (pc := 1) hG dX12_longOf_1 f_12_76 lay_146 rfl cr_146_48 ?_
  refine sx_iload_n (pc := 4) dX12_longOf_4 sx_m1 ?_
  obtain ⟨g1, h⟩ := sx_grd h
  refine sv_iald (pc := 5) hG dX12_longOf_5 lay_168 g1 ?_
  refine sx_aload_n (pc := 6) dX12_longOf_6 sx_m0 ?_
  refine sv_getA (pc := 7) hG dX12_longOf_7 f_12_79 lay_146 rfl cr_146_49 ?_
  refine sx_iload_n (pc := 10) dX12_longOf_10 sx_m1 ?_
  obtain ⟨g2, h⟩ := sx_grd h
  refine sv_iald (pc := 11) hG dX12_longOf_11 lay_169 g2 ?_
  refine sx_aload_n (pc := 12) dX12_longOf_12 sx_m0 ?_
  refine sv_getI (pc := 13) hG dX12_longOf_13 f_12_439 lay_146 rfl ?_
  refine sx_aload_n (pc := 16) dX12_longOf_16 sx_m0 ?_
  refine sv_getI (pc := 17) hG dX12_longOf_17 f_12_442 lay_146 rfl ?_
  obtain ⟨⟨x5, V3⟩, g4, h⟩ := sx_bnd h
  refine sv_cS (pc := 20) (y := qX12_by) (o := (some (.int x5))) (as := [.int (V.1 168 l1.toNatClampNeg), .int (V.1 169 l1.toNatClampNeg), .int (V.1 146 65), .int (V.1 146 66)]) (V1 := V3) dX12_longOf_20 l_X12_520 y0X12_by ysX12_by rfl (Nat.le_of_ble_eq_true rfl) (by decide) (Nat.le_of_ble_eq_true rfl) rfl rfl rfl (t_X12_by hG ⟨rfl, rfl⟩ g4) ?_
  exact sv_iret (pc := 23) dX12_longOf_23 rfl h hP
theorem dX12_between_0 : decode cX12_between 0 = .ok (.aload_n 0, 1) := by decide +kernel
theorem dX12_between_1 : decode cX12_between 1 = .ok (.getfield 76, 3) := by decide +kernel
theorem dX12_between_4 : decode cX12_between 4 = .ok (.iload_n 1, 1) := by decide +kernel
theorem dX12_between_5 : decode cX12_between 5 = .ok (.iaload, 1) := by decide +kernel
theorem dX12_between_6 : decode cX12_between 6 = .ok (.aload_n 0, 1) := by decide +kernel
theorem dX12_between_7 : decode cX12_between 7 = .ok (.getfield 76, 3) := by decide +kernel
theorem dX12_between_10 : decode cX12_between 10 = .ok (.iload_n 2, 1) := by decide +kernel
theorem dX12_between_11 : decode cX12_between 11 = .ok (.iaload, 1) := by decide +kernel
theorem dX12_between_12 : decode cX12_between 12 = .ok (.isub, 1) := by decide +kernel
theorem dX12_between_13 : decode cX12_between 13 = .ok (.aload_n 0, 1) := by decide +kernel
theorem dX12_between_14 : decode cX12_between 14 = .ok (.getfield 79, 3) := by decide +kernel
theorem dX12_between_17 : decode cX12_between 17 = .ok (.iload_n 1, 1) := by decide +kernel
theorem dX12_between_18 : decode cX12_between 18 = .ok (.iaload, 1) := by decide +kernel
theorem dX12_between_19 : decode cX12_between 19 = .ok (.aload_n 0, 1) := by decide +kernel
theorem dX12_between_20 : decode cX12_between 20 = .ok (.getfield 79, 3) := by decide +kernel
theorem dX12_between_23 : decode cX12_between 23 = .ok (.iload_n 2, 1) := by decide +kernel
theorem dX12_between_24 : decode cX12_between 24 = .ok (.iaload, 1) := by decide +kernel
theorem dX12_between_25 : decode cX12_between 25 = .ok (.isub, 1) := by decide +kernel
theorem dX12_between_26 : decode cX12_between 26 = .ok (.aload_n 0, 1) := by decide +kernel
theorem dX12_between_27 : decode cX12_between 27 = .ok (.getfield 439, 3) := by decide +kernel
theorem dX12_between_30 : decode cX12_between 30 = .ok (.aload_n 0, 1) := by decide +kernel
theorem dX12_between_31 : decode cX12_between 31 = .ok (.getfield 442, 3) := by decide +kernel
theorem dX12_between_34 : decode cX12_between 34 = .ok (.invokestatic 520, 3) := by decide +kernel
theorem dX12_between_37 : decode cX12_between 37 = .ok (.ireturn, 1) := by decide +kernel
def F_X12_between (l1 : Int32) (l2 : Int32) (V : sv_V) : Option (Int32 × sv_V) := if sx_in l1 204 = true then if sx_in l2 204 = true then if sx_in l1 204 = true then if sx_in l2 204 = true then (F_X12_by ((V.1 168 l1.toNatClampNeg) - (V.1 168 l2.toNatClampNeg)) ((V.1 169 l1.toNatClampNeg) - (V.1 169 l2.toNatClampNeg)) (V.1 146 65) (V.1 146 66) V).bind (fun (x7, V5) => some (x7, V5)) else none else none else none else none
set_option maxRecDepth 20000 in
theorem t_X12_between {g : sx_G} (hG : sx_Go g) {P : Option Value → sv_V → Prop} {r : Int32} {Vr : sv_V} (hP : P (some (.int r)) Vr) {l1 : Int32} {l2 : Int32} {V : sv_V} (h : F_X12_between l1 l2 V = some (r, Vr)) : sv_N g qX12_between 4 0 [(0, .ref 146), (1, .int l1), (2, .int l2)] [] V P := by
  unfold F_X12_between at h
  refine sx_aload_n (pc := 0) dX12_between_0 sx_m0 ?_
  refine sv_getA (pc := 1) hG dX12_between_1 f_12_76 lay_146 rfl cr_146_48 ?_
  refine sx_iload_n (pc := 4) dX12_between_4 sx_m1 ?_
  obtain ⟨g1, h⟩ := sx_grd h
  refine sv_iald (pc := 5) hG dX12_between_5 lay_168 g1 ?_
  refine sx_aload_n (pc := 6) dX12_between_6 sx_m0 ?_
  refine sv_getA (pc := 7) hG dX12_between_7 f_12_76 lay_146 rfl cr_146_48 ?_
  refine sx_iload_n (pc := 10) dX12_between_10 sx_m2 ?_
  obtain ⟨g2, h⟩ := sx_grd h
  refine sv_iald (pc := 11) hG dX12_between_11 lay_168 g2 ?_
  refine sx_isub (pc := 12) dX12_between_12 ?_
  refine sx_aload_n (pc := 13) dX12_between_13 sx_m0 ?_
  refine sv_getA (pc := 14) hG dX12_between_14 f_12_79 lay_146 rfl cr_146_49 ?_
  refine sx_iload_n (pc := 17) dX12_between_17 sx_m1 ?_
  obtain ⟨g3, h⟩ := sx_grd h
  refine sv_iald (pc := 18) hG dX12_between_18 lay_169 g3 ?_
  refine sx_aload_n (pc := 19) dX12_between_19 sx_m0 ?_
  refine sv_getA (pc := 20) hG dX12_between_20 f_12_79 lay_146 rfl cr_146_49 ?_
  refine sx_iload_n (pc := 23) dX12_between_23 sx_m2 ?_
  obtain ⟨g4, h⟩ := sx_grd h
  refine sv_iald (pc := 24) hG dX12_between_24 lay_169 g4 ?_
  refine sx_isub (pc := 25) dX12_between_25 ?_
  refine sx_aload_n (pc := 26) dX12_between_26 sx_m0 ?_
  refine sv_getI (pc := 27) hG dX12_between_27 f_12_439 lay_146 rfl ?_
  refine sx_aload_n (pc := 30) dX12_between_30 sx_m0 ?_
  refine sv_getI (pc := 31) hG dX12_between_31 f_12_442 lay_146 rfl ?_
  obtain ⟨⟨x7, V5⟩, g6, h⟩ := sx_bnd h
  refine sv_cS (pc := 34) (y := qX12_by) (o := (some (.int x7))) (as := [.int ((V.1 168 l1.toNatClampNeg) - (V.1 168 l2.toNatClampNeg)), .int ((V.1 169 l1.toNatClampNeg) - (V.1 169 l2.toNatClampNeg)), .int (V.1 146 65), .int (V.1 146 66)]) (V1 := V5) dX12_between_34 l_X12_520 y0X12_by ysX12_by rfl (Nat.le_of_ble_eq_true rfl) (by decide) (Nat.le_of_ble_eq_true rfl) rfl rfl rfl (t_X12_by hG ⟨rfl, rfl⟩ g6) ?_
  exact sv_iret (pc := 37) dX12_between_37 rfl h hP
theorem dX12_originally_0 : decode cX12_originally 0 = .ok (.aload_n 0, 1) := by decide +kernel
theorem dX12_originally_1 : decode cX12_originally 1 = .ok (.getfield 70, 3) := by decide +kernel
theorem dX12_originally_4 : decode cX12_originally 4 = .ok (.iload_n 1, 1) := by decide +kernel
theorem dX12_originally_5 : decode cX12_originally 5 = .ok (.iaload, 1) := by decide +kernel
theorem dX12_originally_6 : decode cX12_originally 6 = .ok (.aload_n 0, 1) := by decide +kernel
theorem dX12_originally_7 : decode cX12_originally 7 = .ok (.getfield 70, 3) := by decide +kernel
theorem dX12_originally_10 : decode cX12_originally 10 = .ok (.iload_n 2, 1) := by decide +kernel
theorem dX12_originally_11 : decode cX12_originally 11 = .ok (.iaload, 1) := by decide +kernel
theorem dX12_originally_12 : decode cX12_originally 12 = .ok (.isub, 1) := by decide +kernel
theorem dX12_originally_13 : decode cX12_originally 13 = .ok (.aload_n 0, 1) := by decide +kernel
theorem dX12_originally_14 : decode cX12_originally 14 = .ok (.getfield 73, 3) := by decide +kernel
theorem dX12_originally_17 : decode cX12_originally 17 = .ok (.iload_n 1, 1) := by decide +kernel
theorem dX12_originally_18 : decode cX12_originally 18 = .ok (.iaload, 1) := by decide +kernel
theorem dX12_originally_19 : decode cX12_originally 19 = .ok (.aload_n 0, 1) := by decide +kernel
theorem dX12_originally_20 : decode cX12_originally 20 = .ok (.getfield 73, 3) := by decide +kernel
theorem dX12_originally_23 : decode cX12_originally 23 = .ok (.iload_n 2, 1) := by decide +kernel
theorem dX12_originally_24 : decode cX12_originally 24 = .ok (.iaload, 1) := by decide +kernel
theorem dX12_originally_25 : decode cX12_originally 25 = .ok (.isub, 1) := by decide +kernel
theorem dX12_originally_26 : decode cX12_originally 26 = .ok (.aload_n 0, 1) := by decide +kernel
theorem dX12_originally_27 : decode cX12_originally 27 = .ok (.getfield 445, 3) := by decide +kernel
theorem dX12_originally_30 : decode cX12_originally 30 = .ok (.aload_n 0, 1) := by decide +kernel
theorem dX12_originally_31 : decode cX12_originally 31 = .ok (.getfield 448, 3) := by decide +kernel
theorem dX12_originally_34 : decode cX12_originally 34 = .ok (.invokestatic 520, 3) := by decide +kernel
theorem dX12_originally_37 : decode cX12_originally 37 = .ok (.ireturn, 1) := by decide +kernel
def F_X12_originally (l1 : Int32) (l2 : Int32) (V : sv_V) : Option (Int32 × sv_V) := if sx_in l1 204 = true then if sx_in l2 204 = true then if sx_in l1 204 = true then if sx_in l2 204 = true then (F_X12_by ((V.1 166 l1.toNatClampNeg) - (V.1 166 l2.toNatClampNeg)) ((V.1 167 l1.toNatClampNeg) - (V.1 167 l2.toNatClampNeg)) (V.1 146 67) (V.1 146 68) V).bind (fun (x7, V5) => some (x7, V5)) else none else none else none else none
set_option maxRecDepth 20000 in
theorem t_X12_originally {g : sx_G} (hG : sx_Go g) {P : Option Value → sv_V → Prop} {r : Int32} {Vr : sv_V} (hP : P (some (.int r)) Vr) {l1 : Int32} {l2 : Int32} {V : sv_V} (h : F_X12_originally l1 l2 V = some (r, Vr)) : sv_N g qX12_originally 4 0 [(0, .ref 146), (1, .int l1), (2, .int l2)] [] V P := by
  unfold F_X12_originally at h
  refine sx_aload_n (pc := 0) dX12_originally_0 sx_m0 ?_
  refine sv_getA (pc := 1) hG dX12_originally_1 f_12_70 lay_146 rfl cr_146_46 ?_
  refine sx_iload_n (pc := 4) dX12_originally_4 sx_m1 ?_
  obtain ⟨g1, h⟩ := sx_grd h
  refine sv_iald (pc := 5) hG dX12_originally_5 lay_166 g1 ?_
  refine sx_aload_n (pc := 6) dX12_originally_6 sx_m0 ?_
  refine sv_getA (pc := 7) hG dX12_originally_7 f_12_70 lay_146 rfl cr_146_46 ?_
  refine sx_iload_n (pc := 10) dX12_originally_10 sx_m2 ?_
  obtain ⟨g2, h⟩ := sx_grd h
  refine sv_iald (pc := 11) hG dX12_originally_11 lay_166 g2 ?_
  refine sx_isub (pc := 12) dX12_originally_12 ?_
  refine sx_aload_n (pc := 13) dX12_originally_13 sx_m0 ?_
  refine sv_getA (pc := 14) hG dX12_originally_14 f_12_73 lay_146 rfl cr_146_47 ?_
  refine sx_iload_n (pc := 17) dX12_originally_17 sx_m1 ?_
  obtain ⟨g3, h⟩ := sx_grd h
  refine sv_iald (pc := 18) hG dX12_originally_18 lay_167 g3 ?_
  refine sx_aload_n (pc := 19) dX12_originally_19 sx_m0 ?_
  refine sv_getA (pc := 20) hG dX12_originally_20 f_12_73 lay_146 rfl cr_146_47 ?_
  refine sx_iload_n (pc := 23) dX12_originally_23 sx_m2 ?_
  obtain ⟨g4, h⟩ := sx_grd h
  refine sv_iald (pc := 24) hG dX12_originally_24 lay_167 g4 ?_
  refine sx_isub (pc := 25) dX12_originally_25 ?_
  refine sx_aload_n (pc := 26) dX12_originally_26 sx_m0 ?_
  refine sv_getI (pc := 27) hG dX12_originally_27 f_12_445 lay_146 rfl ?_
  refine sx_aload_n (pc := 30) dX12_originally_30 sx_m0 ?_
  refine sv_getI (pc := 31) hG dX12_originally_31 f_12_448 lay_146 rfl ?_
  obtain ⟨⟨x7, V5⟩, g6, h⟩ := sx_bnd h
  refine sv_cS (pc := 34) (y := qX12_by) (o := (some (.int x7))) (as := [.int ((V.1 166 l1.toNatClampNeg) - (V.1 166 l2.toNatClampNeg)), .int ((V.1 167 l1.toNatClampNeg) - (V.1 167 l2.toNatClampNeg)), .int (V.1 146 67), .int (V.1 146 68)]) (V1 := V5) dX12_originally_34 l_X12_520 y0X12_by ysX12_by rfl (Nat.le_of_ble_eq_true rfl) (by decide) (Nat.le_of_ble_eq_true rfl) rfl rfl rfl (t_X12_by hG ⟨rfl, rfl⟩ g6) ?_
  exact sv_iret (pc := 37) dX12_originally_37 rfl h hP
theorem dX12_shiftBy_0 : decode cX12_shiftBy 0 = .ok (.aload_n 0, 1) := by decide +kernel
theorem dX12_shiftBy_1 : decode cX12_shiftBy 1 = .ok (.getfield 433, 3) := by decide +kernel
theorem dX12_shiftBy_4 : decode cX12_shiftBy 4 = .ok (.i2l, 1) := by decide +kernel
theorem dX12_shiftBy_5 : decode cX12_shiftBy 5 = .ok (.aload_n 0, 1) := by decide +kernel
theorem dX12_shiftBy_6 : decode cX12_shiftBy 6 = .ok (.getfield 439, 3) := by decide +kernel
theorem dX12_shiftBy_9 : decode cX12_shiftBy 9 = .ok (.i2l, 1) := by decide +kernel
theorem dX12_shiftBy_10 : decode cX12_shiftBy 10 = .ok (.lmul, 1) := by decide +kernel
theorem dX12_shiftBy_11 : decode cX12_shiftBy 11 = .ok (.aload_n 0, 1) := by decide +kernel
theorem dX12_shiftBy_12 : decode cX12_shiftBy 12 = .ok (.getfield 436, 3) := by decide +kernel
theorem dX12_shiftBy_15 : decode cX12_shiftBy 15 = .ok (.i2l, 1) := by decide +kernel
theorem dX12_shiftBy_16 : decode cX12_shiftBy 16 = .ok (.aload_n 0, 1) := by decide +kernel
theorem dX12_shiftBy_17 : decode cX12_shiftBy 17 = .ok (.getfield 442, 3) := by decide +kernel
theorem dX12_shiftBy_20 : decode cX12_shiftBy 20 = .ok (.i2l, 1) := by decide +kernel
theorem dX12_shiftBy_21 : decode cX12_shiftBy 21 = .ok (.lmul, 1) := by decide +kernel
theorem dX12_shiftBy_22 : decode cX12_shiftBy 22 = .ok (.ladd, 1) := by decide +kernel
theorem dX12_shiftBy_23 : decode cX12_shiftBy 23 = .ok (.ldc2_w 310, 3) := by decide +kernel
theorem dX12_shiftBy_26 : decode cX12_shiftBy 26 = .ok (.invokestatic 517, 3) := by decide +kernel
theorem dX12_shiftBy_29 : decode cX12_shiftBy 29 = .ok (.lstore 5, 2) := by decide +kernel
theorem dX12_shiftBy_31 : decode cX12_shiftBy 31 = .ok (.lload 5, 2) := by decide +kernel
theorem dX12_shiftBy_33 : decode cX12_shiftBy 33 = .ok (.invokestatic 198, 3) := by decide +kernel
theorem dX12_shiftBy_36 : decode cX12_shiftBy 36 = .ok (.ldc2_w 524, 3) := by decide +kernel
theorem dX12_shiftBy_39 : decode cX12_shiftBy 39 = .ok (.lcmp, 1) := by decide +kernel
theorem dX12_shiftBy_40 : decode cX12_shiftBy 40 = .ok (.ifCond .ge 9, 3) := by decide +kernel
theorem dX12_shiftBy_43 : decode cX12_shiftBy 43 = .ok (.ldc2_w 310, 3) := by decide +kernel
theorem dX12_shiftBy_46 : decode cX12_shiftBy 46 = .ok (.goto 5, 3) := by decide +kernel
theorem dX12_shiftBy_49 : decode cX12_shiftBy 49 = .ok (.lload 5, 2) := by decide +kernel
theorem dX12_shiftBy_51 : decode cX12_shiftBy 51 = .ok (.lstore 5, 2) := by decide +kernel
theorem dX12_shiftBy_53 : decode cX12_shiftBy 53 = .ok (.aload_n 0, 1) := by decide +kernel
theorem dX12_shiftBy_54 : decode cX12_shiftBy 54 = .ok (.getfield 76, 3) := by decide +kernel
theorem dX12_shiftBy_57 : decode cX12_shiftBy 57 = .ok (.iload_n 1, 1) := by decide +kernel
theorem dX12_shiftBy_58 : decode cX12_shiftBy 58 = .ok (.aload_n 0, 1) := by decide +kernel
theorem dX12_shiftBy_59 : decode cX12_shiftBy 59 = .ok (.getfield 76, 3) := by decide +kernel
theorem dX12_shiftBy_62 : decode cX12_shiftBy 62 = .ok (.iload_n 1, 1) := by decide +kernel
theorem dX12_shiftBy_63 : decode cX12_shiftBy 63 = .ok (.iaload, 1) := by decide +kernel
theorem dX12_shiftBy_64 : decode cX12_shiftBy 64 = .ok (.i2l, 1) := by decide +kernel
theorem dX12_shiftBy_65 : decode cX12_shiftBy 65 = .ok (.lload_n 2, 1) := by decide +kernel
theorem dX12_shiftBy_66 : decode cX12_shiftBy 66 = .ok (.aload_n 0, 1) := by decide +kernel
theorem dX12_shiftBy_67 : decode cX12_shiftBy 67 = .ok (.getfield 433, 3) := by decide +kernel
theorem dX12_shiftBy_70 : decode cX12_shiftBy 70 = .ok (.i2l, 1) := by decide +kernel
theorem dX12_shiftBy_71 : decode cX12_shiftBy 71 = .ok (.lmul, 1) := by decide +kernel
theorem dX12_shiftBy_72 : decode cX12_shiftBy 72 = .ok (.lload 5, 2) := by decide +kernel
theorem dX12_shiftBy_74 : decode cX12_shiftBy 74 = .ok (.invokestatic 194, 3) := by decide +kernel
theorem dX12_shiftBy_77 : decode cX12_shiftBy 77 = .ok (.ladd, 1) := by decide +kernel
theorem dX12_shiftBy_78 : decode cX12_shiftBy 78 = .ok (.l2i, 1) := by decide +kernel
theorem dX12_shiftBy_79 : decode cX12_shiftBy 79 = .ok (.iastore, 1) := by decide +kernel
theorem dX12_shiftBy_80 : decode cX12_shiftBy 80 = .ok (.aload_n 0, 1) := by decide +kernel
theorem dX12_shiftBy_81 : decode cX12_shiftBy 81 = .ok (.getfield 79, 3) := by decide +kernel
theorem dX12_shiftBy_84 : decode cX12_shiftBy 84 = .ok (.iload_n 1, 1) := by decide +kernel
theorem dX12_shiftBy_85 : decode cX12_shiftBy 85 = .ok (.aload_n 0, 1) := by decide +kernel
theorem dX12_shiftBy_86 : decode cX12_shiftBy 86 = .ok (.getfield 79, 3) := by decide +kernel
theorem dX12_shiftBy_89 : decode cX12_shiftBy 89 = .ok (.iload_n 1, 1) := by decide +kernel
theorem dX12_shiftBy_90 : decode cX12_shiftBy 90 = .ok (.iaload, 1) := by decide +kernel
theorem dX12_shiftBy_91 : decode cX12_shiftBy 91 = .ok (.i2l, 1) := by decide +kernel
theorem dX12_shiftBy_92 : decode cX12_shiftBy 92 = .ok (.lload_n 2, 1) := by decide +kernel
theorem dX12_shiftBy_93 : decode cX12_shiftBy 93 = .ok (.aload_n 0, 1) := by decide +kernel
theorem dX12_shiftBy_94 : decode cX12_shiftBy 94 = .ok (.getfield 436, 3) := by decide +kernel
theorem dX12_shiftBy_97 : decode cX12_shiftBy 97 = .ok (.i2l, 1) := by decide +kernel
theorem dX12_shiftBy_98 : decode cX12_shiftBy 98 = .ok (.lmul, 1) := by decide +kernel
theorem dX12_shiftBy_99 : decode cX12_shiftBy 99 = .ok (.lload 5, 2) := by decide +kernel
theorem dX12_shiftBy_101 : decode cX12_shiftBy 101 = .ok (.invokestatic 194, 3) := by decide +kernel
theorem dX12_shiftBy_104 : decode cX12_shiftBy 104 = .ok (.ladd, 1) := by decide +kernel
theorem dX12_shiftBy_105 : decode cX12_shiftBy 105 = .ok (.l2i, 1) := by decide +kernel
theorem dX12_shiftBy_106 : decode cX12_shiftBy 106 = .ok (.iastore, 1) := by decide +kernel
theorem dX12_shiftBy_107 : decode cX12_shiftBy 107 = .ok (.iload 4, 2) := by decide +kernel
theorem dX12_shiftBy_109 : decode cX12_shiftBy 109 = .ok (.ifCond .eq 8, 3) := by decide +kernel
theorem dX12_shiftBy_112 : decode cX12_shiftBy 112 = .ok (.aload_n 0, 1) := by decide +kernel
theorem dX12_shiftBy_113 : decode cX12_shiftBy 113 = .ok (.iload_n 1, 1) := by decide +kernel
theorem dX12_shiftBy_114 : decode cX12_shiftBy 114 = .ok (.invokevirtual 526, 3) := by decide +kernel
theorem dX12_shiftBy_117 : decode cX12_shiftBy 117 = .ok (.return_, 1) := by decide +kernel
def B_X12_shiftBy_51  (l1 : Int32) (l2 : Int64) (l4 : Int32) (s0 : Int64) (V : sv_V) : Option sv_V := if sx_in l1 204 = true then (F_X12_nearest (l2 * ((V.1 146 63).toInt64)) s0 V).bind (fun (x4, V2) => if sx_in l1 204 = true then sx_let (sv_I V2 168 l1.toNatClampNeg ((((V.1 168 l1.toNatClampNeg).toInt64) + x4).toInt32)) (fun V6 => if sx_in l1 204 = true then (F_X12_nearest (l2 * ((V6.1 146 64).toInt64)) s0 V6).bind (fun (x10, V8) => if sx_in l1 204 = true then sx_let (sv_I V8 169 l1.toNatClampNeg ((((V6.1 169 l1.toNatClampNeg).toInt64) + x10).toInt32)) (fun V12 => if l4 = 0 then (some V12) else ((F_X12_touch l1 V12).bind (fun V14 => some V14))) else none) else none) else none) else none
set_option maxRecDepth 20000 in
theorem tB_X12_shiftBy_51 {g : sx_G} (hG : sx_Go g) {P : Option Value → sv_V → Prop} {Vr : sv_V} (hP : P none Vr)   {l1 : Int32} {l2 : Int64} {l4 : Int32} {s0 : Int64} {V : sv_V} (h : B_X12_shiftBy_51  l1 l2 l4 s0 V = some Vr) : sv_N g qX12_shiftBy 3 51 [(0, .ref 146), (1, .int l1), (2, .long l2), (4, .int l4)] [.long s0] V P := by
  unfold B_X12_shiftBy_51 at h
  refine sx_lstore (pc := 51) (lo' := [(5, .long s0), (0, .ref 146), (1, .int l1), (2, .long l2), (4, .int l4)]) dX12_shiftBy_51 (by decide) rfl ?_
  refine sx_aload_n (pc := 53) dX12_shiftBy_53 sx_m1 ?_
  refine sv_getA (pc := 54) hG dX12_shiftBy_54 f_12_76 lay_146 rfl cr_146_48 ?_
  refine sx_iload_n (pc := 57) dX12_shiftBy_57 sx_m2 ?_
  refine sx_aload_n (pc := 58) dX12_shiftBy_58 sx_m1 ?_
  refine sv_getA (pc := 59) hG dX12_shiftBy_59 f_12_76 lay_146 rfl cr_146_48 ?_
  refine sx_iload_n (pc := 62) dX12_shiftBy_62 sx_m2 ?_
  obtain ⟨g1, h⟩ := sx_grd h
  refine sv_iald (pc := 63) hG dX12_shiftBy_63 lay_168 g1 ?_
  refine sx_i2l (pc := 64) dX12_shiftBy_64 ?_
  refine sx_lload_n (pc := 65) dX12_shiftBy_65 sx_m3 ?_
  refine sx_aload_n (pc := 66) dX12_shiftBy_66 sx_m1 ?_
  refine sv_getI (pc := 67) hG dX12_shiftBy_67 f_12_433 lay_146 rfl ?_
  refine sx_i2l (pc := 70) dX12_shiftBy_70 ?_
  refine sx_lmul (pc := 71) dX12_shiftBy_71 ?_
  refine sx_lload (pc := 72) dX12_shiftBy_72 sx_m0 ?_
  obtain ⟨⟨x4, V2⟩, g3, h⟩ := sx_bnd h
  refine sv_cS (pc := 74) (y := qX12_nearest) (o := (some (.long x4))) (as := [.long (l2 * ((V.1 146 63).toInt64)), .long s0]) (V1 := V2) dX12_shiftBy_74 l_X12_194 y0X12_nearest ysX12_nearest rfl (Nat.le_of_ble_eq_true rfl) (by decide) (Nat.le_of_ble_eq_true rfl) rfl rfl rfl (t_X12_nearest hG ⟨rfl, rfl⟩ g3) ?_
  refine sx_ladd (pc := 77) dX12_shiftBy_77 ?_
  refine sx_l2i (pc := 78) dX12_shiftBy_78 ?_
  obtain ⟨g5, h⟩ := sx_grd h
  obtain ⟨V6, hV6⟩ : ∃ z : sv_V, z = sv_I V2 168 l1.toNatClampNeg ((((V.1 168 l1.toNatClampNeg).toInt64) + x4).toInt32) := ⟨_, rfl⟩
  have h := sx_letE hV6 h
  refine sv_iast (pc := 79) hG dX12_shiftBy_79 lay_168 g5 hV6 ?_
  refine sx_aload_n (pc := 80) dX12_shiftBy_80 sx_m1 ?_
  refine sv_getA (pc := 81) hG dX12_shiftBy_81 f_12_79 lay_146 rfl cr_146_49 ?_
  refine sx_iload_n (pc := 84) dX12_shiftBy_84 sx_m2 ?_
  refine sx_aload_n (pc := 85) dX12_shiftBy_85 sx_m1 ?_
  refine sv_getA (pc := 86) hG dX12_shiftBy_86 f_12_79 lay_146 rfl cr_146_49 ?_
  refine sx_iload_n (pc := 89) dX12_shiftBy_89 sx_m2 ?_
  obtain ⟨g7, h⟩ := sx_grd h
  refine sv_iald (pc := 90) hG dX12_shiftBy_90 lay_169 g7 ?_
  refine sx_i2l (pc := 91) dX12_shiftBy_91 ?_
  refine sx_lload_n (pc := 92) dX12_shiftBy_92 sx_m3 ?_
  refine sx_aload_n (pc := 93) dX12_shiftBy_93 sx_m1 ?_
  refine sv_getI (pc := 94) hG dX12_shiftBy_94 f_12_436 lay_146 rfl ?_
  refine sx_i2l (pc := 97) dX12_shiftBy_97 ?_
  refine sx_lmul (pc := 98) dX12_shiftBy_98 ?_
  refine sx_lload (pc := 99) dX12_shiftBy_99 sx_m0 ?_
  obtain ⟨⟨x10, V8⟩, g9, h⟩ := sx_bnd h
  refine sv_cS (pc := 101) (y := qX12_nearest) (o := (some (.long x10))) (as := [.long (l2 * ((V6.1 146 64).toInt64)), .long s0]) (V1 := V8) dX12_shiftBy_101 l_X12_194 y0X12_nearest ysX12_nearest rfl (Nat.le_of_ble_eq_true rfl) (by decide) (Nat.le_of_ble_eq_true rfl) rfl rfl rfl (t_X12_nearest hG ⟨rfl, rfl⟩ g9) ?_
  refine sx_ladd (pc := 104) dX12_shiftBy_104 ?_
  refine sx_l2i (pc := 105) dX12_shiftBy_105 ?_
  obtain ⟨g11, h⟩ := sx_grd h
  obtain ⟨V12, hV12⟩ : ∃ z : sv_V, z = sv_I V8 169 l1.toNatClampNeg ((((V6.1 169 l1.toNatClampNeg).toInt64) + x10).toInt32) := ⟨_, rfl⟩
  have h := sx_letE hV12 h
  refine sv_iast (pc := 106) hG dX12_shiftBy_106 lay_169 g11 hV12 ?_
  refine sx_iload (pc := 107) dX12_shiftBy_107 sx_m4 ?_
  refine sx_if_eq (pc := 109) (tgt := 117) dX12_shiftBy_109 (by decide) (fun c13 => ?_) (fun c13 => ?_)
  · have h := sx_pos c13 h
    exact sv_vret (pc := 117) dX12_shiftBy_117 rfl h hP
  · have h := sx_neg c13 h
    refine sx_aload_n (pc := 112) dX12_shiftBy_112 sx_m1 ?_
    refine sx_iload_n (pc := 113) dX12_shiftBy_113 sx_m2 ?_
    obtain ⟨V14, g15, h⟩ := sx_bnd h
    refine sv_cV (pc := 114) (y := qX12_touch) (o := none) (as := [.int l1]) (V1 := V14) hG dX12_shiftBy_114 l_X12_526 y0X12_touch yvX12_touch rfl (Nat.le_of_ble_eq_true rfl) lay_146 kr_12 (by decide) (Nat.le_of_ble_eq_true rfl) rfl rfl rfl (t_X12_touch hG ⟨rfl, rfl⟩ g15) ?_
    exact sv_vret (pc := 117) dX12_shiftBy_117 rfl h hP
def F_X12_shiftBy (l1 : Int32) (l2 : Int64) (l4 : Int32) (V : sv_V) : Option sv_V := (F_X12_over ((((V.1 146 63).toInt64) * ((V.1 146 65).toInt64)) + (((V.1 146 64).toInt64) * ((V.1 146 66).toInt64))) (16384 : Int64) V).bind (fun (x18, V16) => (F_X12_sizeOf x18 V16).bind (fun (x21, V19) => if 0 ≤ (lg_cmp x21 (1024 : Int64)) then (B_X12_shiftBy_51  l1 l2 l4 x18 V19) else (B_X12_shiftBy_51  l1 l2 l4 (16384 : Int64) V19)))
set_option maxRecDepth 20000 in
theorem t_X12_shiftBy {g : sx_G} (hG : sx_Go g) {P : Option Value → sv_V → Prop} {Vr : sv_V} (hP : P none Vr) {l1 : Int32} {l2 : Int64} {l4 : Int32} {V : sv_V} (h : F_X12_shiftBy l1 l2 l4 V = some Vr) : sv_N g qX12_shiftBy 3 0 [(0, .ref 146), (1, .int l1), (2, .long l2), (4, .int l4)] [] V P := by
  unfold F_X12_shiftBy at h
  refine sx_aload_n (pc := 0) dX12_shiftBy_0 sx_m0 ?_
  refine sv_getI (pc := 1) hG dX12_shiftBy_1 f_12_433 lay_146 rfl ?_
  refine sx_i2l (pc := 4) dX12_shiftBy_4 ?_
  refine sx_aload_n (pc := 5) dX12_shiftBy_5 sx_m0 ?_
  refine sv_getI (pc := 6) hG dX12_shiftBy_6 f_12_439 lay_146 rfl ?_
  refine sx_i2l (pc := 9) dX12_shiftBy_9 ?_
  refine sx_lmul (pc := 10) dX12_shiftBy_10 ?_
  refine sx_aload_n (pc := 11) dX12_shiftBy_11 sx_m0 ?_
  refine sv_getI (pc := 12) hG dX12_shiftBy_12 f_12_436 lay_146 rfl ?_
  refine sx_i2l (pc := 15) dX12_shiftBy_15 ?_
  refine sx_aload_n (pc := 16) dX12_shiftBy_16 sx_m0 ?_
  refine sv_getI (pc := 17) hG dX12_shiftBy_17 f_12_442 lay_146 rfl ?_
  refine sx_i2l (pc := 20) dX12_shiftBy_20 ?_
  refine sx_lmul (pc := 21) dX12_shiftBy_21 ?_
  refine sx_ladd (pc := 22) dX12_shiftBy_22 ?_
  refine sx_ldc2 (pc := 23) dX12_shiftBy_23 k_X12_310 ?_
  obtain ⟨⟨x18, V16⟩, g17, h⟩ := sx_bnd h
  refine sv_cS (pc := 26) (y := qX12_over) (o := (some (.long x18))) (as := [.long ((((V.1 146 63).toInt64) * ((V.1 146 65).toInt64)) + (((V.1 146 64).toInt64) * ((V.1 146 66).toInt64))), .long (16384 : Int64)]) (V1 := V16) dX12_shiftBy_26 l_X12_517 y0X12_over ysX12_over rfl (Nat.le_of_ble_eq_true rfl) (by decide) (Nat.le_of_ble_eq_true rfl) rfl rfl rfl (t_X12_over hG ⟨rfl, rfl⟩ g17) ?_
  refine sx_lstore (pc := 29) (lo' := [(5, .long x18), (0, .ref 146), (1, .int l1), (2, .long l2), (4, .int l4)]) dX12_shiftBy_29 (by decide) rfl ?_
  refine sx_lload (pc := 31) dX12_shiftBy_31 sx_m0 ?_
  obtain ⟨⟨x21, V19⟩, g20, h⟩ := sx_bnd h
  refine sv_cS (pc := 33) (y := qX12_sizeOf) (o := (some (.long x21))) (as := [.long x18]) (V1 := V19) dX12_shiftBy_33 l_X12_198 y0X12_sizeOf ysX12_sizeOf rfl (Nat.le_of_ble_eq_true rfl) (by decide) (Nat.le_of_ble_eq_true rfl) rfl rfl rfl (t_X12_sizeOf hG ⟨rfl, rfl⟩ g20) ?_
  refine sx_ldc2 (pc := 36) dX12_shiftBy_36 k_X12_524 ?_
  refine sx_lcmp (pc := 39) dX12_shiftBy_39 ?_
  refine sx_if_ge (pc := 40) (tgt := 49) dX12_shiftBy_40 (by decide) (fun c22 => ?_) (fun c22 => ?_)
  · have h := sx_pos c22 h
    refine sx_lload (pc := 49) dX12_shiftBy_49 sx_m0 ?_
    refine sx_wk (sx_s1 sx_m1 (sx_s1 sx_m2 (sx_s1 sx_m3 (sx_s1 sx_m4 sx_s0)))) ?_
    exact tB_X12_shiftBy_51 hG hP  h
  · have h := sx_neg c22 h
    refine sx_ldc2 (pc := 43) dX12_shiftBy_43 k_X12_310 ?_
    refine sx_goto (pc := 46) (tgt := 51) dX12_shiftBy_46 (by decide) ?_
    refine sx_wk (sx_s1 sx_m1 (sx_s1 sx_m2 (sx_s1 sx_m3 (sx_s1 sx_m4 sx_s0)))) ?_
    exact tB_X12_shiftBy_51 hG hP  h
theorem dX12_move_0 : decode cX12_move 0 = .ok (.aload_n 0, 1) := by decide +kernel
theorem dX12_move_1 : decode cX12_move 1 = .ok (.iload_n 1, 1) := by decide +kernel
theorem dX12_move_2 : decode cX12_move 2 = .ok (.lload_n 2, 1) := by decide +kernel
theorem dX12_move_3 : decode cX12_move 3 = .ok (.iconst 1, 1) := by decide +kernel
theorem dX12_move_4 : decode cX12_move 4 = .ok (.invokevirtual 529, 3) := by decide +kernel
theorem dX12_move_7 : decode cX12_move 7 = .ok (.return_, 1) := by decide +kernel
def F_X12_move (l1 : Int32) (l2 : Int64) (V : sv_V) : Option sv_V := (F_X12_shiftBy l1 l2 (1 : Int32) V).bind (fun V1 => some V1)
set_option maxRecDepth 20000 in
theorem t_X12_move {g : sx_G} (hG : sx_Go g) {P : Option Value → sv_V → Prop} {Vr : sv_V} (hP : P none Vr) {l1 : Int32} {l2 : Int64} {V : sv_V} (h : F_X12_move l1 l2 V = some Vr) : sv_N g qX12_move 4 0 [(0, .ref 146), (1, .int l1), (2, .long l2)] [] V P := by
  unfold F_X12_move at h
  refine sx_aload_n (pc := 0) dX12_move_0 sx_m0 ?_
  refine sx_iload_n (pc := 1) dX12_move_1 sx_m1 ?_
  refine sx_lload_n (pc := 2) dX12_move_2 sx_m2 ?_
  refine sx_iconst (pc := 3) (v := 1) dX12_move_3 (by decide) ?_
  obtain ⟨V1, g2, h⟩ := sx_bnd h
  refine sv_cV (pc := 4) (y := qX12_shiftBy) (o := none) (as := [.int l1, .long l2, .int (1 : Int32)]) (V1 := V1) hG dX12_move_4 l_X12_529 y0X12_shiftBy yvX12_shiftBy rfl (Nat.le_of_ble_eq_true rfl) lay_146 kr_12 (by decide) (Nat.le_of_ble_eq_true rfl) rfl rfl rfl (t_X12_shiftBy hG ⟨rfl, rfl⟩ g2) ?_
  exact sv_vret (pc := 7) dX12_move_7 rfl h hP
theorem dX12_scaled_0 : decode cX12_scaled 0 = .ok (.lload_n 1, 1) := by decide +kernel
theorem dX12_scaled_1 : decode cX12_scaled 1 = .ok (.aload_n 0, 1) := by decide +kernel
theorem dX12_scaled_2 : decode cX12_scaled 2 = .ok (.getfield 621, 3) := by decide +kernel
theorem dX12_scaled_5 : decode cX12_scaled 5 = .ok (.i2l, 1) := by decide +kernel
theorem dX12_scaled_6 : decode cX12_scaled 6 = .ok (.lmul, 1) := by decide +kernel
theorem dX12_scaled_7 : decode cX12_scaled 7 = .ok (.ldc2_w 338, 3) := by decide +kernel
theorem dX12_scaled_10 : decode cX12_scaled 10 = .ok (.lmul, 1) := by decide +kernel
theorem dX12_scaled_11 : decode cX12_scaled 11 = .ok (.aload_n 0, 1) := by decide +kernel
theorem dX12_scaled_12 : decode cX12_scaled 12 = .ok (.getfield 302, 3) := by decide +kernel
theorem dX12_scaled_15 : decode cX12_scaled 15 = .ok (.i2l, 1) := by decide +kernel
theorem dX12_scaled_16 : decode cX12_scaled 16 = .ok (.invokestatic 517, 3) := by decide +kernel
theorem dX12_scaled_19 : decode cX12_scaled 19 = .ok (.l2i, 1) := by decide +kernel
theorem dX12_scaled_20 : decode cX12_scaled 20 = .ok (.ireturn, 1) := by decide +kernel
def F_X12_scaled (l1 : Int64) (V : sv_V) : Option (Int32 × sv_V) := (F_X12_over ((l1 * ((V.1 146 62).toInt64)) * (64 : Int64)) ((V.1 146 10).toInt64) V).bind (fun (x3, V1) => some (x3.toInt32, V1))
set_option maxRecDepth 20000 in
theorem t_X12_scaled {g : sx_G} (hG : sx_Go g) {P : Option Value → sv_V → Prop} {r : Int32} {Vr : sv_V} (hP : P (some (.int r)) Vr) {l1 : Int64} {V : sv_V} (h : F_X12_scaled l1 V = some (r, Vr)) : sv_N g qX12_scaled 3 0 [(0, .ref 146), (1, .long l1)] [] V P := by
  unfold F_X12_scaled at h
  refine sx_lload_n (pc := 0) dX12_scaled_0 sx_m1 ?_
  refine sx_aload_n (pc := 1) dX12_scaled_1 sx_m0 ?_
  refine sv_getI (pc := 2) hG dX12_scaled_2 f_12_621 lay_146 rfl ?_
  refine sx_i2l (pc := 5) dX12_scaled_5 ?_
  refine sx_lmul (pc := 6) dX12_scaled_6 ?_
  refine sx_ldc2 (pc := 7) dX12_scaled_7 k_X12_338 ?_
  refine sx_lmul (pc := 10) dX12_scaled_10 ?_
  refine sx_aload_n (pc := 11) dX12_scaled_11 sx_m0 ?_
  refine sv_getI (pc := 12) hG dX12_scaled_12 f_12_302 lay_146 rfl ?_
  refine sx_i2l (pc := 15) dX12_scaled_15 ?_
  obtain ⟨⟨x3, V1⟩, g2, h⟩ := sx_bnd h
  refine sv_cS (pc := 16) (y := qX12_over) (o := (some (.long x3))) (as := [.long ((l1 * ((V.1 146 62).toInt64)) * (64 : Int64)), .long ((V.1 146 10).toInt64)]) (V1 := V1) dX12_scaled_16 l_X12_517 y0X12_over ysX12_over rfl (Nat.le_of_ble_eq_true rfl) (by decide) (Nat.le_of_ble_eq_true rfl) rfl rfl rfl (t_X12_over hG ⟨rfl, rfl⟩ g2) ?_
  refine sx_l2i (pc := 19) dX12_scaled_19 ?_
  exact sv_iret (pc := 20) dX12_scaled_20 rfl h hP
theorem dX12_setCvt_0 : decode cX12_setCvt 0 = .ok (.aload_n 0, 1) := by decide +kernel
theorem dX12_setCvt_1 : decode cX12_setCvt 1 = .ok (.iconst 2, 1) := by decide +kernel
theorem dX12_setCvt_2 : decode cX12_setCvt 2 = .ok (.invokevirtual 576, 3) := by decide +kernel
theorem dX12_setCvt_5 : decode cX12_setCvt 5 = .ok (.ifCond .ne 4, 3) := by decide +kernel
theorem dX12_setCvt_8 : decode cX12_setCvt 8 = .ok (.return_, 1) := by decide +kernel
theorem dX12_setCvt_9 : decode cX12_setCvt 9 = .ok (.aload_n 0, 1) := by decide +kernel
theorem dX12_setCvt_10 : decode cX12_setCvt 10 = .ok (.invokevirtual 579, 3) := by decide +kernel
theorem dX12_setCvt_13 : decode cX12_setCvt 13 = .ok (.istore_n 2, 1) := by decide +kernel
theorem dX12_setCvt_14 : decode cX12_setCvt 14 = .ok (.aload_n 0, 1) := by decide +kernel
theorem dX12_setCvt_15 : decode cX12_setCvt 15 = .ok (.invokevirtual 579, 3) := by decide +kernel
theorem dX12_setCvt_18 : decode cX12_setCvt 18 = .ok (.istore_n 3, 1) := by decide +kernel
theorem dX12_setCvt_19 : decode cX12_setCvt 19 = .ok (.aload_n 0, 1) := by decide +kernel
theorem dX12_setCvt_20 : decode cX12_setCvt 20 = .ok (.iload_n 3, 1) := by decide +kernel
theorem dX12_setCvt_21 : decode cX12_setCvt 21 = .ok (.invokevirtual 677, 3) := by decide +kernel
theorem dX12_setCvt_24 : decode cX12_setCvt 24 = .ok (.istore 4, 2) := by decide +kernel
theorem dX12_setCvt_26 : decode cX12_setCvt 26 = .ok (.aload_n 0, 1) := by decide +kernel
theorem dX12_setCvt_27 : decode cX12_setCvt 27 = .ok (.getfield 409, 3) := by decide +kernel
theorem dX12_setCvt_30 : decode cX12_setCvt 30 = .ok (.ifCond .ne 23, 3) := by decide +kernel
theorem dX12_setCvt_33 : decode cX12_setCvt 33 = .ok (.aload_n 0, 1) := by decide +kernel
theorem dX12_setCvt_34 : decode cX12_setCvt 34 = .ok (.getfield 64, 3) := by decide +kernel
theorem dX12_setCvt_37 : decode cX12_setCvt 37 = .ok (.iload_n 3, 1) := by decide +kernel
theorem dX12_setCvt_38 : decode cX12_setCvt 38 = .ok (.iload_n 1, 1) := by decide +kernel
theorem dX12_setCvt_39 : decode cX12_setCvt 39 = .ok (.ifCond .eq 12, 3) := by decide +kernel
theorem dX12_setCvt_42 : decode cX12_setCvt 42 = .ok (.aload_n 0, 1) := by decide +kernel
theorem dX12_setCvt_43 : decode cX12_setCvt 43 = .ok (.iload_n 2, 1) := by decide +kernel
theorem dX12_setCvt_44 : decode cX12_setCvt 44 = .ok (.i2l, 1) := by decide +kernel
theorem dX12_setCvt_45 : decode cX12_setCvt 45 = .ok (.invokevirtual 611, 3) := by decide +kernel
theorem dX12_setCvt_48 : decode cX12_setCvt 48 = .ok (.goto 4, 3) := by decide +kernel
theorem dX12_setCvt_51 : decode cX12_setCvt 51 = .ok (.iload_n 2, 1) := by decide +kernel
theorem dX12_setCvt_52 : decode cX12_setCvt 52 = .ok (.iastore, 1) := by decide +kernel
theorem dX12_setCvt_53 : decode cX12_setCvt 53 = .ok (.return_, 1) := by decide +kernel
def F_X12_setCvt (l1 : Int32) (V : sv_V) : Option sv_V := (F_X12_has (2 : Int32) V).bind (fun (x3, V1) => if x3 = 0 then (some V1) else ((F_X12_pop  V1).bind (fun (x7, V5) => (F_X12_pop  V5).bind (fun (x10, V8) => (F_X12_cvtOf x10 V8).bind (fun (x13, V11) => if (V11.1 146 59) = 0 then (if l1 = 0 then (if sx_in x10 256 = true then sx_let (sv_I V11 164 x10.toNatClampNeg x7) (fun V17 => some V17) else none) else ((F_X12_scaled x7.toInt64 V11).bind (fun (x20, V18) => if sx_in x10 256 = true then sx_let (sv_I V18 164 x10.toNatClampNeg x20) (fun V22 => some V22) else none))) else (some V11))))))
set_option maxRecDepth 20000 in
theorem t_X12_setCvt {g : sx_G} (hG : sx_Go g) {P : Option Value → sv_V → Prop} {Vr : sv_V} (hP : P none Vr) {l1 : Int32} {V : sv_V} (h : F_X12_setCvt l1 V = some Vr) : sv_N g qX12_setCvt 4 0 [(0, .ref 146), (1, .int l1)] [] V P := by
  unfold F_X12_setCvt at h
  refine sx_aload_n (pc := 0) dX12_setCvt_0 sx_m0 ?_
  refine sx_iconst (pc := 1) (v := 2) dX12_setCvt_1 (by decide) ?_
  obtain ⟨⟨x3, V1⟩, g2, h⟩ := sx_bnd h
  refine sv_cV (pc := 2) (y := qX12_has) (o := (some (.int x3))) (as := [.int (2 : Int32)]) (V1 := V1) hG dX12_setCvt_2 l_X12_576 y0X12_has yvX12_has rfl (Nat.le_of_ble_eq_true rfl) lay_146 kr_12 (by decide) (Nat.le_of_ble_eq_true rfl) rfl rfl rfl (t_X12_has hG ⟨rfl, rfl⟩ g2) ?_
  refine sx_if_ne (pc := 5) (tgt := 9) dX12_setCvt_5 (by decide) (fun c4 => ?_) (fun c4 => ?_)
  · have h := sx_neg c4 h
    refine sx_aload_n (pc := 9) dX12_setCvt_9 sx_m0 ?_
    obtain ⟨⟨x7, V5⟩, g6, h⟩ := sx_bnd h
    refine sv_cV (pc := 10) (y := qX12_pop) (o := (some (.int x7))) (as := []) (V1 := V5) hG dX12_setCvt_10 l_X12_579 y0X12_pop yvX12_pop rfl (Nat.le_of_ble_eq_true rfl) lay_146 kr_12 (by decide) (Nat.le_of_ble_eq_true rfl) rfl rfl rfl (t_X12_pop hG ⟨rfl, rfl⟩ g6) ?_
    refine sx_istore_n (pc := 13) (lo' := [(2, .int x7), (0, .ref 146), (1, .int l1)]) dX12_setCvt_13 (by decide) rfl ?_
    refine sx_aload_n (pc := 14) dX12_setCvt_14 sx_m1 ?_
    obtain ⟨⟨x10, V8⟩, g9, h⟩ := sx_bnd h
    refine sv_cV (pc := 15) (y := qX12_pop) (o := (some (.int x10))) (as := []) (V1 := V8) hG dX12_setCvt_15 l_X12_579 y0X12_pop yvX12_pop rfl (Nat.le_of_ble_eq_true rfl) lay_146 kr_12 (by decide) (Nat.le_of_ble_eq_true rfl) rfl rfl rfl (t_X12_pop hG ⟨rfl, rfl⟩ g9) ?_
    refine sx_istore_n (pc := 18) (lo' := [(3, .int x10), (2, .int x7), (0, .ref 146), (1, .int l1)]) dX12_setCvt_18 (by decide) rfl ?_
    refine sx_aload_n (pc := 19) dX12_setCvt_19 sx_m2 ?_
    refine sx_iload_n (pc := 20) dX12_setCvt_20 sx_m0 ?_
    obtain ⟨⟨x13, V11⟩, g12, h⟩ := sx_bnd h
    refine sv_cV (pc := 21) (y := qX12_cvtOf) (o := (some (.int x13))) (as := [.int x10]) (V1 := V11) hG dX12_setCvt_21 l_X12_677 y0X12_cvtOf yvX12_cvtOf rfl (Nat.le_of_ble_eq_true rfl) lay_146 kr_12 (by decide) (Nat.le_of_ble_eq_true rfl) rfl rfl rfl (t_X12_cvtOf hG ⟨rfl, rfl⟩ g12) ?_
    refine sx_istore (pc := 24) (lo' := [(4, .int x13), (3, .int x10), (2, .int x7), (0, .ref 146), (1, .int l1)]) dX12_setCvt_24 (by decide) rfl ?_
    refine sx_aload_n (pc := 26) dX12_setCvt_26 sx_m3 ?_
    refine sv_getI (pc := 27) hG dX12_setCvt_27 f_12_409 lay_146 rfl ?_
    refine sx_if_ne (pc := 30) (tgt := 53) dX12_setCvt_30 (by decide) (fun c14 => ?_) (fun c14 => ?_)
    · have h := sx_neg c14 h
      exact sv_vret (pc := 53) dX12_setCvt_53 rfl h hP
    · have h := sx_pos c14 h
      refine sx_aload_n (pc := 33) dX12_setCvt_33 sx_m3 ?_
      refine sv_getA (pc := 34) hG dX12_setCvt_34 f_12_64 lay_146 rfl cr_146_44 ?_
      refine sx_iload_n (pc := 37) dX12_setCvt_37 sx_m1 ?_
      refine sx_iload_n (pc := 38) dX12_setCvt_38 sx_m4 ?_
      refine sx_if_eq (pc := 39) (tgt := 51) dX12_setCvt_39 (by decide) (fun c15 => ?_) (fun c15 => ?_)
      · have h := sx_pos c15 h
        refine sx_iload_n (pc := 51) dX12_setCvt_51 sx_m2 ?_
        obtain ⟨g16, h⟩ := sx_grd h
        obtain ⟨V17, hV17⟩ : ∃ z : sv_V, z = sv_I V11 164 x10.toNatClampNeg x7 := ⟨_, rfl⟩
        have h := sx_letE hV17 h
        refine sv_iast (pc := 52) hG dX12_setCvt_52 lay_164 g16 hV17 ?_
        exact sv_vret (pc := 53) dX12_setCvt_53 rfl h hP
      · have h := sx_neg c15 h
        refine sx_aload_n (pc := 42) dX12_setCvt_42 sx_m3 ?_
        refine sx_iload_n (pc := 43) dX12_setCvt_43 sx_m2 ?_
        refine sx_i2l (pc := 44) dX12_setCvt_44 ?_
        obtain ⟨⟨x20, V18⟩, g19, h⟩ := sx_bnd h
        refine sv_cV (pc := 45) (y := qX12_scaled) (o := (some (.int x20))) (as := [.long x7.toInt64]) (V1 := V18) hG dX12_setCvt_45 l_X12_611 y0X12_scaled yvX12_scaled rfl (Nat.le_of_ble_eq_true rfl) lay_146 kr_12 (by decide) (Nat.le_of_ble_eq_true rfl) rfl rfl rfl (t_X12_scaled hG ⟨rfl, rfl⟩ g19) ?_
        refine sx_goto (pc := 48) (tgt := 52) dX12_setCvt_48 (by decide) ?_
        obtain ⟨g21, h⟩ := sx_grd h
        obtain ⟨V22, hV22⟩ : ∃ z : sv_V, z = sv_I V18 164 x10.toNatClampNeg x20 := ⟨_, rfl⟩
        have h := sx_letE hV22 h
        refine sv_iast (pc := 52) hG dX12_setCvt_52 lay_164 g21 hV22 ?_
        exact sv_vret (pc := 53) dX12_setCvt_53 rfl h hP
  · have h := sx_pos c4 h
    exact sv_vret (pc := 8) dX12_setCvt_8 rfl h hP
theorem dX12_followAll_0 : decode cX12_followAll 0 = .ok (.iconst 0, 1) := by decide +kernel
theorem dX12_followAll_1 : decode cX12_followAll 1 = .ok (.istore 4, 2) := by decide +kernel
theorem dX12_followAll_3 : decode cX12_followAll 3 = .ok (.iconst 0, 1) := by decide +kernel
theorem dX12_followAll_4 : decode cX12_followAll 4 = .ok (.istore 5, 2) := by decide +kernel
theorem dX12_followAll_6 : decode cX12_followAll 6 = .ok (.iload 5, 2) := by decide +kernel
theorem dX12_followAll_8 : decode cX12_followAll 8 = .ok (.aload_n 0, 1) := by decide +kernel
theorem dX12_followAll_9 : decode cX12_followAll 9 = .ok (.getfield 706, 3) := by decide +kernel
theorem dX12_followAll_12 : decode cX12_followAll 12 = .ok (.if_icmp .ge 200, 3) := by decide +kernel
theorem dX12_followAll_15 : decode cX12_followAll 15 = .ok (.aload_n 0, 1) := by decide +kernel
theorem dX12_followAll_16 : decode cX12_followAll 16 = .ok (.getfield 88, 3) := by decide +kernel
theorem dX12_followAll_19 : decode cX12_followAll 19 = .ok (.iload 5, 2) := by decide +kernel
theorem dX12_followAll_21 : decode cX12_followAll 21 = .ok (.iaload, 1) := by decide +kernel
theorem dX12_followAll_22 : decode cX12_followAll 22 = .ok (.istore 6, 2) := by decide +kernel
theorem dX12_followAll_24 : decode cX12_followAll 24 = .ok (.iconst 0, 1) := by decide +kernel
theorem dX12_followAll_25 : decode cX12_followAll 25 = .ok (.istore 7, 2) := by decide +kernel
theorem dX12_followAll_27 : decode cX12_followAll 27 = .ok (.iload 4, 2) := by decide +kernel
theorem dX12_followAll_29 : decode cX12_followAll 29 = .ok (.istore 8, 2) := by decide +kernel
theorem dX12_followAll_31 : decode cX12_followAll 31 = .ok (.iload 8, 2) := by decide +kernel
theorem dX12_followAll_33 : decode cX12_followAll 33 = .ok (.iload 6, 2) := by decide +kernel
theorem dX12_followAll_35 : decode cX12_followAll 35 = .ok (.if_icmp .gt 34, 3) := by decide +kernel
theorem dX12_followAll_38 : decode cX12_followAll 38 = .ok (.iload 7, 2) := by decide +kernel
theorem dX12_followAll_40 : decode cX12_followAll 40 = .ok (.aload_n 0, 1) := by decide +kernel
theorem dX12_followAll_41 : decode cX12_followAll 41 = .ok (.getfield 82, 3) := by decide +kernel
theorem dX12_followAll_44 : decode cX12_followAll 44 = .ok (.bipush 102, 2) := by decide +kernel
theorem dX12_followAll_46 : decode cX12_followAll 46 = .ok (.iload 8, 2) := by decide +kernel
theorem dX12_followAll_48 : decode cX12_followAll 48 = .ok (.iadd, 1) := by decide +kernel
theorem dX12_followAll_49 : decode cX12_followAll 49 = .ok (.iaload, 1) := by decide +kernel
theorem dX12_followAll_50 : decode cX12_followAll 50 = .ok (.iload_n 3, 1) := by decide +kernel
theorem dX12_followAll_51 : decode cX12_followAll 51 = .ok (.iand, 1) := by decide +kernel
theorem dX12_followAll_52 : decode cX12_followAll 52 = .ok (.ifCond .eq 7, 3) := by decide +kernel
theorem dX12_followAll_55 : decode cX12_followAll 55 = .ok (.iconst 1, 1) := by decide +kernel
theorem dX12_followAll_56 : decode cX12_followAll 56 = .ok (.goto 4, 3) := by decide +kernel
theorem dX12_followAll_59 : decode cX12_followAll 59 = .ok (.iconst 0, 1) := by decide +kernel
theorem dX12_followAll_60 : decode cX12_followAll 60 = .ok (.iadd, 1) := by decide +kernel
theorem dX12_followAll_61 : decode cX12_followAll 61 = .ok (.istore 7, 2) := by decide +kernel
theorem dX12_followAll_63 : decode cX12_followAll 63 = .ok (.iinc 8 1, 3) := by decide +kernel
theorem dX12_followAll_66 : decode cX12_followAll 66 = .ok (.goto (-35), 3) := by decide +kernel
theorem dX12_followAll_69 : decode cX12_followAll 69 = .ok (.iload 4, 2) := by decide +kernel
theorem dX12_followAll_71 : decode cX12_followAll 71 = .ok (.istore 8, 2) := by decide +kernel
theorem dX12_followAll_73 : decode cX12_followAll 73 = .ok (.iload 8, 2) := by decide +kernel
theorem dX12_followAll_75 : decode cX12_followAll 75 = .ok (.iload 6, 2) := by decide +kernel
theorem dX12_followAll_77 : decode cX12_followAll 77 = .ok (.if_icmp .gt 123, 3) := by decide +kernel
theorem dX12_followAll_80 : decode cX12_followAll 80 = .ok (.iload 7, 2) := by decide +kernel
theorem dX12_followAll_82 : decode cX12_followAll 82 = .ok (.ifCond .le 118, 3) := by decide +kernel
theorem dX12_followAll_85 : decode cX12_followAll 85 = .ok (.aload_n 0, 1) := by decide +kernel
theorem dX12_followAll_86 : decode cX12_followAll 86 = .ok (.getfield 82, 3) := by decide +kernel
theorem dX12_followAll_89 : decode cX12_followAll 89 = .ok (.bipush 102, 2) := by decide +kernel
theorem dX12_followAll_91 : decode cX12_followAll 91 = .ok (.iload 8, 2) := by decide +kernel
theorem dX12_followAll_93 : decode cX12_followAll 93 = .ok (.iadd, 1) := by decide +kernel
theorem dX12_followAll_94 : decode cX12_followAll 94 = .ok (.iaload, 1) := by decide +kernel
theorem dX12_followAll_95 : decode cX12_followAll 95 = .ok (.iload_n 3, 1) := by decide +kernel
theorem dX12_followAll_96 : decode cX12_followAll 96 = .ok (.iand, 1) := by decide +kernel
theorem dX12_followAll_97 : decode cX12_followAll 97 = .ok (.ifCond .ne 97, 3) := by decide +kernel
theorem dX12_followAll_100 : decode cX12_followAll 100 = .ok (.iload 8, 2) := by decide +kernel
theorem dX12_followAll_102 : decode cX12_followAll 102 = .ok (.istore 9, 2) := by decide +kernel
theorem dX12_followAll_104 : decode cX12_followAll 104 = .ok (.iload 8, 2) := by decide +kernel
theorem dX12_followAll_106 : decode cX12_followAll 106 = .ok (.istore 10, 2) := by decide +kernel
theorem dX12_followAll_108 : decode cX12_followAll 108 = .ok (.iload 9, 2) := by decide +kernel
theorem dX12_followAll_110 : decode cX12_followAll 110 = .ok (.iload 4, 2) := by decide +kernel
theorem dX12_followAll_112 : decode cX12_followAll 112 = .ok (.if_icmp .ne 8, 3) := by decide +kernel
theorem dX12_followAll_115 : decode cX12_followAll 115 = .ok (.iload 6, 2) := by decide +kernel
theorem dX12_followAll_117 : decode cX12_followAll 117 = .ok (.goto 7, 3) := by decide +kernel
theorem dX12_followAll_120 : decode cX12_followAll 120 = .ok (.iload 9, 2) := by decide +kernel
theorem dX12_followAll_122 : decode cX12_followAll 122 = .ok (.iconst 1, 1) := by decide +kernel
theorem dX12_followAll_123 : decode cX12_followAll 123 = .ok (.isub, 1) := by decide +kernel
theorem dX12_followAll_124 : decode cX12_followAll 124 = .ok (.istore 9, 2) := by decide +kernel
theorem dX12_followAll_126 : decode cX12_followAll 126 = .ok (.aload_n 0, 1) := by decide +kernel
theorem dX12_followAll_127 : decode cX12_followAll 127 = .ok (.getfield 82, 3) := by decide +kernel
theorem dX12_followAll_130 : decode cX12_followAll 130 = .ok (.bipush 102, 2) := by decide +kernel
theorem dX12_followAll_132 : decode cX12_followAll 132 = .ok (.iload 9, 2) := by decide +kernel
theorem dX12_followAll_134 : decode cX12_followAll 134 = .ok (.iadd, 1) := by decide +kernel
theorem dX12_followAll_135 : decode cX12_followAll 135 = .ok (.iaload, 1) := by decide +kernel
theorem dX12_followAll_136 : decode cX12_followAll 136 = .ok (.iload_n 3, 1) := by decide +kernel
theorem dX12_followAll_137 : decode cX12_followAll 137 = .ok (.iand, 1) := by decide +kernel
theorem dX12_followAll_138 : decode cX12_followAll 138 = .ok (.ifCond .eq (-30), 3) := by decide +kernel
theorem dX12_followAll_141 : decode cX12_followAll 141 = .ok (.iload 10, 2) := by decide +kernel
theorem dX12_followAll_143 : decode cX12_followAll 143 = .ok (.iload 6, 2) := by decide +kernel
theorem dX12_followAll_145 : decode cX12_followAll 145 = .ok (.if_icmp .ne 8, 3) := by decide +kernel
theorem dX12_followAll_148 : decode cX12_followAll 148 = .ok (.iload 4, 2) := by decide +kernel
theorem dX12_followAll_150 : decode cX12_followAll 150 = .ok (.goto 7, 3) := by decide +kernel
theorem dX12_followAll_153 : decode cX12_followAll 153 = .ok (.iload 10, 2) := by decide +kernel
theorem dX12_followAll_155 : decode cX12_followAll 155 = .ok (.iconst 1, 1) := by decide +kernel
theorem dX12_followAll_156 : decode cX12_followAll 156 = .ok (.iadd, 1) := by decide +kernel
theorem dX12_followAll_157 : decode cX12_followAll 157 = .ok (.istore 10, 2) := by decide +kernel
theorem dX12_followAll_159 : decode cX12_followAll 159 = .ok (.aload_n 0, 1) := by decide +kernel
theorem dX12_followAll_160 : decode cX12_followAll 160 = .ok (.getfield 82, 3) := by decide +kernel
theorem dX12_followAll_163 : decode cX12_followAll 163 = .ok (.bipush 102, 2) := by decide +kernel
theorem dX12_followAll_165 : decode cX12_followAll 165 = .ok (.iload 10, 2) := by decide +kernel
theorem dX12_followAll_167 : decode cX12_followAll 167 = .ok (.iadd, 1) := by decide +kernel
theorem dX12_followAll_168 : decode cX12_followAll 168 = .ok (.iaload, 1) := by decide +kernel
theorem dX12_followAll_169 : decode cX12_followAll 169 = .ok (.iload_n 3, 1) := by decide +kernel
theorem dX12_followAll_170 : decode cX12_followAll 170 = .ok (.iand, 1) := by decide +kernel
theorem dX12_followAll_171 : decode cX12_followAll 171 = .ok (.ifCond .eq (-30), 3) := by decide +kernel
theorem dX12_followAll_174 : decode cX12_followAll 174 = .ok (.aload_n 1, 1) := by decide +kernel
theorem dX12_followAll_175 : decode cX12_followAll 175 = .ok (.aload_n 2, 1) := by decide +kernel
theorem dX12_followAll_176 : decode cX12_followAll 176 = .ok (.bipush 102, 2) := by decide +kernel
theorem dX12_followAll_178 : decode cX12_followAll 178 = .ok (.iload 8, 2) := by decide +kernel
theorem dX12_followAll_180 : decode cX12_followAll 180 = .ok (.iadd, 1) := by decide +kernel
theorem dX12_followAll_181 : decode cX12_followAll 181 = .ok (.bipush 102, 2) := by decide +kernel
theorem dX12_followAll_183 : decode cX12_followAll 183 = .ok (.iload 9, 2) := by decide +kernel
theorem dX12_followAll_185 : decode cX12_followAll 185 = .ok (.iadd, 1) := by decide +kernel
theorem dX12_followAll_186 : decode cX12_followAll 186 = .ok (.bipush 102, 2) := by decide +kernel
theorem dX12_followAll_188 : decode cX12_followAll 188 = .ok (.iload 10, 2) := by decide +kernel
theorem dX12_followAll_190 : decode cX12_followAll 190 = .ok (.iadd, 1) := by decide +kernel
theorem dX12_followAll_191 : decode cX12_followAll 191 = .ok (.invokestatic 709, 3) := by decide +kernel
theorem dX12_followAll_194 : decode cX12_followAll 194 = .ok (.iinc 8 1, 3) := by decide +kernel
theorem dX12_followAll_197 : decode cX12_followAll 197 = .ok (.goto (-124), 3) := by decide +kernel
theorem dX12_followAll_200 : decode cX12_followAll 200 = .ok (.iload 6, 2) := by decide +kernel
theorem dX12_followAll_202 : decode cX12_followAll 202 = .ok (.iconst 1, 1) := by decide +kernel
theorem dX12_followAll_203 : decode cX12_followAll 203 = .ok (.iadd, 1) := by decide +kernel
theorem dX12_followAll_204 : decode cX12_followAll 204 = .ok (.istore 4, 2) := by decide +kernel
theorem dX12_followAll_206 : decode cX12_followAll 206 = .ok (.iinc 5 1, 3) := by decide +kernel
theorem dX12_followAll_209 : decode cX12_followAll 209 = .ok (.goto (-203), 3) := by decide +kernel
theorem dX12_followAll_212 : decode cX12_followAll 212 = .ok (.return_, 1) := by decide +kernel
def B_X12_followAll_60 (N : Nat) (k6 : Nat → Nat → Int32 → Int32 → Int32 → sv_V → Option sv_V) (k31 : Nat → Nat → Int32 → Int32 → Int32 → Int32 → Int32 → Int32 → sv_V → Option sv_V) (l1 : Nat) (l2 : Nat) (l3 : Int32) (l4 : Int32) (l5 : Int32) (l6 : Int32) (l8 : Int32) (s0 : Int32) (s1 : Int32) (V : sv_V) : Option sv_V := sx_let (s0 + s1) (fun x1 => sx_let (l8 + 1) (fun x2 => k31 l1 l2 l3 l4 l5 l6 x1 x2 V))
set_option maxRecDepth 20000 in
theorem tB_X12_followAll_60 {g : sx_G} (hG : sx_Go g) {P : Option Value → sv_V → Prop} {Vr : sv_V} (hP : P none Vr) {N : Nat} {k6 : Nat → Nat → Int32 → Int32 → Int32 → sv_V → Option sv_V} {k31 : Nat → Nat → Int32 → Int32 → Int32 → Int32 → Int32 → Int32 → sv_V → Option sv_V} (hk6 : ∀ (l1 : Nat) (l2 : Nat) (l3 : Int32) (l4 : Int32) (l5 : Int32) (V : sv_V), k6 l1 l2 l3 l4 l5 V = some Vr → sv_N g qX12_followAll 3 6 [(0, .ref 146), (1, .ref l1), (2, .ref l2), (3, .int l3), (4, .int l4), (5, .int l5)] [] V P) (hk31 : ∀ (l1 : Nat) (l2 : Nat) (l3 : Int32) (l4 : Int32) (l5 : Int32) (l6 : Int32) (l7 : Int32) (l8 : Int32) (V : sv_V), k31 l1 l2 l3 l4 l5 l6 l7 l8 V = some Vr → sv_N g qX12_followAll 3 31 [(0, .ref 146), (1, .ref l1), (2, .ref l2), (3, .int l3), (4, .int l4), (5, .int l5), (6, .int l6), (7, .int l7), (8, .int l8)] [] V P) {l1 : Nat} {l2 : Nat} {l3 : Int32} {l4 : Int32} {l5 : Int32} {l6 : Int32} {l8 : Int32} {s0 : Int32} {s1 : Int32} {V : sv_V} (h : B_X12_followAll_60 N k6 k31 l1 l2 l3 l4 l5 l6 l8 s0 s1 V = some Vr) : sv_N g qX12_followAll 3 60 [(0, .ref 146), (1, .ref l1), (2, .ref l2), (3, .int l3), (4, .int l4), (5, .int l5), (6, .int l6), (8, .int l8)] [.int s1, .int s0] V P := by
  unfold B_X12_followAll_60 at h
  refine sx_iadd (pc := 60) dX12_followAll_60 ?_
  refine sv_tI (fun x1 hx1 => ?_)
  have h := sx_letE hx1 h
  refine sx_istore (pc := 61) (lo' := [(7, .int x1), (0, .ref 146), (1, .ref l1), (2, .ref l2), (3, .int l3), (4, .int l4), (5, .int l5), (6, .int l6), (8, .int l8)]) dX12_followAll_61 (by decide) rfl ?_
  obtain ⟨x2, hx2⟩ : ∃ z : Int32, z = l8 + 1 := ⟨_, rfl⟩
  have h := sx_letE hx2 h
  refine sx_iinc (pc := 63) (v := x2) (lo' := [(8, .int x2), (7, .int x1), (0, .ref 146), (1, .ref l1), (2, .ref l2), (3, .int l3), (4, .int l4), (5, .int l5), (6, .int l6)]) dX12_followAll_63 sx_m8 (by rw [hx2]; rfl) (by decide) rfl ?_
  refine sx_goto (pc := 66) (tgt := 31) dX12_followAll_66 (by decide) ?_
  refine sx_wk (sx_s1 sx_m2 (sx_s1 sx_m3 (sx_s1 sx_m4 (sx_s1 sx_m5 (sx_s1 sx_m6 (sx_s1 sx_m7 (sx_s1 sx_m8 (sx_s1 sx_m1 (sx_s1 sx_m0 sx_s0))))))))) ?_
  exact hk31 _ _ _ _ _ _ _ _ _ h
def B_X12_followAll_194 (N : Nat) (k6 : Nat → Nat → Int32 → Int32 → Int32 → sv_V → Option sv_V) (k73 : Nat → Nat → Int32 → Int32 → Int32 → Int32 → Int32 → Int32 → sv_V → Option sv_V) (l1 : Nat) (l2 : Nat) (l3 : Int32) (l4 : Int32) (l5 : Int32) (l6 : Int32) (l7 : Int32) (l8 : Int32) (V : sv_V) : Option sv_V := sx_let (l8 + 1) (fun x3 => k73 l1 l2 l3 l4 l5 l6 l7 x3 V)
set_option maxRecDepth 20000 in
theorem tB_X12_followAll_194 {g : sx_G} (hG : sx_Go g) {P : Option Value → sv_V → Prop} {Vr : sv_V} (hP : P none Vr) {N : Nat} {k6 : Nat → Nat → Int32 → Int32 → Int32 → sv_V → Option sv_V} {k73 : Nat → Nat → Int32 → Int32 → Int32 → Int32 → Int32 → Int32 → sv_V → Option sv_V} (hk6 : ∀ (l1 : Nat) (l2 : Nat) (l3 : Int32) (l4 : Int32) (l5 : Int32) (V : sv_V), k6 l1 l2 l3 l4 l5 V = some Vr → sv_N g qX12_followAll 3 6 [(0, .ref 146), (1, .ref l1), (2, .ref l2), (3, .int l3), (4, .int l4), (5, .int l5)] [] V P) (hk73 : ∀ (l1 : Nat) (l2 : Nat) (l3 : Int32) (l4 : Int32) (l5 : Int32) (l6 : Int32) (l7 : Int32) (l8 : Int32) (V : sv_V), k73 l1 l2 l3 l4 l5 l6 l7 l8 V = some Vr → sv_N g qX12_followAll 3 73 [(0, .ref 146), (1, .ref l1), (2, .ref l2), (3, .int l3), (4, .int l4), (5, .int l5), (6, .int l6), (7, .int l7), (8, .int l8)] [] V P) {l1 : Nat} {l2 : Nat} {l3 : Int32} {l4 : Int32} {l5 : Int32} {l6 : Int32} {l7 : Int32} {l8 : Int32} {V : sv_V} (h : B_X12_followAll_194 N k6 k73 l1 l2 l3 l4 l5 l6 l7 l8 V = some Vr) : sv_N g qX12_followAll 3 194 [(0, .ref 146), (1, .ref l1), (2, .ref l2), (3, .int l3), (4, .int l4), (5, .int l5), (6, .int l6), (7, .int l7), (8, .int l8)] [] V P := by
  unfold B_X12_followAll_194 at h
  obtain ⟨x3, hx3⟩ : ∃ z : Int32, z = l8 + 1 := ⟨_, rfl⟩
  have h := sx_letE hx3 h
  refine sx_iinc (pc := 194) (v := x3) (lo' := [(8, .int x3), (0, .ref 146), (1, .ref l1), (2, .ref l2), (3, .int l3), (4, .int l4), (5, .int l5), (6, .int l6), (7, .int l7)]) dX12_followAll_194 sx_m8 (by rw [hx3]; rfl) (by decide) rfl ?_
  refine sx_goto (pc := 197) (tgt := 73) dX12_followAll_197 (by decide) ?_
  refine sx_wk (sx_s1 sx_m1 (sx_s1 sx_m2 (sx_s1 sx_m3 (sx_s1 sx_m4 (sx_s1 sx_m5 (sx_s1 sx_m6 (sx_s1 sx_m7 (sx_s1 sx_m8 (sx_s1 sx_m0 sx_s0))))))))) ?_
  exact hk73 _ _ _ _ _ _ _ _ _ h
def B_X12_followAll_157 (N : Nat) (k6 : Nat → Nat → Int32 → Int32 → Int32 → sv_V → Option sv_V) (k73 : Nat → Nat → Int32 → Int32 → Int32 → Int32 → Int32 → Int32 → sv_V → Option sv_V) (k141 : Nat → Nat → Int32 → Int32 → Int32 → Int32 → Int32 → Int32 → Int32 → Int32 → sv_V → Option sv_V) (l1 : Nat) (l2 : Nat) (l3 : Int32) (l4 : Int32) (l5 : Int32) (l6 : Int32) (l7 : Int32) (l8 : Int32) (l9 : Int32) (s0 : Int32) (V : sv_V) : Option sv_V := if sx_in ((102 : Int32) + s0) 204 = true then if ((V.1 170 ((102 : Int32) + s0).toNatClampNeg) &&& l3) = 0 then (k141 l1 l2 l3 l4 l5 l6 l7 l8 l9 s0 V) else ((F_X12_follow l1 l2 ((102 : Int32) + l8) ((102 : Int32) + l9) ((102 : Int32) + s0) V).bind (fun V6 => B_X12_followAll_194 N k6 k73 l1 l2 l3 l4 l5 l6 l7 l8 V6)) else none
set_option maxRecDepth 20000 in
theorem tB_X12_followAll_157 {g : sx_G} (hG : sx_Go g) {P : Option Value → sv_V → Prop} {Vr : sv_V} (hP : P none Vr) {N : Nat} {k6 : Nat → Nat → Int32 → Int32 → Int32 → sv_V → Option sv_V} {k73 : Nat → Nat → Int32 → Int32 → Int32 → Int32 → Int32 → Int32 → sv_V → Option sv_V} {k141 : Nat → Nat → Int32 → Int32 → Int32 → Int32 → Int32 → Int32 → Int32 → Int32 → sv_V → Option sv_V} (hk6 : ∀ (l1 : Nat) (l2 : Nat) (l3 : Int32) (l4 : Int32) (l5 : Int32) (V : sv_V), k6 l1 l2 l3 l4 l5 V = some Vr → sv_N g qX12_followAll 3 6 [(0, .ref 146), (1, .ref l1), (2, .ref l2), (3, .int l3), (4, .int l4), (5, .int l5)] [] V P) (hk73 : ∀ (l1 : Nat) (l2 : Nat) (l3 : Int32) (l4 : Int32) (l5 : Int32) (l6 : Int32) (l7 : Int32) (l8 : Int32) (V : sv_V), k73 l1 l2 l3 l4 l5 l6 l7 l8 V = some Vr → sv_N g qX12_followAll 3 73 [(0, .ref 146), (1, .ref l1), (2, .ref l2), (3, .int l3), (4, .int l4), (5, .int l5), (6, .int l6), (7, .int l7), (8, .int l8)] [] V P) (hk141 : ∀ (l1 : Nat) (l2 : Nat) (l3 : Int32) (l4 : Int32) (l5 : Int32) (l6 : Int32) (l7 : Int32) (l8 : Int32) (l9 : Int32) (l10 : Int32) (V : sv_V), k141 l1 l2 l3 l4 l5 l6 l7 l8 l9 l10 V = some Vr → sv_N g qX12_followAll 3 141 [(0, .ref 146), (1, .ref l1), (2, .ref l2), (3, .int l3), (4, .int l4), (5, .int l5), (6, .int l6), (7, .int l7), (8, .int l8), (9, .int l9), (10, .int l10)] [] V P) {l1 : Nat} {l2 : Nat} {l3 : Int32} {l4 : Int32} {l5 : Int32} {l6 : Int32} {l7 : Int32} {l8 : Int32} {l9 : Int32} {s0 : Int32} {V : sv_V} (h : B_X12_followAll_157 N k6 k73 k141 l1 l2 l3 l4 l5 l6 l7 l8 l9 s0 V = some Vr) : sv_N g qX12_followAll 3 157 [(0, .ref 146), (1, .ref l1), (2, .ref l2), (3, .int l3), (4, .int l4), (5, .int l5), (6, .int l6), (7, .int l7), (8, .int l8), (9, .int l9)] [.int s0] V P := by
  unfold B_X12_followAll_157 at h
  refine sx_istore (pc := 157) (lo' := [(10, .int s0), (0, .ref 146), (1, .ref l1), (2, .ref l2), (3, .int l3), (4, .int l4), (5, .int l5), (6, .int l6), (7, .int l7), (8, .int l8), (9, .int l9)]) dX12_followAll_157 (by decide) rfl ?_
  refine sx_aload_n (pc := 159) dX12_followAll_159 sx_m1 ?_
  refine sv_getA (pc := 160) hG dX12_followAll_160 f_12_82 lay_146 rfl cr_146_50 ?_
  refine sx_bipush (pc := 163) (v := 102) dX12_followAll_163 (by decide) ?_
  refine sx_iload (pc := 165) dX12_followAll_165 sx_m0 ?_
  refine sx_iadd (pc := 167) dX12_followAll_167 ?_
  obtain ⟨g4, h⟩ := sx_grd h
  refine sv_iald (pc := 168) hG dX12_followAll_168 lay_170 g4 ?_
  refine sx_iload_n (pc := 169) dX12_followAll_169 sx_m4 ?_
  refine sx_iand (pc := 170) dX12_followAll_170 ?_
  refine sx_if_eq (pc := 171) (tgt := 141) dX12_followAll_171 (by decide) (fun c5 => ?_) (fun c5 => ?_)
  · have h := sx_pos c5 h
    refine sx_wk (sx_s1 sx_m1 (sx_s1 sx_m2 (sx_s1 sx_m3 (sx_s1 sx_m4 (sx_s1 sx_m5 (sx_s1 sx_m6 (sx_s1 sx_m7 (sx_s1 sx_m8 (sx_s1 sx_m9 (sx_s1 sx_m10 (sx_s1 sx_m0 sx_s0))))))))))) ?_
    exact hk141 _ _ _ _ _ _ _ _ _ _ _ h
  · have h := sx_neg c5 h
    refine sx_aload_n (pc := 174) dX12_followAll_174 sx_m2 ?_
    refine sx_aload_n (pc := 175) dX12_followAll_175 sx_m3 ?_
    refine sx_bipush (pc := 176) (v := 102) dX12_followAll_176 (by decide) ?_
    refine sx_iload (pc := 178) dX12_followAll_178 sx_m9 ?_
    refine sx_iadd (pc := 180) dX12_followAll_180 ?_
    refine sx_bipush (pc := 181) (v := 102) dX12_followAll_181 (by decide) ?_
    refine sx_iload (pc := 183) dX12_followAll_183 sx_m10 ?_
    refine sx_iadd (pc := 185) dX12_followAll_185 ?_
    refine sx_bipush (pc := 186) (v := 102) dX12_followAll_186 (by decide) ?_
    refine sx_iload (pc := 188) dX12_followAll_188 sx_m0 ?_
    refine sx_iadd (pc := 190) dX12_followAll_190 ?_
    obtain ⟨V6, g7, h⟩ := sx_bnd h
    refine sv_cS (pc := 191) (y := qX12_follow) (o := none) (as := [.ref l1, .ref l2, .int ((102 : Int32) + l8), .int ((102 : Int32) + l9), .int ((102 : Int32) + s0)]) (V1 := V6) dX12_followAll_191 l_X12_709 y0X12_follow ysX12_follow rfl (Nat.le_of_ble_eq_true rfl) (by decide) (Nat.le_of_ble_eq_true rfl) rfl rfl rfl (t_X12_follow hG ⟨rfl, rfl⟩ g7) ?_
    refine sx_wk (sx_s1 sx_m1 (sx_s1 sx_m2 (sx_s1 sx_m3 (sx_s1 sx_m4 (sx_s1 sx_m5 (sx_s1 sx_m6 (sx_s1 sx_m7 (sx_s1 sx_m8 (sx_s1 sx_m9 sx_s0))))))))) ?_
    exact tB_X12_followAll_194 hG hP hk6 hk73 h
def B_X12_followAll_141 (N : Nat) (k6 : Nat → Nat → Int32 → Int32 → Int32 → sv_V → Option sv_V) (k73 : Nat → Nat → Int32 → Int32 → Int32 → Int32 → Int32 → Int32 → sv_V → Option sv_V) (k141 : Nat → Nat → Int32 → Int32 → Int32 → Int32 → Int32 → Int32 → Int32 → Int32 → sv_V → Option sv_V) (l1 : Nat) (l2 : Nat) (l3 : Int32) (l4 : Int32) (l5 : Int32) (l6 : Int32) (l7 : Int32) (l8 : Int32) (l9 : Int32) (l10 : Int32) (V : sv_V) : Option sv_V := if l10 = l6 then (B_X12_followAll_157 N k6 k73 k141 l1 l2 l3 l4 l5 l6 l7 l8 l9 l4 V) else (B_X12_followAll_157 N k6 k73 k141 l1 l2 l3 l4 l5 l6 l7 l8 l9 (l10 + (1 : Int32)) V)
set_option maxRecDepth 20000 in
theorem tB_X12_followAll_141 {g : sx_G} (hG : sx_Go g) {P : Option Value → sv_V → Prop} {Vr : sv_V} (hP : P none Vr) {N : Nat} {k6 : Nat → Nat → Int32 → Int32 → Int32 → sv_V → Option sv_V} {k73 : Nat → Nat → Int32 → Int32 → Int32 → Int32 → Int32 → Int32 → sv_V → Option sv_V} {k141 : Nat → Nat → Int32 → Int32 → Int32 → Int32 → Int32 → Int32 → Int32 → Int32 → sv_V → Option sv_V} (hk6 : ∀ (l1 : Nat) (l2 : Nat) (l3 : Int32) (l4 : Int32) (l5 : Int32) (V : sv_V), k6 l1 l2 l3 l4 l5 V = some Vr → sv_N g qX12_followAll 3 6 [(0, .ref 146), (1, .ref l1), (2, .ref l2), (3, .int l3), (4, .int l4), (5, .int l5)] [] V P) (hk73 : ∀ (l1 : Nat) (l2 : Nat) (l3 : Int32) (l4 : Int32) (l5 : Int32) (l6 : Int32) (l7 : Int32) (l8 : Int32) (V : sv_V), k73 l1 l2 l3 l4 l5 l6 l7 l8 V = some Vr → sv_N g qX12_followAll 3 73 [(0, .ref 146), (1, .ref l1), (2, .ref l2), (3, .int l3), (4, .int l4), (5, .int l5), (6, .int l6), (7, .int l7), (8, .int l8)] [] V P) (hk141 : ∀ (l1 : Nat) (l2 : Nat) (l3 : Int32) (l4 : Int32) (l5 : Int32) (l6 : Int32) (l7 : Int32) (l8 : Int32) (l9 : Int32) (l10 : Int32) (V : sv_V), k141 l1 l2 l3 l4 l5 l6 l7 l8 l9 l10 V = some Vr → sv_N g qX12_followAll 3 141 [(0, .ref 146), (1, .ref l1), (2, .ref l2), (3, .int l3), (4, .int l4), (5, .int l5), (6, .int l6), (7, .int l7), (8, .int l8), (9, .int l9), (10, .int l10)] [] V P) {l1 : Nat} {l2 : Nat} {l3 : Int32} {l4 : Int32} {l5 : Int32} {l6 : Int32} {l7 : Int32} {l8 : Int32} {l9 : Int32} {l10 : Int32} {V : sv_V} (h : B_X12_followAll_141 N k6 k73 k141 l1 l2 l3 l4 l5 l6 l7 l8 l9 l10 V = some Vr) : sv_N g qX12_followAll 3 141 [(0, .ref 146), (1, .ref l1), (2, .ref l2), (3, .int l3), (4, .int l4), (5, .int l5), (6, .int l6), (7, .int l7), (8, .int l8), (9, .int l9), (10, .int l10)] [] V P := by
  unfold B_X12_followAll_141 at h
  refine sx_iload (pc := 141) dX12_followAll_141 sx_m10 ?_
  refine sx_iload (pc := 143) dX12_followAll_143 sx_m6 ?_
  refine sx_icmp_ne (pc := 145) (tgt := 153) dX12_followAll_145 (by decide) (fun c8 => ?_) (fun c8 => ?_)
  · have h := sx_neg c8 h
    refine sx_iload (pc := 153) dX12_followAll_153 sx_m10 ?_
    refine sx_iconst (pc := 155) (v := 1) dX12_followAll_155 (by decide) ?_
    refine sx_iadd (pc := 156) dX12_followAll_156 ?_
    refine sx_wk (sx_s1 sx_m0 (sx_s1 sx_m1 (sx_s1 sx_m2 (sx_s1 sx_m3 (sx_s1 sx_m4 (sx_s1 sx_m5 (sx_s1 sx_m6 (sx_s1 sx_m7 (sx_s1 sx_m8 (sx_s1 sx_m9 sx_s0)))))))))) ?_
    exact tB_X12_followAll_157 hG hP hk6 hk73 hk141 h
  · have h := sx_pos c8 h
    refine sx_iload (pc := 148) dX12_followAll_148 sx_m4 ?_
    refine sx_goto (pc := 150) (tgt := 157) dX12_followAll_150 (by decide) ?_
    refine sx_wk (sx_s1 sx_m0 (sx_s1 sx_m1 (sx_s1 sx_m2 (sx_s1 sx_m3 (sx_s1 sx_m4 (sx_s1 sx_m5 (sx_s1 sx_m6 (sx_s1 sx_m7 (sx_s1 sx_m8 (sx_s1 sx_m9 sx_s0)))))))))) ?_
    exact tB_X12_followAll_157 hG hP hk6 hk73 hk141 h
theorem tL_X12_followAll_141 {g : sx_G} (hG : sx_Go g) {P : Option Value → sv_V → Prop} {Vr : sv_V} (hP : P none Vr) {N : Nat} {k6 : Nat → Nat → Int32 → Int32 → Int32 → sv_V → Option sv_V} {k73 : Nat → Nat → Int32 → Int32 → Int32 → Int32 → Int32 → Int32 → sv_V → Option sv_V} (hk6 : ∀ (l1 : Nat) (l2 : Nat) (l3 : Int32) (l4 : Int32) (l5 : Int32) (V : sv_V), k6 l1 l2 l3 l4 l5 V = some Vr → sv_N g qX12_followAll 3 6 [(0, .ref 146), (1, .ref l1), (2, .ref l2), (3, .int l3), (4, .int l4), (5, .int l5)] [] V P) (hk73 : ∀ (l1 : Nat) (l2 : Nat) (l3 : Int32) (l4 : Int32) (l5 : Int32) (l6 : Int32) (l7 : Int32) (l8 : Int32) (V : sv_V), k73 l1 l2 l3 l4 l5 l6 l7 l8 V = some Vr → sv_N g qX12_followAll 3 73 [(0, .ref 146), (1, .ref l1), (2, .ref l2), (3, .int l3), (4, .int l4), (5, .int l5), (6, .int l6), (7, .int l7), (8, .int l8)] [] V P) : ∀ (n : Nat) (l1 : Nat) (l2 : Nat) (l3 : Int32) (l4 : Int32) (l5 : Int32) (l6 : Int32) (l7 : Int32) (l8 : Int32) (l9 : Int32) (l10 : Int32) (V : sv_V), sx_lp11 (B_X12_followAll_141 N k6 k73) n l1 l2 l3 l4 l5 l6 l7 l8 l9 l10 V = some Vr → sv_N g qX12_followAll 3 141 [(0, .ref 146), (1, .ref l1), (2, .ref l2), (3, .int l3), (4, .int l4), (5, .int l5), (6, .int l6), (7, .int l7), (8, .int l8), (9, .int l9), (10, .int l10)] [] V P :=
  sx_lp11_ind (fun k0 ih _ _ _ _ _ _ _ _ _ _ V h => tB_X12_followAll_141 hG hP hk6 hk73 ih h)
def B_X12_followAll_124 (N : Nat) (k6 : Nat → Nat → Int32 → Int32 → Int32 → sv_V → Option sv_V) (k73 : Nat → Nat → Int32 → Int32 → Int32 → Int32 → Int32 → Int32 → sv_V → Option sv_V) (k108 : Nat → Nat → Int32 → Int32 → Int32 → Int32 → Int32 → Int32 → Int32 → Int32 → sv_V → Option sv_V) (l1 : Nat) (l2 : Nat) (l3 : Int32) (l4 : Int32) (l5 : Int32) (l6 : Int32) (l7 : Int32) (l8 : Int32) (l10 : Int32) (s0 : Int32) (V : sv_V) : Option sv_V := if sx_in ((102 : Int32) + s0) 204 = true then if ((V.1 170 ((102 : Int32) + s0).toNatClampNeg) &&& l3) = 0 then (k108 l1 l2 l3 l4 l5 l6 l7 l8 s0 l10 V) else (sx_lp11 (B_X12_followAll_141 N k6 k73) N l1 l2 l3 l4 l5 l6 l7 l8 s0 l10 V) else none
set_option maxRecDepth 20000 in
theorem tB_X12_followAll_124 {g : sx_G} (hG : sx_Go g) {P : Option Value → sv_V → Prop} {Vr : sv_V} (hP : P none Vr) {N : Nat} {k6 : Nat → Nat → Int32 → Int32 → Int32 → sv_V → Option sv_V} {k73 : Nat → Nat → Int32 → Int32 → Int32 → Int32 → Int32 → Int32 → sv_V → Option sv_V} {k108 : Nat → Nat → Int32 → Int32 → Int32 → Int32 → Int32 → Int32 → Int32 → Int32 → sv_V → Option sv_V} (hk6 : ∀ (l1 : Nat) (l2 : Nat) (l3 : Int32) (l4 : Int32) (l5 : Int32) (V : sv_V), k6 l1 l2 l3 l4 l5 V = some Vr → sv_N g qX12_followAll 3 6 [(0, .ref 146), (1, .ref l1), (2, .ref l2), (3, .int l3), (4, .int l4), (5, .int l5)] [] V P) (hk73 : ∀ (l1 : Nat) (l2 : Nat) (l3 : Int32) (l4 : Int32) (l5 : Int32) (l6 : Int32) (l7 : Int32) (l8 : Int32) (V : sv_V), k73 l1 l2 l3 l4 l5 l6 l7 l8 V = some Vr → sv_N g qX12_followAll 3 73 [(0, .ref 146), (1, .ref l1), (2, .ref l2), (3, .int l3), (4, .int l4), (5, .int l5), (6, .int l6), (7, .int l7), (8, .int l8)] [] V P) (hk108 : ∀ (l1 : Nat) (l2 : Nat) (l3 : Int32) (l4 : Int32) (l5 : Int32) (l6 : Int32) (l7 : Int32) (l8 : Int32) (l9 : Int32) (l10 : Int32) (V : sv_V), k108 l1 l2 l3 l4 l5 l6 l7 l8 l9 l10 V = some Vr → sv_N g qX12_followAll 3 108 [(0, .ref 146), (1, .ref l1), (2, .ref l2), (3, .int l3), (4, .int l4), (5, .int l5), (6, .int l6), (7, .int l7), (8, .int l8), (9, .int l9), (10, .int l10)] [] V P) {l1 : Nat} {l2 : Nat} {l3 : Int32} {l4 : Int32} {l5 : Int32} {l6 : Int32} {l7 : Int32} {l8 : Int32} {l10 : Int32} {s0 : Int32} {V : sv_V} (h : B_X12_followAll_124 N k6 k73 k108 l1 l2 l3 l4 l5 l6 l7 l8 l10 s0 V = some Vr) : sv_N g qX12_followAll 3 124 [(0, .ref 146), (1, .ref l1), (2, .ref l2), (3, .int l3), (4, .int l4), (5, .int l5), (6, .int l6), (7, .int l7), (8, .int l8), (10, .int l10)] [.int s0] V P := by
  unfold B_X12_followAll_124 at h
  refine sx_istore (pc := 124) (lo' := [(9, .int s0), (0, .ref 146), (1, .ref l1), (2, .ref l2), (3, .int l3), (4, .int l4), (5, .int l5), (6, .int l6), (7, .int l7), (8, .int l8), (10, .int l10)]) dX12_followAll_124 (by decide) rfl ?_
  refine sx_aload_n (pc := 126) dX12_followAll_126 sx_m1 ?_
  refine sv_getA (pc := 127) hG dX12_followAll_127 f_12_82 lay_146 rfl cr_146_50 ?_
  refine sx_bipush (pc := 130) (v := 102) dX12_followAll_130 (by decide) ?_
  refine sx_iload (pc := 132) dX12_followAll_132 sx_m0 ?_
  refine sx_iadd (pc := 134) dX12_followAll_134 ?_
  obtain ⟨g9, h⟩ := sx_grd h
  refine sv_iald (pc := 135) hG dX12_followAll_135 lay_170 g9 ?_
  refine sx_iload_n (pc := 136) dX12_followAll_136 sx_m4 ?_
  refine sx_iand (pc := 137) dX12_followAll_137 ?_
  refine sx_if_eq (pc := 138) (tgt := 108) dX12_followAll_138 (by decide) (fun c10 => ?_) (fun c10 => ?_)
  · have h := sx_pos c10 h
    refine sx_wk (sx_s1 sx_m1 (sx_s1 sx_m2 (sx_s1 sx_m3 (sx_s1 sx_m4 (sx_s1 sx_m5 (sx_s1 sx_m6 (sx_s1 sx_m7 (sx_s1 sx_m8 (sx_s1 sx_m9 (sx_s1 sx_m0 (sx_s1 sx_m10 sx_s0))))))))))) ?_
    exact hk108 _ _ _ _ _ _ _ _ _ _ _ h
  · have h := sx_neg c10 h
    refine sx_wk (sx_s1 sx_m1 (sx_s1 sx_m2 (sx_s1 sx_m3 (sx_s1 sx_m4 (sx_s1 sx_m5 (sx_s1 sx_m6 (sx_s1 sx_m7 (sx_s1 sx_m8 (sx_s1 sx_m9 (sx_s1 sx_m0 (sx_s1 sx_m10 sx_s0))))))))))) ?_
    exact tL_X12_followAll_141 hG hP hk6 hk73 N _ _ _ _ _ _ _ _ _ _ _ h
def B_X12_followAll_108 (N : Nat) (k6 : Nat → Nat → Int32 → Int32 → Int32 → sv_V → Option sv_V) (k73 : Nat → Nat → Int32 → Int32 → Int32 → Int32 → Int32 → Int32 → sv_V → Option sv_V) (k108 : Nat → Nat → Int32 → Int32 → Int32 → Int32 → Int32 → Int32 → Int32 → Int32 → sv_V → Option sv_V) (l1 : Nat) (l2 : Nat) (l3 : Int32) (l4 : Int32) (l5 : Int32) (l6 : Int32) (l7 : Int32) (l8 : Int32) (l9 : Int32) (l10 : Int32) (V : sv_V) : Option sv_V := if l9 = l4 then (B_X12_followAll_124 N k6 k73 k108 l1 l2 l3 l4 l5 l6 l7 l8 l10 l6 V) else (B_X12_followAll_124 N k6 k73 k108 l1 l2 l3 l4 l5 l6 l7 l8 l10 (l9 - (1 : Int32)) V)
set_option maxRecDepth 20000 in
theorem tB_X12_followAll_108 {g : sx_G} (hG : sx_Go g) {P : Option Value → sv_V → Prop} {Vr : sv_V} (hP : P none Vr) {N : Nat} {k6 : Nat → Nat → Int32 → Int32 → Int32 → sv_V → Option sv_V} {k73 : Nat → Nat → Int32 → Int32 → Int32 → Int32 → Int32 → Int32 → sv_V → Option sv_V} {k108 : Nat → Nat → Int32 → Int32 → Int32 → Int32 → Int32 → Int32 → Int32 → Int32 → sv_V → Option sv_V} (hk6 : ∀ (l1 : Nat) (l2 : Nat) (l3 : Int32) (l4 : Int32) (l5 : Int32) (V : sv_V), k6 l1 l2 l3 l4 l5 V = some Vr → sv_N g qX12_followAll 3 6 [(0, .ref 146), (1, .ref l1), (2, .ref l2), (3, .int l3), (4, .int l4), (5, .int l5)] [] V P) (hk73 : ∀ (l1 : Nat) (l2 : Nat) (l3 : Int32) (l4 : Int32) (l5 : Int32) (l6 : Int32) (l7 : Int32) (l8 : Int32) (V : sv_V), k73 l1 l2 l3 l4 l5 l6 l7 l8 V = some Vr → sv_N g qX12_followAll 3 73 [(0, .ref 146), (1, .ref l1), (2, .ref l2), (3, .int l3), (4, .int l4), (5, .int l5), (6, .int l6), (7, .int l7), (8, .int l8)] [] V P) (hk108 : ∀ (l1 : Nat) (l2 : Nat) (l3 : Int32) (l4 : Int32) (l5 : Int32) (l6 : Int32) (l7 : Int32) (l8 : Int32) (l9 : Int32) (l10 : Int32) (V : sv_V), k108 l1 l2 l3 l4 l5 l6 l7 l8 l9 l10 V = some Vr → sv_N g qX12_followAll 3 108 [(0, .ref 146), (1, .ref l1), (2, .ref l2), (3, .int l3), (4, .int l4), (5, .int l5), (6, .int l6), (7, .int l7), (8, .int l8), (9, .int l9), (10, .int l10)] [] V P) {l1 : Nat} {l2 : Nat} {l3 : Int32} {l4 : Int32} {l5 : Int32} {l6 : Int32} {l7 : Int32} {l8 : Int32} {l9 : Int32} {l10 : Int32} {V : sv_V} (h : B_X12_followAll_108 N k6 k73 k108 l1 l2 l3 l4 l5 l6 l7 l8 l9 l10 V = some Vr) : sv_N g qX12_followAll 3 108 [(0, .ref 146), (1, .ref l1), (2, .ref l2), (3, .int l3), (4, .int l4), (5, .int l5), (6, .int l6), (7, .int l7), (8, .int l8), (9, .int l9), (10, .int l10)] [] V P := by
  unfold B_X12_followAll_108 at h
  refine sx_iload (pc := 108) dX12_followAll_108 sx_m9 ?_
  refine sx_iload (pc := 110) dX12_followAll_110 sx_m4 ?_
  refine sx_icmp_ne (pc := 112) (tgt := 120) dX12_followAll_112 (by decide) (fun c11 => ?_) (fun c11 => ?_)
  · have h := sx_neg c11 h
    refine sx_iload (pc := 120) dX12_followAll_120 sx_m9 ?_
    refine sx_iconst (pc := 122) (v := 1) dX12_followAll_122 (by decide) ?_
    refine sx_isub (pc := 123) dX12_followAll_123 ?_
    refine sx_wk (sx_s1 sx_m0 (sx_s1 sx_m1 (sx_s1 sx_m2 (sx_s1 sx_m3 (sx_s1 sx_m4 (sx_s1 sx_m5 (sx_s1 sx_m6 (sx_s1 sx_m7 (sx_s1 sx_m8 (sx_s1 sx_m10 sx_s0)))))))))) ?_
    exact tB_X12_followAll_124 hG hP hk6 hk73 hk108 h
  · have h := sx_pos c11 h
    refine sx_iload (pc := 115) dX12_followAll_115 sx_m6 ?_
    refine sx_goto (pc := 117) (tgt := 124) dX12_followAll_117 (by decide) ?_
    refine sx_wk (sx_s1 sx_m0 (sx_s1 sx_m1 (sx_s1 sx_m2 (sx_s1 sx_m3 (sx_s1 sx_m4 (sx_s1 sx_m5 (sx_s1 sx_m6 (sx_s1 sx_m7 (sx_s1 sx_m8 (sx_s1 sx_m10 sx_s0)))))))))) ?_
    exact tB_X12_followAll_124 hG hP hk6 hk73 hk108 h
theorem tL_X12_followAll_108 {g : sx_G} (hG : sx_Go g) {P : Option Value → sv_V → Prop} {Vr : sv_V} (hP : P none Vr) {N : Nat} {k6 : Nat → Nat → Int32 → Int32 → Int32 → sv_V → Option sv_V} {k73 : Nat → Nat → Int32 → Int32 → Int32 → Int32 → Int32 → Int32 → sv_V → Option sv_V} (hk6 : ∀ (l1 : Nat) (l2 : Nat) (l3 : Int32) (l4 : Int32) (l5 : Int32) (V : sv_V), k6 l1 l2 l3 l4 l5 V = some Vr → sv_N g qX12_followAll 3 6 [(0, .ref 146), (1, .ref l1), (2, .ref l2), (3, .int l3), (4, .int l4), (5, .int l5)] [] V P) (hk73 : ∀ (l1 : Nat) (l2 : Nat) (l3 : Int32) (l4 : Int32) (l5 : Int32) (l6 : Int32) (l7 : Int32) (l8 : Int32) (V : sv_V), k73 l1 l2 l3 l4 l5 l6 l7 l8 V = some Vr → sv_N g qX12_followAll 3 73 [(0, .ref 146), (1, .ref l1), (2, .ref l2), (3, .int l3), (4, .int l4), (5, .int l5), (6, .int l6), (7, .int l7), (8, .int l8)] [] V P) : ∀ (n : Nat) (l1 : Nat) (l2 : Nat) (l3 : Int32) (l4 : Int32) (l5 : Int32) (l6 : Int32) (l7 : Int32) (l8 : Int32) (l9 : Int32) (l10 : Int32) (V : sv_V), sx_lp11 (B_X12_followAll_108 N k6 k73) n l1 l2 l3 l4 l5 l6 l7 l8 l9 l10 V = some Vr → sv_N g qX12_followAll 3 108 [(0, .ref 146), (1, .ref l1), (2, .ref l2), (3, .int l3), (4, .int l4), (5, .int l5), (6, .int l6), (7, .int l7), (8, .int l8), (9, .int l9), (10, .int l10)] [] V P :=
  sx_lp11_ind (fun k0 ih _ _ _ _ _ _ _ _ _ _ V h => tB_X12_followAll_108 hG hP hk6 hk73 ih h)
def B_X12_followAll_200 (N : Nat) (k6 : Nat → Nat → Int32 → Int32 → Int32 → sv_V → Option sv_V) (l1 : Nat) (l2 : Nat) (l3 : Int32) (l5 : Int32) (l6 : Int32) (V : sv_V) : Option sv_V := sx_let (l6 + (1 : Int32)) (fun x12 => sx_let (l5 + 1) (fun x13 => k6 l1 l2 l3 x12 x13 V))
set_option maxRecDepth 20000 in
theorem tB_X12_followAll_200 {g : sx_G} (hG : sx_Go g) {P : Option Value → sv_V → Prop} {Vr : sv_V} (hP : P none Vr) {N : Nat} {k6 : Nat → Nat → Int32 → Int32 → Int32 → sv_V → Option sv_V} (hk6 : ∀ (l1 : Nat) (l2 : Nat) (l3 : Int32) (l4 : Int32) (l5 : Int32) (V : sv_V), k6 l1 l2 l3 l4 l5 V = some Vr → sv_N g qX12_followAll 3 6 [(0, .ref 146), (1, .ref l1), (2, .ref l2), (3, .int l3), (4, .int l4), (5, .int l5)] [] V P) {l1 : Nat} {l2 : Nat} {l3 : Int32} {l5 : Int32} {l6 : Int32} {V : sv_V} (h : B_X12_followAll_200 N k6 l1 l2 l3 l5 l6 V = some Vr) : sv_N g qX12_followAll 3 200 [(0, .ref 146), (1, .ref l1), (2, .ref l2), (3, .int l3), (5, .int l5), (6, .int l6)] [] V P := by
  unfold B_X12_followAll_200 at h
  refine sx_iload (pc := 200) dX12_followAll_200 sx_m5 ?_
  refine sx_iconst (pc := 202) (v := 1) dX12_followAll_202 (by decide) ?_
  refine sx_iadd (pc := 203) dX12_followAll_203 ?_
  refine sv_tI (fun x12 hx12 => ?_)
  have h := sx_letE hx12 h
  refine sx_istore (pc := 204) (lo' := [(4, .int x12), (0, .ref 146), (1, .ref l1), (2, .ref l2), (3, .int l3), (5, .int l5), (6, .int l6)]) dX12_followAll_204 (by decide) rfl ?_
  obtain ⟨x13, hx13⟩ : ∃ z : Int32, z = l5 + 1 := ⟨_, rfl⟩
  have h := sx_letE hx13 h
  refine sx_iinc (pc := 206) (v := x13) (lo' := [(5, .int x13), (4, .int x12), (0, .ref 146), (1, .ref l1), (2, .ref l2), (3, .int l3), (6, .int l6)]) dX12_followAll_206 sx_m5 (by rw [hx13]; rfl) (by decide) rfl ?_
  refine sx_goto (pc := 209) (tgt := 6) dX12_followAll_209 (by decide) ?_
  refine sx_wk (sx_s1 sx_m2 (sx_s1 sx_m3 (sx_s1 sx_m4 (sx_s1 sx_m5 (sx_s1 sx_m1 (sx_s1 sx_m0 sx_s0)))))) ?_
  exact hk6 _ _ _ _ _ _ h
def B_X12_followAll_73 (N : Nat) (k6 : Nat → Nat → Int32 → Int32 → Int32 → sv_V → Option sv_V) (k73 : Nat → Nat → Int32 → Int32 → Int32 → Int32 → Int32 → Int32 → sv_V → Option sv_V) (l1 : Nat) (l2 : Nat) (l3 : Int32) (l4 : Int32) (l5 : Int32) (l6 : Int32) (l7 : Int32) (l8 : Int32) (V : sv_V) : Option sv_V := if l6 < l8 then (B_X12_followAll_200 N k6 l1 l2 l3 l5 l6 V) else (if l7 ≤ 0 then (B_X12_followAll_200 N k6 l1 l2 l3 l5 l6 V) else (if sx_in ((102 : Int32) + l8) 204 = true then if ((V.1 170 ((102 : Int32) + l8).toNatClampNeg) &&& l3) = 0 then (sx_lp11 (B_X12_followAll_108 N k6 k73) N l1 l2 l3 l4 l5 l6 l7 l8 l8 l8 V) else (B_X12_followAll_194 N k6 k73 l1 l2 l3 l4 l5 l6 l7 l8 V) else none))
set_option maxRecDepth 20000 in
theorem tB_X12_followAll_73 {g : sx_G} (hG : sx_Go g) {P : Option Value → sv_V → Prop} {Vr : sv_V} (hP : P none Vr) {N : Nat} {k6 : Nat → Nat → Int32 → Int32 → Int32 → sv_V → Option sv_V} {k73 : Nat → Nat → Int32 → Int32 → Int32 → Int32 → Int32 → Int32 → sv_V → Option sv_V} (hk6 : ∀ (l1 : Nat) (l2 : Nat) (l3 : Int32) (l4 : Int32) (l5 : Int32) (V : sv_V), k6 l1 l2 l3 l4 l5 V = some Vr → sv_N g qX12_followAll 3 6 [(0, .ref 146), (1, .ref l1), (2, .ref l2), (3, .int l3), (4, .int l4), (5, .int l5)] [] V P) (hk73 : ∀ (l1 : Nat) (l2 : Nat) (l3 : Int32) (l4 : Int32) (l5 : Int32) (l6 : Int32) (l7 : Int32) (l8 : Int32) (V : sv_V), k73 l1 l2 l3 l4 l5 l6 l7 l8 V = some Vr → sv_N g qX12_followAll 3 73 [(0, .ref 146), (1, .ref l1), (2, .ref l2), (3, .int l3), (4, .int l4), (5, .int l5), (6, .int l6), (7, .int l7), (8, .int l8)] [] V P) {l1 : Nat} {l2 : Nat} {l3 : Int32} {l4 : Int32} {l5 : Int32} {l6 : Int32} {l7 : Int32} {l8 : Int32} {V : sv_V} (h : B_X12_followAll_73 N k6 k73 l1 l2 l3 l4 l5 l6 l7 l8 V = some Vr) : sv_N g qX12_followAll 3 73 [(0, .ref 146), (1, .ref l1), (2, .ref l2), (3, .int l3), (4, .int l4), (5, .int l5), (6, .int l6), (7, .int l7), (8, .int l8)] [] V P := by
  unfold B_X12_followAll_73 at h
  refine sx_iload (pc := 73) dX12_followAll_73 sx_m8 ?_
  refine sx_iload (pc := 75) dX12_followAll_75 sx_m6 ?_
  refine sx_icmp_gt (pc := 77) (tgt := 200) dX12_followAll_77 (by decide) (fun c14 => ?_) (fun c14 => ?_)
  · have h := sx_pos c14 h
    refine sx_wk (sx_s1 sx_m0 (sx_s1 sx_m1 (sx_s1 sx_m2 (sx_s1 sx_m3 (sx_s1 sx_m5 (sx_s1 sx_m6 sx_s0)))))) ?_
    exact tB_X12_followAll_200 hG hP hk6 h
  · have h := sx_neg c14 h
    refine sx_iload (pc := 80) dX12_followAll_80 sx_m7 ?_
    refine sx_if_le (pc := 82) (tgt := 200) dX12_followAll_82 (by decide) (fun c15 => ?_) (fun c15 => ?_)
    · have h := sx_pos c15 h
      refine sx_wk (sx_s1 sx_m0 (sx_s1 sx_m1 (sx_s1 sx_m2 (sx_s1 sx_m3 (sx_s1 sx_m5 (sx_s1 sx_m6 sx_s0)))))) ?_
      exact tB_X12_followAll_200 hG hP hk6 h
    · have h := sx_neg c15 h
      refine sx_aload_n (pc := 85) dX12_followAll_85 sx_m0 ?_
      refine sv_getA (pc := 86) hG dX12_followAll_86 f_12_82 lay_146 rfl cr_146_50 ?_
      refine sx_bipush (pc := 89) (v := 102) dX12_followAll_89 (by decide) ?_
      refine sx_iload (pc := 91) dX12_followAll_91 sx_m8 ?_
      refine sx_iadd (pc := 93) dX12_followAll_93 ?_
      obtain ⟨g16, h⟩ := sx_grd h
      refine sv_iald (pc := 94) hG dX12_followAll_94 lay_170 g16 ?_
      refine sx_iload_n (pc := 95) dX12_followAll_95 sx_m3 ?_
      refine sx_iand (pc := 96) dX12_followAll_96 ?_
      refine sx_if_ne (pc := 97) (tgt := 194) dX12_followAll_97 (by decide) (fun c17 => ?_) (fun c17 => ?_)
      · have h := sx_neg c17 h
        refine sx_wk (sx_s1 sx_m0 (sx_s1 sx_m1 (sx_s1 sx_m2 (sx_s1 sx_m3 (sx_s1 sx_m4 (sx_s1 sx_m5 (sx_s1 sx_m6 (sx_s1 sx_m7 (sx_s1 sx_m8 sx_s0))))))))) ?_
        exact tB_X12_followAll_194 hG hP hk6 hk73 h
      · have h := sx_pos c17 h
        refine sx_iload (pc := 100) dX12_followAll_100 sx_m8 ?_
        refine sx_istore (pc := 102) (lo' := [(9, .int l8), (0, .ref 146), (1, .ref l1), (2, .ref l2), (3, .int l3), (4, .int l4), (5, .int l5), (6, .int l6), (7, .int l7), (8, .int l8)]) dX12_followAll_102 (by decide) rfl ?_
        refine sx_iload (pc := 104) dX12_followAll_104 sx_m9 ?_
        refine sx_istore (pc := 106) (lo' := [(10, .int l8), (9, .int l8), (0, .ref 146), (1, .ref l1), (2, .ref l2), (3, .int l3), (4, .int l4), (5, .int l5), (6, .int l6), (7, .int l7), (8, .int l8)]) dX12_followAll_106 (by decide) rfl ?_
        refine sx_wk (sx_s1 sx_m2 (sx_s1 sx_m3 (sx_s1 sx_m4 (sx_s1 sx_m5 (sx_s1 sx_m6 (sx_s1 sx_m7 (sx_s1 sx_m8 (sx_s1 sx_m9 (sx_s1 sx_m10 (sx_s1 sx_m1 (sx_s1 sx_m0 sx_s0))))))))))) ?_
        exact tL_X12_followAll_108 hG hP hk6 hk73 N _ _ _ _ _ _ _ _ _ _ _ h
theorem tL_X12_followAll_73 {g : sx_G} (hG : sx_Go g) {P : Option Value → sv_V → Prop} {Vr : sv_V} (hP : P none Vr) {N : Nat} {k6 : Nat → Nat → Int32 → Int32 → Int32 → sv_V → Option sv_V} (hk6 : ∀ (l1 : Nat) (l2 : Nat) (l3 : Int32) (l4 : Int32) (l5 : Int32) (V : sv_V), k6 l1 l2 l3 l4 l5 V = some Vr → sv_N g qX12_followAll 3 6 [(0, .ref 146), (1, .ref l1), (2, .ref l2), (3, .int l3), (4, .int l4), (5, .int l5)] [] V P) : ∀ (n : Nat) (l1 : Nat) (l2 : Nat) (l3 : Int32) (l4 : Int32) (l5 : Int32) (l6 : Int32) (l7 : Int32) (l8 : Int32) (V : sv_V), sx_lp9 (B_X12_followAll_73 N k6) n l1 l2 l3 l4 l5 l6 l7 l8 V = some Vr → sv_N g qX12_followAll 3 73 [(0, .ref 146), (1, .ref l1), (2, .ref l2), (3, .int l3), (4, .int l4), (5, .int l5), (6, .int l6), (7, .int l7), (8, .int l8)] [] V P :=
  sx_lp9_ind (fun k0 ih _ _ _ _ _ _ _ _ V h => tB_X12_followAll_73 hG hP hk6 ih h)
def B_X12_followAll_31 (N : Nat) (k6 : Nat → Nat → Int32 → Int32 → Int32 → sv_V → Option sv_V) (k31 : Nat → Nat → Int32 → Int32 → Int32 → Int32 → Int32 → Int32 → sv_V → Option sv_V) (l1 : Nat) (l2 : Nat) (l3 : Int32) (l4 : Int32) (l5 : Int32) (l6 : Int32) (l7 : Int32) (l8 : Int32) (V : sv_V) : Option sv_V := if l6 < l8 then (sx_lp9 (B_X12_followAll_73 N k6) N l1 l2 l3 l4 l5 l6 l7 l4 V) else (if sx_in ((102 : Int32) + l8) 204 = true then if ((V.1 170 ((102 : Int32) + l8).toNatClampNeg) &&& l3) = 0 then (B_X12_followAll_60 N k6 k31 l1 l2 l3 l4 l5 l6 l8 l7 (0 : Int32) V) else (B_X12_followAll_60 N k6 k31 l1 l2 l3 l4 l5 l6 l8 l7 (1 : Int32) V) else none)
set_option maxRecDepth 20000 in
theorem tB_X12_followAll_31 {g : sx_G} (hG : sx_Go g) {P : Option Value → sv_V → Prop} {Vr : sv_V} (hP : P none Vr) {N : Nat} {k6 : Nat → Nat → Int32 → Int32 → Int32 → sv_V → Option sv_V} {k31 : Nat → Nat → Int32 → Int32 → Int32 → Int32 → Int32 → Int32 → sv_V → Option sv_V} (hk6 : ∀ (l1 : Nat) (l2 : Nat) (l3 : Int32) (l4 : Int32) (l5 : Int32) (V : sv_V), k6 l1 l2 l3 l4 l5 V = some Vr → sv_N g qX12_followAll 3 6 [(0, .ref 146), (1, .ref l1), (2, .ref l2), (3, .int l3), (4, .int l4), (5, .int l5)] [] V P) (hk31 : ∀ (l1 : Nat) (l2 : Nat) (l3 : Int32) (l4 : Int32) (l5 : Int32) (l6 : Int32) (l7 : Int32) (l8 : Int32) (V : sv_V), k31 l1 l2 l3 l4 l5 l6 l7 l8 V = some Vr → sv_N g qX12_followAll 3 31 [(0, .ref 146), (1, .ref l1), (2, .ref l2), (3, .int l3), (4, .int l4), (5, .int l5), (6, .int l6), (7, .int l7), (8, .int l8)] [] V P) {l1 : Nat} {l2 : Nat} {l3 : Int32} {l4 : Int32} {l5 : Int32} {l6 : Int32} {l7 : Int32} {l8 : Int32} {V : sv_V} (h : B_X12_followAll_31 N k6 k31 l1 l2 l3 l4 l5 l6 l7 l8 V = some Vr) : sv_N g qX12_followAll 3 31 [(0, .ref 146), (1, .ref l1), (2, .ref l2), (3, .int l3), (4, .int l4), (5, .int l5), (6, .int l6), (7, .int l7), (8, .int l8)] [] V P := by
  unfold B_X12_followAll_31 at h
  refine sx_iload (pc := 31) dX12_followAll_31 sx_m8 ?_
  refine sx_iload (pc := 33) dX12_followAll_33 sx_m6 ?_
  refine sx_icmp_gt (pc := 35) (tgt := 69) dX12_followAll_35 (by decide) (fun c18 => ?_) (fun c18 => ?_)
  · have h := sx_pos c18 h
    refine sx_iload (pc := 69) dX12_followAll_69 sx_m4 ?_
    refine sx_istore (pc := 71) (lo' := [(8, .int l4), (0, .ref 146), (1, .ref l1), (2, .ref l2), (3, .int l3), (4, .int l4), (5, .int l5), (6, .int l6), (7, .int l7)]) dX12_followAll_71 (by decide) rfl ?_
    refine sx_wk (sx_s1 sx_m1 (sx_s1 sx_m2 (sx_s1 sx_m3 (sx_s1 sx_m4 (sx_s1 sx_m5 (sx_s1 sx_m6 (sx_s1 sx_m7 (sx_s1 sx_m8 (sx_s1 sx_m0 sx_s0))))))))) ?_
    exact tL_X12_followAll_73 hG hP hk6 N _ _ _ _ _ _ _ _ _ h
  · have h := sx_neg c18 h
    refine sx_iload (pc := 38) dX12_followAll_38 sx_m7 ?_
    refine sx_aload_n (pc := 40) dX12_followAll_40 sx_m0 ?_
    refine sv_getA (pc := 41) hG dX12_followAll_41 f_12_82 lay_146 rfl cr_146_50 ?_
    refine sx_bipush (pc := 44) (v := 102) dX12_followAll_44 (by decide) ?_
    refine sx_iload (pc := 46) dX12_followAll_46 sx_m8 ?_
    refine sx_iadd (pc := 48) dX12_followAll_48 ?_
    obtain ⟨g19, h⟩ := sx_grd h
    refine sv_iald (pc := 49) hG dX12_followAll_49 lay_170 g19 ?_
    refine sx_iload_n (pc := 50) dX12_followAll_50 sx_m3 ?_
    refine sx_iand (pc := 51) dX12_followAll_51 ?_
    refine sx_if_eq (pc := 52) (tgt := 59) dX12_followAll_52 (by decide) (fun c20 => ?_) (fun c20 => ?_)
    · have h := sx_pos c20 h
      refine sx_iconst (pc := 59) (v := 0) dX12_followAll_59 (by decide) ?_
      refine sx_wk (sx_s1 sx_m0 (sx_s1 sx_m1 (sx_s1 sx_m2 (sx_s1 sx_m3 (sx_s1 sx_m4 (sx_s1 sx_m5 (sx_s1 sx_m6 (sx_s1 sx_m8 sx_s0)))))))) ?_
      exact tB_X12_followAll_60 hG hP hk6 hk31 h
    · have h := sx_neg c20 h
      refine sx_iconst (pc := 55) (v := 1) dX12_followAll_55 (by decide) ?_
      refine sx_goto (pc := 56) (tgt := 60) dX12_followAll_56 (by decide) ?_
      refine sx_wk (sx_s1 sx_m0 (sx_s1 sx_m1 (sx_s1 sx_m2 (sx_s1 sx_m3 (sx_s1 sx_m4 (sx_s1 sx_m5 (sx_s1 sx_m6 (sx_s1 sx_m8 sx_s0)))))))) ?_
      exact tB_X12_followAll_60 hG hP hk6 hk31 h
theorem tL_X12_followAll_31 {g : sx_G} (hG : sx_Go g) {P : Option Value → sv_V → Prop} {Vr : sv_V} (hP : P none Vr) {N : Nat} {k6 : Nat → Nat → Int32 → Int32 → Int32 → sv_V → Option sv_V} (hk6 : ∀ (l1 : Nat) (l2 : Nat) (l3 : Int32) (l4 : Int32) (l5 : Int32) (V : sv_V), k6 l1 l2 l3 l4 l5 V = some Vr → sv_N g qX12_followAll 3 6 [(0, .ref 146), (1, .ref l1), (2, .ref l2), (3, .int l3), (4, .int l4), (5, .int l5)] [] V P) : ∀ (n : Nat) (l1 : Nat) (l2 : Nat) (l3 : Int32) (l4 : Int32) (l5 : Int32) (l6 : Int32) (l7 : Int32) (l8 : Int32) (V : sv_V), sx_lp9 (B_X12_followAll_31 N k6) n l1 l2 l3 l4 l5 l6 l7 l8 V = some Vr → sv_N g qX12_followAll 3 31 [(0, .ref 146), (1, .ref l1), (2, .ref l2), (3, .int l3), (4, .int l4), (5, .int l5), (6, .int l6), (7, .int l7), (8, .int l8)] [] V P :=
  sx_lp9_ind (fun k0 ih _ _ _ _ _ _ _ _ V h => tB_X12_followAll_31 hG hP hk6 ih h)
def B_X12_followAll_6 (N : Nat) (k6 : Nat → Nat → Int32 → Int32 → Int32 → sv_V → Option sv_V) (l1 : Nat) (l2 : Nat) (l3 : Int32) (l4 : Int32) (l5 : Int32) (V : sv_V) : Option sv_V := if (V.1 146 53) ≤ l5 then (some V) else (if sx_in l5 20 = true then sx_let (V.1 172 l5.toNatClampNeg) (fun x23 => sx_lp9 (B_X12_followAll_31 N k6) N l1 l2 l3 l4 l5 x23 (0 : Int32) l4 V) else none)
set_option maxRecDepth 20000 in
theorem tB_X12_followAll_6 {g : sx_G} (hG : sx_Go g) {P : Option Value → sv_V → Prop} {Vr : sv_V} (hP : P none Vr) {N : Nat} {k6 : Nat → Nat → Int32 → Int32 → Int32 → sv_V → Option sv_V} (hk6 : ∀ (l1 : Nat) (l2 : Nat) (l3 : Int32) (l4 : Int32) (l5 : Int32) (V : sv_V), k6 l1 l2 l3 l4 l5 V = some Vr → sv_N g qX12_followAll 3 6 [(0, .ref 146), (1, .ref l1), (2, .ref l2), (3, .int l3), (4, .int l4), (5, .int l5)] [] V P) {l1 : Nat} {l2 : Nat} {l3 : Int32} {l4 : Int32} {l5 : Int32} {V : sv_V} (h : B_X12_followAll_6 N k6 l1 l2 l3 l4 l5 V = some Vr) : sv_N g qX12_followAll 3 6 [(0, .ref 146), (1, .ref l1), (2, .ref l2), (3, .int l3), (4, .int l4), (5, .int l5)] [] V P := by
  unfold B_X12_followAll_6 at h
  refine sx_iload (pc := 6) dX12_followAll_6 sx_m5 ?_
  refine sx_aload_n (pc := 8) dX12_followAll_8 sx_m0 ?_
  refine sv_getI (pc := 9) hG dX12_followAll_9 f_12_706 lay_146 rfl ?_
  refine sx_icmp_ge (pc := 12) (tgt := 212) dX12_followAll_12 (by decide) (fun c21 => ?_) (fun c21 => ?_)
  · have h := sx_pos c21 h
    exact sv_vret (pc := 212) dX12_followAll_212 rfl h hP
  · have h := sx_neg c21 h
    refine sx_aload_n (pc := 15) dX12_followAll_15 sx_m0 ?_
    refine sv_getA (pc := 16) hG dX12_followAll_16 f_12_88 lay_146 rfl cr_146_54 ?_
    refine sx_iload (pc := 19) dX12_followAll_19 sx_m5 ?_
    obtain ⟨g22, h⟩ := sx_grd h
    refine sv_iald (pc := 21) hG dX12_followAll_21 lay_172 g22 ?_
    refine sv_tI (fun x23 hx23 => ?_)
    have h := sx_letE hx23 h
    refine sx_istore (pc := 22) (lo' := [(6, .int x23), (0, .ref 146), (1, .ref l1), (2, .ref l2), (3, .int l3), (4, .int l4), (5, .int l5)]) dX12_followAll_22 (by decide) rfl ?_
    refine sx_iconst (pc := 24) (v := 0) dX12_followAll_24 (by decide) ?_
    refine sx_istore (pc := 25) (lo' := [(7, .int (0 : Int32)), (6, .int x23), (0, .ref 146), (1, .ref l1), (2, .ref l2), (3, .int l3), (4, .int l4), (5, .int l5)]) dX12_followAll_25 (by decide) rfl ?_
    refine sx_iload (pc := 27) dX12_followAll_27 sx_m6 ?_
    refine sx_istore (pc := 29) (lo' := [(8, .int l4), (7, .int (0 : Int32)), (6, .int x23), (0, .ref 146), (1, .ref l1), (2, .ref l2), (3, .int l3), (4, .int l4), (5, .int l5)]) dX12_followAll_29 (by decide) rfl ?_
    refine sx_wk (sx_s1 sx_m3 (sx_s1 sx_m4 (sx_s1 sx_m5 (sx_s1 sx_m6 (sx_s1 sx_m7 (sx_s1 sx_m8 (sx_s1 sx_m2 (sx_s1 sx_m1 (sx_s1 sx_m0 sx_s0))))))))) ?_
    exact tL_X12_followAll_31 hG hP hk6 N _ _ _ _ _ _ _ _ _ h
theorem tL_X12_followAll_6 {g : sx_G} (hG : sx_Go g) {P : Option Value → sv_V → Prop} {Vr : sv_V} (hP : P none Vr) {N : Nat}   : ∀ (n : Nat) (l1 : Nat) (l2 : Nat) (l3 : Int32) (l4 : Int32) (l5 : Int32) (V : sv_V), sx_lp6 (B_X12_followAll_6 N ) n l1 l2 l3 l4 l5 V = some Vr → sv_N g qX12_followAll 3 6 [(0, .ref 146), (1, .ref l1), (2, .ref l2), (3, .int l3), (4, .int l4), (5, .int l5)] [] V P :=
  sx_lp6_ind (fun k0 ih _ _ _ _ _ V h => tB_X12_followAll_6 hG hP ih h)
def F_X12_followAll (N : Nat) (l1 : Nat) (l2 : Nat) (l3 : Int32) (V : sv_V) : Option sv_V := sx_lp6 (B_X12_followAll_6 N ) N l1 l2 l3 (0 : Int32) (0 : Int32) V
set_option maxRecDepth 20000 in
theorem t_X12_followAll {g : sx_G} (hG : sx_Go g) {P : Option Value → sv_V → Prop} {Vr : sv_V} (hP : P none Vr) {N : Nat} {l1 : Nat} {l2 : Nat} {l3 : Int32} {V : sv_V} (h : F_X12_followAll N l1 l2 l3 V = some Vr) : sv_N g qX12_followAll 3 0 [(0, .ref 146), (1, .ref l1), (2, .ref l2), (3, .int l3)] [] V P := by
  unfold F_X12_followAll at h
  refine sx_iconst (pc := 0) (v := 0) dX12_followAll_0 (by decide) ?_
  refine sx_istore (pc := 1) (lo' := [(4, .int (0 : Int32)), (0, .ref 146), (1, .ref l1), (2, .ref l2), (3, .int l3)]) dX12_followAll_1 (by decide) rfl ?_
  refine sx_iconst (pc := 3) (v := 0) dX12_followAll_3 (by decide) ?_
  refine sx_istore (pc := 4) (lo' := [(5, .int (0 : Int32)), (4, .int (0 : Int32)), (0, .ref 146), (1, .ref l1), (2, .ref l2), (3, .int l3)]) dX12_followAll_4 (by decide) rfl ?_
  refine sx_wk (sx_s1 sx_m2 (sx_s1 sx_m3 (sx_s1 sx_m4 (sx_s1 sx_m5 (sx_s1 sx_m1 (sx_s1 sx_m0 sx_s0)))))) ?_
  exact tL_X12_followAll_6 hG hP  N _ _ _ _ _ _ h
