/-! methods: X5_measuredCodes, X6_addPart, X11_load, X11_draw, X12_checkGlyphs, X12_low -/
theorem dX5_measuredCodes_0 : decode cX5_measuredCodes 0 = .ok (.iload_n 1, 1) := by decide +kernel
theorem dX5_measuredCodes_1 : decode cX5_measuredCodes 1 = .ok (.bipush 60, 2) := by decide +kernel
theorem dX5_measuredCodes_3 : decode cX5_measuredCodes 3 = .ok (.if_icmp .ge 11, 3) := by decide +kernel
theorem dX5_measuredCodes_6 : decode cX5_measuredCodes 6 = .ok (.aload_n 0, 1) := by decide +kernel
theorem dX5_measuredCodes_7 : decode cX5_measuredCodes 7 = .ok (.iload_n 1, 1) := by decide +kernel
theorem dX5_measuredCodes_8 : decode cX5_measuredCodes 8 = .ok (.invokevirtual 518, 3) := by decide +kernel
theorem dX5_measuredCodes_11 : decode cX5_measuredCodes 11 = .ok (.goto 37, 3) := by decide +kernel
theorem dX5_measuredCodes_14 : decode cX5_measuredCodes 14 = .ok (.iload_n 1, 1) := by decide +kernel
theorem dX5_measuredCodes_15 : decode cX5_measuredCodes 15 = .ok (.bipush 64, 2) := by decide +kernel
theorem dX5_measuredCodes_17 : decode cX5_measuredCodes 17 = .ok (.if_icmp .ge 11, 3) := by decide +kernel
theorem dX5_measuredCodes_20 : decode cX5_measuredCodes 20 = .ok (.aload_n 0, 1) := by decide +kernel
theorem dX5_measuredCodes_21 : decode cX5_measuredCodes 21 = .ok (.iload_n 1, 1) := by decide +kernel
theorem dX5_measuredCodes_22 : decode cX5_measuredCodes 22 = .ok (.invokevirtual 521, 3) := by decide +kernel
theorem dX5_measuredCodes_25 : decode cX5_measuredCodes 25 = .ok (.goto 23, 3) := by decide +kernel
theorem dX5_measuredCodes_28 : decode cX5_measuredCodes 28 = .ok (.iload_n 1, 1) := by decide +kernel
theorem dX5_measuredCodes_29 : decode cX5_measuredCodes 29 = .ok (.sipush 224, 3) := by decide +kernel
theorem dX5_measuredCodes_32 : decode cX5_measuredCodes 32 = .ok (.if_icmp .ge 11, 3) := by decide +kernel
theorem dX5_measuredCodes_35 : decode cX5_measuredCodes 35 = .ok (.aload_n 0, 1) := by decide +kernel
theorem dX5_measuredCodes_36 : decode cX5_measuredCodes 36 = .ok (.iload_n 1, 1) := by decide +kernel
theorem dX5_measuredCodes_37 : decode cX5_measuredCodes 37 = .ok (.invokevirtual 524, 3) := by decide +kernel
theorem dX5_measuredCodes_40 : decode cX5_measuredCodes 40 = .ok (.goto 8, 3) := by decide +kernel
theorem dX5_measuredCodes_43 : decode cX5_measuredCodes 43 = .ok (.aload_n 0, 1) := by decide +kernel
theorem dX5_measuredCodes_44 : decode cX5_measuredCodes 44 = .ok (.iload_n 1, 1) := by decide +kernel
theorem dX5_measuredCodes_45 : decode cX5_measuredCodes 45 = .ok (.invokevirtual 527, 3) := by decide +kernel
theorem dX5_measuredCodes_48 : decode cX5_measuredCodes 48 = .ok (.return_, 1) := by decide +kernel
def F_X5_measuredCodes (l1 : Int32) (V : sv_V) : Option sv_V := if (60 : Int32) ≤ l1 then (if (64 : Int32) ≤ l1 then (if (224 : Int32) ≤ l1 then ((F_X5_moveAsCvt l1 V).bind (fun V4 => some V4)) else ((F_X5_moveAsOriginal l1 V).bind (fun V6 => some V6))) else ((F_X5_moveToCvt l1 V).bind (fun V8 => some V8))) else ((F_X5_moveFromReference l1 V).bind (fun V10 => some V10))
set_option maxRecDepth 20000 in
theorem t_X5_measuredCodes {g : sx_G} (hG : sx_Go g) {P : Option Value → sv_V → Prop} {Vr : sv_V} (hP : P none Vr) {l1 : Int32} {V : sv_V} (h : F_X5_measuredCodes l1 V = some Vr) : sv_N g qX5_measuredCodes 3 0 [(0, .ref 69), (1, .int l1)] [] V P := by
  unfold F_X5_measuredCodes at h
  refine sx_iload_n (pc := 0) dX5_measuredCodes_0 sx_m1 ?_
  refine sx_bipush (pc := 1) (v := 60) dX5_measuredCodes_1 (by decide) ?_
  refine sx_icmp_ge (pc := 3) (tgt := 14) dX5_measuredCodes_3 (by decide) (fun c1 => ?_) (fun c1 => ?_)
  · have h := sx_pos c1 h
    refine sx_iload_n (pc := 14) dX5_measuredCodes_14 sx_m1 ?_
    refine sx_bipush (pc := 15) (v := 64) dX5_measuredCodes_15 (by decide) ?_
    refine sx_icmp_ge (pc := 17) (tgt := 28) dX5_measuredCodes_17 (by decide) (fun c2 => ?_) (fun c2 => ?_)
    · have h := sx_pos c2 h
      refine sx_iload_n (pc := 28) dX5_measuredCodes_28 sx_m1 ?_
      refine sx_sipush (pc := 29) (v := 224) dX5_measuredCodes_29 (by decide) ?_
      refine sx_icmp_ge (pc := 32) (tgt := 43) dX5_measuredCodes_32 (by decide) (fun c3 => ?_) (fun c3 => ?_)
      · have h := sx_pos c3 h
        refine sx_aload_n (pc := 43) dX5_measuredCodes_43 sx_m0 ?_
        refine sx_iload_n (pc := 44) dX5_measuredCodes_44 sx_m1 ?_
        obtain ⟨V4, g5, h⟩ := sx_bnd h
        refine sv_cV (pc := 45) (y := qX5_moveAsCvt) (o := none) (as := [.int l1]) (V1 := V4) hG dX5_measuredCodes_45 l_X5_527 y0X5_moveAsCvt yvX5_moveAsCvt rfl (Nat.le_of_ble_eq_true rfl) lay_69 kr_5 (by decide) (Nat.le_of_ble_eq_true rfl) rfl rfl rfl (t_X5_moveAsCvt hG ⟨rfl, rfl⟩ g5) ?_
        exact sv_vret (pc := 48) dX5_measuredCodes_48 rfl h hP
      · have h := sx_neg c3 h
        refine sx_aload_n (pc := 35) dX5_measuredCodes_35 sx_m0 ?_
        refine sx_iload_n (pc := 36) dX5_measuredCodes_36 sx_m1 ?_
        obtain ⟨V6, g7, h⟩ := sx_bnd h
        refine sv_cV (pc := 37) (y := qX5_moveAsOriginal) (o := none) (as := [.int l1]) (V1 := V6) hG dX5_measuredCodes_37 l_X5_524 y0X5_moveAsOriginal yvX5_moveAsOriginal rfl (Nat.le_of_ble_eq_true rfl) lay_69 kr_5 (by decide) (Nat.le_of_ble_eq_true rfl) rfl rfl rfl (t_X5_moveAsOriginal hG ⟨rfl, rfl⟩ g7) ?_
        refine sx_goto (pc := 40) (tgt := 48) dX5_measuredCodes_40 (by decide) ?_
        exact sv_vret (pc := 48) dX5_measuredCodes_48 rfl h hP
    · have h := sx_neg c2 h
      refine sx_aload_n (pc := 20) dX5_measuredCodes_20 sx_m0 ?_
      refine sx_iload_n (pc := 21) dX5_measuredCodes_21 sx_m1 ?_
      obtain ⟨V8, g9, h⟩ := sx_bnd h
      refine sv_cV (pc := 22) (y := qX5_moveToCvt) (o := none) (as := [.int l1]) (V1 := V8) hG dX5_measuredCodes_22 l_X5_521 y0X5_moveToCvt yvX5_moveToCvt rfl (Nat.le_of_ble_eq_true rfl) lay_69 kr_5 (by decide) (Nat.le_of_ble_eq_true rfl) rfl rfl rfl (t_X5_moveToCvt hG ⟨rfl, rfl⟩ g9) ?_
      refine sx_goto (pc := 25) (tgt := 48) dX5_measuredCodes_25 (by decide) ?_
      exact sv_vret (pc := 48) dX5_measuredCodes_48 rfl h hP
  · have h := sx_neg c1 h
    refine sx_aload_n (pc := 6) dX5_measuredCodes_6 sx_m0 ?_
    refine sx_iload_n (pc := 7) dX5_measuredCodes_7 sx_m1 ?_
    obtain ⟨V10, g11, h⟩ := sx_bnd h
    refine sv_cV (pc := 8) (y := qX5_moveFromReference) (o := none) (as := [.int l1]) (V1 := V10) hG dX5_measuredCodes_8 l_X5_518 y0X5_moveFromReference yvX5_moveFromReference rfl (Nat.le_of_ble_eq_true rfl) lay_69 kr_5 (by decide) (Nat.le_of_ble_eq_true rfl) rfl rfl rfl (t_X5_moveFromReference hG ⟨rfl, rfl⟩ g11) ?_
    refine sx_goto (pc := 11) (tgt := 48) dX5_measuredCodes_11 (by decide) ?_
    exact sv_vret (pc := 48) dX5_measuredCodes_48 rfl h hP
theorem dX6_addPart_0 : decode cX6_addPart 0 = .ok (.iload_n 1, 1) := by decide +kernel
theorem dX6_addPart_1 : decode cX6_addPart 1 = .ok (.iconst 1, 1) := by decide +kernel
theorem dX6_addPart_2 : decode cX6_addPart 2 = .ok (.iadd, 1) := by decide +kernel
theorem dX6_addPart_3 : decode cX6_addPart 3 = .ok (.iconst 5, 1) := by decide +kernel
theorem dX6_addPart_4 : decode cX6_addPart 4 = .ok (.if_icmp .lt 5, 3) := by decide +kernel
theorem dX6_addPart_7 : decode cX6_addPart 7 = .ok (.iconst 0, 1) := by decide +kernel
theorem dX6_addPart_8 : decode cX6_addPart 8 = .ok (.ireturn, 1) := by decide +kernel
theorem dX6_addPart_9 : decode cX6_addPart 9 = .ok (.aload_n 0, 1) := by decide +kernel
theorem dX6_addPart_10 : decode cX6_addPart 10 = .ok (.getfield 23, 3) := by decide +kernel
theorem dX6_addPart_13 : decode cX6_addPart 13 = .ok (.iload_n 1, 1) := by decide +kernel
theorem dX6_addPart_14 : decode cX6_addPart 14 = .ok (.aaload, 1) := by decide +kernel
theorem dX6_addPart_15 : decode cX6_addPart 15 = .ok (.astore_n 2, 1) := by decide +kernel
theorem dX6_addPart_16 : decode cX6_addPart 16 = .ok (.aload_n 0, 1) := by decide +kernel
theorem dX6_addPart_17 : decode cX6_addPart 17 = .ok (.getfield 23, 3) := by decide +kernel
theorem dX6_addPart_20 : decode cX6_addPart 20 = .ok (.iload_n 1, 1) := by decide +kernel
theorem dX6_addPart_21 : decode cX6_addPart 21 = .ok (.iconst 1, 1) := by decide +kernel
theorem dX6_addPart_22 : decode cX6_addPart 22 = .ok (.iadd, 1) := by decide +kernel
theorem dX6_addPart_23 : decode cX6_addPart 23 = .ok (.aaload, 1) := by decide +kernel
theorem dX6_addPart_24 : decode cX6_addPart 24 = .ok (.astore_n 3, 1) := by decide +kernel
theorem dX6_addPart_25 : decode cX6_addPart 25 = .ok (.aload_n 2, 1) := by decide +kernel
theorem dX6_addPart_26 : decode cX6_addPart 26 = .ok (.getfield 136, 3) := by decide +kernel
theorem dX6_addPart_29 : decode cX6_addPart 29 = .ok (.istore 4, 2) := by decide +kernel
theorem dX6_addPart_31 : decode cX6_addPart 31 = .ok (.iload 4, 2) := by decide +kernel
theorem dX6_addPart_33 : decode cX6_addPart 33 = .ok (.aload_n 3, 1) := by decide +kernel
theorem dX6_addPart_34 : decode cX6_addPart 34 = .ok (.getfield 136, 3) := by decide +kernel
theorem dX6_addPart_37 : decode cX6_addPart 37 = .ok (.iadd, 1) := by decide +kernel
theorem dX6_addPart_38 : decode cX6_addPart 38 = .ok (.bipush 100, 2) := by decide +kernel
theorem dX6_addPart_40 : decode cX6_addPart 40 = .ok (.if_icmp .gt 17, 3) := by decide +kernel
theorem dX6_addPart_43 : decode cX6_addPart 43 = .ok (.aload_n 2, 1) := by decide +kernel
theorem dX6_addPart_44 : decode cX6_addPart 44 = .ok (.getfield 167, 3) := by decide +kernel
theorem dX6_addPart_47 : decode cX6_addPart 47 = .ok (.aload_n 3, 1) := by decide +kernel
theorem dX6_addPart_48 : decode cX6_addPart 48 = .ok (.getfield 167, 3) := by decide +kernel
theorem dX6_addPart_51 : decode cX6_addPart 51 = .ok (.iadd, 1) := by decide +kernel
theorem dX6_addPart_52 : decode cX6_addPart 52 = .ok (.bipush 20, 2) := by decide +kernel
theorem dX6_addPart_54 : decode cX6_addPart 54 = .ok (.if_icmp .le 14, 3) := by decide +kernel
theorem dX6_addPart_57 : decode cX6_addPart 57 = .ok (.aload_n 0, 1) := by decide +kernel
theorem dX6_addPart_58 : decode cX6_addPart 58 = .ok (.getfield 47, 3) := by decide +kernel
theorem dX6_addPart_61 : decode cX6_addPart 61 = .ok (.bipush 12, 2) := by decide +kernel
theorem dX6_addPart_63 : decode cX6_addPart 63 = .ok (.invokevirtual 129, 3) := by decide +kernel
theorem dX6_addPart_66 : decode cX6_addPart 66 = .ok (.iconst 0, 1) := by decide +kernel
theorem dX6_addPart_67 : decode cX6_addPart 67 = .ok (.ireturn, 1) := by decide +kernel
theorem dX6_addPart_68 : decode cX6_addPart 68 = .ok (.aload_n 0, 1) := by decide +kernel
theorem dX6_addPart_69 : decode cX6_addPart 69 = .ok (.aload_n 2, 1) := by decide +kernel
theorem dX6_addPart_70 : decode cX6_addPart 70 = .ok (.aload_n 3, 1) := by decide +kernel
theorem dX6_addPart_71 : decode cX6_addPart 71 = .ok (.invokevirtual 205, 3) := by decide +kernel
theorem dX6_addPart_74 : decode cX6_addPart 74 = .ok (.aload_n 0, 1) := by decide +kernel
theorem dX6_addPart_75 : decode cX6_addPart 75 = .ok (.getfield 38, 3) := by decide +kernel
theorem dX6_addPart_78 : decode cX6_addPart 78 = .ok (.getfield 209, 3) := by decide +kernel
theorem dX6_addPart_81 : decode cX6_addPart 81 = .ok (.iconst 2, 1) := by decide +kernel
theorem dX6_addPart_82 : decode cX6_addPart 82 = .ok (.iand, 1) := by decide +kernel
theorem dX6_addPart_83 : decode cX6_addPart 83 = .ok (.ifCond .eq 34, 3) := by decide +kernel
theorem dX6_addPart_86 : decode cX6_addPart 86 = .ok (.aload_n 2, 1) := by decide +kernel
theorem dX6_addPart_87 : decode cX6_addPart 87 = .ok (.iload 4, 2) := by decide +kernel
theorem dX6_addPart_89 : decode cX6_addPart 89 = .ok (.aload_n 0, 1) := by decide +kernel
theorem dX6_addPart_90 : decode cX6_addPart 90 = .ok (.aload_n 0, 1) := by decide +kernel
theorem dX6_addPart_91 : decode cX6_addPart 91 = .ok (.getfield 38, 3) := by decide +kernel
theorem dX6_addPart_94 : decode cX6_addPart 94 = .ok (.getfield 212, 3) := by decide +kernel
theorem dX6_addPart_97 : decode cX6_addPart 97 = .ok (.invokevirtual 215, 3) := by decide +kernel
theorem dX6_addPart_100 : decode cX6_addPart 100 = .ok (.aload_n 0, 1) := by decide +kernel
theorem dX6_addPart_101 : decode cX6_addPart 101 = .ok (.aload_n 0, 1) := by decide +kernel
theorem dX6_addPart_102 : decode cX6_addPart 102 = .ok (.getfield 38, 3) := by decide +kernel
theorem dX6_addPart_105 : decode cX6_addPart 105 = .ok (.getfield 218, 3) := by decide +kernel
theorem dX6_addPart_108 : decode cX6_addPart 108 = .ok (.invokevirtual 215, 3) := by decide +kernel
theorem dX6_addPart_111 : decode cX6_addPart 111 = .ok (.invokevirtual 121, 3) := by decide +kernel
theorem dX6_addPart_114 : decode cX6_addPart 114 = .ok (.goto 23, 3) := by decide +kernel
theorem dX6_addPart_117 : decode cX6_addPart 117 = .ok (.aload_n 0, 1) := by decide +kernel
theorem dX6_addPart_118 : decode cX6_addPart 118 = .ok (.aload_n 2, 1) := by decide +kernel
theorem dX6_addPart_119 : decode cX6_addPart 119 = .ok (.iload 4, 2) := by decide +kernel
theorem dX6_addPart_121 : decode cX6_addPart 121 = .ok (.invokevirtual 221, 3) := by decide +kernel
theorem dX6_addPart_124 : decode cX6_addPart 124 = .ok (.ifCond .ne 13, 3) := by decide +kernel
theorem dX6_addPart_127 : decode cX6_addPart 127 = .ok (.aload_n 0, 1) := by decide +kernel
theorem dX6_addPart_128 : decode cX6_addPart 128 = .ok (.getfield 47, 3) := by decide +kernel
theorem dX6_addPart_131 : decode cX6_addPart 131 = .ok (.iconst 5, 1) := by decide +kernel
theorem dX6_addPart_132 : decode cX6_addPart 132 = .ok (.invokevirtual 129, 3) := by decide +kernel
theorem dX6_addPart_135 : decode cX6_addPart 135 = .ok (.iconst 0, 1) := by decide +kernel
theorem dX6_addPart_136 : decode cX6_addPart 136 = .ok (.ireturn, 1) := by decide +kernel
theorem dX6_addPart_137 : decode cX6_addPart 137 = .ok (.aload_n 0, 1) := by decide +kernel
theorem dX6_addPart_138 : decode cX6_addPart 138 = .ok (.getfield 38, 3) := by decide +kernel
theorem dX6_addPart_141 : decode cX6_addPart 141 = .ok (.getfield 209, 3) := by decide +kernel
theorem dX6_addPart_144 : decode cX6_addPart 144 = .ok (.sipush 512, 3) := by decide +kernel
theorem dX6_addPart_147 : decode cX6_addPart 147 = .ok (.iand, 1) := by decide +kernel
theorem dX6_addPart_148 : decode cX6_addPart 148 = .ok (.ifCond .eq 31, 3) := by decide +kernel
theorem dX6_addPart_151 : decode cX6_addPart 151 = .ok (.aload_n 3, 1) := by decide +kernel
theorem dX6_addPart_152 : decode cX6_addPart 152 = .ok (.getfield 115, 3) := by decide +kernel
theorem dX6_addPart_155 : decode cX6_addPart 155 = .ok (.iconst 0, 1) := by decide +kernel
theorem dX6_addPart_156 : decode cX6_addPart 156 = .ok (.aload_n 2, 1) := by decide +kernel
theorem dX6_addPart_157 : decode cX6_addPart 157 = .ok (.getfield 115, 3) := by decide +kernel
theorem dX6_addPart_160 : decode cX6_addPart 160 = .ok (.iconst 0, 1) := by decide +kernel
theorem dX6_addPart_161 : decode cX6_addPart 161 = .ok (.iconst 2, 1) := by decide +kernel
theorem dX6_addPart_162 : decode cX6_addPart 162 = .ok (.invokestatic 225, 3) := by decide +kernel
theorem dX6_addPart_165 : decode cX6_addPart 165 = .ok (.aload_n 3, 1) := by decide +kernel
theorem dX6_addPart_166 : decode cX6_addPart 166 = .ok (.getfield 181, 3) := by decide +kernel
theorem dX6_addPart_169 : decode cX6_addPart 169 = .ok (.iconst 0, 1) := by decide +kernel
theorem dX6_addPart_170 : decode cX6_addPart 170 = .ok (.aload_n 2, 1) := by decide +kernel
theorem dX6_addPart_171 : decode cX6_addPart 171 = .ok (.getfield 181, 3) := by decide +kernel
theorem dX6_addPart_174 : decode cX6_addPart 174 = .ok (.iconst 0, 1) := by decide +kernel
theorem dX6_addPart_175 : decode cX6_addPart 175 = .ok (.iconst 2, 1) := by decide +kernel
theorem dX6_addPart_176 : decode cX6_addPart 176 = .ok (.invokestatic 225, 3) := by decide +kernel
theorem dX6_addPart_179 : decode cX6_addPart 179 = .ok (.iconst 1, 1) := by decide +kernel
theorem dX6_addPart_180 : decode cX6_addPart 180 = .ok (.ireturn, 1) := by decide +kernel
def B_X6_addPart_57 (N : Nat)   (V : sv_V) : Option (Int32 × sv_V) := (F_X5_failOutside (12 : Int32) V).bind (fun V1 => some ((0 : Int32), V1))
set_option maxRecDepth 20000 in
theorem tB_X6_addPart_57 {g : sx_G} (hG : sx_Go g) {P : Option Value → sv_V → Prop} {r : Int32} {Vr : sv_V} (hP : P (some (.int r)) Vr) {N : Nat}    {V : sv_V} (h : B_X6_addPart_57 N   V = some (r, Vr)) : sv_N g qX6_addPart 3 57 [(0, .ref 30)] [] V P := by
  unfold B_X6_addPart_57 at h
  refine sx_aload_n (pc := 57) dX6_addPart_57 sx_m0 ?_
  refine sv_getO (pc := 58) hG dX6_addPart_58 f_6_47 lay_30 rfl cr_30_2 ?_
  refine sx_bipush (pc := 61) (v := 12) dX6_addPart_61 (by decide) ?_
  obtain ⟨V1, g2, h⟩ := sx_bnd h
  refine sv_cV (pc := 63) (y := qX5_failOutside) (o := none) (as := [.int (12 : Int32)]) (V1 := V1) hG dX6_addPart_63 l_X6_129 y0X5_failOutside yvX5_failOutside rfl (Nat.le_of_ble_eq_true rfl) lay_69 kr_5 (by decide) (Nat.le_of_ble_eq_true rfl) rfl rfl rfl (t_X5_failOutside hG ⟨rfl, rfl⟩ g2) ?_
  refine sx_iconst (pc := 66) (v := 0) dX6_addPart_66 (by decide) ?_
  exact sv_zret (pc := 67) dX6_addPart_67 rfl rfl h hP
def B_X6_addPart_137 (N : Nat)  (l2 : Nat) (l3 : Nat) (V : sv_V) : Option (Int32 × sv_V) := if ((V.1 16 7) &&& (512 : Int32)) = 0 then (some ((1 : Int32), V)) else (if lay l3 = .inl 8 then (cr l3 7).bind (fun b5 => if lay l2 = .inl 8 then (cr l2 7).bind (fun b8 => (sv_len 0 b5).bind (fun n10 => (sv_len 0 b8).bind (fun n12 => if sv_cpo (0 : Int32) (2 : Int32) n10 = true then if sv_cpo (0 : Int32) (2 : Int32) n12 = true then sx_let (sv_C V b5 (0 : Int32).toNatClampNeg b8 (0 : Int32).toNatClampNeg (2 : Int32).toNatClampNeg) (fun V16 => (cr l3 8).bind (fun b17 => (cr l2 8).bind (fun b19 => (sv_len 0 b17).bind (fun n21 => (sv_len 0 b19).bind (fun n23 => if sv_cpo (0 : Int32) (2 : Int32) n21 = true then if sv_cpo (0 : Int32) (2 : Int32) n23 = true then sx_let (sv_C V16 b17 (0 : Int32).toNatClampNeg b19 (0 : Int32).toNatClampNeg (2 : Int32).toNatClampNeg) (fun V27 => some ((1 : Int32), V27)) else none else none))))) else none else none))) else none) else none)
set_option maxRecDepth 20000 in
theorem tB_X6_addPart_137 {g : sx_G} (hG : sx_Go g) {P : Option Value → sv_V → Prop} {r : Int32} {Vr : sv_V} (hP : P (some (.int r)) Vr) {N : Nat}   {l2 : Nat} {l3 : Nat} {V : sv_V} (h : B_X6_addPart_137 N  l2 l3 V = some (r, Vr)) : sv_N g qX6_addPart 3 137 [(0, .ref 30), (2, .ref l2), (3, .ref l3)] [] V P := by
  unfold B_X6_addPart_137 at h
  refine sx_aload_n (pc := 137) dX6_addPart_137 sx_m0 ?_
  refine sv_getO (pc := 138) hG dX6_addPart_138 f_6_38 lay_30 rfl cr_30_1 ?_
  refine sv_getI (pc := 141) hG dX6_addPart_141 f_6_209 lay_16 rfl ?_
  refine sx_sipush (pc := 144) (v := 512) dX6_addPart_144 (by decide) ?_
  refine sx_iand (pc := 147) dX6_addPart_147 ?_
  refine sx_if_eq (pc := 148) (tgt := 179) dX6_addPart_148 (by decide) (fun c3 => ?_) (fun c3 => ?_)
  · have h := sx_pos c3 h
    refine sx_iconst (pc := 179) (v := 1) dX6_addPart_179 (by decide) ?_
    exact sv_zret (pc := 180) dX6_addPart_180 rfl rfl h hP
  · have h := sx_neg c3 h
    refine sx_aload_n (pc := 151) dX6_addPart_151 sx_m2 ?_
    obtain ⟨g4, h⟩ := sx_grd h
    obtain ⟨b5, g6, h⟩ := sx_bnd h
    refine sv_getA (pc := 152) hG dX6_addPart_152 f_6_115 g4 rfl g6 ?_
    refine sx_iconst (pc := 155) (v := 0) dX6_addPart_155 (by decide) ?_
    refine sx_aload_n (pc := 156) dX6_addPart_156 sx_m1 ?_
    obtain ⟨g7, h⟩ := sx_grd h
    obtain ⟨b8, g9, h⟩ := sx_bnd h
    refine sv_getA (pc := 157) hG dX6_addPart_157 f_6_115 g7 rfl g9 ?_
    refine sx_iconst (pc := 160) (v := 0) dX6_addPart_160 (by decide) ?_
    refine sx_iconst (pc := 161) (v := 2) dX6_addPart_161 (by decide) ?_
    obtain ⟨n10, g11, h⟩ := sx_bnd h
    obtain ⟨n12, g13, h⟩ := sx_bnd h
    obtain ⟨g14, h⟩ := sx_grd h
    obtain ⟨g15, h⟩ := sx_grd h
    obtain ⟨V16, hV16⟩ : ∃ z : sv_V, z = sv_C V b5 (0 : Int32).toNatClampNeg b8 (0 : Int32).toNatClampNeg (2 : Int32).toNatClampNeg := ⟨_, rfl⟩
    have h := sx_letE hV16 h
    refine sv_copyI (pc := 162) hG dX6_addPart_162 l_X6_225 (sv_len_e g11) (sv_len_e g13) g14 g15 (by decide) (Nat.le_of_ble_eq_true rfl) hV16 ?_
    refine sx_aload_n (pc := 165) dX6_addPart_165 sx_m2 ?_
    obtain ⟨b17, g18, h⟩ := sx_bnd h
    refine sv_getA (pc := 166) hG dX6_addPart_166 f_6_181 g4 rfl g18 ?_
    refine sx_iconst (pc := 169) (v := 0) dX6_addPart_169 (by decide) ?_
    refine sx_aload_n (pc := 170) dX6_addPart_170 sx_m1 ?_
    obtain ⟨b19, g20, h⟩ := sx_bnd h
    refine sv_getA (pc := 171) hG dX6_addPart_171 f_6_181 g7 rfl g20 ?_
    refine sx_iconst (pc := 174) (v := 0) dX6_addPart_174 (by decide) ?_
    refine sx_iconst (pc := 175) (v := 2) dX6_addPart_175 (by decide) ?_
    obtain ⟨n21, g22, h⟩ := sx_bnd h
    obtain ⟨n23, g24, h⟩ := sx_bnd h
    obtain ⟨g25, h⟩ := sx_grd h
    obtain ⟨g26, h⟩ := sx_grd h
    obtain ⟨V27, hV27⟩ : ∃ z : sv_V, z = sv_C V16 b17 (0 : Int32).toNatClampNeg b19 (0 : Int32).toNatClampNeg (2 : Int32).toNatClampNeg := ⟨_, rfl⟩
    have h := sx_letE hV27 h
    refine sv_copyI (pc := 176) hG dX6_addPart_176 l_X6_225 (sv_len_e g22) (sv_len_e g24) g25 g26 (by decide) (Nat.le_of_ble_eq_true rfl) hV27 ?_
    refine sx_iconst (pc := 179) (v := 1) dX6_addPart_179 (by decide) ?_
    exact sv_zret (pc := 180) dX6_addPart_180 rfl rfl h hP
def F_X6_addPart (N : Nat) (l1 : Int32) (V : sv_V) : Option (Int32 × sv_V) := if (l1 + (1 : Int32)) < (5 : Int32) then (if sx_in l1 5 = true then (cr 59 l1.toNatClampNeg).bind (fun b30 => if sx_in (l1 + (1 : Int32)) 5 = true then (cr 59 (l1 + (1 : Int32)).toNatClampNeg).bind (fun b33 => if lay b30 = .inl 8 then sx_let (V.1 b30 9) (fun x36 => if lay b33 = .inl 8 then if (100 : Int32) < (x36 + (V.1 b33 9)) then (B_X6_addPart_57 N   V) else (if ((V.1 b30 10) + (V.1 b33 10)) ≤ (20 : Int32) then ((F_X6_append N b30 b33 V).bind (fun V40 => if ((V40.1 16 7) &&& (2 : Int32)) = 0 then ((F_X6_match N b30 x36 V40).bind (fun (x45, V43) => if x45 = 0 then ((F_X5_failOutside (5 : Int32) V43).bind (fun V47 => some ((0 : Int32), V47))) else (B_X6_addPart_137 N  b30 b33 V43))) else ((F_X6_offset (V40.1 16 9) V40).bind (fun (x51, V49) => (F_X6_offset (V49.1 16 10) V49).bind (fun (x54, V52) => (F_X8_shift N b30 x36 x51 x54 V52).bind (fun V55 => B_X6_addPart_137 N  b30 b33 V55)))))) else (B_X6_addPart_57 N   V)) else none) else none) else none) else none) else (some ((0 : Int32), V))
set_option maxRecDepth 20000 in
theorem t_X6_addPart {g : sx_G} (hG : sx_Go g) {P : Option Value → sv_V → Prop} {r : Int32} {Vr : sv_V} (hP : P (some (.int r)) Vr) {N : Nat} {l1 : Int32} {V : sv_V} (h : F_X6_addPart N l1 V = some (r, Vr)) : sv_N g qX6_addPart 3 0 [(0, .ref 30), (1, .int l1)] [] V P := by
  unfold F_X6_addPart at h
  refine sx_iload_n (pc := 0) dX6_addPart_0 sx_m1 ?_
  refine sx_iconst (pc := 1) (v := 1) dX6_addPart_1 (by decide) ?_
  refine sx_iadd (pc := 2) dX6_addPart_2 ?_
  refine sx_iconst (pc := 3) (v := 5) dX6_addPart_3 (by decide) ?_
  refine sx_icmp_lt (pc := 4) (tgt := 9) dX6_addPart_4 (by decide) (fun c28 => ?_) (fun c28 => ?_)
  · have h := sx_pos c28 h
    refine sx_aload_n (pc := 9) dX6_addPart_9 sx_m0 ?_
    refine sv_getA (pc := 10) hG dX6_addPart_10 f_6_23 lay_30 rfl cr_30_5 ?_
    refine sx_iload_n (pc := 13) dX6_addPart_13 sx_m1 ?_
    obtain ⟨g29, h⟩ := sx_grd h
    obtain ⟨b30, g31, h⟩ := sx_bnd h
    refine sv_aald (pc := 14) hG dX6_addPart_14 (by decide) lay_59 g29 g31 ?_
    refine sx_astore_n (pc := 15) (lo' := [(2, .ref b30), (0, .ref 30), (1, .int l1)]) dX6_addPart_15 (by decide) rfl ?_
    refine sx_aload_n (pc := 16) dX6_addPart_16 sx_m1 ?_
    refine sv_getA (pc := 17) hG dX6_addPart_17 f_6_23 lay_30 rfl cr_30_5 ?_
    refine sx_iload_n (pc := 20) dX6_addPart_20 sx_m2 ?_
    refine sx_iconst (pc := 21) (v := 1) dX6_addPart_21 (by decide) ?_
    refine sx_iadd (pc := 22) dX6_addPart_22 ?_
    obtain ⟨g32, h⟩ := sx_grd h
    obtain ⟨b33, g34, h⟩ := sx_bnd h
    refine sv_aald (pc := 23) hG dX6_addPart_23 (by decide) lay_59 g32 g34 ?_
    refine sx_astore_n (pc := 24) (lo' := [(3, .ref b33), (2, .ref b30), (0, .ref 30), (1, .int l1)]) dX6_addPart_24 (by decide) rfl ?_
    refine sx_aload_n (pc := 25) dX6_addPart_25 sx_m1 ?_
    obtain ⟨g35, h⟩ := sx_grd h
    refine sv_getI (pc := 26) hG dX6_addPart_26 f_6_136 g35 rfl ?_
    refine sv_tI (fun x36 hx36 => ?_)
    have h := sx_letE hx36 h
    refine sx_istore (pc := 29) (lo' := [(4, .int x36), (3, .ref b33), (2, .ref b30), (0, .ref 30), (1, .int l1)]) dX6_addPart_29 (by decide) rfl ?_
    refine sx_iload (pc := 31) dX6_addPart_31 sx_m0 ?_
    refine sx_aload_n (pc := 33) dX6_addPart_33 sx_m1 ?_
    obtain ⟨g37, h⟩ := sx_grd h
    refine sv_getI (pc := 34) hG dX6_addPart_34 f_6_136 g37 rfl ?_
    refine sx_iadd (pc := 37) dX6_addPart_37 ?_
    refine sx_bipush (pc := 38) (v := 100) dX6_addPart_38 (by decide) ?_
    refine sx_icmp_gt (pc := 40) (tgt := 57) dX6_addPart_40 (by decide) (fun c38 => ?_) (fun c38 => ?_)
    · have h := sx_pos c38 h
      refine sx_wk (sx_s1 sx_m3 sx_s0) ?_
      exact tB_X6_addPart_57 hG hP  h
    · have h := sx_neg c38 h
      refine sx_aload_n (pc := 43) dX6_addPart_43 sx_m2 ?_
      refine sv_getI (pc := 44) hG dX6_addPart_44 f_6_167 g35 rfl ?_
      refine sx_aload_n (pc := 47) dX6_addPart_47 sx_m1 ?_
      refine sv_getI (pc := 48) hG dX6_addPart_48 f_6_167 g37 rfl ?_
      refine sx_iadd (pc := 51) dX6_addPart_51 ?_
      refine sx_bipush (pc := 52) (v := 20) dX6_addPart_52 (by decide) ?_
      refine sx_icmp_le (pc := 54) (tgt := 68) dX6_addPart_54 (by decide) (fun c39 => ?_) (fun c39 => ?_)
      · have h := sx_pos c39 h
        refine sx_aload_n (pc := 68) dX6_addPart_68 sx_m3 ?_
        refine sx_aload_n (pc := 69) dX6_addPart_69 sx_m2 ?_
        refine sx_aload_n (pc := 70) dX6_addPart_70 sx_m1 ?_
        obtain ⟨V40, g41, h⟩ := sx_bnd h
        refine sv_cV (pc := 71) (y := qX6_append) (o := none) (as := [.ref b30, .ref b33]) (V1 := V40) hG dX6_addPart_71 l_X6_205 y0X6_append yvX6_append rfl (Nat.le_of_ble_eq_true rfl) lay_30 kr_6 (by decide) (Nat.le_of_ble_eq_true rfl) rfl rfl rfl (t_X6_append hG ⟨rfl, rfl⟩ g41) ?_
        refine sx_aload_n (pc := 74) dX6_addPart_74 sx_m3 ?_
        refine sv_getO (pc := 75) hG dX6_addPart_75 f_6_38 lay_30 rfl cr_30_1 ?_
        refine sv_getI (pc := 78) hG dX6_addPart_78 f_6_209 lay_16 rfl ?_
        refine sx_iconst (pc := 81) (v := 2) dX6_addPart_81 (by decide) ?_
        refine sx_iand (pc := 82) dX6_addPart_82 ?_
        refine sx_if_eq (pc := 83) (tgt := 117) dX6_addPart_83 (by decide) (fun c42 => ?_) (fun c42 => ?_)
        · have h := sx_pos c42 h
          refine sx_aload_n (pc := 117) dX6_addPart_117 sx_m3 ?_
          refine sx_aload_n (pc := 118) dX6_addPart_118 sx_m2 ?_
          refine sx_iload (pc := 119) dX6_addPart_119 sx_m0 ?_
          obtain ⟨⟨x45, V43⟩, g44, h⟩ := sx_bnd h
          refine sv_cV (pc := 121) (y := qX6_match) (o := (some (.int x45))) (as := [.ref b30, .int x36]) (V1 := V43) hG dX6_addPart_121 l_X6_221 y0X6_match yvX6_match rfl (Nat.le_of_ble_eq_true rfl) lay_30 kr_6 (by decide) (Nat.le_of_ble_eq_true rfl) rfl rfl rfl (t_X6_match hG ⟨rfl, rfl⟩ g44) ?_
          refine sx_if_ne (pc := 124) (tgt := 137) dX6_addPart_124 (by decide) (fun c46 => ?_) (fun c46 => ?_)
          · have h := sx_neg c46 h
            refine sx_wk (sx_s1 sx_m3 (sx_s1 sx_m2 (sx_s1 sx_m1 sx_s0))) ?_
            exact tB_X6_addPart_137 hG hP  h
          · have h := sx_pos c46 h
            refine sx_aload_n (pc := 127) dX6_addPart_127 sx_m3 ?_
            refine sv_getO (pc := 128) hG dX6_addPart_128 f_6_47 lay_30 rfl cr_30_2 ?_
            refine sx_iconst (pc := 131) (v := 5) dX6_addPart_131 (by decide) ?_
            obtain ⟨V47, g48, h⟩ := sx_bnd h
            refine sv_cV (pc := 132) (y := qX5_failOutside) (o := none) (as := [.int (5 : Int32)]) (V1 := V47) hG dX6_addPart_132 l_X6_129 y0X5_failOutside yvX5_failOutside rfl (Nat.le_of_ble_eq_true rfl) lay_69 kr_5 (by decide) (Nat.le_of_ble_eq_true rfl) rfl rfl rfl (t_X5_failOutside hG ⟨rfl, rfl⟩ g48) ?_
            refine sx_iconst (pc := 135) (v := 0) dX6_addPart_135 (by decide) ?_
            exact sv_zret (pc := 136) dX6_addPart_136 rfl rfl h hP
        · have h := sx_neg c42 h
          refine sx_aload_n (pc := 86) dX6_addPart_86 sx_m2 ?_
          refine sx_iload (pc := 87) dX6_addPart_87 sx_m0 ?_
          refine sx_aload_n (pc := 89) dX6_addPart_89 sx_m3 ?_
          refine sx_aload_n (pc := 90) dX6_addPart_90 sx_m3 ?_
          refine sv_getO (pc := 91) hG dX6_addPart_91 f_6_38 lay_30 rfl cr_30_1 ?_
          refine sv_getI (pc := 94) hG dX6_addPart_94 f_6_212 lay_16 rfl ?_
          obtain ⟨⟨x51, V49⟩, g50, h⟩ := sx_bnd h
          refine sv_cV (pc := 97) (y := qX6_offset) (o := (some (.int x51))) (as := [.int (V40.1 16 9)]) (V1 := V49) hG dX6_addPart_97 l_X6_215 y0X6_offset yvX6_offset rfl (Nat.le_of_ble_eq_true rfl) lay_30 kr_6 (by decide) (Nat.le_of_ble_eq_true rfl) rfl rfl rfl (t_X6_offset hG ⟨rfl, rfl⟩ g50) ?_
          refine sx_aload_n (pc := 100) dX6_addPart_100 sx_m3 ?_
          refine sx_aload_n (pc := 101) dX6_addPart_101 sx_m3 ?_
          refine sv_getO (pc := 102) hG dX6_addPart_102 f_6_38 lay_30 rfl cr_30_1 ?_
          refine sv_getI (pc := 105) hG dX6_addPart_105 f_6_218 lay_16 rfl ?_
          obtain ⟨⟨x54, V52⟩, g53, h⟩ := sx_bnd h
          refine sv_cV (pc := 108) (y := qX6_offset) (o := (some (.int x54))) (as := [.int (V49.1 16 10)]) (V1 := V52) hG dX6_addPart_108 l_X6_215 y0X6_offset yvX6_offset rfl (Nat.le_of_ble_eq_true rfl) lay_30 kr_6 (by decide) (Nat.le_of_ble_eq_true rfl) rfl rfl rfl (t_X6_offset hG ⟨rfl, rfl⟩ g53) ?_
          obtain ⟨V55, g56, h⟩ := sx_bnd h
          refine sv_cV (pc := 111) (y := qX8_shift) (o := none) (as := [.int x36, .int x51, .int x54]) (V1 := V55) hG dX6_addPart_111 l_X6_121 y0X8_shift yvX8_shift rfl (Nat.le_of_ble_eq_true rfl) g35 kr_8 (by decide) (Nat.le_of_ble_eq_true rfl) rfl rfl rfl (t_X8_shift hG ⟨rfl, rfl⟩ g56) ?_
          refine sx_goto (pc := 114) (tgt := 137) dX6_addPart_114 (by decide) ?_
          refine sx_wk (sx_s1 sx_m3 (sx_s1 sx_m2 (sx_s1 sx_m1 sx_s0))) ?_
          exact tB_X6_addPart_137 hG hP  h
      · have h := sx_neg c39 h
        refine sx_wk (sx_s1 sx_m3 sx_s0) ?_
        exact tB_X6_addPart_57 hG hP  h
  · have h := sx_neg c28 h
    refine sx_iconst (pc := 7) (v := 0) dX6_addPart_7 (by decide) ?_
    exact sv_zret (pc := 8) dX6_addPart_8 rfl rfl h hP
theorem dX11_load_0 : decode cX11_load 0 = .ok (.aload_n 0, 1) := by decide +kernel
theorem dX11_load_1 : decode cX11_load 1 = .ok (.getfield 37, 3) := by decide +kernel
theorem dX11_load_4 : decode cX11_load 4 = .ok (.invokevirtual 56, 3) := by decide +kernel
theorem dX11_load_7 : decode cX11_load 7 = .ok (.aload_n 0, 1) := by decide +kernel
theorem dX11_load_8 : decode cX11_load 8 = .ok (.getfield 16, 3) := by decide +kernel
theorem dX11_load_11 : decode cX11_load 11 = .ok (.aload_n 0, 1) := by decide +kernel
theorem dX11_load_12 : decode cX11_load 12 = .ok (.getfield 9, 3) := by decide +kernel
theorem dX11_load_15 : decode cX11_load 15 = .ok (.aload_n 0, 1) := by decide +kernel
theorem dX11_load_16 : decode cX11_load 16 = .ok (.getfield 52, 3) := by decide +kernel
theorem dX11_load_19 : decode cX11_load 19 = .ok (.invokevirtual 59, 3) := by decide +kernel
theorem dX11_load_22 : decode cX11_load 22 = .ok (.aload_n 0, 1) := by decide +kernel
theorem dX11_load_23 : decode cX11_load 23 = .ok (.getfield 30, 3) := by decide +kernel
theorem dX11_load_26 : decode cX11_load 26 = .ok (.invokevirtual 63, 3) := by decide +kernel
theorem dX11_load_29 : decode cX11_load 29 = .ok (.istore_n 1, 1) := by decide +kernel
theorem dX11_load_30 : decode cX11_load 30 = .ok (.aload_n 0, 1) := by decide +kernel
theorem dX11_load_31 : decode cX11_load 31 = .ok (.getfield 16, 3) := by decide +kernel
theorem dX11_load_34 : decode cX11_load 34 = .ok (.iload_n 1, 1) := by decide +kernel
theorem dX11_load_35 : decode cX11_load 35 = .ok (.ifCond .ne 7, 3) := by decide +kernel
theorem dX11_load_38 : decode cX11_load 38 = .ok (.iconst 1, 1) := by decide +kernel
theorem dX11_load_39 : decode cX11_load 39 = .ok (.goto 4, 3) := by decide +kernel
theorem dX11_load_42 : decode cX11_load 42 = .ok (.iconst 0, 1) := by decide +kernel
theorem dX11_load_43 : decode cX11_load 43 = .ok (.putfield 67, 3) := by decide +kernel
theorem dX11_load_46 : decode cX11_load 46 = .ok (.iload_n 1, 1) := by decide +kernel
theorem dX11_load_47 : decode cX11_load 47 = .ok (.ifCond .ne 13, 3) := by decide +kernel
theorem dX11_load_50 : decode cX11_load 50 = .ok (.aload_n 0, 1) := by decide +kernel
theorem dX11_load_51 : decode cX11_load 51 = .ok (.getfield 16, 3) := by decide +kernel
theorem dX11_load_54 : decode cX11_load 54 = .ok (.getfield 71, 3) := by decide +kernel
theorem dX11_load_57 : decode cX11_load 57 = .ok (.goto 7, 3) := by decide +kernel
theorem dX11_load_60 : decode cX11_load 60 = .ok (.bipush (-100), 2) := by decide +kernel
theorem dX11_load_62 : decode cX11_load 62 = .ok (.iload_n 1, 1) := by decide +kernel
theorem dX11_load_63 : decode cX11_load 63 = .ok (.isub, 1) := by decide +kernel
theorem dX11_load_64 : decode cX11_load 64 = .ok (.ireturn, 1) := by decide +kernel
def B_X11_load_43 (N : Nat)  (l1 : Int32) (s1 : Int32) (V : sv_V) : Option (Int32 × sv_V) := if sv_bl s1 = true then sx_let (sv_I V 2 2 s1) (fun V2 => if l1 = 0 then (some (V2.1 2 7, V2)) else (some ((-100 : Int32) - l1, V2))) else none
set_option maxRecDepth 20000 in
theorem tB_X11_load_43 {g : sx_G} (hG : sx_Go g) {P : Option Value → sv_V → Prop} {r : Int32} {Vr : sv_V} (hP : P (some (.int r)) Vr) {N : Nat}   {l1 : Int32} {s1 : Int32} {V : sv_V} (h : B_X11_load_43 N  l1 s1 V = some (r, Vr)) : sv_N g qX11_load 7 43 [(0, .ref 0), (1, .int l1)] [.int s1, .ref 2] V P := by
  unfold B_X11_load_43 at h
  obtain ⟨g1, h⟩ := sx_grd h
  obtain ⟨V2, hV2⟩ : ∃ z : sv_V, z = sv_I V 2 2 s1 := ⟨_, rfl⟩
  have h := sx_letE hV2 h
  refine sv_putZ (pc := 43) hG dX11_load_43 f_11_67 lay_2 rfl g1 hV2 ?_
  refine sx_iload_n (pc := 46) dX11_load_46 sx_m1 ?_
  refine sx_if_ne (pc := 47) (tgt := 60) dX11_load_47 (by decide) (fun c3 => ?_) (fun c3 => ?_)
  · have h := sx_neg c3 h
    refine sx_bipush (pc := 60) (v := (-100)) dX11_load_60 (by decide) ?_
    refine sx_iload_n (pc := 62) dX11_load_62 sx_m1 ?_
    refine sx_isub (pc := 63) dX11_load_63 ?_
    exact sv_iret (pc := 64) dX11_load_64 rfl h hP
  · have h := sx_pos c3 h
    refine sx_aload_n (pc := 50) dX11_load_50 sx_m0 ?_
    refine sv_getO (pc := 51) hG dX11_load_51 f_11_16 lay_0 rfl cr_0_2 ?_
    refine sv_getI (pc := 54) hG dX11_load_54 f_11_71 lay_2 rfl ?_
    refine sx_goto (pc := 57) (tgt := 64) dX11_load_57 (by decide) ?_
    exact sv_iret (pc := 64) dX11_load_64 rfl h hP
def F_X11_load (N : Nat)  (V : sv_V) : Option (Int32 × sv_V) := (F_X6_forgetAll  V).bind (fun V4 => (F_X2_take 1 (V4.1 0 1) V4).bind (fun V6 => (F_X4_findFault N  V6).bind (fun (x10, V8) => if x10 = 0 then (B_X11_load_43 N  x10 (1 : Int32) V8) else (B_X11_load_43 N  x10 (0 : Int32) V8))))
set_option maxRecDepth 20000 in
theorem t_X11_load {g : sx_G} (hG : sx_Go g) {P : Option Value → sv_V → Prop} {r : Int32} {Vr : sv_V} (hP : P (some (.int r)) Vr) {N : Nat}  {V : sv_V} (h : F_X11_load N  V = some (r, Vr)) : sv_N g qX11_load 7 0 [(0, .ref 0)] [] V P := by
  unfold F_X11_load at h
  refine sx_aload_n (pc := 0) dX11_load_0 sx_m0 ?_
  refine sv_getO (pc := 1) hG dX11_load_1 f_11_37 lay_0 rfl cr_0_4 ?_
  obtain ⟨V4, g5, h⟩ := sx_bnd h
  refine sv_cV (pc := 4) (y := qX6_forgetAll) (o := none) (as := []) (V1 := V4) hG dX11_load_4 l_X11_56 y0X6_forgetAll yvX6_forgetAll rfl (Nat.le_of_ble_eq_true rfl) lay_30 kr_6 (by decide) (Nat.le_of_ble_eq_true rfl) rfl rfl rfl (t_X6_forgetAll hG ⟨rfl, rfl⟩ g5) ?_
  refine sx_aload_n (pc := 7) dX11_load_7 sx_m0 ?_
  refine sv_getO (pc := 8) hG dX11_load_8 f_11_16 lay_0 rfl cr_0_2 ?_
  refine sx_aload_n (pc := 11) dX11_load_11 sx_m0 ?_
  refine sv_getA (pc := 12) hG dX11_load_12 f_11_9 lay_0 rfl cr_0_0 ?_
  refine sx_aload_n (pc := 15) dX11_load_15 sx_m0 ?_
  refine sv_getI (pc := 16) hG dX11_load_16 f_11_52 lay_0 rfl ?_
  obtain ⟨V6, g7, h⟩ := sx_bnd h
  refine sv_cV (pc := 19) (y := qX2_take) (o := none) (as := [.ref 1, .int (V4.1 0 1)]) (V1 := V6) hG dX11_load_19 l_X11_59 y0X2_take yvX2_take rfl (Nat.le_of_ble_eq_true rfl) lay_2 kr_2 (by decide) (Nat.le_of_ble_eq_true rfl) rfl rfl rfl (t_X2_take hG ⟨rfl, rfl⟩ g7) ?_
  refine sx_aload_n (pc := 22) dX11_load_22 sx_m0 ?_
  refine sv_getO (pc := 23) hG dX11_load_23 f_11_30 lay_0 rfl cr_0_3 ?_
  obtain ⟨⟨x10, V8⟩, g9, h⟩ := sx_bnd h
  refine sv_cV (pc := 26) (y := qX4_findFault) (o := (some (.int x10))) (as := []) (V1 := V8) hG dX11_load_26 l_X11_63 y0X4_findFault yvX4_findFault rfl (Nat.le_of_ble_eq_true rfl) lay_29 kr_4 (by decide) (Nat.le_of_ble_eq_true rfl) rfl rfl rfl (t_X4_findFault hG ⟨rfl, rfl⟩ g9) ?_
  refine sx_istore_n (pc := 29) (lo' := [(1, .int x10), (0, .ref 0)]) dX11_load_29 (by decide) rfl ?_
  refine sx_aload_n (pc := 30) dX11_load_30 sx_m1 ?_
  refine sv_getO (pc := 31) hG dX11_load_31 f_11_16 lay_0 rfl cr_0_2 ?_
  refine sx_iload_n (pc := 34) dX11_load_34 sx_m0 ?_
  refine sx_if_ne (pc := 35) (tgt := 42) dX11_load_35 (by decide) (fun c11 => ?_) (fun c11 => ?_)
  · have h := sx_neg c11 h
    refine sx_iconst (pc := 42) (v := 0) dX11_load_42 (by decide) ?_
    refine sx_wk (sx_s1 sx_m1 (sx_s1 sx_m0 sx_s0)) ?_
    exact tB_X11_load_43 hG hP  h
  · have h := sx_pos c11 h
    refine sx_iconst (pc := 38) (v := 1) dX11_load_38 (by decide) ?_
    refine sx_goto (pc := 39) (tgt := 43) dX11_load_39 (by decide) ?_
    refine sx_wk (sx_s1 sx_m1 (sx_s1 sx_m0 sx_s0)) ?_
    exact tB_X11_load_43 hG hP  h
theorem dX11_draw_0 : decode cX11_draw 0 = .ok (.aload_n 0, 1) := by decide +kernel
theorem dX11_draw_1 : decode cX11_draw 1 = .ok (.getfield 37, 3) := by decide +kernel
theorem dX11_draw_4 : decode cX11_draw 4 = .ok (.getfield 147, 3) := by decide +kernel
theorem dX11_draw_7 : decode cX11_draw 7 = .ok (.ifCond .eq 13, 3) := by decide +kernel
theorem dX11_draw_10 : decode cX11_draw 10 = .ok (.aload_n 0, 1) := by decide +kernel
theorem dX11_draw_11 : decode cX11_draw 11 = .ok (.getfield 44, 3) := by decide +kernel
theorem dX11_draw_14 : decode cX11_draw 14 = .ok (.getfield 247, 3) := by decide +kernel
theorem dX11_draw_17 : decode cX11_draw 17 = .ok (.ifCond .ne 6, 3) := by decide +kernel
theorem dX11_draw_20 : decode cX11_draw 20 = .ok (.bipush (-3), 2) := by decide +kernel
theorem dX11_draw_22 : decode cX11_draw 22 = .ok (.ireturn, 1) := by decide +kernel
theorem dX11_draw_23 : decode cX11_draw 23 = .ok (.iload_n 1, 1) := by decide +kernel
theorem dX11_draw_24 : decode cX11_draw 24 = .ok (.i2l, 1) := by decide +kernel
theorem dX11_draw_25 : decode cX11_draw 25 = .ok (.sipush 20000, 3) := by decide +kernel
theorem dX11_draw_28 : decode cX11_draw 28 = .ok (.invokestatic 225, 3) := by decide +kernel
theorem dX11_draw_31 : decode cX11_draw 31 = .ok (.ifCond .ne 14, 3) := by decide +kernel
theorem dX11_draw_34 : decode cX11_draw 34 = .ok (.iload_n 2, 1) := by decide +kernel
theorem dX11_draw_35 : decode cX11_draw 35 = .ok (.i2l, 1) := by decide +kernel
theorem dX11_draw_36 : decode cX11_draw 36 = .ok (.sipush 20000, 3) := by decide +kernel
theorem dX11_draw_39 : decode cX11_draw 39 = .ok (.invokestatic 225, 3) := by decide +kernel
theorem dX11_draw_42 : decode cX11_draw 42 = .ok (.ifCond .eq 6, 3) := by decide +kernel
theorem dX11_draw_45 : decode cX11_draw 45 = .ok (.bipush (-2), 2) := by decide +kernel
theorem dX11_draw_47 : decode cX11_draw 47 = .ok (.ireturn, 1) := by decide +kernel
theorem dX11_draw_48 : decode cX11_draw 48 = .ok (.aload_n 0, 1) := by decide +kernel
theorem dX11_draw_49 : decode cX11_draw 49 = .ok (.getfield 44, 3) := by decide +kernel
theorem dX11_draw_52 : decode cX11_draw 52 = .ok (.aload_n 0, 1) := by decide +kernel
theorem dX11_draw_53 : decode cX11_draw 53 = .ok (.getfield 37, 3) := by decide +kernel
theorem dX11_draw_56 : decode cX11_draw 56 = .ok (.getfield 229, 3) := by decide +kernel
theorem dX11_draw_59 : decode cX11_draw 59 = .ok (.iload_n 1, 1) := by decide +kernel
theorem dX11_draw_60 : decode cX11_draw 60 = .ok (.iload_n 2, 1) := by decide +kernel
theorem dX11_draw_61 : decode cX11_draw 61 = .ok (.invokevirtual 250, 3) := by decide +kernel
theorem dX11_draw_64 : decode cX11_draw 64 = .ok (.ireturn, 1) := by decide +kernel
def F_X11_draw (N : Nat) (l1 : Int32) (l2 : Int32) (V : sv_V) : Option (Int32 × sv_V) := if (V.1 30 8) = 0 then (some ((-3 : Int32), V)) else (if (V.1 143 1) = 0 then (some ((-3 : Int32), V)) else ((F_X11_isBeyond l1.toInt64 (20000 : Int32) V).bind (fun (x5, V3) => if x5 = 0 then ((F_X11_isBeyond l2.toInt64 (20000 : Int32) V3).bind (fun (x9, V7) => if x9 = 0 then ((F_X1_fillIn N l1 l2 V7).bind (fun (x13, V11) => some (x13, V11))) else (some ((-2 : Int32), V7)))) else (some ((-2 : Int32), V3)))))
set_option maxRecDepth 20000 in
theorem t_X11_draw {g : sx_G} (hG : sx_Go g) {P : Option Value → sv_V → Prop} {r : Int32} {Vr : sv_V} (hP : P (some (.int r)) Vr) {N : Nat} {l1 : Int32} {l2 : Int32} {V : sv_V} (h : F_X11_draw N l1 l2 V = some (r, Vr)) : sv_N g qX11_draw 5 0 [(0, .ref 0), (1, .int l1), (2, .int l2)] [] V P := by
  unfold F_X11_draw at h
  refine sx_aload_n (pc := 0) dX11_draw_0 sx_m0 ?_
  refine sv_getO (pc := 1) hG dX11_draw_1 f_11_37 lay_0 rfl cr_0_4 ?_
  refine sv_getZ (pc := 4) hG dX11_draw_4 f_11_147 lay_30 rfl ?_
  refine sx_if_eq (pc := 7) (tgt := 20) dX11_draw_7 (by decide) (fun c1 => ?_) (fun c1 => ?_)
  · have h := sx_pos c1 h
    refine sx_bipush (pc := 20) (v := (-3)) dX11_draw_20 (by decide) ?_
    exact sv_iret (pc := 22) dX11_draw_22 rfl h hP
  · have h := sx_neg c1 h
    refine sx_aload_n (pc := 10) dX11_draw_10 sx_m0 ?_
    refine sv_getO (pc := 11) hG dX11_draw_11 f_11_44 lay_0 rfl cr_0_5 ?_
    refine sv_getI (pc := 14) hG dX11_draw_14 f_11_247 lay_143 rfl ?_
    refine sx_if_ne (pc := 17) (tgt := 23) dX11_draw_17 (by decide) (fun c2 => ?_) (fun c2 => ?_)
    · have h := sx_neg c2 h
      refine sx_iload_n (pc := 23) dX11_draw_23 sx_m1 ?_
      refine sx_i2l (pc := 24) dX11_draw_24 ?_
      refine sx_sipush (pc := 25) (v := 20000) dX11_draw_25 (by decide) ?_
      obtain ⟨⟨x5, V3⟩, g4, h⟩ := sx_bnd h
      refine sv_cS (pc := 28) (y := qX11_isBeyond) (o := (some (.int x5))) (as := [.long l1.toInt64, .int (20000 : Int32)]) (V1 := V3) dX11_draw_28 l_X11_225 y0X11_isBeyond ysX11_isBeyond rfl (Nat.le_of_ble_eq_true rfl) (by decide) (Nat.le_of_ble_eq_true rfl) rfl rfl rfl (t_X11_isBeyond hG ⟨rfl, rfl⟩ g4) ?_
      refine sx_if_ne (pc := 31) (tgt := 45) dX11_draw_31 (by decide) (fun c6 => ?_) (fun c6 => ?_)
      · have h := sx_neg c6 h
        refine sx_bipush (pc := 45) (v := (-2)) dX11_draw_45 (by decide) ?_
        exact sv_iret (pc := 47) dX11_draw_47 rfl h hP
      · have h := sx_pos c6 h
        refine sx_iload_n (pc := 34) dX11_draw_34 sx_m2 ?_
        refine sx_i2l (pc := 35) dX11_draw_35 ?_
        refine sx_sipush (pc := 36) (v := 20000) dX11_draw_36 (by decide) ?_
        obtain ⟨⟨x9, V7⟩, g8, h⟩ := sx_bnd h
        refine sv_cS (pc := 39) (y := qX11_isBeyond) (o := (some (.int x9))) (as := [.long l2.toInt64, .int (20000 : Int32)]) (V1 := V7) dX11_draw_39 l_X11_225 y0X11_isBeyond ysX11_isBeyond rfl (Nat.le_of_ble_eq_true rfl) (by decide) (Nat.le_of_ble_eq_true rfl) rfl rfl rfl (t_X11_isBeyond hG ⟨rfl, rfl⟩ g8) ?_
        refine sx_if_eq (pc := 42) (tgt := 48) dX11_draw_42 (by decide) (fun c10 => ?_) (fun c10 => ?_)
        · have h := sx_pos c10 h
          refine sx_aload_n (pc := 48) dX11_draw_48 sx_m0 ?_
          refine sv_getO (pc := 49) hG dX11_draw_49 f_11_44 lay_0 rfl cr_0_5 ?_
          refine sx_aload_n (pc := 52) dX11_draw_52 sx_m0 ?_
          refine sv_getO (pc := 53) hG dX11_draw_53 f_11_37 lay_0 rfl cr_0_4 ?_
          refine sv_getO (pc := 56) hG dX11_draw_56 f_11_229 lay_30 rfl cr_30_6 ?_
          refine sx_iload_n (pc := 59) dX11_draw_59 sx_m1 ?_
          refine sx_iload_n (pc := 60) dX11_draw_60 sx_m2 ?_
          obtain ⟨⟨x13, V11⟩, g12, h⟩ := sx_bnd h
          refine sv_cV (pc := 61) (y := qX1_fillIn) (o := (some (.int x13))) (as := [.ref 60, .int l1, .int l2]) (V1 := V11) hG dX11_draw_61 l_X11_250 y0X1_fillIn yvX1_fillIn rfl (Nat.le_of_ble_eq_true rfl) lay_143 kr_1 (by decide) (Nat.le_of_ble_eq_true rfl) rfl rfl rfl (t_X1_fillIn hG ⟨rfl, rfl⟩ g12) ?_
          exact sv_iret (pc := 64) dX11_draw_64 rfl h hP
        · have h := sx_neg c10 h
          refine sx_bipush (pc := 45) (v := (-2)) dX11_draw_45 (by decide) ?_
          exact sv_iret (pc := 47) dX11_draw_47 rfl h hP
    · have h := sx_pos c2 h
      refine sx_bipush (pc := 20) (v := (-3)) dX11_draw_20 (by decide) ?_
      exact sv_iret (pc := 22) dX11_draw_22 rfl h hP
theorem dX12_checkGlyphs_0 : decode cX12_checkGlyphs 0 = .ok (.aload_n 0, 1) := by decide +kernel
theorem dX12_checkGlyphs_1 : decode cX12_checkGlyphs 1 = .ok (.ldc 243, 2) := by decide +kernel
theorem dX12_checkGlyphs_3 : decode cX12_checkGlyphs 3 = .ok (.invokevirtual 257, 3) := by decide +kernel
theorem dX12_checkGlyphs_6 : decode cX12_checkGlyphs 6 = .ok (.aload_n 0, 1) := by decide +kernel
theorem dX12_checkGlyphs_7 : decode cX12_checkGlyphs 7 = .ok (.getfield 260, 3) := by decide +kernel
theorem dX12_checkGlyphs_10 : decode cX12_checkGlyphs 10 = .ok (.iconst 1, 1) := by decide +kernel
theorem dX12_checkGlyphs_11 : decode cX12_checkGlyphs 11 = .ok (.iadd, 1) := by decide +kernel
theorem dX12_checkGlyphs_12 : decode cX12_checkGlyphs 12 = .ok (.aload_n 0, 1) := by decide +kernel
theorem dX12_checkGlyphs_13 : decode cX12_checkGlyphs 13 = .ok (.getfield 271, 3) := by decide +kernel
theorem dX12_checkGlyphs_16 : decode cX12_checkGlyphs 16 = .ok (.ifCond .ne 7, 3) := by decide +kernel
theorem dX12_checkGlyphs_19 : decode cX12_checkGlyphs 19 = .ok (.iconst 2, 1) := by decide +kernel
theorem dX12_checkGlyphs_20 : decode cX12_checkGlyphs 20 = .ok (.goto 4, 3) := by decide +kernel
theorem dX12_checkGlyphs_23 : decode cX12_checkGlyphs 23 = .ok (.iconst 4, 1) := by decide +kernel
theorem dX12_checkGlyphs_24 : decode cX12_checkGlyphs 24 = .ok (.imul, 1) := by decide +kernel
theorem dX12_checkGlyphs_25 : decode cX12_checkGlyphs 25 = .ok (.if_icmp .ge 6, 3) := by decide +kernel
theorem dX12_checkGlyphs_28 : decode cX12_checkGlyphs 28 = .ok (.bipush 10, 2) := by decide +kernel
theorem dX12_checkGlyphs_30 : decode cX12_checkGlyphs 30 = .ok (.ireturn, 1) := by decide +kernel
theorem dX12_checkGlyphs_31 : decode cX12_checkGlyphs 31 = .ok (.iconst 0, 1) := by decide +kernel
theorem dX12_checkGlyphs_32 : decode cX12_checkGlyphs 32 = .ok (.istore_n 1, 1) := by decide +kernel
theorem dX12_checkGlyphs_33 : decode cX12_checkGlyphs 33 = .ok (.iload_n 1, 1) := by decide +kernel
theorem dX12_checkGlyphs_34 : decode cX12_checkGlyphs 34 = .ok (.aload_n 0, 1) := by decide +kernel
theorem dX12_checkGlyphs_35 : decode cX12_checkGlyphs 35 = .ok (.getfield 260, 3) := by decide +kernel
theorem dX12_checkGlyphs_38 : decode cX12_checkGlyphs 38 = .ok (.if_icmp .ge 28, 3) := by decide +kernel
theorem dX12_checkGlyphs_41 : decode cX12_checkGlyphs 41 = .ok (.aload_n 0, 1) := by decide +kernel
theorem dX12_checkGlyphs_42 : decode cX12_checkGlyphs 42 = .ok (.iload_n 1, 1) := by decide +kernel
theorem dX12_checkGlyphs_43 : decode cX12_checkGlyphs 43 = .ok (.invokevirtual 274, 3) := by decide +kernel
theorem dX12_checkGlyphs_46 : decode cX12_checkGlyphs 46 = .ok (.aload_n 0, 1) := by decide +kernel
theorem dX12_checkGlyphs_47 : decode cX12_checkGlyphs 47 = .ok (.iload_n 1, 1) := by decide +kernel
theorem dX12_checkGlyphs_48 : decode cX12_checkGlyphs 48 = .ok (.iconst 1, 1) := by decide +kernel
theorem dX12_checkGlyphs_49 : decode cX12_checkGlyphs 49 = .ok (.iadd, 1) := by decide +kernel
theorem dX12_checkGlyphs_50 : decode cX12_checkGlyphs 50 = .ok (.invokevirtual 274, 3) := by decide +kernel
theorem dX12_checkGlyphs_53 : decode cX12_checkGlyphs 53 = .ok (.lcmp, 1) := by decide +kernel
theorem dX12_checkGlyphs_54 : decode cX12_checkGlyphs 54 = .ok (.ifCond .le 6, 3) := by decide +kernel
theorem dX12_checkGlyphs_57 : decode cX12_checkGlyphs 57 = .ok (.bipush 10, 2) := by decide +kernel
theorem dX12_checkGlyphs_59 : decode cX12_checkGlyphs 59 = .ok (.ireturn, 1) := by decide +kernel
theorem dX12_checkGlyphs_60 : decode cX12_checkGlyphs 60 = .ok (.iinc 1 1, 3) := by decide +kernel
theorem dX12_checkGlyphs_63 : decode cX12_checkGlyphs 63 = .ok (.goto (-30), 3) := by decide +kernel
theorem dX12_checkGlyphs_66 : decode cX12_checkGlyphs 66 = .ok (.aload_n 0, 1) := by decide +kernel
theorem dX12_checkGlyphs_67 : decode cX12_checkGlyphs 67 = .ok (.aload_n 0, 1) := by decide +kernel
theorem dX12_checkGlyphs_68 : decode cX12_checkGlyphs 68 = .ok (.getfield 260, 3) := by decide +kernel
theorem dX12_checkGlyphs_71 : decode cX12_checkGlyphs 71 = .ok (.invokevirtual 274, 3) := by decide +kernel
theorem dX12_checkGlyphs_74 : decode cX12_checkGlyphs 74 = .ok (.aload_n 0, 1) := by decide +kernel
theorem dX12_checkGlyphs_75 : decode cX12_checkGlyphs 75 = .ok (.ldc 240, 2) := by decide +kernel
theorem dX12_checkGlyphs_77 : decode cX12_checkGlyphs 77 = .ok (.invokevirtual 257, 3) := by decide +kernel
theorem dX12_checkGlyphs_80 : decode cX12_checkGlyphs 80 = .ok (.i2l, 1) := by decide +kernel
theorem dX12_checkGlyphs_81 : decode cX12_checkGlyphs 81 = .ok (.lcmp, 1) := by decide +kernel
theorem dX12_checkGlyphs_82 : decode cX12_checkGlyphs 82 = .ok (.ifCond .le 6, 3) := by decide +kernel
theorem dX12_checkGlyphs_85 : decode cX12_checkGlyphs 85 = .ok (.bipush 10, 2) := by decide +kernel
theorem dX12_checkGlyphs_87 : decode cX12_checkGlyphs 87 = .ok (.ireturn, 1) := by decide +kernel
theorem dX12_checkGlyphs_88 : decode cX12_checkGlyphs 88 = .ok (.iconst 0, 1) := by decide +kernel
theorem dX12_checkGlyphs_89 : decode cX12_checkGlyphs 89 = .ok (.istore_n 1, 1) := by decide +kernel
theorem dX12_checkGlyphs_90 : decode cX12_checkGlyphs 90 = .ok (.iload_n 1, 1) := by decide +kernel
theorem dX12_checkGlyphs_91 : decode cX12_checkGlyphs 91 = .ok (.aload_n 0, 1) := by decide +kernel
theorem dX12_checkGlyphs_92 : decode cX12_checkGlyphs 92 = .ok (.getfield 260, 3) := by decide +kernel
theorem dX12_checkGlyphs_95 : decode cX12_checkGlyphs 95 = .ok (.if_icmp .ge 20, 3) := by decide +kernel
theorem dX12_checkGlyphs_98 : decode cX12_checkGlyphs 98 = .ok (.aload_n 0, 1) := by decide +kernel
theorem dX12_checkGlyphs_99 : decode cX12_checkGlyphs 99 = .ok (.iload_n 1, 1) := by decide +kernel
theorem dX12_checkGlyphs_100 : decode cX12_checkGlyphs 100 = .ok (.invokevirtual 278, 3) := by decide +kernel
theorem dX12_checkGlyphs_103 : decode cX12_checkGlyphs 103 = .ok (.ifCond .ne 6, 3) := by decide +kernel
theorem dX12_checkGlyphs_106 : decode cX12_checkGlyphs 106 = .ok (.bipush 11, 2) := by decide +kernel
theorem dX12_checkGlyphs_108 : decode cX12_checkGlyphs 108 = .ok (.ireturn, 1) := by decide +kernel
theorem dX12_checkGlyphs_109 : decode cX12_checkGlyphs 109 = .ok (.iinc 1 1, 3) := by decide +kernel
theorem dX12_checkGlyphs_112 : decode cX12_checkGlyphs 112 = .ok (.goto (-22), 3) := by decide +kernel
theorem dX12_checkGlyphs_115 : decode cX12_checkGlyphs 115 = .ok (.aload_n 0, 1) := by decide +kernel
theorem dX12_checkGlyphs_116 : decode cX12_checkGlyphs 116 = .ok (.invokevirtual 282, 3) := by decide +kernel
theorem dX12_checkGlyphs_119 : decode cX12_checkGlyphs 119 = .ok (.ifCond .ne 6, 3) := by decide +kernel
theorem dX12_checkGlyphs_122 : decode cX12_checkGlyphs 122 = .ok (.bipush 11, 2) := by decide +kernel
theorem dX12_checkGlyphs_124 : decode cX12_checkGlyphs 124 = .ok (.ireturn, 1) := by decide +kernel
theorem dX12_checkGlyphs_125 : decode cX12_checkGlyphs 125 = .ok (.aload_n 0, 1) := by decide +kernel
theorem dX12_checkGlyphs_126 : decode cX12_checkGlyphs 126 = .ok (.invokevirtual 285, 3) := by decide +kernel
theorem dX12_checkGlyphs_129 : decode cX12_checkGlyphs 129 = .ok (.ifCond .ne 6, 3) := by decide +kernel
theorem dX12_checkGlyphs_132 : decode cX12_checkGlyphs 132 = .ok (.bipush 12, 2) := by decide +kernel
theorem dX12_checkGlyphs_134 : decode cX12_checkGlyphs 134 = .ok (.ireturn, 1) := by decide +kernel
theorem dX12_checkGlyphs_135 : decode cX12_checkGlyphs 135 = .ok (.aload_n 0, 1) := by decide +kernel
theorem dX12_checkGlyphs_136 : decode cX12_checkGlyphs 136 = .ok (.invokevirtual 288, 3) := by decide +kernel
theorem dX12_checkGlyphs_139 : decode cX12_checkGlyphs 139 = .ok (.ifCond .ne 6, 3) := by decide +kernel
theorem dX12_checkGlyphs_142 : decode cX12_checkGlyphs 142 = .ok (.bipush 13, 2) := by decide +kernel
theorem dX12_checkGlyphs_144 : decode cX12_checkGlyphs 144 = .ok (.ireturn, 1) := by decide +kernel
theorem dX12_checkGlyphs_145 : decode cX12_checkGlyphs 145 = .ok (.aload_n 0, 1) := by decide +kernel
theorem dX12_checkGlyphs_146 : decode cX12_checkGlyphs 146 = .ok (.ldc_w 291, 3) := by decide +kernel
theorem dX12_checkGlyphs_149 : decode cX12_checkGlyphs 149 = .ok (.invokevirtual 257, 3) := by decide +kernel
theorem dX12_checkGlyphs_152 : decode cX12_checkGlyphs 152 = .ok (.istore_n 1, 1) := by decide +kernel
theorem dX12_checkGlyphs_153 : decode cX12_checkGlyphs 153 = .ok (.iload_n 1, 1) := by decide +kernel
theorem dX12_checkGlyphs_154 : decode cX12_checkGlyphs 154 = .ok (.iconst 2, 1) := by decide +kernel
theorem dX12_checkGlyphs_155 : decode cX12_checkGlyphs 155 = .ok (.irem, 1) := by decide +kernel
theorem dX12_checkGlyphs_156 : decode cX12_checkGlyphs 156 = .ok (.ifCond .ne 36, 3) := by decide +kernel
theorem dX12_checkGlyphs_159 : decode cX12_checkGlyphs 159 = .ok (.iload_n 1, 1) := by decide +kernel
theorem dX12_checkGlyphs_160 : decode cX12_checkGlyphs 160 = .ok (.sipush 512, 3) := by decide +kernel
theorem dX12_checkGlyphs_163 : decode cX12_checkGlyphs 163 = .ok (.if_icmp .gt 29, 3) := by decide +kernel
theorem dX12_checkGlyphs_166 : decode cX12_checkGlyphs 166 = .ok (.aload_n 0, 1) := by decide +kernel
theorem dX12_checkGlyphs_167 : decode cX12_checkGlyphs 167 = .ok (.ldc_w 292, 3) := by decide +kernel
theorem dX12_checkGlyphs_170 : decode cX12_checkGlyphs 170 = .ok (.invokevirtual 257, 3) := by decide +kernel
theorem dX12_checkGlyphs_173 : decode cX12_checkGlyphs 173 = .ok (.sipush 2000, 3) := by decide +kernel
theorem dX12_checkGlyphs_176 : decode cX12_checkGlyphs 176 = .ok (.if_icmp .gt 16, 3) := by decide +kernel
theorem dX12_checkGlyphs_179 : decode cX12_checkGlyphs 179 = .ok (.aload_n 0, 1) := by decide +kernel
theorem dX12_checkGlyphs_180 : decode cX12_checkGlyphs 180 = .ok (.ldc_w 293, 3) := by decide +kernel
theorem dX12_checkGlyphs_183 : decode cX12_checkGlyphs 183 = .ok (.invokevirtual 257, 3) := by decide +kernel
theorem dX12_checkGlyphs_186 : decode cX12_checkGlyphs 186 = .ok (.sipush 2000, 3) := by decide +kernel
theorem dX12_checkGlyphs_189 : decode cX12_checkGlyphs 189 = .ok (.if_icmp .le 6, 3) := by decide +kernel
theorem dX12_checkGlyphs_192 : decode cX12_checkGlyphs 192 = .ok (.bipush 14, 2) := by decide +kernel
theorem dX12_checkGlyphs_194 : decode cX12_checkGlyphs 194 = .ok (.ireturn, 1) := by decide +kernel
theorem dX12_checkGlyphs_195 : decode cX12_checkGlyphs 195 = .ok (.aload_n 0, 1) := by decide +kernel
theorem dX12_checkGlyphs_196 : decode cX12_checkGlyphs 196 = .ok (.iload_n 1, 1) := by decide +kernel
theorem dX12_checkGlyphs_197 : decode cX12_checkGlyphs 197 = .ok (.iconst 2, 1) := by decide +kernel
theorem dX12_checkGlyphs_198 : decode cX12_checkGlyphs 198 = .ok (.idiv, 1) := by decide +kernel
theorem dX12_checkGlyphs_199 : decode cX12_checkGlyphs 199 = .ok (.putfield 294, 3) := by decide +kernel
theorem dX12_checkGlyphs_202 : decode cX12_checkGlyphs 202 = .ok (.iconst 0, 1) := by decide +kernel
theorem dX12_checkGlyphs_203 : decode cX12_checkGlyphs 203 = .ok (.ireturn, 1) := by decide +kernel
def B_X12_checkGlyphs_90 (N : Nat) (k90 : Int32 → sv_V → Option (Int32 × sv_V)) (l1 : Int32) (V : sv_V) : Option (Int32 × sv_V) := if (V.1 146 12) ≤ l1 then ((F_X12_areWithin N  V).bind (fun (x4, V2) => if x4 = 0 then (some ((11 : Int32), V2)) else ((F_X12_map N  V2).bind (fun (x8, V6) => if x8 = 0 then (some ((12 : Int32), V6)) else ((F_X12_kerns N  V6).bind (fun (x12, V10) => if x12 = 0 then (some ((13 : Int32), V10)) else ((F_X12_lengthOf N (1668707360 : Int32) V10).bind (fun (x16, V14) => if (x16 - x16 / (2 : Int32) * (2 : Int32)) = 0 then (if (512 : Int32) < x16 then (some ((14 : Int32), V14)) else ((F_X12_lengthOf N (1718642541 : Int32) V14).bind (fun (x21, V19) => if (2000 : Int32) < x21 then (some ((14 : Int32), V19)) else ((F_X12_lengthOf N (1886545264 : Int32) V19).bind (fun (x25, V23) => if x25 ≤ (2000 : Int32) then (sx_let (sv_I V23 146 25 (x16 / (2 : Int32))) (fun V27 => some ((0 : Int32), V27))) else (some ((14 : Int32), V23))))))) else (some ((14 : Int32), V14)))))))))) else ((F_X12_isGlyph N l1 V).bind (fun (x30, V28) => if x30 = 0 then (some ((11 : Int32), V28)) else (sx_let (l1 + 1) (fun x32 => k90 x32 V28))))
set_option maxRecDepth 20000 in
theorem tB_X12_checkGlyphs_90 {g : sx_G} (hG : sx_Go g) {P : Option Value → sv_V → Prop} {r : Int32} {Vr : sv_V} (hP : P (some (.int r)) Vr) {N : Nat} {k90 : Int32 → sv_V → Option (Int32 × sv_V)} (hk90 : ∀ (l1 : Int32) (V : sv_V), k90 l1 V = some (r, Vr) → sv_N g qX12_checkGlyphs 7 90 [(0, .ref 146), (1, .int l1)] [] V P) {l1 : Int32} {V : sv_V} (h : B_X12_checkGlyphs_90 N k90 l1 V = some (r, Vr)) : sv_N g qX12_checkGlyphs 7 90 [(0, .ref 146), (1, .int l1)] [] V P := by
  unfold B_X12_checkGlyphs_90 at h
  refine sx_iload_n (pc := 90) dX12_checkGlyphs_90 sx_m1 ?_
  refine sx_aload_n (pc := 91) dX12_checkGlyphs_91 sx_m0 ?_
  refine sv_getI (pc := 92) hG dX12_checkGlyphs_92 f_12_260 lay_146 rfl ?_
  refine sx_icmp_ge (pc := 95) (tgt := 115) dX12_checkGlyphs_95 (by decide) (fun c1 => ?_) (fun c1 => ?_)
  · have h := sx_pos c1 h
    refine sx_aload_n (pc := 115) dX12_checkGlyphs_115 sx_m0 ?_
    obtain ⟨⟨x4, V2⟩, g3, h⟩ := sx_bnd h
    refine sv_cV (pc := 116) (y := qX12_areWithin) (o := (some (.int x4))) (as := []) (V1 := V2) hG dX12_checkGlyphs_116 l_X12_282 y0X12_areWithin yvX12_areWithin rfl (Nat.le_of_ble_eq_true rfl) lay_146 kr_12 (by decide) (Nat.le_of_ble_eq_true rfl) rfl rfl rfl (t_X12_areWithin hG ⟨rfl, rfl⟩ g3) ?_
    refine sx_if_ne (pc := 119) (tgt := 125) dX12_checkGlyphs_119 (by decide) (fun c5 => ?_) (fun c5 => ?_)
    · have h := sx_neg c5 h
      refine sx_aload_n (pc := 125) dX12_checkGlyphs_125 sx_m0 ?_
      obtain ⟨⟨x8, V6⟩, g7, h⟩ := sx_bnd h
      refine sv_cV (pc := 126) (y := qX12_map) (o := (some (.int x8))) (as := []) (V1 := V6) hG dX12_checkGlyphs_126 l_X12_285 y0X12_map yvX12_map rfl (Nat.le_of_ble_eq_true rfl) lay_146 kr_12 (by decide) (Nat.le_of_ble_eq_true rfl) rfl rfl rfl (t_X12_map hG ⟨rfl, rfl⟩ g7) ?_
      refine sx_if_ne (pc := 129) (tgt := 135) dX12_checkGlyphs_129 (by decide) (fun c9 => ?_) (fun c9 => ?_)
      · have h := sx_neg c9 h
        refine sx_aload_n (pc := 135) dX12_checkGlyphs_135 sx_m0 ?_
        obtain ⟨⟨x12, V10⟩, g11, h⟩ := sx_bnd h
        refine sv_cV (pc := 136) (y := qX12_kerns) (o := (some (.int x12))) (as := []) (V1 := V10) hG dX12_checkGlyphs_136 l_X12_288 y0X12_kerns yvX12_kerns rfl (Nat.le_of_ble_eq_true rfl) lay_146 kr_12 (by decide) (Nat.le_of_ble_eq_true rfl) rfl rfl rfl (t_X12_kerns hG ⟨rfl, rfl⟩ g11) ?_
        refine sx_if_ne (pc := 139) (tgt := 145) dX12_checkGlyphs_139 (by decide) (fun c13 => ?_) (fun c13 => ?_)
        · have h := sx_neg c13 h
          refine sx_aload_n (pc := 145) dX12_checkGlyphs_145 sx_m0 ?_
          refine sx_ldcw (pc := 146) dX12_checkGlyphs_146 k_X12_291 ?_
          obtain ⟨⟨x16, V14⟩, g15, h⟩ := sx_bnd h
          refine sv_cV (pc := 149) (y := qX12_lengthOf) (o := (some (.int x16))) (as := [.int (1668707360 : Int32)]) (V1 := V14) hG dX12_checkGlyphs_149 l_X12_257 y0X12_lengthOf yvX12_lengthOf rfl (Nat.le_of_ble_eq_true rfl) lay_146 kr_12 (by decide) (Nat.le_of_ble_eq_true rfl) rfl rfl rfl (t_X12_lengthOf hG ⟨rfl, rfl⟩ g15) ?_
          refine sx_istore_n (pc := 152) (lo' := [(1, .int x16), (0, .ref 146)]) dX12_checkGlyphs_152 (by decide) rfl ?_
          refine sx_iload_n (pc := 153) dX12_checkGlyphs_153 sx_m0 ?_
          refine sx_iconst (pc := 154) (v := 2) dX12_checkGlyphs_154 (by decide) ?_
          refine sx_irem (pc := 155) dX12_checkGlyphs_155 (by decide) ?_
          refine sx_if_ne (pc := 156) (tgt := 192) dX12_checkGlyphs_156 (by decide) (fun c17 => ?_) (fun c17 => ?_)
          · have h := sx_neg c17 h
            refine sx_bipush (pc := 192) (v := 14) dX12_checkGlyphs_192 (by decide) ?_
            exact sv_iret (pc := 194) dX12_checkGlyphs_194 rfl h hP
          · have h := sx_pos c17 h
            refine sx_iload_n (pc := 159) dX12_checkGlyphs_159 sx_m0 ?_
            refine sx_sipush (pc := 160) (v := 512) dX12_checkGlyphs_160 (by decide) ?_
            refine sx_icmp_gt (pc := 163) (tgt := 192) dX12_checkGlyphs_163 (by decide) (fun c18 => ?_) (fun c18 => ?_)
            · have h := sx_pos c18 h
              refine sx_bipush (pc := 192) (v := 14) dX12_checkGlyphs_192 (by decide) ?_
              exact sv_iret (pc := 194) dX12_checkGlyphs_194 rfl h hP
            · have h := sx_neg c18 h
              refine sx_aload_n (pc := 166) dX12_checkGlyphs_166 sx_m1 ?_
              refine sx_ldcw (pc := 167) dX12_checkGlyphs_167 k_X12_292 ?_
              obtain ⟨⟨x21, V19⟩, g20, h⟩ := sx_bnd h
              refine sv_cV (pc := 170) (y := qX12_lengthOf) (o := (some (.int x21))) (as := [.int (1718642541 : Int32)]) (V1 := V19) hG dX12_checkGlyphs_170 l_X12_257 y0X12_lengthOf yvX12_lengthOf rfl (Nat.le_of_ble_eq_true rfl) lay_146 kr_12 (by decide) (Nat.le_of_ble_eq_true rfl) rfl rfl rfl (t_X12_lengthOf hG ⟨rfl, rfl⟩ g20) ?_
              refine sx_sipush (pc := 173) (v := 2000) dX12_checkGlyphs_173 (by decide) ?_
              refine sx_icmp_gt (pc := 176) (tgt := 192) dX12_checkGlyphs_176 (by decide) (fun c22 => ?_) (fun c22 => ?_)
              · have h := sx_pos c22 h
                refine sx_bipush (pc := 192) (v := 14) dX12_checkGlyphs_192 (by decide) ?_
                exact sv_iret (pc := 194) dX12_checkGlyphs_194 rfl h hP
              · have h := sx_neg c22 h
                refine sx_aload_n (pc := 179) dX12_checkGlyphs_179 sx_m1 ?_
                refine sx_ldcw (pc := 180) dX12_checkGlyphs_180 k_X12_293 ?_
                obtain ⟨⟨x25, V23⟩, g24, h⟩ := sx_bnd h
                refine sv_cV (pc := 183) (y := qX12_lengthOf) (o := (some (.int x25))) (as := [.int (1886545264 : Int32)]) (V1 := V23) hG dX12_checkGlyphs_183 l_X12_257 y0X12_lengthOf yvX12_lengthOf rfl (Nat.le_of_ble_eq_true rfl) lay_146 kr_12 (by decide) (Nat.le_of_ble_eq_true rfl) rfl rfl rfl (t_X12_lengthOf hG ⟨rfl, rfl⟩ g24) ?_
                refine sx_sipush (pc := 186) (v := 2000) dX12_checkGlyphs_186 (by decide) ?_
                refine sx_icmp_le (pc := 189) (tgt := 195) dX12_checkGlyphs_189 (by decide) (fun c26 => ?_) (fun c26 => ?_)
                · have h := sx_pos c26 h
                  refine sx_aload_n (pc := 195) dX12_checkGlyphs_195 sx_m1 ?_
                  refine sx_iload_n (pc := 196) dX12_checkGlyphs_196 sx_m0 ?_
                  refine sx_iconst (pc := 197) (v := 2) dX12_checkGlyphs_197 (by decide) ?_
                  refine sx_idiv (pc := 198) dX12_checkGlyphs_198 (by decide) ?_
                  obtain ⟨V27, hV27⟩ : ∃ z : sv_V, z = sv_I V23 146 25 (x16 / (2 : Int32)) := ⟨_, rfl⟩
                  have h := sx_letE hV27 h
                  refine sv_putI (pc := 199) hG dX12_checkGlyphs_199 f_12_294 lay_146 rfl hV27 ?_
                  refine sx_iconst (pc := 202) (v := 0) dX12_checkGlyphs_202 (by decide) ?_
                  exact sv_iret (pc := 203) dX12_checkGlyphs_203 rfl h hP
                · have h := sx_neg c26 h
                  refine sx_bipush (pc := 192) (v := 14) dX12_checkGlyphs_192 (by decide) ?_
                  exact sv_iret (pc := 194) dX12_checkGlyphs_194 rfl h hP
        · have h := sx_pos c13 h
          refine sx_bipush (pc := 142) (v := 13) dX12_checkGlyphs_142 (by decide) ?_
          exact sv_iret (pc := 144) dX12_checkGlyphs_144 rfl h hP
      · have h := sx_pos c9 h
        refine sx_bipush (pc := 132) (v := 12) dX12_checkGlyphs_132 (by decide) ?_
        exact sv_iret (pc := 134) dX12_checkGlyphs_134 rfl h hP
    · have h := sx_pos c5 h
      refine sx_bipush (pc := 122) (v := 11) dX12_checkGlyphs_122 (by decide) ?_
      exact sv_iret (pc := 124) dX12_checkGlyphs_124 rfl h hP
  · have h := sx_neg c1 h
    refine sx_aload_n (pc := 98) dX12_checkGlyphs_98 sx_m0 ?_
    refine sx_iload_n (pc := 99) dX12_checkGlyphs_99 sx_m1 ?_
    obtain ⟨⟨x30, V28⟩, g29, h⟩ := sx_bnd h
    refine sv_cV (pc := 100) (y := qX12_isGlyph) (o := (some (.int x30))) (as := [.int l1]) (V1 := V28) hG dX12_checkGlyphs_100 l_X12_278 y0X12_isGlyph yvX12_isGlyph rfl (Nat.le_of_ble_eq_true rfl) lay_146 kr_12 (by decide) (Nat.le_of_ble_eq_true rfl) rfl rfl rfl (t_X12_isGlyph hG ⟨rfl, rfl⟩ g29) ?_
    refine sx_if_ne (pc := 103) (tgt := 109) dX12_checkGlyphs_103 (by decide) (fun c31 => ?_) (fun c31 => ?_)
    · have h := sx_neg c31 h
      obtain ⟨x32, hx32⟩ : ∃ z : Int32, z = l1 + 1 := ⟨_, rfl⟩
      have h := sx_letE hx32 h
      refine sx_iinc (pc := 109) (v := x32) (lo' := [(1, .int x32), (0, .ref 146)]) dX12_checkGlyphs_109 sx_m1 (by rw [hx32]; rfl) (by decide) rfl ?_
      refine sx_goto (pc := 112) (tgt := 90) dX12_checkGlyphs_112 (by decide) ?_
      refine sx_wk (sx_s1 sx_m1 (sx_s1 sx_m0 sx_s0)) ?_
      exact hk90 _ _ h
    · have h := sx_pos c31 h
      refine sx_bipush (pc := 106) (v := 11) dX12_checkGlyphs_106 (by decide) ?_
      exact sv_iret (pc := 108) dX12_checkGlyphs_108 rfl h hP
theorem tL_X12_checkGlyphs_90 {g : sx_G} (hG : sx_Go g) {P : Option Value → sv_V → Prop} {r : Int32} {Vr : sv_V} (hP : P (some (.int r)) Vr) {N : Nat}   : ∀ (n : Nat) (l1 : Int32) (V : sv_V), sx_lp2 (B_X12_checkGlyphs_90 N ) n l1 V = some (r, Vr) → sv_N g qX12_checkGlyphs 7 90 [(0, .ref 146), (1, .int l1)] [] V P :=
  sx_lp2_ind (fun k0 ih _ V h => tB_X12_checkGlyphs_90 hG hP ih h)
def B_X12_checkGlyphs_33 (N : Nat) (k33 : Int32 → sv_V → Option (Int32 × sv_V)) (l1 : Int32) (V : sv_V) : Option (Int32 × sv_V) := if (V.1 146 12) ≤ l1 then ((F_X12_loca N (V.1 146 12) V).bind (fun (x36, V34) => (F_X12_lengthOf N (1735162214 : Int32) V34).bind (fun (x39, V37) => if (lg_cmp x36 x39.toInt64) ≤ 0 then (sx_lp2 (B_X12_checkGlyphs_90 N ) N (0 : Int32) V37) else (some ((10 : Int32), V37))))) else ((F_X12_loca N l1 V).bind (fun (x43, V41) => (F_X12_loca N (l1 + (1 : Int32)) V41).bind (fun (x46, V44) => if (lg_cmp x43 x46) ≤ 0 then (sx_let (l1 + 1) (fun x48 => k33 x48 V44)) else (some ((10 : Int32), V44)))))
set_option maxRecDepth 20000 in
theorem tB_X12_checkGlyphs_33 {g : sx_G} (hG : sx_Go g) {P : Option Value → sv_V → Prop} {r : Int32} {Vr : sv_V} (hP : P (some (.int r)) Vr) {N : Nat} {k33 : Int32 → sv_V → Option (Int32 × sv_V)} (hk33 : ∀ (l1 : Int32) (V : sv_V), k33 l1 V = some (r, Vr) → sv_N g qX12_checkGlyphs 7 33 [(0, .ref 146), (1, .int l1)] [] V P) {l1 : Int32} {V : sv_V} (h : B_X12_checkGlyphs_33 N k33 l1 V = some (r, Vr)) : sv_N g qX12_checkGlyphs 7 33 [(0, .ref 146), (1, .int l1)] [] V P := by
  unfold B_X12_checkGlyphs_33 at h
  refine sx_iload_n (pc := 33) dX12_checkGlyphs_33 sx_m1 ?_
  refine sx_aload_n (pc := 34) dX12_checkGlyphs_34 sx_m0 ?_
  refine sv_getI (pc := 35) hG dX12_checkGlyphs_35 f_12_260 lay_146 rfl ?_
  refine sx_icmp_ge (pc := 38) (tgt := 66) dX12_checkGlyphs_38 (by decide) (fun c33 => ?_) (fun c33 => ?_)
  · have h := sx_pos c33 h
    refine sx_aload_n (pc := 66) dX12_checkGlyphs_66 sx_m0 ?_
    refine sx_aload_n (pc := 67) dX12_checkGlyphs_67 sx_m0 ?_
    refine sv_getI (pc := 68) hG dX12_checkGlyphs_68 f_12_260 lay_146 rfl ?_
    obtain ⟨⟨x36, V34⟩, g35, h⟩ := sx_bnd h
    refine sv_cV (pc := 71) (y := qX12_loca) (o := (some (.long x36))) (as := [.int (V.1 146 12)]) (V1 := V34) hG dX12_checkGlyphs_71 l_X12_274 y0X12_loca yvX12_loca rfl (Nat.le_of_ble_eq_true rfl) lay_146 kr_12 (by decide) (Nat.le_of_ble_eq_true rfl) rfl rfl rfl (t_X12_loca hG ⟨rfl, rfl⟩ g35) ?_
    refine sx_aload_n (pc := 74) dX12_checkGlyphs_74 sx_m0 ?_
    refine sx_ldc (pc := 75) dX12_checkGlyphs_75 k_X12_240 ?_
    obtain ⟨⟨x39, V37⟩, g38, h⟩ := sx_bnd h
    refine sv_cV (pc := 77) (y := qX12_lengthOf) (o := (some (.int x39))) (as := [.int (1735162214 : Int32)]) (V1 := V37) hG dX12_checkGlyphs_77 l_X12_257 y0X12_lengthOf yvX12_lengthOf rfl (Nat.le_of_ble_eq_true rfl) lay_146 kr_12 (by decide) (Nat.le_of_ble_eq_true rfl) rfl rfl rfl (t_X12_lengthOf hG ⟨rfl, rfl⟩ g38) ?_
    refine sx_i2l (pc := 80) dX12_checkGlyphs_80 ?_
    refine sx_lcmp (pc := 81) dX12_checkGlyphs_81 ?_
    refine sx_if_le (pc := 82) (tgt := 88) dX12_checkGlyphs_82 (by decide) (fun c40 => ?_) (fun c40 => ?_)
    · have h := sx_pos c40 h
      refine sx_iconst (pc := 88) (v := 0) dX12_checkGlyphs_88 (by decide) ?_
      refine sx_istore_n (pc := 89) (lo' := [(1, .int (0 : Int32)), (0, .ref 146)]) dX12_checkGlyphs_89 (by decide) rfl ?_
      refine sx_wk (sx_s1 sx_m1 (sx_s1 sx_m0 sx_s0)) ?_
      exact tL_X12_checkGlyphs_90 hG hP  N _ _ h
    · have h := sx_neg c40 h
      refine sx_bipush (pc := 85) (v := 10) dX12_checkGlyphs_85 (by decide) ?_
      exact sv_iret (pc := 87) dX12_checkGlyphs_87 rfl h hP
  · have h := sx_neg c33 h
    refine sx_aload_n (pc := 41) dX12_checkGlyphs_41 sx_m0 ?_
    refine sx_iload_n (pc := 42) dX12_checkGlyphs_42 sx_m1 ?_
    obtain ⟨⟨x43, V41⟩, g42, h⟩ := sx_bnd h
    refine sv_cV (pc := 43) (y := qX12_loca) (o := (some (.long x43))) (as := [.int l1]) (V1 := V41) hG dX12_checkGlyphs_43 l_X12_274 y0X12_loca yvX12_loca rfl (Nat.le_of_ble_eq_true rfl) lay_146 kr_12 (by decide) (Nat.le_of_ble_eq_true rfl) rfl rfl rfl (t_X12_loca hG ⟨rfl, rfl⟩ g42) ?_
    refine sx_aload_n (pc := 46) dX12_checkGlyphs_46 sx_m0 ?_
    refine sx_iload_n (pc := 47) dX12_checkGlyphs_47 sx_m1 ?_
    refine sx_iconst (pc := 48) (v := 1) dX12_checkGlyphs_48 (by decide) ?_
    refine sx_iadd (pc := 49) dX12_checkGlyphs_49 ?_
    obtain ⟨⟨x46, V44⟩, g45, h⟩ := sx_bnd h
    refine sv_cV (pc := 50) (y := qX12_loca) (o := (some (.long x46))) (as := [.int (l1 + (1 : Int32))]) (V1 := V44) hG dX12_checkGlyphs_50 l_X12_274 y0X12_loca yvX12_loca rfl (Nat.le_of_ble_eq_true rfl) lay_146 kr_12 (by decide) (Nat.le_of_ble_eq_true rfl) rfl rfl rfl (t_X12_loca hG ⟨rfl, rfl⟩ g45) ?_
    refine sx_lcmp (pc := 53) dX12_checkGlyphs_53 ?_
    refine sx_if_le (pc := 54) (tgt := 60) dX12_checkGlyphs_54 (by decide) (fun c47 => ?_) (fun c47 => ?_)
    · have h := sx_pos c47 h
      obtain ⟨x48, hx48⟩ : ∃ z : Int32, z = l1 + 1 := ⟨_, rfl⟩
      have h := sx_letE hx48 h
      refine sx_iinc (pc := 60) (v := x48) (lo' := [(1, .int x48), (0, .ref 146)]) dX12_checkGlyphs_60 sx_m1 (by rw [hx48]; rfl) (by decide) rfl ?_
      refine sx_goto (pc := 63) (tgt := 33) dX12_checkGlyphs_63 (by decide) ?_
      refine sx_wk (sx_s1 sx_m1 (sx_s1 sx_m0 sx_s0)) ?_
      exact hk33 _ _ h
    · have h := sx_neg c47 h
      refine sx_bipush (pc := 57) (v := 10) dX12_checkGlyphs_57 (by decide) ?_
      exact sv_iret (pc := 59) dX12_checkGlyphs_59 rfl h hP
theorem tL_X12_checkGlyphs_33 {g : sx_G} (hG : sx_Go g) {P : Option Value → sv_V → Prop} {r : Int32} {Vr : sv_V} (hP : P (some (.int r)) Vr) {N : Nat}   : ∀ (n : Nat) (l1 : Int32) (V : sv_V), sx_lp2 (B_X12_checkGlyphs_33 N ) n l1 V = some (r, Vr) → sv_N g qX12_checkGlyphs 7 33 [(0, .ref 146), (1, .int l1)] [] V P :=
  sx_lp2_ind (fun k0 ih _ V h => tB_X12_checkGlyphs_33 hG hP ih h)
def B_X12_checkGlyphs_24 (N : Nat)  (s0 : Int32) (s1 : Int32) (s2 : Int32) (V : sv_V) : Option (Int32 × sv_V) := if (s1 * s2) ≤ s0 then (sx_lp2 (B_X12_checkGlyphs_33 N ) N (0 : Int32) V) else (some ((10 : Int32), V))
set_option maxRecDepth 20000 in
theorem tB_X12_checkGlyphs_24 {g : sx_G} (hG : sx_Go g) {P : Option Value → sv_V → Prop} {r : Int32} {Vr : sv_V} (hP : P (some (.int r)) Vr) {N : Nat}   {s0 : Int32} {s1 : Int32} {s2 : Int32} {V : sv_V} (h : B_X12_checkGlyphs_24 N  s0 s1 s2 V = some (r, Vr)) : sv_N g qX12_checkGlyphs 7 24 [(0, .ref 146)] [.int s2, .int s1, .int s0] V P := by
  unfold B_X12_checkGlyphs_24 at h
  refine sx_imul (pc := 24) dX12_checkGlyphs_24 ?_
  refine sx_icmp_ge (pc := 25) (tgt := 31) dX12_checkGlyphs_25 (by decide) (fun c49 => ?_) (fun c49 => ?_)
  · have h := sx_pos c49 h
    refine sx_iconst (pc := 31) (v := 0) dX12_checkGlyphs_31 (by decide) ?_
    refine sx_istore_n (pc := 32) (lo' := [(1, .int (0 : Int32)), (0, .ref 146)]) dX12_checkGlyphs_32 (by decide) rfl ?_
    refine sx_wk (sx_s1 sx_m1 (sx_s1 sx_m0 sx_s0)) ?_
    exact tL_X12_checkGlyphs_33 hG hP  N _ _ h
  · have h := sx_neg c49 h
    refine sx_bipush (pc := 28) (v := 10) dX12_checkGlyphs_28 (by decide) ?_
    exact sv_iret (pc := 30) dX12_checkGlyphs_30 rfl h hP
def F_X12_checkGlyphs (N : Nat)  (V : sv_V) : Option (Int32 × sv_V) := (F_X12_lengthOf N (1819239265 : Int32) V).bind (fun (x52, V50) => if (V50.1 146 11) = 0 then (B_X12_checkGlyphs_24 N  x52 ((V50.1 146 12) + (1 : Int32)) (2 : Int32) V50) else (B_X12_checkGlyphs_24 N  x52 ((V50.1 146 12) + (1 : Int32)) (4 : Int32) V50))
set_option maxRecDepth 20000 in
theorem t_X12_checkGlyphs {g : sx_G} (hG : sx_Go g) {P : Option Value → sv_V → Prop} {r : Int32} {Vr : sv_V} (hP : P (some (.int r)) Vr) {N : Nat}  {V : sv_V} (h : F_X12_checkGlyphs N  V = some (r, Vr)) : sv_N g qX12_checkGlyphs 7 0 [(0, .ref 146)] [] V P := by
  unfold F_X12_checkGlyphs at h
  refine sx_aload_n (pc := 0) dX12_checkGlyphs_0 sx_m0 ?_
  refine sx_ldc (pc := 1) dX12_checkGlyphs_1 k_X12_243 ?_
  obtain ⟨⟨x52, V50⟩, g51, h⟩ := sx_bnd h
  refine sv_cV (pc := 3) (y := qX12_lengthOf) (o := (some (.int x52))) (as := [.int (1819239265 : Int32)]) (V1 := V50) hG dX12_checkGlyphs_3 l_X12_257 y0X12_lengthOf yvX12_lengthOf rfl (Nat.le_of_ble_eq_true rfl) lay_146 kr_12 (by decide) (Nat.le_of_ble_eq_true rfl) rfl rfl rfl (t_X12_lengthOf hG ⟨rfl, rfl⟩ g51) ?_
  refine sx_aload_n (pc := 6) dX12_checkGlyphs_6 sx_m0 ?_
  refine sv_getI (pc := 7) hG dX12_checkGlyphs_7 f_12_260 lay_146 rfl ?_
  refine sx_iconst (pc := 10) (v := 1) dX12_checkGlyphs_10 (by decide) ?_
  refine sx_iadd (pc := 11) dX12_checkGlyphs_11 ?_
  refine sx_aload_n (pc := 12) dX12_checkGlyphs_12 sx_m0 ?_
  refine sv_getI (pc := 13) hG dX12_checkGlyphs_13 f_12_271 lay_146 rfl ?_
  refine sx_if_ne (pc := 16) (tgt := 23) dX12_checkGlyphs_16 (by decide) (fun c53 => ?_) (fun c53 => ?_)
  · have h := sx_neg c53 h
    refine sx_iconst (pc := 23) (v := 4) dX12_checkGlyphs_23 (by decide) ?_
    refine sx_wk (sx_s1 sx_m0 sx_s0) ?_
    exact tB_X12_checkGlyphs_24 hG hP  h
  · have h := sx_pos c53 h
    refine sx_iconst (pc := 19) (v := 2) dX12_checkGlyphs_19 (by decide) ?_
    refine sx_goto (pc := 20) (tgt := 24) dX12_checkGlyphs_20 (by decide) ?_
    refine sx_wk (sx_s1 sx_m0 sx_s0) ?_
    exact tB_X12_checkGlyphs_24 hG hP  h
theorem dX12_low_0 : decode cX12_low 0 = .ok (.iload_n 1, 1) := by decide +kernel
theorem dX12_low_1 : decode cX12_low 1 = .ok (.tableswitch 758 0 31 #[143, 143, 172, 172, 203, 203, 234, 234, 234, 234, 384, 384, 445, 464, 483, 758, 500, 521, 542, 563, 563, 563, 563, 569, 606, 618, 631, 652, 672, 690, 711, 732], 143) := by decide +kernel
theorem dX12_low_144 : decode cX12_low 144 = .ok (.aload_n 0, 1) := by decide +kernel
theorem dX12_low_145 : decode cX12_low 145 = .ok (.iload_n 1, 1) := by decide +kernel
theorem dX12_low_146 : decode cX12_low 146 = .ok (.ifCond .ne 7, 3) := by decide +kernel
theorem dX12_low_149 : decode cX12_low 149 = .ok (.iconst 0, 1) := by decide +kernel
theorem dX12_low_150 : decode cX12_low 150 = .ok (.goto 6, 3) := by decide +kernel
theorem dX12_low_153 : decode cX12_low 153 = .ok (.sipush 16384, 3) := by decide +kernel
theorem dX12_low_156 : decode cX12_low 156 = .ok (.iload_n 1, 1) := by decide +kernel
theorem dX12_low_157 : decode cX12_low 157 = .ok (.ifCond .ne 9, 3) := by decide +kernel
theorem dX12_low_160 : decode cX12_low 160 = .ok (.sipush 16384, 3) := by decide +kernel
theorem dX12_low_163 : decode cX12_low 163 = .ok (.goto 4, 3) := by decide +kernel
theorem dX12_low_166 : decode cX12_low 166 = .ok (.iconst 0, 1) := by decide +kernel
theorem dX12_low_167 : decode cX12_low 167 = .ok (.iconst 1, 1) := by decide +kernel
theorem dX12_low_168 : decode cX12_low 168 = .ok (.iconst 1, 1) := by decide +kernel
theorem dX12_low_169 : decode cX12_low 169 = .ok (.invokevirtual 572, 3) := by decide +kernel
theorem dX12_low_172 : decode cX12_low 172 = .ok (.return_, 1) := by decide +kernel
theorem dX12_low_173 : decode cX12_low 173 = .ok (.aload_n 0, 1) := by decide +kernel
theorem dX12_low_174 : decode cX12_low 174 = .ok (.iload_n 1, 1) := by decide +kernel
theorem dX12_low_175 : decode cX12_low 175 = .ok (.iconst 2, 1) := by decide +kernel
theorem dX12_low_176 : decode cX12_low 176 = .ok (.if_icmp .ne 7, 3) := by decide +kernel
theorem dX12_low_179 : decode cX12_low 179 = .ok (.iconst 0, 1) := by decide +kernel
theorem dX12_low_180 : decode cX12_low 180 = .ok (.goto 6, 3) := by decide +kernel
theorem dX12_low_183 : decode cX12_low 183 = .ok (.sipush 16384, 3) := by decide +kernel
theorem dX12_low_186 : decode cX12_low 186 = .ok (.iload_n 1, 1) := by decide +kernel
theorem dX12_low_187 : decode cX12_low 187 = .ok (.iconst 2, 1) := by decide +kernel
theorem dX12_low_188 : decode cX12_low 188 = .ok (.if_icmp .ne 9, 3) := by decide +kernel
theorem dX12_low_191 : decode cX12_low 191 = .ok (.sipush 16384, 3) := by decide +kernel
theorem dX12_low_194 : decode cX12_low 194 = .ok (.goto 4, 3) := by decide +kernel
theorem dX12_low_197 : decode cX12_low 197 = .ok (.iconst 0, 1) := by decide +kernel
theorem dX12_low_198 : decode cX12_low 198 = .ok (.iconst 0, 1) := by decide +kernel
theorem dX12_low_199 : decode cX12_low 199 = .ok (.iconst 1, 1) := by decide +kernel
theorem dX12_low_200 : decode cX12_low 200 = .ok (.invokevirtual 572, 3) := by decide +kernel
theorem dX12_low_203 : decode cX12_low 203 = .ok (.return_, 1) := by decide +kernel
theorem dX12_low_204 : decode cX12_low 204 = .ok (.aload_n 0, 1) := by decide +kernel
theorem dX12_low_205 : decode cX12_low 205 = .ok (.iload_n 1, 1) := by decide +kernel
theorem dX12_low_206 : decode cX12_low 206 = .ok (.iconst 4, 1) := by decide +kernel
theorem dX12_low_207 : decode cX12_low 207 = .ok (.if_icmp .ne 7, 3) := by decide +kernel
theorem dX12_low_210 : decode cX12_low 210 = .ok (.iconst 0, 1) := by decide +kernel
theorem dX12_low_211 : decode cX12_low 211 = .ok (.goto 6, 3) := by decide +kernel
theorem dX12_low_214 : decode cX12_low 214 = .ok (.sipush 16384, 3) := by decide +kernel
theorem dX12_low_217 : decode cX12_low 217 = .ok (.iload_n 1, 1) := by decide +kernel
theorem dX12_low_218 : decode cX12_low 218 = .ok (.iconst 4, 1) := by decide +kernel
theorem dX12_low_219 : decode cX12_low 219 = .ok (.if_icmp .ne 9, 3) := by decide +kernel
theorem dX12_low_222 : decode cX12_low 222 = .ok (.sipush 16384, 3) := by decide +kernel
theorem dX12_low_225 : decode cX12_low 225 = .ok (.goto 4, 3) := by decide +kernel
theorem dX12_low_228 : decode cX12_low 228 = .ok (.iconst 0, 1) := by decide +kernel
theorem dX12_low_229 : decode cX12_low 229 = .ok (.iconst 1, 1) := by decide +kernel
theorem dX12_low_230 : decode cX12_low 230 = .ok (.iconst 0, 1) := by decide +kernel
theorem dX12_low_231 : decode cX12_low 231 = .ok (.invokevirtual 572, 3) := by decide +kernel
theorem dX12_low_234 : decode cX12_low 234 = .ok (.return_, 1) := by decide +kernel
theorem dX12_low_235 : decode cX12_low 235 = .ok (.aload_n 0, 1) := by decide +kernel
theorem dX12_low_236 : decode cX12_low 236 = .ok (.iconst 2, 1) := by decide +kernel
theorem dX12_low_237 : decode cX12_low 237 = .ok (.invokevirtual 576, 3) := by decide +kernel
theorem dX12_low_240 : decode cX12_low 240 = .ok (.ifCond .eq 144, 3) := by decide +kernel
theorem dX12_low_243 : decode cX12_low 243 = .ok (.aload_n 0, 1) := by decide +kernel
theorem dX12_low_244 : decode cX12_low 244 = .ok (.aload_n 0, 1) := by decide +kernel
theorem dX12_low_245 : decode cX12_low 245 = .ok (.getfield 466, 3) := by decide +kernel
theorem dX12_low_248 : decode cX12_low 248 = .ok (.aload_n 0, 1) := by decide +kernel
theorem dX12_low_249 : decode cX12_low 249 = .ok (.invokevirtual 579, 3) := by decide +kernel
theorem dX12_low_252 : decode cX12_low 252 = .ok (.invokevirtual 582, 3) := by decide +kernel
theorem dX12_low_255 : decode cX12_low 255 = .ok (.istore_n 2, 1) := by decide +kernel
theorem dX12_low_256 : decode cX12_low 256 = .ok (.aload_n 0, 1) := by decide +kernel
theorem dX12_low_257 : decode cX12_low 257 = .ok (.aload_n 0, 1) := by decide +kernel
theorem dX12_low_258 : decode cX12_low 258 = .ok (.getfield 463, 3) := by decide +kernel
theorem dX12_low_261 : decode cX12_low 261 = .ok (.aload_n 0, 1) := by decide +kernel
theorem dX12_low_262 : decode cX12_low 262 = .ok (.invokevirtual 579, 3) := by decide +kernel
theorem dX12_low_265 : decode cX12_low 265 = .ok (.invokevirtual 582, 3) := by decide +kernel
theorem dX12_low_268 : decode cX12_low 268 = .ok (.istore_n 3, 1) := by decide +kernel
theorem dX12_low_269 : decode cX12_low 269 = .ok (.aload_n 0, 1) := by decide +kernel
theorem dX12_low_270 : decode cX12_low 270 = .ok (.getfield 409, 3) := by decide +kernel
theorem dX12_low_273 : decode cX12_low 273 = .ok (.ifCond .ne 111, 3) := by decide +kernel
theorem dX12_low_276 : decode cX12_low 276 = .ok (.aload_n 0, 1) := by decide +kernel
theorem dX12_low_277 : decode cX12_low 277 = .ok (.aload_n 0, 1) := by decide +kernel
theorem dX12_low_278 : decode cX12_low 278 = .ok (.getfield 76, 3) := by decide +kernel
theorem dX12_low_281 : decode cX12_low 281 = .ok (.iload_n 3, 1) := by decide +kernel
theorem dX12_low_282 : decode cX12_low 282 = .ok (.iaload, 1) := by decide +kernel
theorem dX12_low_283 : decode cX12_low 283 = .ok (.aload_n 0, 1) := by decide +kernel
theorem dX12_low_284 : decode cX12_low 284 = .ok (.getfield 76, 3) := by decide +kernel
theorem dX12_low_287 : decode cX12_low 287 = .ok (.iload_n 2, 1) := by decide +kernel
theorem dX12_low_288 : decode cX12_low 288 = .ok (.iaload, 1) := by decide +kernel
theorem dX12_low_289 : decode cX12_low 289 = .ok (.isub, 1) := by decide +kernel
theorem dX12_low_290 : decode cX12_low 290 = .ok (.aload_n 0, 1) := by decide +kernel
theorem dX12_low_291 : decode cX12_low 291 = .ok (.getfield 79, 3) := by decide +kernel
theorem dX12_low_294 : decode cX12_low 294 = .ok (.iload_n 3, 1) := by decide +kernel
theorem dX12_low_295 : decode cX12_low 295 = .ok (.iaload, 1) := by decide +kernel
theorem dX12_low_296 : decode cX12_low 296 = .ok (.aload_n 0, 1) := by decide +kernel
theorem dX12_low_297 : decode cX12_low 297 = .ok (.getfield 79, 3) := by decide +kernel
theorem dX12_low_300 : decode cX12_low 300 = .ok (.iload_n 2, 1) := by decide +kernel
theorem dX12_low_301 : decode cX12_low 301 = .ok (.iaload, 1) := by decide +kernel
theorem dX12_low_302 : decode cX12_low 302 = .ok (.isub, 1) := by decide +kernel
theorem dX12_low_303 : decode cX12_low 303 = .ok (.invokevirtual 586, 3) := by decide +kernel
theorem dX12_low_306 : decode cX12_low 306 = .ok (.iload_n 1, 1) := by decide +kernel
theorem dX12_low_307 : decode cX12_low 307 = .ok (.bipush 7, 2) := by decide +kernel
theorem dX12_low_309 : decode cX12_low 309 = .ok (.if_icmp .eq 9, 3) := by decide +kernel
theorem dX12_low_312 : decode cX12_low 312 = .ok (.iload_n 1, 1) := by decide +kernel
theorem dX12_low_313 : decode cX12_low 313 = .ok (.bipush 9, 2) := by decide +kernel
theorem dX12_low_315 : decode cX12_low 315 = .ok (.if_icmp .ne 7, 3) := by decide +kernel
theorem dX12_low_318 : decode cX12_low 318 = .ok (.iconst 1, 1) := by decide +kernel
theorem dX12_low_319 : decode cX12_low 319 = .ok (.goto 4, 3) := by decide +kernel
theorem dX12_low_322 : decode cX12_low 322 = .ok (.iconst 0, 1) := by decide +kernel
theorem dX12_low_323 : decode cX12_low 323 = .ok (.istore 4, 2) := by decide +kernel
theorem dX12_low_325 : decode cX12_low 325 = .ok (.aload_n 0, 1) := by decide +kernel
theorem dX12_low_326 : decode cX12_low 326 = .ok (.iload 4, 2) := by decide +kernel
theorem dX12_low_328 : decode cX12_low 328 = .ok (.ifCond .eq 11, 3) := by decide +kernel
theorem dX12_low_331 : decode cX12_low 331 = .ok (.aload_n 0, 1) := by decide +kernel
theorem dX12_low_332 : decode cX12_low 332 = .ok (.getfield 536, 3) := by decide +kernel
theorem dX12_low_335 : decode cX12_low 335 = .ok (.ineg, 1) := by decide +kernel
theorem dX12_low_336 : decode cX12_low 336 = .ok (.goto 7, 3) := by decide +kernel
theorem dX12_low_339 : decode cX12_low 339 = .ok (.aload_n 0, 1) := by decide +kernel
theorem dX12_low_340 : decode cX12_low 340 = .ok (.getfield 533, 3) := by decide +kernel
theorem dX12_low_343 : decode cX12_low 343 = .ok (.iload 4, 2) := by decide +kernel
theorem dX12_low_345 : decode cX12_low 345 = .ok (.ifCond .eq 10, 3) := by decide +kernel
theorem dX12_low_348 : decode cX12_low 348 = .ok (.aload_n 0, 1) := by decide +kernel
theorem dX12_low_349 : decode cX12_low 349 = .ok (.getfield 533, 3) := by decide +kernel
theorem dX12_low_352 : decode cX12_low 352 = .ok (.goto 7, 3) := by decide +kernel
theorem dX12_low_355 : decode cX12_low 355 = .ok (.aload_n 0, 1) := by decide +kernel
theorem dX12_low_356 : decode cX12_low 356 = .ok (.getfield 536, 3) := by decide +kernel
theorem dX12_low_359 : decode cX12_low 359 = .ok (.iload_n 1, 1) := by decide +kernel
theorem dX12_low_360 : decode cX12_low 360 = .ok (.bipush 7, 2) := by decide +kernel
theorem dX12_low_362 : decode cX12_low 362 = .ok (.if_icmp .le 7, 3) := by decide +kernel
theorem dX12_low_365 : decode cX12_low 365 = .ok (.iconst 1, 1) := by decide +kernel
theorem dX12_low_366 : decode cX12_low 366 = .ok (.goto 4, 3) := by decide +kernel
theorem dX12_low_369 : decode cX12_low 369 = .ok (.iconst 0, 1) := by decide +kernel
theorem dX12_low_370 : decode cX12_low 370 = .ok (.iload_n 1, 1) := by decide +kernel
theorem dX12_low_371 : decode cX12_low 371 = .ok (.bipush 8, 2) := by decide +kernel
theorem dX12_low_373 : decode cX12_low 373 = .ok (.if_icmp .ge 7, 3) := by decide +kernel
theorem dX12_low_376 : decode cX12_low 376 = .ok (.iconst 1, 1) := by decide +kernel
theorem dX12_low_377 : decode cX12_low 377 = .ok (.goto 4, 3) := by decide +kernel
theorem dX12_low_380 : decode cX12_low 380 = .ok (.iconst 0, 1) := by decide +kernel
theorem dX12_low_381 : decode cX12_low 381 = .ok (.invokevirtual 572, 3) := by decide +kernel
theorem dX12_low_384 : decode cX12_low 384 = .ok (.return_, 1) := by decide +kernel
theorem dX12_low_385 : decode cX12_low 385 = .ok (.aload_n 0, 1) := by decide +kernel
theorem dX12_low_386 : decode cX12_low 386 = .ok (.iconst 2, 1) := by decide +kernel
theorem dX12_low_387 : decode cX12_low 387 = .ok (.invokevirtual 576, 3) := by decide +kernel
theorem dX12_low_390 : decode cX12_low 390 = .ok (.ifCond .eq 55, 3) := by decide +kernel
theorem dX12_low_393 : decode cX12_low 393 = .ok (.aload_n 0, 1) := by decide +kernel
theorem dX12_low_394 : decode cX12_low 394 = .ok (.invokevirtual 579, 3) := by decide +kernel
theorem dX12_low_397 : decode cX12_low 397 = .ok (.i2s, 1) := by decide +kernel
theorem dX12_low_398 : decode cX12_low 398 = .ok (.istore_n 2, 1) := by decide +kernel
theorem dX12_low_399 : decode cX12_low 399 = .ok (.aload_n 0, 1) := by decide +kernel
theorem dX12_low_400 : decode cX12_low 400 = .ok (.invokevirtual 579, 3) := by decide +kernel
theorem dX12_low_403 : decode cX12_low 403 = .ok (.i2s, 1) := by decide +kernel
theorem dX12_low_404 : decode cX12_low 404 = .ok (.istore_n 3, 1) := by decide +kernel
theorem dX12_low_405 : decode cX12_low 405 = .ok (.aload_n 0, 1) := by decide +kernel
theorem dX12_low_406 : decode cX12_low 406 = .ok (.iload_n 3, 1) := by decide +kernel
theorem dX12_low_407 : decode cX12_low 407 = .ok (.iload_n 2, 1) := by decide +kernel
theorem dX12_low_408 : decode cX12_low 408 = .ok (.invokevirtual 586, 3) := by decide +kernel
theorem dX12_low_411 : decode cX12_low 411 = .ok (.aload_n 0, 1) := by decide +kernel
theorem dX12_low_412 : decode cX12_low 412 = .ok (.aload_n 0, 1) := by decide +kernel
theorem dX12_low_413 : decode cX12_low 413 = .ok (.getfield 533, 3) := by decide +kernel
theorem dX12_low_416 : decode cX12_low 416 = .ok (.aload_n 0, 1) := by decide +kernel
theorem dX12_low_417 : decode cX12_low 417 = .ok (.getfield 536, 3) := by decide +kernel
theorem dX12_low_420 : decode cX12_low 420 = .ok (.iload_n 1, 1) := by decide +kernel
theorem dX12_low_421 : decode cX12_low 421 = .ok (.bipush 11, 2) := by decide +kernel
theorem dX12_low_423 : decode cX12_low 423 = .ok (.if_icmp .ne 7, 3) := by decide +kernel
theorem dX12_low_426 : decode cX12_low 426 = .ok (.iconst 1, 1) := by decide +kernel
theorem dX12_low_427 : decode cX12_low 427 = .ok (.goto 4, 3) := by decide +kernel
theorem dX12_low_430 : decode cX12_low 430 = .ok (.iconst 0, 1) := by decide +kernel
theorem dX12_low_431 : decode cX12_low 431 = .ok (.iload_n 1, 1) := by decide +kernel
theorem dX12_low_432 : decode cX12_low 432 = .ok (.bipush 10, 2) := by decide +kernel
theorem dX12_low_434 : decode cX12_low 434 = .ok (.if_icmp .ne 7, 3) := by decide +kernel
theorem dX12_low_437 : decode cX12_low 437 = .ok (.iconst 1, 1) := by decide +kernel
theorem dX12_low_438 : decode cX12_low 438 = .ok (.goto 4, 3) := by decide +kernel
theorem dX12_low_441 : decode cX12_low 441 = .ok (.iconst 0, 1) := by decide +kernel
theorem dX12_low_442 : decode cX12_low 442 = .ok (.invokevirtual 572, 3) := by decide +kernel
theorem dX12_low_445 : decode cX12_low 445 = .ok (.return_, 1) := by decide +kernel
theorem dX12_low_446 : decode cX12_low 446 = .ok (.aload_n 0, 1) := by decide +kernel
theorem dX12_low_447 : decode cX12_low 447 = .ok (.aload_n 0, 1) := by decide +kernel
theorem dX12_low_448 : decode cX12_low 448 = .ok (.getfield 439, 3) := by decide +kernel
theorem dX12_low_451 : decode cX12_low 451 = .ok (.i2l, 1) := by decide +kernel
theorem dX12_low_452 : decode cX12_low 452 = .ok (.invokevirtual 564, 3) := by decide +kernel
theorem dX12_low_455 : decode cX12_low 455 = .ok (.aload_n 0, 1) := by decide +kernel
theorem dX12_low_456 : decode cX12_low 456 = .ok (.aload_n 0, 1) := by decide +kernel
theorem dX12_low_457 : decode cX12_low 457 = .ok (.getfield 442, 3) := by decide +kernel
theorem dX12_low_460 : decode cX12_low 460 = .ok (.i2l, 1) := by decide +kernel
theorem dX12_low_461 : decode cX12_low 461 = .ok (.invokevirtual 564, 3) := by decide +kernel
theorem dX12_low_464 : decode cX12_low 464 = .ok (.return_, 1) := by decide +kernel
theorem dX12_low_465 : decode cX12_low 465 = .ok (.aload_n 0, 1) := by decide +kernel
theorem dX12_low_466 : decode cX12_low 466 = .ok (.aload_n 0, 1) := by decide +kernel
theorem dX12_low_467 : decode cX12_low 467 = .ok (.getfield 433, 3) := by decide +kernel
theorem dX12_low_470 : decode cX12_low 470 = .ok (.i2l, 1) := by decide +kernel
theorem dX12_low_471 : decode cX12_low 471 = .ok (.invokevirtual 564, 3) := by decide +kernel
theorem dX12_low_474 : decode cX12_low 474 = .ok (.aload_n 0, 1) := by decide +kernel
theorem dX12_low_475 : decode cX12_low 475 = .ok (.aload_n 0, 1) := by decide +kernel
theorem dX12_low_476 : decode cX12_low 476 = .ok (.getfield 436, 3) := by decide +kernel
theorem dX12_low_479 : decode cX12_low 479 = .ok (.i2l, 1) := by decide +kernel
theorem dX12_low_480 : decode cX12_low 480 = .ok (.invokevirtual 564, 3) := by decide +kernel
theorem dX12_low_483 : decode cX12_low 483 = .ok (.return_, 1) := by decide +kernel
theorem dX12_low_484 : decode cX12_low 484 = .ok (.aload_n 0, 1) := by decide +kernel
theorem dX12_low_485 : decode cX12_low 485 = .ok (.aload_n 0, 1) := by decide +kernel
theorem dX12_low_486 : decode cX12_low 486 = .ok (.getfield 439, 3) := by decide +kernel
theorem dX12_low_489 : decode cX12_low 489 = .ok (.putfield 433, 3) := by decide +kernel
theorem dX12_low_492 : decode cX12_low 492 = .ok (.aload_n 0, 1) := by decide +kernel
theorem dX12_low_493 : decode cX12_low 493 = .ok (.aload_n 0, 1) := by decide +kernel
theorem dX12_low_494 : decode cX12_low 494 = .ok (.getfield 442, 3) := by decide +kernel
theorem dX12_low_497 : decode cX12_low 497 = .ok (.putfield 436, 3) := by decide +kernel
theorem dX12_low_500 : decode cX12_low 500 = .ok (.return_, 1) := by decide +kernel
theorem dX12_low_501 : decode cX12_low 501 = .ok (.aload_n 0, 1) := by decide +kernel
theorem dX12_low_502 : decode cX12_low 502 = .ok (.aload_n 0, 1) := by decide +kernel
theorem dX12_low_503 : decode cX12_low 503 = .ok (.iconst 1, 1) := by decide +kernel
theorem dX12_low_504 : decode cX12_low 504 = .ok (.invokevirtual 576, 3) := by decide +kernel
theorem dX12_low_507 : decode cX12_low 507 = .ok (.ifCond .eq 10, 3) := by decide +kernel
theorem dX12_low_510 : decode cX12_low 510 = .ok (.aload_n 0, 1) := by decide +kernel
theorem dX12_low_511 : decode cX12_low 511 = .ok (.invokevirtual 579, 3) := by decide +kernel
theorem dX12_low_514 : decode cX12_low 514 = .ok (.goto 4, 3) := by decide +kernel
theorem dX12_low_517 : decode cX12_low 517 = .ok (.iconst 0, 1) := by decide +kernel
theorem dX12_low_518 : decode cX12_low 518 = .ok (.putfield 451, 3) := by decide +kernel
theorem dX12_low_521 : decode cX12_low 521 = .ok (.return_, 1) := by decide +kernel
theorem dX12_low_522 : decode cX12_low 522 = .ok (.aload_n 0, 1) := by decide +kernel
theorem dX12_low_523 : decode cX12_low 523 = .ok (.aload_n 0, 1) := by decide +kernel
theorem dX12_low_524 : decode cX12_low 524 = .ok (.iconst 1, 1) := by decide +kernel
theorem dX12_low_525 : decode cX12_low 525 = .ok (.invokevirtual 576, 3) := by decide +kernel
theorem dX12_low_528 : decode cX12_low 528 = .ok (.ifCond .eq 10, 3) := by decide +kernel
theorem dX12_low_531 : decode cX12_low 531 = .ok (.aload_n 0, 1) := by decide +kernel
theorem dX12_low_532 : decode cX12_low 532 = .ok (.invokevirtual 579, 3) := by decide +kernel
theorem dX12_low_535 : decode cX12_low 535 = .ok (.goto 4, 3) := by decide +kernel
theorem dX12_low_538 : decode cX12_low 538 = .ok (.iconst 0, 1) := by decide +kernel
theorem dX12_low_539 : decode cX12_low 539 = .ok (.putfield 454, 3) := by decide +kernel
theorem dX12_low_542 : decode cX12_low 542 = .ok (.return_, 1) := by decide +kernel
theorem dX12_low_543 : decode cX12_low 543 = .ok (.aload_n 0, 1) := by decide +kernel
theorem dX12_low_544 : decode cX12_low 544 = .ok (.aload_n 0, 1) := by decide +kernel
theorem dX12_low_545 : decode cX12_low 545 = .ok (.iconst 1, 1) := by decide +kernel
theorem dX12_low_546 : decode cX12_low 546 = .ok (.invokevirtual 576, 3) := by decide +kernel
theorem dX12_low_549 : decode cX12_low 549 = .ok (.ifCond .eq 10, 3) := by decide +kernel
theorem dX12_low_552 : decode cX12_low 552 = .ok (.aload_n 0, 1) := by decide +kernel
theorem dX12_low_553 : decode cX12_low 553 = .ok (.invokevirtual 579, 3) := by decide +kernel
theorem dX12_low_556 : decode cX12_low 556 = .ok (.goto 4, 3) := by decide +kernel
theorem dX12_low_559 : decode cX12_low 559 = .ok (.iconst 0, 1) := by decide +kernel
theorem dX12_low_560 : decode cX12_low 560 = .ok (.putfield 457, 3) := by decide +kernel
theorem dX12_low_563 : decode cX12_low 563 = .ok (.return_, 1) := by decide +kernel
theorem dX12_low_564 : decode cX12_low 564 = .ok (.aload_n 0, 1) := by decide +kernel
theorem dX12_low_565 : decode cX12_low 565 = .ok (.iload_n 1, 1) := by decide +kernel
theorem dX12_low_566 : decode cX12_low 566 = .ok (.invokevirtual 590, 3) := by decide +kernel
theorem dX12_low_569 : decode cX12_low 569 = .ok (.return_, 1) := by decide +kernel
theorem dX12_low_570 : decode cX12_low 570 = .ok (.aload_n 0, 1) := by decide +kernel
theorem dX12_low_571 : decode cX12_low 571 = .ok (.iconst 1, 1) := by decide +kernel
theorem dX12_low_572 : decode cX12_low 572 = .ok (.invokevirtual 576, 3) := by decide +kernel
theorem dX12_low_575 : decode cX12_low 575 = .ok (.ifCond .eq 31, 3) := by decide +kernel
theorem dX12_low_578 : decode cX12_low 578 = .ok (.aload_n 0, 1) := by decide +kernel
theorem dX12_low_579 : decode cX12_low 579 = .ok (.invokevirtual 579, 3) := by decide +kernel
theorem dX12_low_582 : decode cX12_low 582 = .ok (.istore_n 2, 1) := by decide +kernel
theorem dX12_low_583 : decode cX12_low 583 = .ok (.iload_n 2, 1) := by decide +kernel
theorem dX12_low_584 : decode cX12_low 584 = .ok (.i2l, 1) := by decide +kernel
theorem dX12_low_585 : decode cX12_low 585 = .ok (.lconst 1, 1) := by decide +kernel
theorem dX12_low_586 : decode cX12_low 586 = .ok (.ldc2_w 593, 3) := by decide +kernel
theorem dX12_low_589 : decode cX12_low 589 = .ok (.invokestatic 263, 3) := by decide +kernel
theorem dX12_low_592 : decode cX12_low 592 = .ok (.ifCond .ne 9, 3) := by decide +kernel
theorem dX12_low_595 : decode cX12_low 595 = .ok (.aload_n 0, 1) := by decide +kernel
theorem dX12_low_596 : decode cX12_low 596 = .ok (.bipush 11, 2) := by decide +kernel
theorem dX12_low_598 : decode cX12_low 598 = .ok (.invokevirtual 421, 3) := by decide +kernel
theorem dX12_low_601 : decode cX12_low 601 = .ok (.aload_n 0, 1) := by decide +kernel
theorem dX12_low_602 : decode cX12_low 602 = .ok (.iload_n 2, 1) := by decide +kernel
theorem dX12_low_603 : decode cX12_low 603 = .ok (.putfield 469, 3) := by decide +kernel
theorem dX12_low_606 : decode cX12_low 606 = .ok (.return_, 1) := by decide +kernel
theorem dX12_low_607 : decode cX12_low 607 = .ok (.aload_n 0, 1) := by decide +kernel
theorem dX12_low_608 : decode cX12_low 608 = .ok (.bipush 24, 2) := by decide +kernel
theorem dX12_low_610 : decode cX12_low 610 = .ok (.bipush 64, 2) := by decide +kernel
theorem dX12_low_612 : decode cX12_low 612 = .ok (.iconst 0, 1) := by decide +kernel
theorem dX12_low_613 : decode cX12_low 613 = .ok (.bipush 32, 2) := by decide +kernel
theorem dX12_low_615 : decode cX12_low 615 = .ok (.invokevirtual 472, 3) := by decide +kernel
theorem dX12_low_618 : decode cX12_low 618 = .ok (.return_, 1) := by decide +kernel
theorem dX12_low_619 : decode cX12_low 619 = .ok (.aload_n 0, 1) := by decide +kernel
theorem dX12_low_620 : decode cX12_low 620 = .ok (.bipush 25, 2) := by decide +kernel
theorem dX12_low_622 : decode cX12_low 622 = .ok (.bipush 64, 2) := by decide +kernel
theorem dX12_low_624 : decode cX12_low 624 = .ok (.bipush 32, 2) := by decide +kernel
theorem dX12_low_626 : decode cX12_low 626 = .ok (.bipush 32, 2) := by decide +kernel
theorem dX12_low_628 : decode cX12_low 628 = .ok (.invokevirtual 472, 3) := by decide +kernel
theorem dX12_low_631 : decode cX12_low 631 = .ok (.return_, 1) := by decide +kernel
theorem dX12_low_632 : decode cX12_low 632 = .ok (.aload_n 0, 1) := by decide +kernel
theorem dX12_low_633 : decode cX12_low 633 = .ok (.aload_n 0, 1) := by decide +kernel
theorem dX12_low_634 : decode cX12_low 634 = .ok (.iconst 1, 1) := by decide +kernel
theorem dX12_low_635 : decode cX12_low 635 = .ok (.invokevirtual 576, 3) := by decide +kernel
theorem dX12_low_638 : decode cX12_low 638 = .ok (.ifCond .eq 10, 3) := by decide +kernel
theorem dX12_low_641 : decode cX12_low 641 = .ok (.aload_n 0, 1) := by decide +kernel
theorem dX12_low_642 : decode cX12_low 642 = .ok (.invokevirtual 579, 3) := by decide +kernel
theorem dX12_low_645 : decode cX12_low 645 = .ok (.goto 4, 3) := by decide +kernel
theorem dX12_low_648 : decode cX12_low 648 = .ok (.iconst 0, 1) := by decide +kernel
theorem dX12_low_649 : decode cX12_low 649 = .ok (.putfield 595, 3) := by decide +kernel
theorem dX12_low_652 : decode cX12_low 652 = .ok (.return_, 1) := by decide +kernel
theorem dX12_low_653 : decode cX12_low 653 = .ok (.aload_n 0, 1) := by decide +kernel
theorem dX12_low_654 : decode cX12_low 654 = .ok (.aload_n 0, 1) := by decide +kernel
theorem dX12_low_655 : decode cX12_low 655 = .ok (.getfield 496, 3) := by decide +kernel
theorem dX12_low_658 : decode cX12_low 658 = .ok (.bipush 89, 2) := by decide +kernel
theorem dX12_low_660 : decode cX12_low 660 = .ok (.bipush 89, 2) := by decide +kernel
theorem dX12_low_662 : decode cX12_low 662 = .ok (.iconst 1, 1) := by decide +kernel
theorem dX12_low_663 : decode cX12_low 663 = .ok (.invokevirtual 598, 3) := by decide +kernel
theorem dX12_low_666 : decode cX12_low 666 = .ok (.istore_n 2, 1) := by decide +kernel
theorem dX12_low_667 : decode cX12_low 667 = .ok (.aload_n 0, 1) := by decide +kernel
theorem dX12_low_668 : decode cX12_low 668 = .ok (.iload_n 2, 1) := by decide +kernel
theorem dX12_low_669 : decode cX12_low 669 = .ok (.putfield 496, 3) := by decide +kernel
theorem dX12_low_672 : decode cX12_low 672 = .ok (.return_, 1) := by decide +kernel
theorem dX12_low_673 : decode cX12_low 673 = .ok (.aload_n 0, 1) := by decide +kernel
theorem dX12_low_674 : decode cX12_low 674 = .ok (.iconst 1, 1) := by decide +kernel
theorem dX12_low_675 : decode cX12_low 675 = .ok (.invokevirtual 576, 3) := by decide +kernel
theorem dX12_low_678 : decode cX12_low 678 = .ok (.ifCond .eq 12, 3) := by decide +kernel
theorem dX12_low_681 : decode cX12_low 681 = .ok (.aload_n 0, 1) := by decide +kernel
theorem dX12_low_682 : decode cX12_low 682 = .ok (.aload_n 0, 1) := by decide +kernel
theorem dX12_low_683 : decode cX12_low 683 = .ok (.invokevirtual 579, 3) := by decide +kernel
theorem dX12_low_686 : decode cX12_low 686 = .ok (.i2l, 1) := by decide +kernel
theorem dX12_low_687 : decode cX12_low 687 = .ok (.invokevirtual 602, 3) := by decide +kernel
theorem dX12_low_690 : decode cX12_low 690 = .ok (.return_, 1) := by decide +kernel
theorem dX12_low_691 : decode cX12_low 691 = .ok (.aload_n 0, 1) := by decide +kernel
theorem dX12_low_692 : decode cX12_low 692 = .ok (.aload_n 0, 1) := by decide +kernel
theorem dX12_low_693 : decode cX12_low 693 = .ok (.iconst 1, 1) := by decide +kernel
theorem dX12_low_694 : decode cX12_low 694 = .ok (.invokevirtual 576, 3) := by decide +kernel
theorem dX12_low_697 : decode cX12_low 697 = .ok (.ifCond .eq 10, 3) := by decide +kernel
theorem dX12_low_700 : decode cX12_low 700 = .ok (.aload_n 0, 1) := by decide +kernel
theorem dX12_low_701 : decode cX12_low 701 = .ok (.invokevirtual 579, 3) := by decide +kernel
theorem dX12_low_704 : decode cX12_low 704 = .ok (.goto 4, 3) := by decide +kernel
theorem dX12_low_707 : decode cX12_low 707 = .ok (.iconst 0, 1) := by decide +kernel
theorem dX12_low_708 : decode cX12_low 708 = .ok (.putfield 605, 3) := by decide +kernel
theorem dX12_low_711 : decode cX12_low 711 = .ok (.return_, 1) := by decide +kernel
theorem dX12_low_712 : decode cX12_low 712 = .ok (.aload_n 0, 1) := by decide +kernel
theorem dX12_low_713 : decode cX12_low 713 = .ok (.aload_n 0, 1) := by decide +kernel
theorem dX12_low_714 : decode cX12_low 714 = .ok (.iconst 1, 1) := by decide +kernel
theorem dX12_low_715 : decode cX12_low 715 = .ok (.invokevirtual 576, 3) := by decide +kernel
theorem dX12_low_718 : decode cX12_low 718 = .ok (.ifCond .eq 10, 3) := by decide +kernel
theorem dX12_low_721 : decode cX12_low 721 = .ok (.aload_n 0, 1) := by decide +kernel
theorem dX12_low_722 : decode cX12_low 722 = .ok (.invokevirtual 579, 3) := by decide +kernel
theorem dX12_low_725 : decode cX12_low 725 = .ok (.goto 4, 3) := by decide +kernel
theorem dX12_low_728 : decode cX12_low 728 = .ok (.iconst 0, 1) := by decide +kernel
theorem dX12_low_729 : decode cX12_low 729 = .ok (.putfield 608, 3) := by decide +kernel
theorem dX12_low_732 : decode cX12_low 732 = .ok (.return_, 1) := by decide +kernel
theorem dX12_low_733 : decode cX12_low 733 = .ok (.aload_n 0, 1) := by decide +kernel
theorem dX12_low_734 : decode cX12_low 734 = .ok (.aload_n 0, 1) := by decide +kernel
theorem dX12_low_735 : decode cX12_low 735 = .ok (.iconst 1, 1) := by decide +kernel
theorem dX12_low_736 : decode cX12_low 736 = .ok (.invokevirtual 576, 3) := by decide +kernel
theorem dX12_low_739 : decode cX12_low 739 = .ok (.ifCond .eq 15, 3) := by decide +kernel
theorem dX12_low_742 : decode cX12_low 742 = .ok (.aload_n 0, 1) := by decide +kernel
theorem dX12_low_743 : decode cX12_low 743 = .ok (.aload_n 0, 1) := by decide +kernel
theorem dX12_low_744 : decode cX12_low 744 = .ok (.invokevirtual 579, 3) := by decide +kernel
theorem dX12_low_747 : decode cX12_low 747 = .ok (.i2l, 1) := by decide +kernel
theorem dX12_low_748 : decode cX12_low 748 = .ok (.invokevirtual 611, 3) := by decide +kernel
theorem dX12_low_751 : decode cX12_low 751 = .ok (.goto 4, 3) := by decide +kernel
theorem dX12_low_754 : decode cX12_low 754 = .ok (.iconst 0, 1) := by decide +kernel
theorem dX12_low_755 : decode cX12_low 755 = .ok (.putfield 615, 3) := by decide +kernel
theorem dX12_low_758 : decode cX12_low 758 = .ok (.return_, 1) := by decide +kernel
theorem dX12_low_759 : decode cX12_low 759 = .ok (.aload_n 0, 1) := by decide +kernel
theorem dX12_low_760 : decode cX12_low 760 = .ok (.iload_n 1, 1) := by decide +kernel
theorem dX12_low_761 : decode cX12_low 761 = .ok (.invokevirtual 618, 3) := by decide +kernel
theorem dX12_low_764 : decode cX12_low 764 = .ok (.return_, 1) := by decide +kernel
def B_X12_low_167 (N : Nat)  (s1 : Int32) (s2 : Int32) (V : sv_V) : Option sv_V := (F_X12_setVectors s1 s2 (1 : Int32) (1 : Int32) V).bind (fun V1 => some V1)
set_option maxRecDepth 20000 in
theorem tB_X12_low_167 {g : sx_G} (hG : sx_Go g) {P : Option Value → sv_V → Prop} {Vr : sv_V} (hP : P none Vr) {N : Nat}   {s1 : Int32} {s2 : Int32} {V : sv_V} (h : B_X12_low_167 N  s1 s2 V = some Vr) : sv_N g qX12_low 6 167 [] [.int s2, .int s1, .ref 146] V P := by
  unfold B_X12_low_167 at h
  refine sx_iconst (pc := 167) (v := 1) dX12_low_167 (by decide) ?_
  refine sx_iconst (pc := 168) (v := 1) dX12_low_168 (by decide) ?_
  obtain ⟨V1, g2, h⟩ := sx_bnd h
  refine sv_cV (pc := 169) (y := qX12_setVectors) (o := none) (as := [.int s1, .int s2, .int (1 : Int32), .int (1 : Int32)]) (V1 := V1) hG dX12_low_169 l_X12_572 y0X12_setVectors yvX12_setVectors rfl (Nat.le_of_ble_eq_true rfl) lay_146 kr_12 (by decide) (Nat.le_of_ble_eq_true rfl) rfl rfl rfl (t_X12_setVectors hG ⟨rfl, rfl⟩ g2) ?_
  exact sv_vret (pc := 172) dX12_low_172 rfl h hP
def B_X12_low_156 (N : Nat)  (l1 : Int32) (s1 : Int32) (V : sv_V) : Option sv_V := if l1 = 0 then (B_X12_low_167 N  s1 (16384 : Int32) V) else (B_X12_low_167 N  s1 (0 : Int32) V)
set_option maxRecDepth 20000 in
theorem tB_X12_low_156 {g : sx_G} (hG : sx_Go g) {P : Option Value → sv_V → Prop} {Vr : sv_V} (hP : P none Vr) {N : Nat}   {l1 : Int32} {s1 : Int32} {V : sv_V} (h : B_X12_low_156 N  l1 s1 V = some Vr) : sv_N g qX12_low 6 156 [(1, .int l1)] [.int s1, .ref 146] V P := by
  unfold B_X12_low_156 at h
  refine sx_iload_n (pc := 156) dX12_low_156 sx_m0 ?_
  refine sx_if_ne (pc := 157) (tgt := 166) dX12_low_157 (by decide) (fun c3 => ?_) (fun c3 => ?_)
  · have h := sx_neg c3 h
    refine sx_iconst (pc := 166) (v := 0) dX12_low_166 (by decide) ?_
    refine sx_wk sx_s0 ?_
    exact tB_X12_low_167 hG hP  h
  · have h := sx_pos c3 h
    refine sx_sipush (pc := 160) (v := 16384) dX12_low_160 (by decide) ?_
    refine sx_goto (pc := 163) (tgt := 167) dX12_low_163 (by decide) ?_
    refine sx_wk sx_s0 ?_
    exact tB_X12_low_167 hG hP  h
def B_X12_low_144 (N : Nat)  (l1 : Int32) (V : sv_V) : Option sv_V := if l1 = 0 then (B_X12_low_156 N  l1 (0 : Int32) V) else (B_X12_low_156 N  l1 (16384 : Int32) V)
set_option maxRecDepth 20000 in
theorem tB_X12_low_144 {g : sx_G} (hG : sx_Go g) {P : Option Value → sv_V → Prop} {Vr : sv_V} (hP : P none Vr) {N : Nat}   {l1 : Int32} {V : sv_V} (h : B_X12_low_144 N  l1 V = some Vr) : sv_N g qX12_low 6 144 [(0, .ref 146), (1, .int l1)] [] V P := by
  unfold B_X12_low_144 at h
  refine sx_aload_n (pc := 144) dX12_low_144 sx_m0 ?_
  refine sx_iload_n (pc := 145) dX12_low_145 sx_m1 ?_
  refine sx_if_ne (pc := 146) (tgt := 153) dX12_low_146 (by decide) (fun c4 => ?_) (fun c4 => ?_)
  · have h := sx_neg c4 h
    refine sx_sipush (pc := 153) (v := 16384) dX12_low_153 (by decide) ?_
    refine sx_wk (sx_s1 sx_m1 sx_s0) ?_
    exact tB_X12_low_156 hG hP  h
  · have h := sx_pos c4 h
    refine sx_iconst (pc := 149) (v := 0) dX12_low_149 (by decide) ?_
    refine sx_goto (pc := 150) (tgt := 156) dX12_low_150 (by decide) ?_
    refine sx_wk (sx_s1 sx_m1 sx_s0) ?_
    exact tB_X12_low_156 hG hP  h
def B_X12_low_198 (N : Nat)  (s1 : Int32) (s2 : Int32) (V : sv_V) : Option sv_V := (F_X12_setVectors s1 s2 (0 : Int32) (1 : Int32) V).bind (fun V5 => some V5)
set_option maxRecDepth 20000 in
theorem tB_X12_low_198 {g : sx_G} (hG : sx_Go g) {P : Option Value → sv_V → Prop} {Vr : sv_V} (hP : P none Vr) {N : Nat}   {s1 : Int32} {s2 : Int32} {V : sv_V} (h : B_X12_low_198 N  s1 s2 V = some Vr) : sv_N g qX12_low 6 198 [] [.int s2, .int s1, .ref 146] V P := by
  unfold B_X12_low_198 at h
  refine sx_iconst (pc := 198) (v := 0) dX12_low_198 (by decide) ?_
  refine sx_iconst (pc := 199) (v := 1) dX12_low_199 (by decide) ?_
  obtain ⟨V5, g6, h⟩ := sx_bnd h
  refine sv_cV (pc := 200) (y := qX12_setVectors) (o := none) (as := [.int s1, .int s2, .int (0 : Int32), .int (1 : Int32)]) (V1 := V5) hG dX12_low_200 l_X12_572 y0X12_setVectors yvX12_setVectors rfl (Nat.le_of_ble_eq_true rfl) lay_146 kr_12 (by decide) (Nat.le_of_ble_eq_true rfl) rfl rfl rfl (t_X12_setVectors hG ⟨rfl, rfl⟩ g6) ?_
  exact sv_vret (pc := 203) dX12_low_203 rfl h hP
def B_X12_low_186 (N : Nat)  (l1 : Int32) (s1 : Int32) (V : sv_V) : Option sv_V := if l1 = (2 : Int32) then (B_X12_low_198 N  s1 (16384 : Int32) V) else (B_X12_low_198 N  s1 (0 : Int32) V)
set_option maxRecDepth 20000 in
theorem tB_X12_low_186 {g : sx_G} (hG : sx_Go g) {P : Option Value → sv_V → Prop} {Vr : sv_V} (hP : P none Vr) {N : Nat}   {l1 : Int32} {s1 : Int32} {V : sv_V} (h : B_X12_low_186 N  l1 s1 V = some Vr) : sv_N g qX12_low 6 186 [(1, .int l1)] [.int s1, .ref 146] V P := by
  unfold B_X12_low_186 at h
  refine sx_iload_n (pc := 186) dX12_low_186 sx_m0 ?_
  refine sx_iconst (pc := 187) (v := 2) dX12_low_187 (by decide) ?_
  refine sx_icmp_ne (pc := 188) (tgt := 197) dX12_low_188 (by decide) (fun c7 => ?_) (fun c7 => ?_)
  · have h := sx_neg c7 h
    refine sx_iconst (pc := 197) (v := 0) dX12_low_197 (by decide) ?_
    refine sx_wk sx_s0 ?_
    exact tB_X12_low_198 hG hP  h
  · have h := sx_pos c7 h
    refine sx_sipush (pc := 191) (v := 16384) dX12_low_191 (by decide) ?_
    refine sx_goto (pc := 194) (tgt := 198) dX12_low_194 (by decide) ?_
    refine sx_wk sx_s0 ?_
    exact tB_X12_low_198 hG hP  h
def B_X12_low_173 (N : Nat)  (l1 : Int32) (V : sv_V) : Option sv_V := if l1 = (2 : Int32) then (B_X12_low_186 N  l1 (0 : Int32) V) else (B_X12_low_186 N  l1 (16384 : Int32) V)
set_option maxRecDepth 20000 in
theorem tB_X12_low_173 {g : sx_G} (hG : sx_Go g) {P : Option Value → sv_V → Prop} {Vr : sv_V} (hP : P none Vr) {N : Nat}   {l1 : Int32} {V : sv_V} (h : B_X12_low_173 N  l1 V = some Vr) : sv_N g qX12_low 6 173 [(0, .ref 146), (1, .int l1)] [] V P := by
  unfold B_X12_low_173 at h
  refine sx_aload_n (pc := 173) dX12_low_173 sx_m0 ?_
  refine sx_iload_n (pc := 174) dX12_low_174 sx_m1 ?_
  refine sx_iconst (pc := 175) (v := 2) dX12_low_175 (by decide) ?_
  refine sx_icmp_ne (pc := 176) (tgt := 183) dX12_low_176 (by decide) (fun c8 => ?_) (fun c8 => ?_)
  · have h := sx_neg c8 h
    refine sx_sipush (pc := 183) (v := 16384) dX12_low_183 (by decide) ?_
    refine sx_wk (sx_s1 sx_m1 sx_s0) ?_
    exact tB_X12_low_186 hG hP  h
  · have h := sx_pos c8 h
    refine sx_iconst (pc := 179) (v := 0) dX12_low_179 (by decide) ?_
    refine sx_goto (pc := 180) (tgt := 186) dX12_low_180 (by decide) ?_
    refine sx_wk (sx_s1 sx_m1 sx_s0) ?_
    exact tB_X12_low_186 hG hP  h
def B_X12_low_229 (N : Nat)  (s1 : Int32) (s2 : Int32) (V : sv_V) : Option sv_V := (F_X12_setVectors s1 s2 (1 : Int32) (0 : Int32) V).bind (fun V9 => some V9)
set_option maxRecDepth 20000 in
theorem tB_X12_low_229 {g : sx_G} (hG : sx_Go g) {P : Option Value → sv_V → Prop} {Vr : sv_V} (hP : P none Vr) {N : Nat}   {s1 : Int32} {s2 : Int32} {V : sv_V} (h : B_X12_low_229 N  s1 s2 V = some Vr) : sv_N g qX12_low 6 229 [] [.int s2, .int s1, .ref 146] V P := by
  unfold B_X12_low_229 at h
  refine sx_iconst (pc := 229) (v := 1) dX12_low_229 (by decide) ?_
  refine sx_iconst (pc := 230) (v := 0) dX12_low_230 (by decide) ?_
  obtain ⟨V9, g10, h⟩ := sx_bnd h
  refine sv_cV (pc := 231) (y := qX12_setVectors) (o := none) (as := [.int s1, .int s2, .int (1 : Int32), .int (0 : Int32)]) (V1 := V9) hG dX12_low_231 l_X12_572 y0X12_setVectors yvX12_setVectors rfl (Nat.le_of_ble_eq_true rfl) lay_146 kr_12 (by decide) (Nat.le_of_ble_eq_true rfl) rfl rfl rfl (t_X12_setVectors hG ⟨rfl, rfl⟩ g10) ?_
  exact sv_vret (pc := 234) dX12_low_234 rfl h hP
def B_X12_low_217 (N : Nat)  (l1 : Int32) (s1 : Int32) (V : sv_V) : Option sv_V := if l1 = (4 : Int32) then (B_X12_low_229 N  s1 (16384 : Int32) V) else (B_X12_low_229 N  s1 (0 : Int32) V)
set_option maxRecDepth 20000 in
theorem tB_X12_low_217 {g : sx_G} (hG : sx_Go g) {P : Option Value → sv_V → Prop} {Vr : sv_V} (hP : P none Vr) {N : Nat}   {l1 : Int32} {s1 : Int32} {V : sv_V} (h : B_X12_low_217 N  l1 s1 V = some Vr) : sv_N g qX12_low 6 217 [(1, .int l1)] [.int s1, .ref 146] V P := by
  unfold B_X12_low_217 at h
  refine sx_iload_n (pc := 217) dX12_low_217 sx_m0 ?_
  refine sx_iconst (pc := 218) (v := 4) dX12_low_218 (by decide) ?_
  refine sx_icmp_ne (pc := 219) (tgt := 228) dX12_low_219 (by decide) (fun c11 => ?_) (fun c11 => ?_)
  · have h := sx_neg c11 h
    refine sx_iconst (pc := 228) (v := 0) dX12_low_228 (by decide) ?_
    refine sx_wk sx_s0 ?_
    exact tB_X12_low_229 hG hP  h
  · have h := sx_pos c11 h
    refine sx_sipush (pc := 222) (v := 16384) dX12_low_222 (by decide) ?_
    refine sx_goto (pc := 225) (tgt := 229) dX12_low_225 (by decide) ?_
    refine sx_wk sx_s0 ?_
    exact tB_X12_low_229 hG hP  h
def B_X12_low_204 (N : Nat)  (l1 : Int32) (V : sv_V) : Option sv_V := if l1 = (4 : Int32) then (B_X12_low_217 N  l1 (0 : Int32) V) else (B_X12_low_217 N  l1 (16384 : Int32) V)
set_option maxRecDepth 20000 in
theorem tB_X12_low_204 {g : sx_G} (hG : sx_Go g) {P : Option Value → sv_V → Prop} {Vr : sv_V} (hP : P none Vr) {N : Nat}   {l1 : Int32} {V : sv_V} (h : B_X12_low_204 N  l1 V = some Vr) : sv_N g qX12_low 6 204 [(0, .ref 146), (1, .int l1)] [] V P := by
  unfold B_X12_low_204 at h
  refine sx_aload_n (pc := 204) dX12_low_204 sx_m0 ?_
  refine sx_iload_n (pc := 205) dX12_low_205 sx_m1 ?_
  refine sx_iconst (pc := 206) (v := 4) dX12_low_206 (by decide) ?_
  refine sx_icmp_ne (pc := 207) (tgt := 214) dX12_low_207 (by decide) (fun c12 => ?_) (fun c12 => ?_)
  · have h := sx_neg c12 h
    refine sx_sipush (pc := 214) (v := 16384) dX12_low_214 (by decide) ?_
    refine sx_wk (sx_s1 sx_m1 sx_s0) ?_
    exact tB_X12_low_217 hG hP  h
  · have h := sx_pos c12 h
    refine sx_iconst (pc := 210) (v := 0) dX12_low_210 (by decide) ?_
    refine sx_goto (pc := 211) (tgt := 217) dX12_low_211 (by decide) ?_
    refine sx_wk (sx_s1 sx_m1 sx_s0) ?_
    exact tB_X12_low_217 hG hP  h
def B_X12_low_381 (N : Nat)  (s1 : Int32) (s2 : Int32) (s3 : Int32) (s4 : Int32) (V : sv_V) : Option sv_V := (F_X12_setVectors s1 s2 s3 s4 V).bind (fun V13 => some V13)
set_option maxRecDepth 20000 in
theorem tB_X12_low_381 {g : sx_G} (hG : sx_Go g) {P : Option Value → sv_V → Prop} {Vr : sv_V} (hP : P none Vr) {N : Nat}   {s1 : Int32} {s2 : Int32} {s3 : Int32} {s4 : Int32} {V : sv_V} (h : B_X12_low_381 N  s1 s2 s3 s4 V = some Vr) : sv_N g qX12_low 6 381 [] [.int s4, .int s3, .int s2, .int s1, .ref 146] V P := by
  unfold B_X12_low_381 at h
  obtain ⟨V13, g14, h⟩ := sx_bnd h
  refine sv_cV (pc := 381) (y := qX12_setVectors) (o := none) (as := [.int s1, .int s2, .int s3, .int s4]) (V1 := V13) hG dX12_low_381 l_X12_572 y0X12_setVectors yvX12_setVectors rfl (Nat.le_of_ble_eq_true rfl) lay_146 kr_12 (by decide) (Nat.le_of_ble_eq_true rfl) rfl rfl rfl (t_X12_setVectors hG ⟨rfl, rfl⟩ g14) ?_
  exact sv_vret (pc := 384) dX12_low_384 rfl h hP
def B_X12_low_370 (N : Nat)  (l1 : Int32) (s1 : Int32) (s2 : Int32) (s3 : Int32) (V : sv_V) : Option sv_V := if (8 : Int32) ≤ l1 then (B_X12_low_381 N  s1 s2 s3 (0 : Int32) V) else (B_X12_low_381 N  s1 s2 s3 (1 : Int32) V)
set_option maxRecDepth 20000 in
theorem tB_X12_low_370 {g : sx_G} (hG : sx_Go g) {P : Option Value → sv_V → Prop} {Vr : sv_V} (hP : P none Vr) {N : Nat}   {l1 : Int32} {s1 : Int32} {s2 : Int32} {s3 : Int32} {V : sv_V} (h : B_X12_low_370 N  l1 s1 s2 s3 V = some Vr) : sv_N g qX12_low 6 370 [(1, .int l1)] [.int s3, .int s2, .int s1, .ref 146] V P := by
  unfold B_X12_low_370 at h
  refine sx_iload_n (pc := 370) dX12_low_370 sx_m0 ?_
  refine sx_bipush (pc := 371) (v := 8) dX12_low_371 (by decide) ?_
  refine sx_icmp_ge (pc := 373) (tgt := 380) dX12_low_373 (by decide) (fun c15 => ?_) (fun c15 => ?_)
  · have h := sx_pos c15 h
    refine sx_iconst (pc := 380) (v := 0) dX12_low_380 (by decide) ?_
    refine sx_wk sx_s0 ?_
    exact tB_X12_low_381 hG hP  h
  · have h := sx_neg c15 h
    refine sx_iconst (pc := 376) (v := 1) dX12_low_376 (by decide) ?_
    refine sx_goto (pc := 377) (tgt := 381) dX12_low_377 (by decide) ?_
    refine sx_wk sx_s0 ?_
    exact tB_X12_low_381 hG hP  h
def B_X12_low_359 (N : Nat)  (l1 : Int32) (s1 : Int32) (s2 : Int32) (V : sv_V) : Option sv_V := if l1 ≤ (7 : Int32) then (B_X12_low_370 N  l1 s1 s2 (0 : Int32) V) else (B_X12_low_370 N  l1 s1 s2 (1 : Int32) V)
set_option maxRecDepth 20000 in
theorem tB_X12_low_359 {g : sx_G} (hG : sx_Go g) {P : Option Value → sv_V → Prop} {Vr : sv_V} (hP : P none Vr) {N : Nat}   {l1 : Int32} {s1 : Int32} {s2 : Int32} {V : sv_V} (h : B_X12_low_359 N  l1 s1 s2 V = some Vr) : sv_N g qX12_low 6 359 [(1, .int l1)] [.int s2, .int s1, .ref 146] V P := by
  unfold B_X12_low_359 at h
  refine sx_iload_n (pc := 359) dX12_low_359 sx_m0 ?_
  refine sx_bipush (pc := 360) (v := 7) dX12_low_360 (by decide) ?_
  refine sx_icmp_le (pc := 362) (tgt := 369) dX12_low_362 (by decide) (fun c16 => ?_) (fun c16 => ?_)
  · have h := sx_pos c16 h
    refine sx_iconst (pc := 369) (v := 0) dX12_low_369 (by decide) ?_
    refine sx_wk (sx_s1 sx_m0 sx_s0) ?_
    exact tB_X12_low_370 hG hP  h
  · have h := sx_neg c16 h
    refine sx_iconst (pc := 365) (v := 1) dX12_low_365 (by decide) ?_
    refine sx_goto (pc := 366) (tgt := 370) dX12_low_366 (by decide) ?_
    refine sx_wk (sx_s1 sx_m0 sx_s0) ?_
    exact tB_X12_low_370 hG hP  h
def B_X12_low_343 (N : Nat)  (l1 : Int32) (l4 : Int32) (s1 : Int32) (V : sv_V) : Option sv_V := if l4 = 0 then (B_X12_low_359 N  l1 s1 (V.1 146 106) V) else (B_X12_low_359 N  l1 s1 (V.1 146 105) V)
set_option maxRecDepth 20000 in
theorem tB_X12_low_343 {g : sx_G} (hG : sx_Go g) {P : Option Value → sv_V → Prop} {Vr : sv_V} (hP : P none Vr) {N : Nat}   {l1 : Int32} {l4 : Int32} {s1 : Int32} {V : sv_V} (h : B_X12_low_343 N  l1 l4 s1 V = some Vr) : sv_N g qX12_low 6 343 [(0, .ref 146), (1, .int l1), (4, .int l4)] [.int s1, .ref 146] V P := by
  unfold B_X12_low_343 at h
  refine sx_iload (pc := 343) dX12_low_343 sx_m2 ?_
  refine sx_if_eq (pc := 345) (tgt := 355) dX12_low_345 (by decide) (fun c17 => ?_) (fun c17 => ?_)
  · have h := sx_pos c17 h
    refine sx_aload_n (pc := 355) dX12_low_355 sx_m0 ?_
    refine sv_getI (pc := 356) hG dX12_low_356 f_12_536 lay_146 rfl ?_
    refine sx_wk (sx_s1 sx_m1 sx_s0) ?_
    exact tB_X12_low_359 hG hP  h
  · have h := sx_neg c17 h
    refine sx_aload_n (pc := 348) dX12_low_348 sx_m0 ?_
    refine sv_getI (pc := 349) hG dX12_low_349 f_12_533 lay_146 rfl ?_
    refine sx_goto (pc := 352) (tgt := 359) dX12_low_352 (by decide) ?_
    refine sx_wk (sx_s1 sx_m1 sx_s0) ?_
    exact tB_X12_low_359 hG hP  h
def B_X12_low_323 (N : Nat)  (l1 : Int32) (s0 : Int32) (V : sv_V) : Option sv_V := if s0 = 0 then (B_X12_low_343 N  l1 s0 (V.1 146 105) V) else (B_X12_low_343 N  l1 s0 (-(V.1 146 106)) V)
set_option maxRecDepth 20000 in
theorem tB_X12_low_323 {g : sx_G} (hG : sx_Go g) {P : Option Value → sv_V → Prop} {Vr : sv_V} (hP : P none Vr) {N : Nat}   {l1 : Int32} {s0 : Int32} {V : sv_V} (h : B_X12_low_323 N  l1 s0 V = some Vr) : sv_N g qX12_low 6 323 [(0, .ref 146), (1, .int l1)] [.int s0] V P := by
  unfold B_X12_low_323 at h
  refine sx_istore (pc := 323) (lo' := [(4, .int s0), (0, .ref 146), (1, .int l1)]) dX12_low_323 (by decide) rfl ?_
  refine sx_aload_n (pc := 325) dX12_low_325 sx_m1 ?_
  refine sx_iload (pc := 326) dX12_low_326 sx_m0 ?_
  refine sx_if_eq (pc := 328) (tgt := 339) dX12_low_328 (by decide) (fun c18 => ?_) (fun c18 => ?_)
  · have h := sx_pos c18 h
    refine sx_aload_n (pc := 339) dX12_low_339 sx_m1 ?_
    refine sv_getI (pc := 340) hG dX12_low_340 f_12_533 lay_146 rfl ?_
    refine sx_wk (sx_s1 sx_m1 (sx_s1 sx_m2 (sx_s1 sx_m0 sx_s0))) ?_
    exact tB_X12_low_343 hG hP  h
  · have h := sx_neg c18 h
    refine sx_aload_n (pc := 331) dX12_low_331 sx_m1 ?_
    refine sv_getI (pc := 332) hG dX12_low_332 f_12_536 lay_146 rfl ?_
    refine sx_ineg (pc := 335) dX12_low_335 ?_
    refine sx_goto (pc := 336) (tgt := 343) dX12_low_336 (by decide) ?_
    refine sx_wk (sx_s1 sx_m1 (sx_s1 sx_m2 (sx_s1 sx_m0 sx_s0))) ?_
    exact tB_X12_low_343 hG hP  h
def B_X12_low_318 (N : Nat)  (l1 : Int32) (V : sv_V) : Option sv_V := B_X12_low_323 N  l1 (1 : Int32) V
set_option maxRecDepth 20000 in
theorem tB_X12_low_318 {g : sx_G} (hG : sx_Go g) {P : Option Value → sv_V → Prop} {Vr : sv_V} (hP : P none Vr) {N : Nat}   {l1 : Int32} {V : sv_V} (h : B_X12_low_318 N  l1 V = some Vr) : sv_N g qX12_low 6 318 [(0, .ref 146), (1, .int l1)] [] V P := by
  unfold B_X12_low_318 at h
  refine sx_iconst (pc := 318) (v := 1) dX12_low_318 (by decide) ?_
  refine sx_goto (pc := 319) (tgt := 323) dX12_low_319 (by decide) ?_
  refine sx_wk (sx_s1 sx_m0 (sx_s1 sx_m1 sx_s0)) ?_
  exact tB_X12_low_323 hG hP  h
def B_X12_low_235 (N : Nat)  (l1 : Int32) (V : sv_V) : Option sv_V := (F_X12_has (2 : Int32) V).bind (fun (x21, V19) => if x21 = 0 then (some V19) else ((F_X12_pop  V19).bind (fun (x25, V23) => (F_X12_pointOf (V19.1 146 74) x25 V23).bind (fun (x28, V26) => (F_X12_pop  V26).bind (fun (x31, V29) => (F_X12_pointOf (V26.1 146 73) x31 V29).bind (fun (x34, V32) => if (V32.1 146 59) = 0 then (if sx_in x34 204 = true then if sx_in x28 204 = true then if sx_in x34 204 = true then if sx_in x28 204 = true then (F_X12_direction N ((V32.1 168 x34.toNatClampNeg) - (V32.1 168 x28.toNatClampNeg)) ((V32.1 169 x34.toNatClampNeg) - (V32.1 169 x28.toNatClampNeg)) V32).bind (fun V40 => if l1 = (7 : Int32) then (B_X12_low_318 N  l1 V40) else (if l1 = (9 : Int32) then (B_X12_low_318 N  l1 V40) else (B_X12_low_323 N  l1 (0 : Int32) V40))) else none else none else none else none) else (some V32)))))))
set_option maxRecDepth 20000 in
theorem tB_X12_low_235 {g : sx_G} (hG : sx_Go g) {P : Option Value → sv_V → Prop} {Vr : sv_V} (hP : P none Vr) {N : Nat}   {l1 : Int32} {V : sv_V} (h : B_X12_low_235 N  l1 V = some Vr) : sv_N g qX12_low 6 235 [(0, .ref 146), (1, .int l1)] [] V P := by
  unfold B_X12_low_235 at h
  refine sx_aload_n (pc := 235) dX12_low_235 sx_m0 ?_
  refine sx_iconst (pc := 236) (v := 2) dX12_low_236 (by decide) ?_
  obtain ⟨⟨x21, V19⟩, g20, h⟩ := sx_bnd h
  refine sv_cV (pc := 237) (y := qX12_has) (o := (some (.int x21))) (as := [.int (2 : Int32)]) (V1 := V19) hG dX12_low_237 l_X12_576 y0X12_has yvX12_has rfl (Nat.le_of_ble_eq_true rfl) lay_146 kr_12 (by decide) (Nat.le_of_ble_eq_true rfl) rfl rfl rfl (t_X12_has hG ⟨rfl, rfl⟩ g20) ?_
  refine sx_if_eq (pc := 240) (tgt := 384) dX12_low_240 (by decide) (fun c22 => ?_) (fun c22 => ?_)
  · have h := sx_pos c22 h
    exact sv_vret (pc := 384) dX12_low_384 rfl h hP
  · have h := sx_neg c22 h
    refine sx_aload_n (pc := 243) dX12_low_243 sx_m0 ?_
    refine sx_aload_n (pc := 244) dX12_low_244 sx_m0 ?_
    refine sv_getI (pc := 245) hG dX12_low_245 f_12_466 lay_146 rfl ?_
    refine sx_aload_n (pc := 248) dX12_low_248 sx_m0 ?_
    obtain ⟨⟨x25, V23⟩, g24, h⟩ := sx_bnd h
    refine sv_cV (pc := 249) (y := qX12_pop) (o := (some (.int x25))) (as := []) (V1 := V23) hG dX12_low_249 l_X12_579 y0X12_pop yvX12_pop rfl (Nat.le_of_ble_eq_true rfl) lay_146 kr_12 (by decide) (Nat.le_of_ble_eq_true rfl) rfl rfl rfl (t_X12_pop hG ⟨rfl, rfl⟩ g24) ?_
    obtain ⟨⟨x28, V26⟩, g27, h⟩ := sx_bnd h
    refine sv_cV (pc := 252) (y := qX12_pointOf) (o := (some (.int x28))) (as := [.int (V19.1 146 74), .int x25]) (V1 := V26) hG dX12_low_252 l_X12_582 y0X12_pointOf yvX12_pointOf rfl (Nat.le_of_ble_eq_true rfl) lay_146 kr_12 (by decide) (Nat.le_of_ble_eq_true rfl) rfl rfl rfl (t_X12_pointOf hG ⟨rfl, rfl⟩ g27) ?_
    refine sx_istore_n (pc := 255) (lo' := [(2, .int x28), (0, .ref 146), (1, .int l1)]) dX12_low_255 (by decide) rfl ?_
    refine sx_aload_n (pc := 256) dX12_low_256 sx_m1 ?_
    refine sx_aload_n (pc := 257) dX12_low_257 sx_m1 ?_
    refine sv_getI (pc := 258) hG dX12_low_258 f_12_463 lay_146 rfl ?_
    refine sx_aload_n (pc := 261) dX12_low_261 sx_m1 ?_
    obtain ⟨⟨x31, V29⟩, g30, h⟩ := sx_bnd h
    refine sv_cV (pc := 262) (y := qX12_pop) (o := (some (.int x31))) (as := []) (V1 := V29) hG dX12_low_262 l_X12_579 y0X12_pop yvX12_pop rfl (Nat.le_of_ble_eq_true rfl) lay_146 kr_12 (by decide) (Nat.le_of_ble_eq_true rfl) rfl rfl rfl (t_X12_pop hG ⟨rfl, rfl⟩ g30) ?_
    obtain ⟨⟨x34, V32⟩, g33, h⟩ := sx_bnd h
    refine sv_cV (pc := 265) (y := qX12_pointOf) (o := (some (.int x34))) (as := [.int (V26.1 146 73), .int x31]) (V1 := V32) hG dX12_low_265 l_X12_582 y0X12_pointOf yvX12_pointOf rfl (Nat.le_of_ble_eq_true rfl) lay_146 kr_12 (by decide) (Nat.le_of_ble_eq_true rfl) rfl rfl rfl (t_X12_pointOf hG ⟨rfl, rfl⟩ g33) ?_
    refine sx_istore_n (pc := 268) (lo' := [(3, .int x34), (2, .int x28), (0, .ref 146), (1, .int l1)]) dX12_low_268 (by decide) rfl ?_
    refine sx_aload_n (pc := 269) dX12_low_269 sx_m2 ?_
    refine sv_getI (pc := 270) hG dX12_low_270 f_12_409 lay_146 rfl ?_
    refine sx_if_ne (pc := 273) (tgt := 384) dX12_low_273 (by decide) (fun c35 => ?_) (fun c35 => ?_)
    · have h := sx_neg c35 h
      exact sv_vret (pc := 384) dX12_low_384 rfl h hP
    · have h := sx_pos c35 h
      refine sx_aload_n (pc := 276) dX12_low_276 sx_m2 ?_
      refine sx_aload_n (pc := 277) dX12_low_277 sx_m2 ?_
      refine sv_getA (pc := 278) hG dX12_low_278 f_12_76 lay_146 rfl cr_146_48 ?_
      refine sx_iload_n (pc := 281) dX12_low_281 sx_m0 ?_
      obtain ⟨g36, h⟩ := sx_grd h
      refine sv_iald (pc := 282) hG dX12_low_282 lay_168 g36 ?_
      refine sx_aload_n (pc := 283) dX12_low_283 sx_m2 ?_
      refine sv_getA (pc := 284) hG dX12_low_284 f_12_76 lay_146 rfl cr_146_48 ?_
      refine sx_iload_n (pc := 287) dX12_low_287 sx_m1 ?_
      obtain ⟨g37, h⟩ := sx_grd h
      refine sv_iald (pc := 288) hG dX12_low_288 lay_168 g37 ?_
      refine sx_isub (pc := 289) dX12_low_289 ?_
      refine sx_aload_n (pc := 290) dX12_low_290 sx_m2 ?_
      refine sv_getA (pc := 291) hG dX12_low_291 f_12_79 lay_146 rfl cr_146_49 ?_
      refine sx_iload_n (pc := 294) dX12_low_294 sx_m0 ?_
      obtain ⟨g38, h⟩ := sx_grd h
      refine sv_iald (pc := 295) hG dX12_low_295 lay_169 g38 ?_
      refine sx_aload_n (pc := 296) dX12_low_296 sx_m2 ?_
      refine sv_getA (pc := 297) hG dX12_low_297 f_12_79 lay_146 rfl cr_146_49 ?_
      refine sx_iload_n (pc := 300) dX12_low_300 sx_m1 ?_
      obtain ⟨g39, h⟩ := sx_grd h
      refine sv_iald (pc := 301) hG dX12_low_301 lay_169 g39 ?_
      refine sx_isub (pc := 302) dX12_low_302 ?_
      obtain ⟨V40, g41, h⟩ := sx_bnd h
      refine sv_cV (pc := 303) (y := qX12_direction) (o := none) (as := [.int ((V32.1 168 x34.toNatClampNeg) - (V32.1 168 x28.toNatClampNeg)), .int ((V32.1 169 x34.toNatClampNeg) - (V32.1 169 x28.toNatClampNeg))]) (V1 := V40) hG dX12_low_303 l_X12_586 y0X12_direction yvX12_direction rfl (Nat.le_of_ble_eq_true rfl) lay_146 kr_12 (by decide) (Nat.le_of_ble_eq_true rfl) rfl rfl rfl (t_X12_direction hG ⟨rfl, rfl⟩ g41) ?_
      refine sx_iload_n (pc := 306) dX12_low_306 sx_m3 ?_
      refine sx_bipush (pc := 307) (v := 7) dX12_low_307 (by decide) ?_
      refine sx_icmp_eq (pc := 309) (tgt := 318) dX12_low_309 (by decide) (fun c42 => ?_) (fun c42 => ?_)
      · have h := sx_pos c42 h
        refine sx_wk (sx_s1 sx_m2 (sx_s1 sx_m3 sx_s0)) ?_
        exact tB_X12_low_318 hG hP  h
      · have h := sx_neg c42 h
        refine sx_iload_n (pc := 312) dX12_low_312 sx_m3 ?_
        refine sx_bipush (pc := 313) (v := 9) dX12_low_313 (by decide) ?_
        refine sx_icmp_ne (pc := 315) (tgt := 322) dX12_low_315 (by decide) (fun c43 => ?_) (fun c43 => ?_)
        · have h := sx_neg c43 h
          refine sx_iconst (pc := 322) (v := 0) dX12_low_322 (by decide) ?_
          refine sx_wk (sx_s1 sx_m2 (sx_s1 sx_m3 sx_s0)) ?_
          exact tB_X12_low_323 hG hP  h
        · have h := sx_pos c43 h
          refine sx_wk (sx_s1 sx_m2 (sx_s1 sx_m3 sx_s0)) ?_
          exact tB_X12_low_318 hG hP  h
def B_X12_low_442 (N : Nat)  (s1 : Int32) (s2 : Int32) (s3 : Int32) (s4 : Int32) (V : sv_V) : Option sv_V := (F_X12_setVectors s1 s2 s3 s4 V).bind (fun V44 => some V44)
set_option maxRecDepth 20000 in
theorem tB_X12_low_442 {g : sx_G} (hG : sx_Go g) {P : Option Value → sv_V → Prop} {Vr : sv_V} (hP : P none Vr) {N : Nat}   {s1 : Int32} {s2 : Int32} {s3 : Int32} {s4 : Int32} {V : sv_V} (h : B_X12_low_442 N  s1 s2 s3 s4 V = some Vr) : sv_N g qX12_low 6 442 [] [.int s4, .int s3, .int s2, .int s1, .ref 146] V P := by
  unfold B_X12_low_442 at h
  obtain ⟨V44, g45, h⟩ := sx_bnd h
  refine sv_cV (pc := 442) (y := qX12_setVectors) (o := none) (as := [.int s1, .int s2, .int s3, .int s4]) (V1 := V44) hG dX12_low_442 l_X12_572 y0X12_setVectors yvX12_setVectors rfl (Nat.le_of_ble_eq_true rfl) lay_146 kr_12 (by decide) (Nat.le_of_ble_eq_true rfl) rfl rfl rfl (t_X12_setVectors hG ⟨rfl, rfl⟩ g45) ?_
  exact sv_vret (pc := 445) dX12_low_445 rfl h hP
def B_X12_low_431 (N : Nat)  (l1 : Int32) (s1 : Int32) (s2 : Int32) (s3 : Int32) (V : sv_V) : Option sv_V := if l1 = (10 : Int32) then (B_X12_low_442 N  s1 s2 s3 (1 : Int32) V) else (B_X12_low_442 N  s1 s2 s3 (0 : Int32) V)
set_option maxRecDepth 20000 in
theorem tB_X12_low_431 {g : sx_G} (hG : sx_Go g) {P : Option Value → sv_V → Prop} {Vr : sv_V} (hP : P none Vr) {N : Nat}   {l1 : Int32} {s1 : Int32} {s2 : Int32} {s3 : Int32} {V : sv_V} (h : B_X12_low_431 N  l1 s1 s2 s3 V = some Vr) : sv_N g qX12_low 6 431 [(1, .int l1)] [.int s3, .int s2, .int s1, .ref 146] V P := by
  unfold B_X12_low_431 at h
  refine sx_iload_n (pc := 431) dX12_low_431 sx_m0 ?_
  refine sx_bipush (pc := 432) (v := 10) dX12_low_432 (by decide) ?_
  refine sx_icmp_ne (pc := 434) (tgt := 441) dX12_low_434 (by decide) (fun c46 => ?_) (fun c46 => ?_)
  · have h := sx_neg c46 h
    refine sx_iconst (pc := 441) (v := 0) dX12_low_441 (by decide) ?_
    refine sx_wk sx_s0 ?_
    exact tB_X12_low_442 hG hP  h
  · have h := sx_pos c46 h
    refine sx_iconst (pc := 437) (v := 1) dX12_low_437 (by decide) ?_
    refine sx_goto (pc := 438) (tgt := 442) dX12_low_438 (by decide) ?_
    refine sx_wk sx_s0 ?_
    exact tB_X12_low_442 hG hP  h
def B_X12_low_385 (N : Nat)  (l1 : Int32) (V : sv_V) : Option sv_V := (F_X12_has (2 : Int32) V).bind (fun (x49, V47) => if x49 = 0 then (some V47) else ((F_X12_pop  V47).bind (fun (x53, V51) => sx_let (x53.toInt16.toInt32) (fun x54 => (F_X12_pop  V51).bind (fun (x57, V55) => sx_let (x57.toInt16.toInt32) (fun x58 => (F_X12_direction N x58 x54 V55).bind (fun V59 => if l1 = (11 : Int32) then (B_X12_low_431 N  l1 (V59.1 146 105) (V59.1 146 106) (1 : Int32) V59) else (B_X12_low_431 N  l1 (V59.1 146 105) (V59.1 146 106) (0 : Int32) V59))))))))
set_option maxRecDepth 20000 in
theorem tB_X12_low_385 {g : sx_G} (hG : sx_Go g) {P : Option Value → sv_V → Prop} {Vr : sv_V} (hP : P none Vr) {N : Nat}   {l1 : Int32} {V : sv_V} (h : B_X12_low_385 N  l1 V = some Vr) : sv_N g qX12_low 6 385 [(0, .ref 146), (1, .int l1)] [] V P := by
  unfold B_X12_low_385 at h
  refine sx_aload_n (pc := 385) dX12_low_385 sx_m0 ?_
  refine sx_iconst (pc := 386) (v := 2) dX12_low_386 (by decide) ?_
  obtain ⟨⟨x49, V47⟩, g48, h⟩ := sx_bnd h
  refine sv_cV (pc := 387) (y := qX12_has) (o := (some (.int x49))) (as := [.int (2 : Int32)]) (V1 := V47) hG dX12_low_387 l_X12_576 y0X12_has yvX12_has rfl (Nat.le_of_ble_eq_true rfl) lay_146 kr_12 (by decide) (Nat.le_of_ble_eq_true rfl) rfl rfl rfl (t_X12_has hG ⟨rfl, rfl⟩ g48) ?_
  refine sx_if_eq (pc := 390) (tgt := 445) dX12_low_390 (by decide) (fun c50 => ?_) (fun c50 => ?_)
  · have h := sx_pos c50 h
    exact sv_vret (pc := 445) dX12_low_445 rfl h hP
  · have h := sx_neg c50 h
    refine sx_aload_n (pc := 393) dX12_low_393 sx_m0 ?_
    obtain ⟨⟨x53, V51⟩, g52, h⟩ := sx_bnd h
    refine sv_cV (pc := 394) (y := qX12_pop) (o := (some (.int x53))) (as := []) (V1 := V51) hG dX12_low_394 l_X12_579 y0X12_pop yvX12_pop rfl (Nat.le_of_ble_eq_true rfl) lay_146 kr_12 (by decide) (Nat.le_of_ble_eq_true rfl) rfl rfl rfl (t_X12_pop hG ⟨rfl, rfl⟩ g52) ?_
    refine sx_i2s (pc := 397) dX12_low_397 ?_
    refine sv_tI (fun x54 hx54 => ?_)
    have h := sx_letE hx54 h
    refine sx_istore_n (pc := 398) (lo' := [(2, .int x54), (0, .ref 146), (1, .int l1)]) dX12_low_398 (by decide) rfl ?_
    refine sx_aload_n (pc := 399) dX12_low_399 sx_m1 ?_
    obtain ⟨⟨x57, V55⟩, g56, h⟩ := sx_bnd h
    refine sv_cV (pc := 400) (y := qX12_pop) (o := (some (.int x57))) (as := []) (V1 := V55) hG dX12_low_400 l_X12_579 y0X12_pop yvX12_pop rfl (Nat.le_of_ble_eq_true rfl) lay_146 kr_12 (by decide) (Nat.le_of_ble_eq_true rfl) rfl rfl rfl (t_X12_pop hG ⟨rfl, rfl⟩ g56) ?_
    refine sx_i2s (pc := 403) dX12_low_403 ?_
    refine sv_tI (fun x58 hx58 => ?_)
    have h := sx_letE hx58 h
    refine sx_istore_n (pc := 404) (lo' := [(3, .int x58), (2, .int x54), (0, .ref 146), (1, .int l1)]) dX12_low_404 (by decide) rfl ?_
    refine sx_aload_n (pc := 405) dX12_low_405 sx_m2 ?_
    refine sx_iload_n (pc := 406) dX12_low_406 sx_m0 ?_
    refine sx_iload_n (pc := 407) dX12_low_407 sx_m1 ?_
    obtain ⟨V59, g60, h⟩ := sx_bnd h
    refine sv_cV (pc := 408) (y := qX12_direction) (o := none) (as := [.int x58, .int x54]) (V1 := V59) hG dX12_low_408 l_X12_586 y0X12_direction yvX12_direction rfl (Nat.le_of_ble_eq_true rfl) lay_146 kr_12 (by decide) (Nat.le_of_ble_eq_true rfl) rfl rfl rfl (t_X12_direction hG ⟨rfl, rfl⟩ g60) ?_
    refine sx_aload_n (pc := 411) dX12_low_411 sx_m2 ?_
    refine sx_aload_n (pc := 412) dX12_low_412 sx_m2 ?_
    refine sv_getI (pc := 413) hG dX12_low_413 f_12_533 lay_146 rfl ?_
    refine sx_aload_n (pc := 416) dX12_low_416 sx_m2 ?_
    refine sv_getI (pc := 417) hG dX12_low_417 f_12_536 lay_146 rfl ?_
    refine sx_iload_n (pc := 420) dX12_low_420 sx_m3 ?_
    refine sx_bipush (pc := 421) (v := 11) dX12_low_421 (by decide) ?_
    refine sx_icmp_ne (pc := 423) (tgt := 430) dX12_low_423 (by decide) (fun c61 => ?_) (fun c61 => ?_)
    · have h := sx_neg c61 h
      refine sx_iconst (pc := 430) (v := 0) dX12_low_430 (by decide) ?_
      refine sx_wk (sx_s1 sx_m3 sx_s0) ?_
      exact tB_X12_low_431 hG hP  h
    · have h := sx_pos c61 h
      refine sx_iconst (pc := 426) (v := 1) dX12_low_426 (by decide) ?_
      refine sx_goto (pc := 427) (tgt := 431) dX12_low_427 (by decide) ?_
      refine sx_wk (sx_s1 sx_m3 sx_s0) ?_
      exact tB_X12_low_431 hG hP  h
def B_X12_low_564 (N : Nat)  (l1 : Int32) (V : sv_V) : Option sv_V := (F_X12_setZone l1 V).bind (fun V62 => some V62)
set_option maxRecDepth 20000 in
theorem tB_X12_low_564 {g : sx_G} (hG : sx_Go g) {P : Option Value → sv_V → Prop} {Vr : sv_V} (hP : P none Vr) {N : Nat}   {l1 : Int32} {V : sv_V} (h : B_X12_low_564 N  l1 V = some Vr) : sv_N g qX12_low 6 564 [(0, .ref 146), (1, .int l1)] [] V P := by
  unfold B_X12_low_564 at h
  refine sx_aload_n (pc := 564) dX12_low_564 sx_m0 ?_
  refine sx_iload_n (pc := 565) dX12_low_565 sx_m1 ?_
  obtain ⟨V62, g63, h⟩ := sx_bnd h
  refine sv_cV (pc := 566) (y := qX12_setZone) (o := none) (as := [.int l1]) (V1 := V62) hG dX12_low_566 l_X12_590 y0X12_setZone yvX12_setZone rfl (Nat.le_of_ble_eq_true rfl) lay_146 kr_12 (by decide) (Nat.le_of_ble_eq_true rfl) rfl rfl rfl (t_X12_setZone hG ⟨rfl, rfl⟩ g63) ?_
  exact sv_vret (pc := 569) dX12_low_569 rfl h hP
def B_X12_low_759 (N : Nat)  (l1 : Int32) (V : sv_V) : Option sv_V := (F_X12_stacks N l1 V).bind (fun V64 => some V64)
set_option maxRecDepth 20000 in
theorem tB_X12_low_759 {g : sx_G} (hG : sx_Go g) {P : Option Value → sv_V → Prop} {Vr : sv_V} (hP : P none Vr) {N : Nat}   {l1 : Int32} {V : sv_V} (h : B_X12_low_759 N  l1 V = some Vr) : sv_N g qX12_low 6 759 [(0, .ref 146), (1, .int l1)] [] V P := by
  unfold B_X12_low_759 at h
  refine sx_aload_n (pc := 759) dX12_low_759 sx_m0 ?_
  refine sx_iload_n (pc := 760) dX12_low_760 sx_m1 ?_
  obtain ⟨V64, g65, h⟩ := sx_bnd h
  refine sv_cV (pc := 761) (y := qX12_stacks) (o := none) (as := [.int l1]) (V1 := V64) hG dX12_low_761 l_X12_618 y0X12_stacks yvX12_stacks rfl (Nat.le_of_ble_eq_true rfl) lay_146 kr_12 (by decide) (Nat.le_of_ble_eq_true rfl) rfl rfl rfl (t_X12_stacks hG ⟨rfl, rfl⟩ g65) ?_
  exact sv_vret (pc := 764) dX12_low_764 rfl h hP
def F_X12_low (N : Nat) (l1 : Int32) (V : sv_V) : Option sv_V := if l1 = 0 then (B_X12_low_144 N  l1 V) else (if l1 = 1 then (B_X12_low_144 N  l1 V) else (if l1 = 2 then (B_X12_low_173 N  l1 V) else (if l1 = 3 then (B_X12_low_173 N  l1 V) else (if l1 = 4 then (B_X12_low_204 N  l1 V) else (if l1 = 5 then (B_X12_low_204 N  l1 V) else (if l1 = 6 then (B_X12_low_235 N  l1 V) else (if l1 = 7 then (B_X12_low_235 N  l1 V) else (if l1 = 8 then (B_X12_low_235 N  l1 V) else (if l1 = 9 then (B_X12_low_235 N  l1 V) else (if l1 = 10 then (B_X12_low_385 N  l1 V) else (if l1 = 11 then (B_X12_low_385 N  l1 V) else (if l1 = 12 then ((F_X12_push ((V.1 146 65).toInt64) V).bind (fun V79 => (F_X12_push ((V79.1 146 66).toInt64) V79).bind (fun V81 => some V81))) else (if l1 = 13 then ((F_X12_push ((V.1 146 63).toInt64) V).bind (fun V84 => (F_X12_push ((V84.1 146 64).toInt64) V84).bind (fun V86 => some V86))) else (if l1 = 14 then (sx_let (sv_I V 146 63 (V.1 146 65)) (fun V89 => sx_let (sv_I V89 146 64 (V89.1 146 66)) (fun V90 => some V90))) else (if l1 = 15 then (B_X12_low_759 N  l1 V) else (if l1 = 16 then ((F_X12_has (1 : Int32) V).bind (fun (x95, V93) => if x95 = 0 then (sx_let (sv_I V93 146 69 (0 : Int32)) (fun V97 => some V97)) else ((F_X12_pop  V93).bind (fun (x100, V98) => sx_let (sv_I V98 146 69 x100) (fun V101 => some V101))))) else (if l1 = 17 then ((F_X12_has (1 : Int32) V).bind (fun (x105, V103) => if x105 = 0 then (sx_let (sv_I V103 146 70 (0 : Int32)) (fun V107 => some V107)) else ((F_X12_pop  V103).bind (fun (x110, V108) => sx_let (sv_I V108 146 70 x110) (fun V111 => some V111))))) else (if l1 = 18 then ((F_X12_has (1 : Int32) V).bind (fun (x115, V113) => if x115 = 0 then (sx_let (sv_I V113 146 71 (0 : Int32)) (fun V117 => some V117)) else ((F_X12_pop  V113).bind (fun (x120, V118) => sx_let (sv_I V118 146 71 x120) (fun V121 => some V121))))) else (if l1 = 19 then (B_X12_low_564 N  l1 V) else (if l1 = 20 then (B_X12_low_564 N  l1 V) else (if l1 = 21 then (B_X12_low_564 N  l1 V) else (if l1 = 22 then (B_X12_low_564 N  l1 V) else (if l1 = 23 then ((F_X12_has (1 : Int32) V).bind (fun (x129, V127) => if x129 = 0 then (some V127) else ((F_X12_pop  V127).bind (fun (x133, V131) => (F_X12_in x133.toInt64 (1 : Int64) (65535 : Int64) V131).bind (fun (x136, V134) => if x136 = 0 then ((F_X12_fail (11 : Int32) V134).bind (fun V139 => sx_let (sv_I V139 146 75 x133) (fun V141 => some V141))) else (sx_let (sv_I V134 146 75 x133) (fun V138 => some V138))))))) else (if l1 = 24 then ((F_X12_setRounding (24 : Int32) (64 : Int32) (0 : Int32) (32 : Int32) V).bind (fun V143 => some V143)) else (if l1 = 25 then ((F_X12_setRounding (25 : Int32) (64 : Int32) (32 : Int32) (32 : Int32) V).bind (fun V146 => some V146)) else (if l1 = 26 then ((F_X12_has (1 : Int32) V).bind (fun (x151, V149) => if x151 = 0 then (sx_let (sv_I V149 146 83 (0 : Int32)) (fun V153 => some V153)) else ((F_X12_pop  V149).bind (fun (x156, V154) => sx_let (sv_I V154 146 83 x156) (fun V157 => some V157))))) else (if l1 = 27 then ((F_X12_pass N (V.1 146 93) (89 : Int32) (89 : Int32) (1 : Int32) V).bind (fun (x161, V159) => sx_let (sv_I V159 146 93 x161) (fun V162 => some V162))) else (if l1 = 28 then ((F_X12_has (1 : Int32) V).bind (fun (x166, V164) => if x166 = 0 then (some V164) else ((F_X12_pop  V164).bind (fun (x170, V168) => (F_X12_jump x170.toInt64 V168).bind (fun V171 => some V171))))) else (if l1 = 29 then ((F_X12_has (1 : Int32) V).bind (fun (x176, V174) => if x176 = 0 then (sx_let (sv_I V174 146 80 (0 : Int32)) (fun V178 => some V178)) else ((F_X12_pop  V174).bind (fun (x181, V179) => sx_let (sv_I V179 146 80 x181) (fun V182 => some V182))))) else (if l1 = 30 then ((F_X12_has (1 : Int32) V).bind (fun (x186, V184) => if x186 = 0 then (sx_let (sv_I V184 146 82 (0 : Int32)) (fun V188 => some V188)) else ((F_X12_pop  V184).bind (fun (x191, V189) => sx_let (sv_I V189 146 82 x191) (fun V192 => some V192))))) else (if l1 = 31 then ((F_X12_has (1 : Int32) V).bind (fun (x196, V194) => if x196 = 0 then (sx_let (sv_I V194 146 81 (0 : Int32)) (fun V198 => some V198)) else ((F_X12_pop  V194).bind (fun (x201, V199) => (F_X12_scaled x201.toInt64 V199).bind (fun (x204, V202) => sx_let (sv_I V202 146 81 x204) (fun V205 => some V205)))))) else (B_X12_low_759 N  l1 V))))))))))))))))))))))))))))))))
set_option maxRecDepth 20000 in
theorem t_X12_low {g : sx_G} (hG : sx_Go g) {P : Option Value → sv_V → Prop} {Vr : sv_V} (hP : P none Vr) {N : Nat} {l1 : Int32} {V : sv_V} (h : F_X12_low N l1 V = some Vr) : sv_N g qX12_low 6 0 [(0, .ref 146), (1, .int l1)] [] V P := by
  unfold F_X12_low at h
  refine sx_iload_n (pc := 0) dX12_low_0 sx_m1 ?_
  by_cases c66 : l1 = 0
  · have h := sx_pos c66 h
    refine sx_tabI (pc := 1) (off := 143) (tgt := 144) dX12_low_1 (by rw [c66]; decide) (by rw [c66]; decide) (by rw [c66]; rfl) (by decide) ?_
    refine sx_wk (sx_s1 sx_m0 (sx_s1 sx_m1 sx_s0)) ?_
    exact tB_X12_low_144 hG hP  h
  have h := sx_neg c66 h
  by_cases c67 : l1 = 1
  · have h := sx_pos c67 h
    refine sx_tabI (pc := 1) (off := 143) (tgt := 144) dX12_low_1 (by rw [c67]; decide) (by rw [c67]; decide) (by rw [c67]; rfl) (by decide) ?_
    refine sx_wk (sx_s1 sx_m0 (sx_s1 sx_m1 sx_s0)) ?_
    exact tB_X12_low_144 hG hP  h
  have h := sx_neg c67 h
  by_cases c68 : l1 = 2
  · have h := sx_pos c68 h
    refine sx_tabI (pc := 1) (off := 172) (tgt := 173) dX12_low_1 (by rw [c68]; decide) (by rw [c68]; decide) (by rw [c68]; rfl) (by decide) ?_
    refine sx_wk (sx_s1 sx_m0 (sx_s1 sx_m1 sx_s0)) ?_
    exact tB_X12_low_173 hG hP  h
  have h := sx_neg c68 h
  by_cases c69 : l1 = 3
  · have h := sx_pos c69 h
    refine sx_tabI (pc := 1) (off := 172) (tgt := 173) dX12_low_1 (by rw [c69]; decide) (by rw [c69]; decide) (by rw [c69]; rfl) (by decide) ?_
    refine sx_wk (sx_s1 sx_m0 (sx_s1 sx_m1 sx_s0)) ?_
    exact tB_X12_low_173 hG hP  h
  have h := sx_neg c69 h
  by_cases c70 : l1 = 4
  · have h := sx_pos c70 h
    refine sx_tabI (pc := 1) (off := 203) (tgt := 204) dX12_low_1 (by rw [c70]; decide) (by rw [c70]; decide) (by rw [c70]; rfl) (by decide) ?_
    refine sx_wk (sx_s1 sx_m0 (sx_s1 sx_m1 sx_s0)) ?_
    exact tB_X12_low_204 hG hP  h
  have h := sx_neg c70 h
  by_cases c71 : l1 = 5
  · have h := sx_pos c71 h
    refine sx_tabI (pc := 1) (off := 203) (tgt := 204) dX12_low_1 (by rw [c71]; decide) (by rw [c71]; decide) (by rw [c71]; rfl) (by decide) ?_
    refine sx_wk (sx_s1 sx_m0 (sx_s1 sx_m1 sx_s0)) ?_
    exact tB_X12_low_204 hG hP  h
  have h := sx_neg c71 h
  by_cases c72 : l1 = 6
  · have h := sx_pos c72 h
    refine sx_tabI (pc := 1) (off := 234) (tgt := 235) dX12_low_1 (by rw [c72]; decide) (by rw [c72]; decide) (by rw [c72]; rfl) (by decide) ?_
    refine sx_wk (sx_s1 sx_m0 (sx_s1 sx_m1 sx_s0)) ?_
    exact tB_X12_low_235 hG hP  h
  have h := sx_neg c72 h
  by_cases c73 : l1 = 7
  · have h := sx_pos c73 h
    refine sx_tabI (pc := 1) (off := 234) (tgt := 235) dX12_low_1 (by rw [c73]; decide) (by rw [c73]; decide) (by rw [c73]; rfl) (by decide) ?_
    refine sx_wk (sx_s1 sx_m0 (sx_s1 sx_m1 sx_s0)) ?_
    exact tB_X12_low_235 hG hP  h
  have h := sx_neg c73 h
  by_cases c74 : l1 = 8
  · have h := sx_pos c74 h
    refine sx_tabI (pc := 1) (off := 234) (tgt := 235) dX12_low_1 (by rw [c74]; decide) (by rw [c74]; decide) (by rw [c74]; rfl) (by decide) ?_
    refine sx_wk (sx_s1 sx_m0 (sx_s1 sx_m1 sx_s0)) ?_
    exact tB_X12_low_235 hG hP  h
  have h := sx_neg c74 h
  by_cases c75 : l1 = 9
  · have h := sx_pos c75 h
    refine sx_tabI (pc := 1) (off := 234) (tgt := 235) dX12_low_1 (by rw [c75]; decide) (by rw [c75]; decide) (by rw [c75]; rfl) (by decide) ?_
    refine sx_wk (sx_s1 sx_m0 (sx_s1 sx_m1 sx_s0)) ?_
    exact tB_X12_low_235 hG hP  h
  have h := sx_neg c75 h
  by_cases c76 : l1 = 10
  · have h := sx_pos c76 h
    refine sx_tabI (pc := 1) (off := 384) (tgt := 385) dX12_low_1 (by rw [c76]; decide) (by rw [c76]; decide) (by rw [c76]; rfl) (by decide) ?_
    refine sx_wk (sx_s1 sx_m0 (sx_s1 sx_m1 sx_s0)) ?_
    exact tB_X12_low_385 hG hP  h
  have h := sx_neg c76 h
  by_cases c77 : l1 = 11
  · have h := sx_pos c77 h
    refine sx_tabI (pc := 1) (off := 384) (tgt := 385) dX12_low_1 (by rw [c77]; decide) (by rw [c77]; decide) (by rw [c77]; rfl) (by decide) ?_
    refine sx_wk (sx_s1 sx_m0 (sx_s1 sx_m1 sx_s0)) ?_
    exact tB_X12_low_385 hG hP  h
  have h := sx_neg c77 h
  by_cases c78 : l1 = 12
  · have h := sx_pos c78 h
    refine sx_tabI (pc := 1) (off := 445) (tgt := 446) dX12_low_1 (by rw [c78]; decide) (by rw [c78]; decide) (by rw [c78]; rfl) (by decide) ?_
    refine sx_aload_n (pc := 446) dX12_low_446 sx_m0 ?_
    refine sx_aload_n (pc := 447) dX12_low_447 sx_m0 ?_
    refine sv_getI (pc := 448) hG dX12_low_448 f_12_439 lay_146 rfl ?_
    refine sx_i2l (pc := 451) dX12_low_451 ?_
    obtain ⟨V79, g80, h⟩ := sx_bnd h
    refine sv_cV (pc := 452) (y := qX12_push) (o := none) (as := [.long ((V.1 146 65).toInt64)]) (V1 := V79) hG dX12_low_452 l_X12_564 y0X12_push yvX12_push rfl (Nat.le_of_ble_eq_true rfl) lay_146 kr_12 (by decide) (Nat.le_of_ble_eq_true rfl) rfl rfl rfl (t_X12_push hG ⟨rfl, rfl⟩ g80) ?_
    refine sx_aload_n (pc := 455) dX12_low_455 sx_m0 ?_
    refine sx_aload_n (pc := 456) dX12_low_456 sx_m0 ?_
    refine sv_getI (pc := 457) hG dX12_low_457 f_12_442 lay_146 rfl ?_
    refine sx_i2l (pc := 460) dX12_low_460 ?_
    obtain ⟨V81, g82, h⟩ := sx_bnd h
    refine sv_cV (pc := 461) (y := qX12_push) (o := none) (as := [.long ((V79.1 146 66).toInt64)]) (V1 := V81) hG dX12_low_461 l_X12_564 y0X12_push yvX12_push rfl (Nat.le_of_ble_eq_true rfl) lay_146 kr_12 (by decide) (Nat.le_of_ble_eq_true rfl) rfl rfl rfl (t_X12_push hG ⟨rfl, rfl⟩ g82) ?_
    exact sv_vret (pc := 464) dX12_low_464 rfl h hP
  have h := sx_neg c78 h
  by_cases c83 : l1 = 13
  · have h := sx_pos c83 h
    refine sx_tabI (pc := 1) (off := 464) (tgt := 465) dX12_low_1 (by rw [c83]; decide) (by rw [c83]; decide) (by rw [c83]; rfl) (by decide) ?_
    refine sx_aload_n (pc := 465) dX12_low_465 sx_m0 ?_
    refine sx_aload_n (pc := 466) dX12_low_466 sx_m0 ?_
    refine sv_getI (pc := 467) hG dX12_low_467 f_12_433 lay_146 rfl ?_
    refine sx_i2l (pc := 470) dX12_low_470 ?_
    obtain ⟨V84, g85, h⟩ := sx_bnd h
    refine sv_cV (pc := 471) (y := qX12_push) (o := none) (as := [.long ((V.1 146 63).toInt64)]) (V1 := V84) hG dX12_low_471 l_X12_564 y0X12_push yvX12_push rfl (Nat.le_of_ble_eq_true rfl) lay_146 kr_12 (by decide) (Nat.le_of_ble_eq_true rfl) rfl rfl rfl (t_X12_push hG ⟨rfl, rfl⟩ g85) ?_
    refine sx_aload_n (pc := 474) dX12_low_474 sx_m0 ?_
    refine sx_aload_n (pc := 475) dX12_low_475 sx_m0 ?_
    refine sv_getI (pc := 476) hG dX12_low_476 f_12_436 lay_146 rfl ?_
    refine sx_i2l (pc := 479) dX12_low_479 ?_
    obtain ⟨V86, g87, h⟩ := sx_bnd h
    refine sv_cV (pc := 480) (y := qX12_push) (o := none) (as := [.long ((V84.1 146 64).toInt64)]) (V1 := V86) hG dX12_low_480 l_X12_564 y0X12_push yvX12_push rfl (Nat.le_of_ble_eq_true rfl) lay_146 kr_12 (by decide) (Nat.le_of_ble_eq_true rfl) rfl rfl rfl (t_X12_push hG ⟨rfl, rfl⟩ g87) ?_
    exact sv_vret (pc := 483) dX12_low_483 rfl h hP
  have h := sx_neg c83 h
  by_cases c88 : l1 = 14
  · have h := sx_pos c88 h
    refine sx_tabI (pc := 1) (off := 483) (tgt := 484) dX12_low_1 (by rw [c88]; decide) (by rw [c88]; decide) (by rw [c88]; rfl) (by decide) ?_
    refine sx_aload_n (pc := 484) dX12_low_484 sx_m0 ?_
    refine sx_aload_n (pc := 485) dX12_low_485 sx_m0 ?_
    refine sv_getI (pc := 486) hG dX12_low_486 f_12_439 lay_146 rfl ?_
    obtain ⟨V89, hV89⟩ : ∃ z : sv_V, z = sv_I V 146 63 (V.1 146 65) := ⟨_, rfl⟩
    have h := sx_letE hV89 h
    refine sv_putI (pc := 489) hG dX12_low_489 f_12_433 lay_146 rfl hV89 ?_
    refine sx_aload_n (pc := 492) dX12_low_492 sx_m0 ?_
    refine sx_aload_n (pc := 493) dX12_low_493 sx_m0 ?_
    refine sv_getI (pc := 494) hG dX12_low_494 f_12_442 lay_146 rfl ?_
    obtain ⟨V90, hV90⟩ : ∃ z : sv_V, z = sv_I V89 146 64 (V89.1 146 66) := ⟨_, rfl⟩
    have h := sx_letE hV90 h
    refine sv_putI (pc := 497) hG dX12_low_497 f_12_436 lay_146 rfl hV90 ?_
    exact sv_vret (pc := 500) dX12_low_500 rfl h hP
  have h := sx_neg c88 h
  by_cases c91 : l1 = 15
  · have h := sx_pos c91 h
    refine sx_tabI (pc := 1) (off := 758) (tgt := 759) dX12_low_1 (by rw [c91]; decide) (by rw [c91]; decide) (by rw [c91]; rfl) (by decide) ?_
    refine sx_wk (sx_s1 sx_m0 (sx_s1 sx_m1 sx_s0)) ?_
    exact tB_X12_low_759 hG hP  h
  have h := sx_neg c91 h
  by_cases c92 : l1 = 16
  · have h := sx_pos c92 h
    refine sx_tabI (pc := 1) (off := 500) (tgt := 501) dX12_low_1 (by rw [c92]; decide) (by rw [c92]; decide) (by rw [c92]; rfl) (by decide) ?_
    refine sx_aload_n (pc := 501) dX12_low_501 sx_m0 ?_
    refine sx_aload_n (pc := 502) dX12_low_502 sx_m0 ?_
    refine sx_iconst (pc := 503) (v := 1) dX12_low_503 (by decide) ?_
    obtain ⟨⟨x95, V93⟩, g94, h⟩ := sx_bnd h
    refine sv_cV (pc := 504) (y := qX12_has) (o := (some (.int x95))) (as := [.int (1 : Int32)]) (V1 := V93) hG dX12_low_504 l_X12_576 y0X12_has yvX12_has rfl (Nat.le_of_ble_eq_true rfl) lay_146 kr_12 (by decide) (Nat.le_of_ble_eq_true rfl) rfl rfl rfl (t_X12_has hG ⟨rfl, rfl⟩ g94) ?_
    refine sx_if_eq (pc := 507) (tgt := 517) dX12_low_507 (by decide) (fun c96 => ?_) (fun c96 => ?_)
    · have h := sx_pos c96 h
      refine sx_iconst (pc := 517) (v := 0) dX12_low_517 (by decide) ?_
      obtain ⟨V97, hV97⟩ : ∃ z : sv_V, z = sv_I V93 146 69 (0 : Int32) := ⟨_, rfl⟩
      have h := sx_letE hV97 h
      refine sv_putI (pc := 518) hG dX12_low_518 f_12_451 lay_146 rfl hV97 ?_
      exact sv_vret (pc := 521) dX12_low_521 rfl h hP
    · have h := sx_neg c96 h
      refine sx_aload_n (pc := 510) dX12_low_510 sx_m0 ?_
      obtain ⟨⟨x100, V98⟩, g99, h⟩ := sx_bnd h
      refine sv_cV (pc := 511) (y := qX12_pop) (o := (some (.int x100))) (as := []) (V1 := V98) hG dX12_low_511 l_X12_579 y0X12_pop yvX12_pop rfl (Nat.le_of_ble_eq_true rfl) lay_146 kr_12 (by decide) (Nat.le_of_ble_eq_true rfl) rfl rfl rfl (t_X12_pop hG ⟨rfl, rfl⟩ g99) ?_
      refine sx_goto (pc := 514) (tgt := 518) dX12_low_514 (by decide) ?_
      obtain ⟨V101, hV101⟩ : ∃ z : sv_V, z = sv_I V98 146 69 x100 := ⟨_, rfl⟩
      have h := sx_letE hV101 h
      refine sv_putI (pc := 518) hG dX12_low_518 f_12_451 lay_146 rfl hV101 ?_
      exact sv_vret (pc := 521) dX12_low_521 rfl h hP
  have h := sx_neg c92 h
  by_cases c102 : l1 = 17
  · have h := sx_pos c102 h
    refine sx_tabI (pc := 1) (off := 521) (tgt := 522) dX12_low_1 (by rw [c102]; decide) (by rw [c102]; decide) (by rw [c102]; rfl) (by decide) ?_
    refine sx_aload_n (pc := 522) dX12_low_522 sx_m0 ?_
    refine sx_aload_n (pc := 523) dX12_low_523 sx_m0 ?_
    refine sx_iconst (pc := 524) (v := 1) dX12_low_524 (by decide) ?_
    obtain ⟨⟨x105, V103⟩, g104, h⟩ := sx_bnd h
    refine sv_cV (pc := 525) (y := qX12_has) (o := (some (.int x105))) (as := [.int (1 : Int32)]) (V1 := V103) hG dX12_low_525 l_X12_576 y0X12_has yvX12_has rfl (Nat.le_of_ble_eq_true rfl) lay_146 kr_12 (by decide) (Nat.le_of_ble_eq_true rfl) rfl rfl rfl (t_X12_has hG ⟨rfl, rfl⟩ g104) ?_
    refine sx_if_eq (pc := 528) (tgt := 538) dX12_low_528 (by decide) (fun c106 => ?_) (fun c106 => ?_)
    · have h := sx_pos c106 h
      refine sx_iconst (pc := 538) (v := 0) dX12_low_538 (by decide) ?_
      obtain ⟨V107, hV107⟩ : ∃ z : sv_V, z = sv_I V103 146 70 (0 : Int32) := ⟨_, rfl⟩
      have h := sx_letE hV107 h
      refine sv_putI (pc := 539) hG dX12_low_539 f_12_454 lay_146 rfl hV107 ?_
      exact sv_vret (pc := 542) dX12_low_542 rfl h hP
    · have h := sx_neg c106 h
      refine sx_aload_n (pc := 531) dX12_low_531 sx_m0 ?_
      obtain ⟨⟨x110, V108⟩, g109, h⟩ := sx_bnd h
      refine sv_cV (pc := 532) (y := qX12_pop) (o := (some (.int x110))) (as := []) (V1 := V108) hG dX12_low_532 l_X12_579 y0X12_pop yvX12_pop rfl (Nat.le_of_ble_eq_true rfl) lay_146 kr_12 (by decide) (Nat.le_of_ble_eq_true rfl) rfl rfl rfl (t_X12_pop hG ⟨rfl, rfl⟩ g109) ?_
      refine sx_goto (pc := 535) (tgt := 539) dX12_low_535 (by decide) ?_
      obtain ⟨V111, hV111⟩ : ∃ z : sv_V, z = sv_I V108 146 70 x110 := ⟨_, rfl⟩
      have h := sx_letE hV111 h
      refine sv_putI (pc := 539) hG dX12_low_539 f_12_454 lay_146 rfl hV111 ?_
      exact sv_vret (pc := 542) dX12_low_542 rfl h hP
  have h := sx_neg c102 h
  by_cases c112 : l1 = 18
  · have h := sx_pos c112 h
    refine sx_tabI (pc := 1) (off := 542) (tgt := 543) dX12_low_1 (by rw [c112]; decide) (by rw [c112]; decide) (by rw [c112]; rfl) (by decide) ?_
    refine sx_aload_n (pc := 543) dX12_low_543 sx_m0 ?_
    refine sx_aload_n (pc := 544) dX12_low_544 sx_m0 ?_
    refine sx_iconst (pc := 545) (v := 1) dX12_low_545 (by decide) ?_
    obtain ⟨⟨x115, V113⟩, g114, h⟩ := sx_bnd h
    refine sv_cV (pc := 546) (y := qX12_has) (o := (some (.int x115))) (as := [.int (1 : Int32)]) (V1 := V113) hG dX12_low_546 l_X12_576 y0X12_has yvX12_has rfl (Nat.le_of_ble_eq_true rfl) lay_146 kr_12 (by decide) (Nat.le_of_ble_eq_true rfl) rfl rfl rfl (t_X12_has hG ⟨rfl, rfl⟩ g114) ?_
    refine sx_if_eq (pc := 549) (tgt := 559) dX12_low_549 (by decide) (fun c116 => ?_) (fun c116 => ?_)
    · have h := sx_pos c116 h
      refine sx_iconst (pc := 559) (v := 0) dX12_low_559 (by decide) ?_
      obtain ⟨V117, hV117⟩ : ∃ z : sv_V, z = sv_I V113 146 71 (0 : Int32) := ⟨_, rfl⟩
      have h := sx_letE hV117 h
      refine sv_putI (pc := 560) hG dX12_low_560 f_12_457 lay_146 rfl hV117 ?_
      exact sv_vret (pc := 563) dX12_low_563 rfl h hP
    · have h := sx_neg c116 h
      refine sx_aload_n (pc := 552) dX12_low_552 sx_m0 ?_
      obtain ⟨⟨x120, V118⟩, g119, h⟩ := sx_bnd h
      refine sv_cV (pc := 553) (y := qX12_pop) (o := (some (.int x120))) (as := []) (V1 := V118) hG dX12_low_553 l_X12_579 y0X12_pop yvX12_pop rfl (Nat.le_of_ble_eq_true rfl) lay_146 kr_12 (by decide) (Nat.le_of_ble_eq_true rfl) rfl rfl rfl (t_X12_pop hG ⟨rfl, rfl⟩ g119) ?_
      refine sx_goto (pc := 556) (tgt := 560) dX12_low_556 (by decide) ?_
      obtain ⟨V121, hV121⟩ : ∃ z : sv_V, z = sv_I V118 146 71 x120 := ⟨_, rfl⟩
      have h := sx_letE hV121 h
      refine sv_putI (pc := 560) hG dX12_low_560 f_12_457 lay_146 rfl hV121 ?_
      exact sv_vret (pc := 563) dX12_low_563 rfl h hP
  have h := sx_neg c112 h
  by_cases c122 : l1 = 19
  · have h := sx_pos c122 h
    refine sx_tabI (pc := 1) (off := 563) (tgt := 564) dX12_low_1 (by rw [c122]; decide) (by rw [c122]; decide) (by rw [c122]; rfl) (by decide) ?_
    refine sx_wk (sx_s1 sx_m0 (sx_s1 sx_m1 sx_s0)) ?_
    exact tB_X12_low_564 hG hP  h
  have h := sx_neg c122 h
  by_cases c123 : l1 = 20
  · have h := sx_pos c123 h
    refine sx_tabI (pc := 1) (off := 563) (tgt := 564) dX12_low_1 (by rw [c123]; decide) (by rw [c123]; decide) (by rw [c123]; rfl) (by decide) ?_
    refine sx_wk (sx_s1 sx_m0 (sx_s1 sx_m1 sx_s0)) ?_
    exact tB_X12_low_564 hG hP  h
  have h := sx_neg c123 h
  by_cases c124 : l1 = 21
  · have h := sx_pos c124 h
    refine sx_tabI (pc := 1) (off := 563) (tgt := 564) dX12_low_1 (by rw [c124]; decide) (by rw [c124]; decide) (by rw [c124]; rfl) (by decide) ?_
    refine sx_wk (sx_s1 sx_m0 (sx_s1 sx_m1 sx_s0)) ?_
    exact tB_X12_low_564 hG hP  h
  have h := sx_neg c124 h
  by_cases c125 : l1 = 22
  · have h := sx_pos c125 h
    refine sx_tabI (pc := 1) (off := 563) (tgt := 564) dX12_low_1 (by rw [c125]; decide) (by rw [c125]; decide) (by rw [c125]; rfl) (by decide) ?_
    refine sx_wk (sx_s1 sx_m0 (sx_s1 sx_m1 sx_s0)) ?_
    exact tB_X12_low_564 hG hP  h
  have h := sx_neg c125 h
  by_cases c126 : l1 = 23
  · have h := sx_pos c126 h
    refine sx_tabI (pc := 1) (off := 569) (tgt := 570) dX12_low_1 (by rw [c126]; decide) (by rw [c126]; decide) (by rw [c126]; rfl) (by decide) ?_
    refine sx_aload_n (pc := 570) dX12_low_570 sx_m0 ?_
    refine sx_iconst (pc := 571) (v := 1) dX12_low_571 (by decide) ?_
    obtain ⟨⟨x129, V127⟩, g128, h⟩ := sx_bnd h
    refine sv_cV (pc := 572) (y := qX12_has) (o := (some (.int x129))) (as := [.int (1 : Int32)]) (V1 := V127) hG dX12_low_572 l_X12_576 y0X12_has yvX12_has rfl (Nat.le_of_ble_eq_true rfl) lay_146 kr_12 (by decide) (Nat.le_of_ble_eq_true rfl) rfl rfl rfl (t_X12_has hG ⟨rfl, rfl⟩ g128) ?_
    refine sx_if_eq (pc := 575) (tgt := 606) dX12_low_575 (by decide) (fun c130 => ?_) (fun c130 => ?_)
    · have h := sx_pos c130 h
      exact sv_vret (pc := 606) dX12_low_606 rfl h hP
    · have h := sx_neg c130 h
      refine sx_aload_n (pc := 578) dX12_low_578 sx_m0 ?_
      obtain ⟨⟨x133, V131⟩, g132, h⟩ := sx_bnd h
      refine sv_cV (pc := 579) (y := qX12_pop) (o := (some (.int x133))) (as := []) (V1 := V131) hG dX12_low_579 l_X12_579 y0X12_pop yvX12_pop rfl (Nat.le_of_ble_eq_true rfl) lay_146 kr_12 (by decide) (Nat.le_of_ble_eq_true rfl) rfl rfl rfl (t_X12_pop hG ⟨rfl, rfl⟩ g132) ?_
      refine sx_istore_n (pc := 582) (lo' := [(2, .int x133), (0, .ref 146), (1, .int l1)]) dX12_low_582 (by decide) rfl ?_
      refine sx_iload_n (pc := 583) dX12_low_583 sx_m0 ?_
      refine sx_i2l (pc := 584) dX12_low_584 ?_
      refine sx_lconst (pc := 585) (v := 1) dX12_low_585 rfl ?_
      refine sx_ldc2 (pc := 586) dX12_low_586 k_X12_593 ?_
      obtain ⟨⟨x136, V134⟩, g135, h⟩ := sx_bnd h
      refine sv_cS (pc := 589) (y := qX12_in) (o := (some (.int x136))) (as := [.long x133.toInt64, .long (1 : Int64), .long (65535 : Int64)]) (V1 := V134) dX12_low_589 l_X12_263 y0X12_in ysX12_in rfl (Nat.le_of_ble_eq_true rfl) (by decide) (Nat.le_of_ble_eq_true rfl) rfl rfl rfl (t_X12_in hG ⟨rfl, rfl⟩ g135) ?_
      refine sx_if_ne (pc := 592) (tgt := 601) dX12_low_592 (by decide) (fun c137 => ?_) (fun c137 => ?_)
      · have h := sx_neg c137 h
        refine sx_aload_n (pc := 601) dX12_low_601 sx_m1 ?_
        refine sx_iload_n (pc := 602) dX12_low_602 sx_m0 ?_
        obtain ⟨V138, hV138⟩ : ∃ z : sv_V, z = sv_I V134 146 75 x133 := ⟨_, rfl⟩
        have h := sx_letE hV138 h
        refine sv_putI (pc := 603) hG dX12_low_603 f_12_469 lay_146 rfl hV138 ?_
        exact sv_vret (pc := 606) dX12_low_606 rfl h hP
      · have h := sx_pos c137 h
        refine sx_aload_n (pc := 595) dX12_low_595 sx_m1 ?_
        refine sx_bipush (pc := 596) (v := 11) dX12_low_596 (by decide) ?_
        obtain ⟨V139, g140, h⟩ := sx_bnd h
        refine sv_cV (pc := 598) (y := qX12_fail) (o := none) (as := [.int (11 : Int32)]) (V1 := V139) hG dX12_low_598 l_X12_421 y0X12_fail yvX12_fail rfl (Nat.le_of_ble_eq_true rfl) lay_146 kr_12 (by decide) (Nat.le_of_ble_eq_true rfl) rfl rfl rfl (t_X12_fail hG ⟨rfl, rfl⟩ g140) ?_
        refine sx_aload_n (pc := 601) dX12_low_601 sx_m1 ?_
        refine sx_iload_n (pc := 602) dX12_low_602 sx_m0 ?_
        obtain ⟨V141, hV141⟩ : ∃ z : sv_V, z = sv_I V139 146 75 x133 := ⟨_, rfl⟩
        have h := sx_letE hV141 h
        refine sv_putI (pc := 603) hG dX12_low_603 f_12_469 lay_146 rfl hV141 ?_
        exact sv_vret (pc := 606) dX12_low_606 rfl h hP
  have h := sx_neg c126 h
  by_cases c142 : l1 = 24
  · have h := sx_pos c142 h
    refine sx_tabI (pc := 1) (off := 606) (tgt := 607) dX12_low_1 (by rw [c142]; decide) (by rw [c142]; decide) (by rw [c142]; rfl) (by decide) ?_
    refine sx_aload_n (pc := 607) dX12_low_607 sx_m0 ?_
    refine sx_bipush (pc := 608) (v := 24) dX12_low_608 (by decide) ?_
    refine sx_bipush (pc := 610) (v := 64) dX12_low_610 (by decide) ?_
    refine sx_iconst (pc := 612) (v := 0) dX12_low_612 (by decide) ?_
    refine sx_bipush (pc := 613) (v := 32) dX12_low_613 (by decide) ?_
    obtain ⟨V143, g144, h⟩ := sx_bnd h
    refine sv_cV (pc := 615) (y := qX12_setRounding) (o := none) (as := [.int (24 : Int32), .int (64 : Int32), .int (0 : Int32), .int (32 : Int32)]) (V1 := V143) hG dX12_low_615 l_X12_472 y0X12_setRounding yvX12_setRounding rfl (Nat.le_of_ble_eq_true rfl) lay_146 kr_12 (by decide) (Nat.le_of_ble_eq_true rfl) rfl rfl rfl (t_X12_setRounding hG ⟨rfl, rfl⟩ g144) ?_
    exact sv_vret (pc := 618) dX12_low_618 rfl h hP
  have h := sx_neg c142 h
  by_cases c145 : l1 = 25
  · have h := sx_pos c145 h
    refine sx_tabI (pc := 1) (off := 618) (tgt := 619) dX12_low_1 (by rw [c145]; decide) (by rw [c145]; decide) (by rw [c145]; rfl) (by decide) ?_
    refine sx_aload_n (pc := 619) dX12_low_619 sx_m0 ?_
    refine sx_bipush (pc := 620) (v := 25) dX12_low_620 (by decide) ?_
    refine sx_bipush (pc := 622) (v := 64) dX12_low_622 (by decide) ?_
    refine sx_bipush (pc := 624) (v := 32) dX12_low_624 (by decide) ?_
    refine sx_bipush (pc := 626) (v := 32) dX12_low_626 (by decide) ?_
    obtain ⟨V146, g147, h⟩ := sx_bnd h
    refine sv_cV (pc := 628) (y := qX12_setRounding) (o := none) (as := [.int (25 : Int32), .int (64 : Int32), .int (32 : Int32), .int (32 : Int32)]) (V1 := V146) hG dX12_low_628 l_X12_472 y0X12_setRounding yvX12_setRounding rfl (Nat.le_of_ble_eq_true rfl) lay_146 kr_12 (by decide) (Nat.le_of_ble_eq_true rfl) rfl rfl rfl (t_X12_setRounding hG ⟨rfl, rfl⟩ g147) ?_
    exact sv_vret (pc := 631) dX12_low_631 rfl h hP
  have h := sx_neg c145 h
  by_cases c148 : l1 = 26
  · have h := sx_pos c148 h
    refine sx_tabI (pc := 1) (off := 631) (tgt := 632) dX12_low_1 (by rw [c148]; decide) (by rw [c148]; decide) (by rw [c148]; rfl) (by decide) ?_
    refine sx_aload_n (pc := 632) dX12_low_632 sx_m0 ?_
    refine sx_aload_n (pc := 633) dX12_low_633 sx_m0 ?_
    refine sx_iconst (pc := 634) (v := 1) dX12_low_634 (by decide) ?_
    obtain ⟨⟨x151, V149⟩, g150, h⟩ := sx_bnd h
    refine sv_cV (pc := 635) (y := qX12_has) (o := (some (.int x151))) (as := [.int (1 : Int32)]) (V1 := V149) hG dX12_low_635 l_X12_576 y0X12_has yvX12_has rfl (Nat.le_of_ble_eq_true rfl) lay_146 kr_12 (by decide) (Nat.le_of_ble_eq_true rfl) rfl rfl rfl (t_X12_has hG ⟨rfl, rfl⟩ g150) ?_
    refine sx_if_eq (pc := 638) (tgt := 648) dX12_low_638 (by decide) (fun c152 => ?_) (fun c152 => ?_)
    · have h := sx_pos c152 h
      refine sx_iconst (pc := 648) (v := 0) dX12_low_648 (by decide) ?_
      obtain ⟨V153, hV153⟩ : ∃ z : sv_V, z = sv_I V149 146 83 (0 : Int32) := ⟨_, rfl⟩
      have h := sx_letE hV153 h
      refine sv_putI (pc := 649) hG dX12_low_649 f_12_595 lay_146 rfl hV153 ?_
      exact sv_vret (pc := 652) dX12_low_652 rfl h hP
    · have h := sx_neg c152 h
      refine sx_aload_n (pc := 641) dX12_low_641 sx_m0 ?_
      obtain ⟨⟨x156, V154⟩, g155, h⟩ := sx_bnd h
      refine sv_cV (pc := 642) (y := qX12_pop) (o := (some (.int x156))) (as := []) (V1 := V154) hG dX12_low_642 l_X12_579 y0X12_pop yvX12_pop rfl (Nat.le_of_ble_eq_true rfl) lay_146 kr_12 (by decide) (Nat.le_of_ble_eq_true rfl) rfl rfl rfl (t_X12_pop hG ⟨rfl, rfl⟩ g155) ?_
      refine sx_goto (pc := 645) (tgt := 649) dX12_low_645 (by decide) ?_
      obtain ⟨V157, hV157⟩ : ∃ z : sv_V, z = sv_I V154 146 83 x156 := ⟨_, rfl⟩
      have h := sx_letE hV157 h
      refine sv_putI (pc := 649) hG dX12_low_649 f_12_595 lay_146 rfl hV157 ?_
      exact sv_vret (pc := 652) dX12_low_652 rfl h hP
  have h := sx_neg c148 h
  by_cases c158 : l1 = 27
  · have h := sx_pos c158 h
    refine sx_tabI (pc := 1) (off := 652) (tgt := 653) dX12_low_1 (by rw [c158]; decide) (by rw [c158]; decide) (by rw [c158]; rfl) (by decide) ?_
    refine sx_aload_n (pc := 653) dX12_low_653 sx_m0 ?_
    refine sx_aload_n (pc := 654) dX12_low_654 sx_m0 ?_
    refine sv_getI (pc := 655) hG dX12_low_655 f_12_496 lay_146 rfl ?_
    refine sx_bipush (pc := 658) (v := 89) dX12_low_658 (by decide) ?_
    refine sx_bipush (pc := 660) (v := 89) dX12_low_660 (by decide) ?_
    refine sx_iconst (pc := 662) (v := 1) dX12_low_662 (by decide) ?_
    obtain ⟨⟨x161, V159⟩, g160, h⟩ := sx_bnd h
    refine sv_cV (pc := 663) (y := qX12_pass) (o := (some (.int x161))) (as := [.int (V.1 146 93), .int (89 : Int32), .int (89 : Int32), .int (1 : Int32)]) (V1 := V159) hG dX12_low_663 l_X12_598 y0X12_pass yvX12_pass rfl (Nat.le_of_ble_eq_true rfl) lay_146 kr_12 (by decide) (Nat.le_of_ble_eq_true rfl) rfl rfl rfl (t_X12_pass hG ⟨rfl, rfl⟩ g160) ?_
    refine sx_istore_n (pc := 666) (lo' := [(2, .int x161), (0, .ref 146), (1, .int l1)]) dX12_low_666 (by decide) rfl ?_
    refine sx_aload_n (pc := 667) dX12_low_667 sx_m1 ?_
    refine sx_iload_n (pc := 668) dX12_low_668 sx_m0 ?_
    obtain ⟨V162, hV162⟩ : ∃ z : sv_V, z = sv_I V159 146 93 x161 := ⟨_, rfl⟩
    have h := sx_letE hV162 h
    refine sv_putI (pc := 669) hG dX12_low_669 f_12_496 lay_146 rfl hV162 ?_
    exact sv_vret (pc := 672) dX12_low_672 rfl h hP
  have h := sx_neg c158 h
  by_cases c163 : l1 = 28
  · have h := sx_pos c163 h
    refine sx_tabI (pc := 1) (off := 672) (tgt := 673) dX12_low_1 (by rw [c163]; decide) (by rw [c163]; decide) (by rw [c163]; rfl) (by decide) ?_
    refine sx_aload_n (pc := 673) dX12_low_673 sx_m0 ?_
    refine sx_iconst (pc := 674) (v := 1) dX12_low_674 (by decide) ?_
    obtain ⟨⟨x166, V164⟩, g165, h⟩ := sx_bnd h
    refine sv_cV (pc := 675) (y := qX12_has) (o := (some (.int x166))) (as := [.int (1 : Int32)]) (V1 := V164) hG dX12_low_675 l_X12_576 y0X12_has yvX12_has rfl (Nat.le_of_ble_eq_true rfl) lay_146 kr_12 (by decide) (Nat.le_of_ble_eq_true rfl) rfl rfl rfl (t_X12_has hG ⟨rfl, rfl⟩ g165) ?_
    refine sx_if_eq (pc := 678) (tgt := 690) dX12_low_678 (by decide) (fun c167 => ?_) (fun c167 => ?_)
    · have h := sx_pos c167 h
      exact sv_vret (pc := 690) dX12_low_690 rfl h hP
    · have h := sx_neg c167 h
      refine sx_aload_n (pc := 681) dX12_low_681 sx_m0 ?_
      refine sx_aload_n (pc := 682) dX12_low_682 sx_m0 ?_
      obtain ⟨⟨x170, V168⟩, g169, h⟩ := sx_bnd h
      refine sv_cV (pc := 683) (y := qX12_pop) (o := (some (.int x170))) (as := []) (V1 := V168) hG dX12_low_683 l_X12_579 y0X12_pop yvX12_pop rfl (Nat.le_of_ble_eq_true rfl) lay_146 kr_12 (by decide) (Nat.le_of_ble_eq_true rfl) rfl rfl rfl (t_X12_pop hG ⟨rfl, rfl⟩ g169) ?_
      refine sx_i2l (pc := 686) dX12_low_686 ?_
      obtain ⟨V171, g172, h⟩ := sx_bnd h
      refine sv_cV (pc := 687) (y := qX12_jump) (o := none) (as := [.long x170.toInt64]) (V1 := V171) hG dX12_low_687 l_X12_602 y0X12_jump yvX12_jump rfl (Nat.le_of_ble_eq_true rfl) lay_146 kr_12 (by decide) (Nat.le_of_ble_eq_true rfl) rfl rfl rfl (t_X12_jump hG ⟨rfl, rfl⟩ g172) ?_
      exact sv_vret (pc := 690) dX12_low_690 rfl h hP
  have h := sx_neg c163 h
  by_cases c173 : l1 = 29
  · have h := sx_pos c173 h
    refine sx_tabI (pc := 1) (off := 690) (tgt := 691) dX12_low_1 (by rw [c173]; decide) (by rw [c173]; decide) (by rw [c173]; rfl) (by decide) ?_
    refine sx_aload_n (pc := 691) dX12_low_691 sx_m0 ?_
    refine sx_aload_n (pc := 692) dX12_low_692 sx_m0 ?_
    refine sx_iconst (pc := 693) (v := 1) dX12_low_693 (by decide) ?_
    obtain ⟨⟨x176, V174⟩, g175, h⟩ := sx_bnd h
    refine sv_cV (pc := 694) (y := qX12_has) (o := (some (.int x176))) (as := [.int (1 : Int32)]) (V1 := V174) hG dX12_low_694 l_X12_576 y0X12_has yvX12_has rfl (Nat.le_of_ble_eq_true rfl) lay_146 kr_12 (by decide) (Nat.le_of_ble_eq_true rfl) rfl rfl rfl (t_X12_has hG ⟨rfl, rfl⟩ g175) ?_
    refine sx_if_eq (pc := 697) (tgt := 707) dX12_low_697 (by decide) (fun c177 => ?_) (fun c177 => ?_)
    · have h := sx_pos c177 h
      refine sx_iconst (pc := 707) (v := 0) dX12_low_707 (by decide) ?_
      obtain ⟨V178, hV178⟩ : ∃ z : sv_V, z = sv_I V174 146 80 (0 : Int32) := ⟨_, rfl⟩
      have h := sx_letE hV178 h
      refine sv_putI (pc := 708) hG dX12_low_708 f_12_605 lay_146 rfl hV178 ?_
      exact sv_vret (pc := 711) dX12_low_711 rfl h hP
    · have h := sx_neg c177 h
      refine sx_aload_n (pc := 700) dX12_low_700 sx_m0 ?_
      obtain ⟨⟨x181, V179⟩, g180, h⟩ := sx_bnd h
      refine sv_cV (pc := 701) (y := qX12_pop) (o := (some (.int x181))) (as := []) (V1 := V179) hG dX12_low_701 l_X12_579 y0X12_pop yvX12_pop rfl (Nat.le_of_ble_eq_true rfl) lay_146 kr_12 (by decide) (Nat.le_of_ble_eq_true rfl) rfl rfl rfl (t_X12_pop hG ⟨rfl, rfl⟩ g180) ?_
      refine sx_goto (pc := 704) (tgt := 708) dX12_low_704 (by decide) ?_
      obtain ⟨V182, hV182⟩ : ∃ z : sv_V, z = sv_I V179 146 80 x181 := ⟨_, rfl⟩
      have h := sx_letE hV182 h
      refine sv_putI (pc := 708) hG dX12_low_708 f_12_605 lay_146 rfl hV182 ?_
      exact sv_vret (pc := 711) dX12_low_711 rfl h hP
  have h := sx_neg c173 h
  by_cases c183 : l1 = 30
  · have h := sx_pos c183 h
    refine sx_tabI (pc := 1) (off := 711) (tgt := 712) dX12_low_1 (by rw [c183]; decide) (by rw [c183]; decide) (by rw [c183]; rfl) (by decide) ?_
    refine sx_aload_n (pc := 712) dX12_low_712 sx_m0 ?_
    refine sx_aload_n (pc := 713) dX12_low_713 sx_m0 ?_
    refine sx_iconst (pc := 714) (v := 1) dX12_low_714 (by decide) ?_
    obtain ⟨⟨x186, V184⟩, g185, h⟩ := sx_bnd h
    refine sv_cV (pc := 715) (y := qX12_has) (o := (some (.int x186))) (as := [.int (1 : Int32)]) (V1 := V184) hG dX12_low_715 l_X12_576 y0X12_has yvX12_has rfl (Nat.le_of_ble_eq_true rfl) lay_146 kr_12 (by decide) (Nat.le_of_ble_eq_true rfl) rfl rfl rfl (t_X12_has hG ⟨rfl, rfl⟩ g185) ?_
    refine sx_if_eq (pc := 718) (tgt := 728) dX12_low_718 (by decide) (fun c187 => ?_) (fun c187 => ?_)
    · have h := sx_pos c187 h
      refine sx_iconst (pc := 728) (v := 0) dX12_low_728 (by decide) ?_
      obtain ⟨V188, hV188⟩ : ∃ z : sv_V, z = sv_I V184 146 82 (0 : Int32) := ⟨_, rfl⟩
      have h := sx_letE hV188 h
      refine sv_putI (pc := 729) hG dX12_low_729 f_12_608 lay_146 rfl hV188 ?_
      exact sv_vret (pc := 732) dX12_low_732 rfl h hP
    · have h := sx_neg c187 h
      refine sx_aload_n (pc := 721) dX12_low_721 sx_m0 ?_
      obtain ⟨⟨x191, V189⟩, g190, h⟩ := sx_bnd h
      refine sv_cV (pc := 722) (y := qX12_pop) (o := (some (.int x191))) (as := []) (V1 := V189) hG dX12_low_722 l_X12_579 y0X12_pop yvX12_pop rfl (Nat.le_of_ble_eq_true rfl) lay_146 kr_12 (by decide) (Nat.le_of_ble_eq_true rfl) rfl rfl rfl (t_X12_pop hG ⟨rfl, rfl⟩ g190) ?_
      refine sx_goto (pc := 725) (tgt := 729) dX12_low_725 (by decide) ?_
      obtain ⟨V192, hV192⟩ : ∃ z : sv_V, z = sv_I V189 146 82 x191 := ⟨_, rfl⟩
      have h := sx_letE hV192 h
      refine sv_putI (pc := 729) hG dX12_low_729 f_12_608 lay_146 rfl hV192 ?_
      exact sv_vret (pc := 732) dX12_low_732 rfl h hP
  have h := sx_neg c183 h
  by_cases c193 : l1 = 31
  · have h := sx_pos c193 h
    refine sx_tabI (pc := 1) (off := 732) (tgt := 733) dX12_low_1 (by rw [c193]; decide) (by rw [c193]; decide) (by rw [c193]; rfl) (by decide) ?_
    refine sx_aload_n (pc := 733) dX12_low_733 sx_m0 ?_
    refine sx_aload_n (pc := 734) dX12_low_734 sx_m0 ?_
    refine sx_iconst (pc := 735) (v := 1) dX12_low_735 (by decide) ?_
    obtain ⟨⟨x196, V194⟩, g195, h⟩ := sx_bnd h
    refine sv_cV (pc := 736) (y := qX12_has) (o := (some (.int x196))) (as := [.int (1 : Int32)]) (V1 := V194) hG dX12_low_736 l_X12_576 y0X12_has yvX12_has rfl (Nat.le_of_ble_eq_true rfl) lay_146 kr_12 (by decide) (Nat.le_of_ble_eq_true rfl) rfl rfl rfl (t_X12_has hG ⟨rfl, rfl⟩ g195) ?_
    refine sx_if_eq (pc := 739) (tgt := 754) dX12_low_739 (by decide) (fun c197 => ?_) (fun c197 => ?_)
    · have h := sx_pos c197 h
      refine sx_iconst (pc := 754) (v := 0) dX12_low_754 (by decide) ?_
      obtain ⟨V198, hV198⟩ : ∃ z : sv_V, z = sv_I V194 146 81 (0 : Int32) := ⟨_, rfl⟩
      have h := sx_letE hV198 h
      refine sv_putI (pc := 755) hG dX12_low_755 f_12_615 lay_146 rfl hV198 ?_
      exact sv_vret (pc := 758) dX12_low_758 rfl h hP
    · have h := sx_neg c197 h
      refine sx_aload_n (pc := 742) dX12_low_742 sx_m0 ?_
      refine sx_aload_n (pc := 743) dX12_low_743 sx_m0 ?_
      obtain ⟨⟨x201, V199⟩, g200, h⟩ := sx_bnd h
      refine sv_cV (pc := 744) (y := qX12_pop) (o := (some (.int x201))) (as := []) (V1 := V199) hG dX12_low_744 l_X12_579 y0X12_pop yvX12_pop rfl (Nat.le_of_ble_eq_true rfl) lay_146 kr_12 (by decide) (Nat.le_of_ble_eq_true rfl) rfl rfl rfl (t_X12_pop hG ⟨rfl, rfl⟩ g200) ?_
      refine sx_i2l (pc := 747) dX12_low_747 ?_
      obtain ⟨⟨x204, V202⟩, g203, h⟩ := sx_bnd h
      refine sv_cV (pc := 748) (y := qX12_scaled) (o := (some (.int x204))) (as := [.long x201.toInt64]) (V1 := V202) hG dX12_low_748 l_X12_611 y0X12_scaled yvX12_scaled rfl (Nat.le_of_ble_eq_true rfl) lay_146 kr_12 (by decide) (Nat.le_of_ble_eq_true rfl) rfl rfl rfl (t_X12_scaled hG ⟨rfl, rfl⟩ g203) ?_
      refine sx_goto (pc := 751) (tgt := 755) dX12_low_751 (by decide) ?_
      obtain ⟨V205, hV205⟩ : ∃ z : sv_V, z = sv_I V202 146 81 x204 := ⟨_, rfl⟩
      have h := sx_letE hV205 h
      refine sv_putI (pc := 755) hG dX12_low_755 f_12_615 lay_146 rfl hV205 ?_
      exact sv_vret (pc := 758) dX12_low_758 rfl h hP
  have h := sx_neg c193 h
  refine sx_tabO (pc := 1) (tgt := 759) dX12_low_1 (by have ec66 := lv_neT (a := 0) c66 rfl; have ec67 := lv_neT (a := 1) c67 rfl; have ec68 := lv_neT (a := 2) c68 rfl; have ec69 := lv_neT (a := 3) c69 rfl; have ec70 := lv_neT (a := 4) c70 rfl; have ec71 := lv_neT (a := 5) c71 rfl; have ec72 := lv_neT (a := 6) c72 rfl; have ec73 := lv_neT (a := 7) c73 rfl; have ec74 := lv_neT (a := 8) c74 rfl; have ec75 := lv_neT (a := 9) c75 rfl; have ec76 := lv_neT (a := 10) c76 rfl; have ec77 := lv_neT (a := 11) c77 rfl; have ec78 := lv_neT (a := 12) c78 rfl; have ec83 := lv_neT (a := 13) c83 rfl; have ec88 := lv_neT (a := 14) c88 rfl; have ec91 := lv_neT (a := 15) c91 rfl; have ec92 := lv_neT (a := 16) c92 rfl; have ec102 := lv_neT (a := 17) c102 rfl; have ec112 := lv_neT (a := 18) c112 rfl; have ec122 := lv_neT (a := 19) c122 rfl; have ec123 := lv_neT (a := 20) c123 rfl; have ec124 := lv_neT (a := 21) c124 rfl; have ec125 := lv_neT (a := 22) c125 rfl; have ec126 := lv_neT (a := 23) c126 rfl; have ec142 := lv_neT (a := 24) c142 rfl; have ec145 := lv_neT (a := 25) c145 rfl; have ec148 := lv_neT (a := 26) c148 rfl; have ec158 := lv_neT (a := 27) c158 rfl; have ec163 := lv_neT (a := 28) c163 rfl; have ec173 := lv_neT (a := 29) c173 rfl; have ec183 := lv_neT (a := 30) c183 rfl; have ec193 := lv_neT (a := 31) c193 rfl; omega) (by decide) ?_
  refine sx_wk (sx_s1 sx_m0 (sx_s1 sx_m1 sx_s0)) ?_
  exact tB_X12_low_759 hG hP  h
