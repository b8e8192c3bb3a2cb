/-! methods: X4_cmapHolds, X5_beginSize, X5_scaled, X5_isThere, X5_longByP, X5_longByD, X5_longBetween, X5_originalBetween, X5_move, X5_settingCodes, X5_jumpIf, X5_noteFunction, X5_noteOwnCode, X5_callOnce, X5_callTimes, X5_callOwnCode, X5_pushCounted, X5_read, X5_write, X5_untouchPoint, X5_alignPoints, X5_tellLong, X5_setLong -/
theorem dX4_cmapHolds_0 : decode cX4_cmapHolds 0 = .ok (.aload_n 0, 1) := by decide +kernel
theorem dX4_cmapHolds_1 : decode cX4_cmapHolds 1 = .ok (.getfield 9, 3) := by decide +kernel
theorem dX4_cmapHolds_4 : decode cX4_cmapHolds 4 = .ok (.getfield 115, 3) := by decide +kernel
theorem dX4_cmapHolds_7 : decode cX4_cmapHolds 7 = .ok (.iconst 0, 1) := by decide +kernel
theorem dX4_cmapHolds_8 : decode cX4_cmapHolds 8 = .ok (.iaload, 1) := by decide +kernel
theorem dX4_cmapHolds_9 : decode cX4_cmapHolds 9 = .ok (.istore_n 1, 1) := by decide +kernel
theorem dX4_cmapHolds_10 : decode cX4_cmapHolds 10 = .ok (.aload_n 0, 1) := by decide +kernel
theorem dX4_cmapHolds_11 : decode cX4_cmapHolds 11 = .ok (.getfield 9, 3) := by decide +kernel
theorem dX4_cmapHolds_14 : decode cX4_cmapHolds 14 = .ok (.getfield 118, 3) := by decide +kernel
theorem dX4_cmapHolds_17 : decode cX4_cmapHolds 17 = .ok (.iconst 0, 1) := by decide +kernel
theorem dX4_cmapHolds_18 : decode cX4_cmapHolds 18 = .ok (.iaload, 1) := by decide +kernel
theorem dX4_cmapHolds_19 : decode cX4_cmapHolds 19 = .ok (.istore_n 2, 1) := by decide +kernel
theorem dX4_cmapHolds_20 : decode cX4_cmapHolds 20 = .ok (.aload_n 0, 1) := by decide +kernel
theorem dX4_cmapHolds_21 : decode cX4_cmapHolds 21 = .ok (.getfield 9, 3) := by decide +kernel
theorem dX4_cmapHolds_24 : decode cX4_cmapHolds 24 = .ok (.iload_n 1, 1) := by decide +kernel
theorem dX4_cmapHolds_25 : decode cX4_cmapHolds 25 = .ok (.iconst 2, 1) := by decide +kernel
theorem dX4_cmapHolds_26 : decode cX4_cmapHolds 26 = .ok (.iadd, 1) := by decide +kernel
theorem dX4_cmapHolds_27 : decode cX4_cmapHolds 27 = .ok (.invokevirtual 64, 3) := by decide +kernel
theorem dX4_cmapHolds_30 : decode cX4_cmapHolds 30 = .ok (.istore_n 3, 1) := by decide +kernel
theorem dX4_cmapHolds_31 : decode cX4_cmapHolds 31 = .ok (.iload_n 2, 1) := by decide +kernel
theorem dX4_cmapHolds_32 : decode cX4_cmapHolds 32 = .ok (.iconst 4, 1) := by decide +kernel
theorem dX4_cmapHolds_33 : decode cX4_cmapHolds 33 = .ok (.if_icmp .lt 35, 3) := by decide +kernel
theorem dX4_cmapHolds_36 : decode cX4_cmapHolds 36 = .ok (.aload_n 0, 1) := by decide +kernel
theorem dX4_cmapHolds_37 : decode cX4_cmapHolds 37 = .ok (.getfield 9, 3) := by decide +kernel
theorem dX4_cmapHolds_40 : decode cX4_cmapHolds 40 = .ok (.iload_n 1, 1) := by decide +kernel
theorem dX4_cmapHolds_41 : decode cX4_cmapHolds 41 = .ok (.invokevirtual 64, 3) := by decide +kernel
theorem dX4_cmapHolds_44 : decode cX4_cmapHolds 44 = .ok (.ifCond .ne 24, 3) := by decide +kernel
theorem dX4_cmapHolds_47 : decode cX4_cmapHolds 47 = .ok (.iload_n 3, 1) := by decide +kernel
theorem dX4_cmapHolds_48 : decode cX4_cmapHolds 48 = .ok (.iconst 1, 1) := by decide +kernel
theorem dX4_cmapHolds_49 : decode cX4_cmapHolds 49 = .ok (.if_icmp .lt 19, 3) := by decide +kernel
theorem dX4_cmapHolds_52 : decode cX4_cmapHolds 52 = .ok (.iload_n 3, 1) := by decide +kernel
theorem dX4_cmapHolds_53 : decode cX4_cmapHolds 53 = .ok (.bipush 8, 2) := by decide +kernel
theorem dX4_cmapHolds_55 : decode cX4_cmapHolds 55 = .ok (.if_icmp .gt 13, 3) := by decide +kernel
theorem dX4_cmapHolds_58 : decode cX4_cmapHolds 58 = .ok (.iconst 4, 1) := by decide +kernel
theorem dX4_cmapHolds_59 : decode cX4_cmapHolds 59 = .ok (.bipush 8, 2) := by decide +kernel
theorem dX4_cmapHolds_61 : decode cX4_cmapHolds 61 = .ok (.iload_n 3, 1) := by decide +kernel
theorem dX4_cmapHolds_62 : decode cX4_cmapHolds 62 = .ok (.imul, 1) := by decide +kernel
theorem dX4_cmapHolds_63 : decode cX4_cmapHolds 63 = .ok (.iadd, 1) := by decide +kernel
theorem dX4_cmapHolds_64 : decode cX4_cmapHolds 64 = .ok (.iload_n 2, 1) := by decide +kernel
theorem dX4_cmapHolds_65 : decode cX4_cmapHolds 65 = .ok (.if_icmp .le 5, 3) := by decide +kernel
theorem dX4_cmapHolds_68 : decode cX4_cmapHolds 68 = .ok (.iconst 0, 1) := by decide +kernel
theorem dX4_cmapHolds_69 : decode cX4_cmapHolds 69 = .ok (.ireturn, 1) := by decide +kernel
theorem dX4_cmapHolds_70 : decode cX4_cmapHolds 70 = .ok (.aload_n 0, 1) := by decide +kernel
theorem dX4_cmapHolds_71 : decode cX4_cmapHolds 71 = .ok (.iload_n 3, 1) := by decide +kernel
theorem dX4_cmapHolds_72 : decode cX4_cmapHolds 72 = .ok (.iconst 3, 1) := by decide +kernel
theorem dX4_cmapHolds_73 : decode cX4_cmapHolds 73 = .ok (.bipush 10, 2) := by decide +kernel
theorem dX4_cmapHolds_75 : decode cX4_cmapHolds 75 = .ok (.invokevirtual 165, 3) := by decide +kernel
theorem dX4_cmapHolds_78 : decode cX4_cmapHolds 78 = .ok (.lstore 4, 2) := by decide +kernel
theorem dX4_cmapHolds_80 : decode cX4_cmapHolds 80 = .ok (.lload 4, 2) := by decide +kernel
theorem dX4_cmapHolds_82 : decode cX4_cmapHolds 82 = .ok (.ldc2_w 169, 3) := by decide +kernel
theorem dX4_cmapHolds_85 : decode cX4_cmapHolds 85 = .ok (.lcmp, 1) := by decide +kernel
theorem dX4_cmapHolds_86 : decode cX4_cmapHolds 86 = .ok (.ifCond .eq 10, 3) := by decide +kernel
theorem dX4_cmapHolds_89 : decode cX4_cmapHolds 89 = .ok (.aload_n 0, 1) := by decide +kernel
theorem dX4_cmapHolds_90 : decode cX4_cmapHolds 90 = .ok (.lload 4, 2) := by decide +kernel
theorem dX4_cmapHolds_92 : decode cX4_cmapHolds 92 = .ok (.invokevirtual 171, 3) := by decide +kernel
theorem dX4_cmapHolds_95 : decode cX4_cmapHolds 95 = .ok (.ireturn, 1) := by decide +kernel
theorem dX4_cmapHolds_96 : decode cX4_cmapHolds 96 = .ok (.aload_n 0, 1) := by decide +kernel
theorem dX4_cmapHolds_97 : decode cX4_cmapHolds 97 = .ok (.iload_n 3, 1) := by decide +kernel
theorem dX4_cmapHolds_98 : decode cX4_cmapHolds 98 = .ok (.iconst 3, 1) := by decide +kernel
theorem dX4_cmapHolds_99 : decode cX4_cmapHolds 99 = .ok (.iconst 1, 1) := by decide +kernel
theorem dX4_cmapHolds_100 : decode cX4_cmapHolds 100 = .ok (.invokevirtual 165, 3) := by decide +kernel
theorem dX4_cmapHolds_103 : decode cX4_cmapHolds 103 = .ok (.lstore 4, 2) := by decide +kernel
theorem dX4_cmapHolds_105 : decode cX4_cmapHolds 105 = .ok (.lload 4, 2) := by decide +kernel
theorem dX4_cmapHolds_107 : decode cX4_cmapHolds 107 = .ok (.ldc2_w 169, 3) := by decide +kernel
theorem dX4_cmapHolds_110 : decode cX4_cmapHolds 110 = .ok (.lcmp, 1) := by decide +kernel
theorem dX4_cmapHolds_111 : decode cX4_cmapHolds 111 = .ok (.ifCond .eq 10, 3) := by decide +kernel
theorem dX4_cmapHolds_114 : decode cX4_cmapHolds 114 = .ok (.aload_n 0, 1) := by decide +kernel
theorem dX4_cmapHolds_115 : decode cX4_cmapHolds 115 = .ok (.lload 4, 2) := by decide +kernel
theorem dX4_cmapHolds_117 : decode cX4_cmapHolds 117 = .ok (.invokevirtual 175, 3) := by decide +kernel
theorem dX4_cmapHolds_120 : decode cX4_cmapHolds 120 = .ok (.ireturn, 1) := by decide +kernel
theorem dX4_cmapHolds_121 : decode cX4_cmapHolds 121 = .ok (.aload_n 0, 1) := by decide +kernel
theorem dX4_cmapHolds_122 : decode cX4_cmapHolds 122 = .ok (.iload_n 3, 1) := by decide +kernel
theorem dX4_cmapHolds_123 : decode cX4_cmapHolds 123 = .ok (.iconst 1, 1) := by decide +kernel
theorem dX4_cmapHolds_124 : decode cX4_cmapHolds 124 = .ok (.iconst 0, 1) := by decide +kernel
theorem dX4_cmapHolds_125 : decode cX4_cmapHolds 125 = .ok (.invokevirtual 165, 3) := by decide +kernel
theorem dX4_cmapHolds_128 : decode cX4_cmapHolds 128 = .ok (.lstore 4, 2) := by decide +kernel
theorem dX4_cmapHolds_130 : decode cX4_cmapHolds 130 = .ok (.lload 4, 2) := by decide +kernel
theorem dX4_cmapHolds_132 : decode cX4_cmapHolds 132 = .ok (.ldc2_w 169, 3) := by decide +kernel
theorem dX4_cmapHolds_135 : decode cX4_cmapHolds 135 = .ok (.lcmp, 1) := by decide +kernel
theorem dX4_cmapHolds_136 : decode cX4_cmapHolds 136 = .ok (.ifCond .eq 16, 3) := by decide +kernel
theorem dX4_cmapHolds_139 : decode cX4_cmapHolds 139 = .ok (.aload_n 0, 1) := by decide +kernel
theorem dX4_cmapHolds_140 : decode cX4_cmapHolds 140 = .ok (.lload 4, 2) := by decide +kernel
theorem dX4_cmapHolds_142 : decode cX4_cmapHolds 142 = .ok (.invokevirtual 178, 3) := by decide +kernel
theorem dX4_cmapHolds_145 : decode cX4_cmapHolds 145 = .ok (.ifCond .eq 7, 3) := by decide +kernel
theorem dX4_cmapHolds_148 : decode cX4_cmapHolds 148 = .ok (.iconst 1, 1) := by decide +kernel
theorem dX4_cmapHolds_149 : decode cX4_cmapHolds 149 = .ok (.goto 4, 3) := by decide +kernel
theorem dX4_cmapHolds_152 : decode cX4_cmapHolds 152 = .ok (.iconst 0, 1) := by decide +kernel
theorem dX4_cmapHolds_153 : decode cX4_cmapHolds 153 = .ok (.ireturn, 1) := by decide +kernel
def F_X4_cmapHolds (N : Nat)  (V : sv_V) : Option (Int32 × sv_V) := sx_let (V.1 4 (0 : Int32).toNatClampNeg) (fun x1 => sx_let (V.1 5 (0 : Int32).toNatClampNeg) (fun x2 => (F_X2_u2 (x1 + (2 : Int32)) V).bind (fun (x5, V3) => if x2 < (4 : Int32) then (some ((0 : Int32), V3)) else ((F_X2_u2 x1 V3).bind (fun (x9, V7) => if x9 = 0 then (if x5 < (1 : Int32) then (some ((0 : Int32), V7)) else (if (8 : Int32) < x5 then (some ((0 : Int32), V7)) else (if ((4 : Int32) + ((8 : Int32) * x5)) ≤ x2 then ((F_X4_mapPlace N x5 (3 : Int32) (10 : Int32) V7).bind (fun (x16, V14) => if (lg_cmp x16 (-1 : Int64)) = 0 then ((F_X4_mapPlace N x5 (3 : Int32) (1 : Int32) V14).bind (fun (x20, V18) => if (lg_cmp x20 (-1 : Int64)) = 0 then ((F_X4_mapPlace N x5 (1 : Int32) (0 : Int32) V18).bind (fun (x24, V22) => if (lg_cmp x24 (-1 : Int64)) = 0 then (some ((0 : Int32), V22)) else ((F_X4_byteMapHolds x24 V22).bind (fun (x28, V26) => if x28 = 0 then (some ((0 : Int32), V26)) else (some ((1 : Int32), V26)))))) else ((F_X4_segmentsHold N x20 V18).bind (fun (x32, V30) => if sv_bl x32 = true then some (x32, V30) else none)))) else ((F_X4_groupsHold N x16 V14).bind (fun (x36, V34) => if sv_bl x36 = true then some (x36, V34) else none)))) else (some ((0 : Int32), V7))))) else (some ((0 : Int32), V7)))))))
set_option maxRecDepth 20000 in
theorem t_X4_cmapHolds {g : sx_G} (hG : sx_Go g) {P : Option Value → sv_V → Prop} {r : Int32} {Vr : sv_V} (hP : P (some (.int r)) Vr) {N : Nat}  {V : sv_V} (h : F_X4_cmapHolds N  V = some (r, Vr)) : sv_N g qX4_cmapHolds 3 0 [(0, .ref 29)] [] V P := by
  unfold F_X4_cmapHolds at h
  refine sx_aload_n (pc := 0) dX4_cmapHolds_0 sx_m0 ?_
  refine sv_getO (pc := 1) hG dX4_cmapHolds_1 f_4_9 lay_29 rfl cr_29_0 ?_
  refine sv_getA (pc := 4) hG dX4_cmapHolds_4 f_4_115 lay_2 rfl cr_2_3 ?_
  refine sx_iconst (pc := 7) (v := 0) dX4_cmapHolds_7 (by decide) ?_
  refine sv_iald (pc := 8) hG dX4_cmapHolds_8 lay_4 (by decide) ?_
  refine sv_tI (fun x1 hx1 => ?_)
  have h := sx_letE hx1 h
  refine sx_istore_n (pc := 9) (lo' := [(1, .int x1), (0, .ref 29)]) dX4_cmapHolds_9 (by decide) rfl ?_
  refine sx_aload_n (pc := 10) dX4_cmapHolds_10 sx_m1 ?_
  refine sv_getO (pc := 11) hG dX4_cmapHolds_11 f_4_9 lay_29 rfl cr_29_0 ?_
  refine sv_getA (pc := 14) hG dX4_cmapHolds_14 f_4_118 lay_2 rfl cr_2_4 ?_
  refine sx_iconst (pc := 17) (v := 0) dX4_cmapHolds_17 (by decide) ?_
  refine sv_iald (pc := 18) hG dX4_cmapHolds_18 lay_5 (by decide) ?_
  refine sv_tI (fun x2 hx2 => ?_)
  have h := sx_letE hx2 h
  refine sx_istore_n (pc := 19) (lo' := [(2, .int x2), (1, .int x1), (0, .ref 29)]) dX4_cmapHolds_19 (by decide) rfl ?_
  refine sx_aload_n (pc := 20) dX4_cmapHolds_20 sx_m2 ?_
  refine sv_getO (pc := 21) hG dX4_cmapHolds_21 f_4_9 lay_29 rfl cr_29_0 ?_
  refine sx_iload_n (pc := 24) dX4_cmapHolds_24 sx_m1 ?_
  refine sx_iconst (pc := 25) (v := 2) dX4_cmapHolds_25 (by decide) ?_
  refine sx_iadd (pc := 26) dX4_cmapHolds_26 ?_
  obtain ⟨⟨x5, V3⟩, g4, h⟩ := sx_bnd h
  refine sv_cV (pc := 27) (y := qX2_u2) (o := (some (.int x5))) (as := [.int (x1 + (2 : Int32))]) (V1 := V3) hG dX4_cmapHolds_27 l_X4_64 y0X2_u2 yvX2_u2 rfl (Nat.le_of_ble_eq_true rfl) lay_2 kr_2 (by decide) (Nat.le_of_ble_eq_true rfl) rfl rfl rfl (t_X2_u2 hG ⟨rfl, rfl⟩ g4) ?_
  refine sx_istore_n (pc := 30) (lo' := [(3, .int x5), (2, .int x2), (1, .int x1), (0, .ref 29)]) dX4_cmapHolds_30 (by decide) rfl ?_
  refine sx_iload_n (pc := 31) dX4_cmapHolds_31 sx_m1 ?_
  refine sx_iconst (pc := 32) (v := 4) dX4_cmapHolds_32 (by decide) ?_
  refine sx_icmp_lt (pc := 33) (tgt := 68) dX4_cmapHolds_33 (by decide) (fun c6 => ?_) (fun c6 => ?_)
  · have h := sx_pos c6 h
    refine sx_iconst (pc := 68) (v := 0) dX4_cmapHolds_68 (by decide) ?_
    exact sv_zret (pc := 69) dX4_cmapHolds_69 rfl rfl h hP
  · have h := sx_neg c6 h
    refine sx_aload_n (pc := 36) dX4_cmapHolds_36 sx_m3 ?_
    refine sv_getO (pc := 37) hG dX4_cmapHolds_37 f_4_9 lay_29 rfl cr_29_0 ?_
    refine sx_iload_n (pc := 40) dX4_cmapHolds_40 sx_m2 ?_
    obtain ⟨⟨x9, V7⟩, g8, h⟩ := sx_bnd h
    refine sv_cV (pc := 41) (y := qX2_u2) (o := (some (.int x9))) (as := [.int x1]) (V1 := V7) hG dX4_cmapHolds_41 l_X4_64 y0X2_u2 yvX2_u2 rfl (Nat.le_of_ble_eq_true rfl) lay_2 kr_2 (by decide) (Nat.le_of_ble_eq_true rfl) rfl rfl rfl (t_X2_u2 hG ⟨rfl, rfl⟩ g8) ?_
    refine sx_if_ne (pc := 44) (tgt := 68) dX4_cmapHolds_44 (by decide) (fun c10 => ?_) (fun c10 => ?_)
    · have h := sx_neg c10 h
      refine sx_iconst (pc := 68) (v := 0) dX4_cmapHolds_68 (by decide) ?_
      exact sv_zret (pc := 69) dX4_cmapHolds_69 rfl rfl h hP
    · have h := sx_pos c10 h
      refine sx_iload_n (pc := 47) dX4_cmapHolds_47 sx_m0 ?_
      refine sx_iconst (pc := 48) (v := 1) dX4_cmapHolds_48 (by decide) ?_
      refine sx_icmp_lt (pc := 49) (tgt := 68) dX4_cmapHolds_49 (by decide) (fun c11 => ?_) (fun c11 => ?_)
      · have h := sx_pos c11 h
        refine sx_iconst (pc := 68) (v := 0) dX4_cmapHolds_68 (by decide) ?_
        exact sv_zret (pc := 69) dX4_cmapHolds_69 rfl rfl h hP
      · have h := sx_neg c11 h
        refine sx_iload_n (pc := 52) dX4_cmapHolds_52 sx_m0 ?_
        refine sx_bipush (pc := 53) (v := 8) dX4_cmapHolds_53 (by decide) ?_
        refine sx_icmp_gt (pc := 55) (tgt := 68) dX4_cmapHolds_55 (by decide) (fun c12 => ?_) (fun c12 => ?_)
        · have h := sx_pos c12 h
          refine sx_iconst (pc := 68) (v := 0) dX4_cmapHolds_68 (by decide) ?_
          exact sv_zret (pc := 69) dX4_cmapHolds_69 rfl rfl h hP
        · have h := sx_neg c12 h
          refine sx_iconst (pc := 58) (v := 4) dX4_cmapHolds_58 (by decide) ?_
          refine sx_bipush (pc := 59) (v := 8) dX4_cmapHolds_59 (by decide) ?_
          refine sx_iload_n (pc := 61) dX4_cmapHolds_61 sx_m0 ?_
          refine sx_imul (pc := 62) dX4_cmapHolds_62 ?_
          refine sx_iadd (pc := 63) dX4_cmapHolds_63 ?_
          refine sx_iload_n (pc := 64) dX4_cmapHolds_64 sx_m1 ?_
          refine sx_icmp_le (pc := 65) (tgt := 70) dX4_cmapHolds_65 (by decide) (fun c13 => ?_) (fun c13 => ?_)
          · have h := sx_pos c13 h
            refine sx_aload_n (pc := 70) dX4_cmapHolds_70 sx_m3 ?_
            refine sx_iload_n (pc := 71) dX4_cmapHolds_71 sx_m0 ?_
            refine sx_iconst (pc := 72) (v := 3) dX4_cmapHolds_72 (by decide) ?_
            refine sx_bipush (pc := 73) (v := 10) dX4_cmapHolds_73 (by decide) ?_
            obtain ⟨⟨x16, V14⟩, g15, h⟩ := sx_bnd h
            refine sv_cV (pc := 75) (y := qX4_mapPlace) (o := (some (.long x16))) (as := [.int x5, .int (3 : Int32), .int (10 : Int32)]) (V1 := V14) hG dX4_cmapHolds_75 l_X4_165 y0X4_mapPlace yvX4_mapPlace rfl (Nat.le_of_ble_eq_true rfl) lay_29 kr_4 (by decide) (Nat.le_of_ble_eq_true rfl) rfl rfl rfl (t_X4_mapPlace hG ⟨rfl, rfl⟩ g15) ?_
            refine sx_lstore (pc := 78) (lo' := [(4, .long x16), (3, .int x5), (2, .int x2), (1, .int x1), (0, .ref 29)]) dX4_cmapHolds_78 (by decide) rfl ?_
            refine sx_lload (pc := 80) dX4_cmapHolds_80 sx_m0 ?_
            refine sx_ldc2 (pc := 82) dX4_cmapHolds_82 k_X4_169 ?_
            refine sx_lcmp (pc := 85) dX4_cmapHolds_85 ?_
            refine sx_if_eq (pc := 86) (tgt := 96) dX4_cmapHolds_86 (by decide) (fun c17 => ?_) (fun c17 => ?_)
            · have h := sx_pos c17 h
              refine sx_aload_n (pc := 96) dX4_cmapHolds_96 sx_m4 ?_
              refine sx_iload_n (pc := 97) dX4_cmapHolds_97 sx_m1 ?_
              refine sx_iconst (pc := 98) (v := 3) dX4_cmapHolds_98 (by decide) ?_
              refine sx_iconst (pc := 99) (v := 1) dX4_cmapHolds_99 (by decide) ?_
              obtain ⟨⟨x20, V18⟩, g19, h⟩ := sx_bnd h
              refine sv_cV (pc := 100) (y := qX4_mapPlace) (o := (some (.long x20))) (as := [.int x5, .int (3 : Int32), .int (1 : Int32)]) (V1 := V18) hG dX4_cmapHolds_100 l_X4_165 y0X4_mapPlace yvX4_mapPlace rfl (Nat.le_of_ble_eq_true rfl) lay_29 kr_4 (by decide) (Nat.le_of_ble_eq_true rfl) rfl rfl rfl (t_X4_mapPlace hG ⟨rfl, rfl⟩ g19) ?_
              refine sx_lstore (pc := 103) (lo' := [(4, .long x20), (3, .int x5), (2, .int x2), (1, .int x1), (0, .ref 29)]) dX4_cmapHolds_103 (by decide) rfl ?_
              refine sx_lload (pc := 105) dX4_cmapHolds_105 sx_m0 ?_
              refine sx_ldc2 (pc := 107) dX4_cmapHolds_107 k_X4_169 ?_
              refine sx_lcmp (pc := 110) dX4_cmapHolds_110 ?_
              refine sx_if_eq (pc := 111) (tgt := 121) dX4_cmapHolds_111 (by decide) (fun c21 => ?_) (fun c21 => ?_)
              · have h := sx_pos c21 h
                refine sx_aload_n (pc := 121) dX4_cmapHolds_121 sx_m4 ?_
                refine sx_iload_n (pc := 122) dX4_cmapHolds_122 sx_m1 ?_
                refine sx_iconst (pc := 123) (v := 1) dX4_cmapHolds_123 (by decide) ?_
                refine sx_iconst (pc := 124) (v := 0) dX4_cmapHolds_124 (by decide) ?_
                obtain ⟨⟨x24, V22⟩, g23, h⟩ := sx_bnd h
                refine sv_cV (pc := 125) (y := qX4_mapPlace) (o := (some (.long x24))) (as := [.int x5, .int (1 : Int32), .int (0 : Int32)]) (V1 := V22) hG dX4_cmapHolds_125 l_X4_165 y0X4_mapPlace yvX4_mapPlace rfl (Nat.le_of_ble_eq_true rfl) lay_29 kr_4 (by decide) (Nat.le_of_ble_eq_true rfl) rfl rfl rfl (t_X4_mapPlace hG ⟨rfl, rfl⟩ g23) ?_
                refine sx_lstore (pc := 128) (lo' := [(4, .long x24), (3, .int x5), (2, .int x2), (1, .int x1), (0, .ref 29)]) dX4_cmapHolds_128 (by decide) rfl ?_
                refine sx_lload (pc := 130) dX4_cmapHolds_130 sx_m0 ?_
                refine sx_ldc2 (pc := 132) dX4_cmapHolds_132 k_X4_169 ?_
                refine sx_lcmp (pc := 135) dX4_cmapHolds_135 ?_
                refine sx_if_eq (pc := 136) (tgt := 152) dX4_cmapHolds_136 (by decide) (fun c25 => ?_) (fun c25 => ?_)
                · have h := sx_pos c25 h
                  refine sx_iconst (pc := 152) (v := 0) dX4_cmapHolds_152 (by decide) ?_
                  exact sv_zret (pc := 153) dX4_cmapHolds_153 rfl rfl h hP
                · have h := sx_neg c25 h
                  refine sx_aload_n (pc := 139) dX4_cmapHolds_139 sx_m4 ?_
                  refine sx_lload (pc := 140) dX4_cmapHolds_140 sx_m0 ?_
                  obtain ⟨⟨x28, V26⟩, g27, h⟩ := sx_bnd h
                  refine sv_cV (pc := 142) (y := qX4_byteMapHolds) (o := (some (.int x28))) (as := [.long x24]) (V1 := V26) hG dX4_cmapHolds_142 l_X4_178 y0X4_byteMapHolds yvX4_byteMapHolds rfl (Nat.le_of_ble_eq_true rfl) lay_29 kr_4 (by decide) (Nat.le_of_ble_eq_true rfl) rfl rfl rfl (t_X4_byteMapHolds hG ⟨rfl, rfl⟩ g27) ?_
                  refine sx_if_eq (pc := 145) (tgt := 152) dX4_cmapHolds_145 (by decide) (fun c29 => ?_) (fun c29 => ?_)
                  · have h := sx_pos c29 h
                    refine sx_iconst (pc := 152) (v := 0) dX4_cmapHolds_152 (by decide) ?_
                    exact sv_zret (pc := 153) dX4_cmapHolds_153 rfl rfl h hP
                  · have h := sx_neg c29 h
                    refine sx_iconst (pc := 148) (v := 1) dX4_cmapHolds_148 (by decide) ?_
                    refine sx_goto (pc := 149) (tgt := 153) dX4_cmapHolds_149 (by decide) ?_
                    exact sv_zret (pc := 153) dX4_cmapHolds_153 rfl rfl h hP
              · have h := sx_neg c21 h
                refine sx_aload_n (pc := 114) dX4_cmapHolds_114 sx_m4 ?_
                refine sx_lload (pc := 115) dX4_cmapHolds_115 sx_m0 ?_
                obtain ⟨⟨x32, V30⟩, g31, h⟩ := sx_bnd h
                refine sv_cV (pc := 117) (y := qX4_segmentsHold) (o := (some (.int x32))) (as := [.long x20]) (V1 := V30) hG dX4_cmapHolds_117 l_X4_175 y0X4_segmentsHold yvX4_segmentsHold rfl (Nat.le_of_ble_eq_true rfl) lay_29 kr_4 (by decide) (Nat.le_of_ble_eq_true rfl) rfl rfl rfl (t_X4_segmentsHold hG ⟨rfl, rfl⟩ g31) ?_
                obtain ⟨g33, h⟩ := sx_grd h
                exact sv_zret (pc := 120) dX4_cmapHolds_120 rfl g33 h hP
            · have h := sx_neg c17 h
              refine sx_aload_n (pc := 89) dX4_cmapHolds_89 sx_m4 ?_
              refine sx_lload (pc := 90) dX4_cmapHolds_90 sx_m0 ?_
              obtain ⟨⟨x36, V34⟩, g35, h⟩ := sx_bnd h
              refine sv_cV (pc := 92) (y := qX4_groupsHold) (o := (some (.int x36))) (as := [.long x16]) (V1 := V34) hG dX4_cmapHolds_92 l_X4_171 y0X4_groupsHold yvX4_groupsHold rfl (Nat.le_of_ble_eq_true rfl) lay_29 kr_4 (by decide) (Nat.le_of_ble_eq_true rfl) rfl rfl rfl (t_X4_groupsHold hG ⟨rfl, rfl⟩ g35) ?_
              obtain ⟨g37, h⟩ := sx_grd h
              exact sv_zret (pc := 95) dX4_cmapHolds_95 rfl g37 h hP
          · have h := sx_neg c13 h
            refine sx_iconst (pc := 68) (v := 0) dX4_cmapHolds_68 (by decide) ?_
            exact sv_zret (pc := 69) dX4_cmapHolds_69 rfl rfl h hP
theorem dX5_beginSize_0 : decode cX5_beginSize 0 = .ok (.aload_n 0, 1) := by decide +kernel
theorem dX5_beginSize_1 : decode cX5_beginSize 1 = .ok (.iload_n 1, 1) := by decide +kernel
theorem dX5_beginSize_2 : decode cX5_beginSize 2 = .ok (.putfield 59, 3) := by decide +kernel
theorem dX5_beginSize_5 : decode cX5_beginSize 5 = .ok (.aload_n 0, 1) := by decide +kernel
theorem dX5_beginSize_6 : decode cX5_beginSize 6 = .ok (.getfield 21, 3) := by decide +kernel
theorem dX5_beginSize_9 : decode cX5_beginSize 9 = .ok (.invokevirtual 62, 3) := by decide +kernel
theorem dX5_beginSize_12 : decode cX5_beginSize 12 = .ok (.aload_n 0, 1) := by decide +kernel
theorem dX5_beginSize_13 : decode cX5_beginSize 13 = .ok (.invokevirtual 65, 3) := by decide +kernel
theorem dX5_beginSize_16 : decode cX5_beginSize 16 = .ok (.return_, 1) := by decide +kernel
def F_X5_beginSize (N : Nat) (l1 : Int32) (V : sv_V) : Option sv_V := sx_let (sv_I V 69 12 l1) (fun V1 => (F_X0_forgetAll N  V1).bind (fun V2 => (F_X5_beginCount  V2).bind (fun V4 => some V4)))
set_option maxRecDepth 20000 in
theorem t_X5_beginSize {g : sx_G} (hG : sx_Go g) {P : Option Value → sv_V → Prop} {Vr : sv_V} (hP : P none Vr) {N : Nat} {l1 : Int32} {V : sv_V} (h : F_X5_beginSize N l1 V = some Vr) : sv_N g qX5_beginSize 2 0 [(0, .ref 69), (1, .int l1)] [] V P := by
  unfold F_X5_beginSize at h
  refine sx_aload_n (pc := 0) dX5_beginSize_0 sx_m0 ?_
  refine sx_iload_n (pc := 1) dX5_beginSize_1 sx_m1 ?_
  obtain ⟨V1, hV1⟩ : ∃ z : sv_V, z = sv_I V 69 12 l1 := ⟨_, rfl⟩
  have h := sx_letE hV1 h
  refine sv_putI (pc := 2) hG dX5_beginSize_2 f_5_59 lay_69 rfl hV1 ?_
  refine sx_aload_n (pc := 5) dX5_beginSize_5 sx_m0 ?_
  refine sv_getO (pc := 6) hG dX5_beginSize_6 f_5_21 lay_69 rfl cr_69_2 ?_
  obtain ⟨V2, g3, h⟩ := sx_bnd h
  refine sv_cV (pc := 9) (y := qX0_forgetAll) (o := none) (as := []) (V1 := V2) hG dX5_beginSize_9 l_X5_62 y0X0_forgetAll yvX0_forgetAll rfl (Nat.le_of_ble_eq_true rfl) lay_73 kr_0 (by decide) (Nat.le_of_ble_eq_true rfl) rfl rfl rfl (t_X0_forgetAll hG ⟨rfl, rfl⟩ g3) ?_
  refine sx_aload_n (pc := 12) dX5_beginSize_12 sx_m0 ?_
  obtain ⟨V4, g5, h⟩ := sx_bnd h
  refine sv_cV (pc := 13) (y := qX5_beginCount) (o := none) (as := []) (V1 := V4) hG dX5_beginSize_13 l_X5_65 y0X5_beginCount yvX5_beginCount rfl (Nat.le_of_ble_eq_true rfl) lay_69 kr_5 (by decide) (Nat.le_of_ble_eq_true rfl) rfl rfl rfl (t_X5_beginCount hG ⟨rfl, rfl⟩ g5) ?_
  exact sv_vret (pc := 16) dX5_beginSize_16 rfl h hP
theorem dX5_scaled_0 : decode cX5_scaled 0 = .ok (.lload_n 1, 1) := by decide +kernel
theorem dX5_scaled_1 : decode cX5_scaled 1 = .ok (.aload_n 0, 1) := by decide +kernel
theorem dX5_scaled_2 : decode cX5_scaled 2 = .ok (.getfield 59, 3) := by decide +kernel
theorem dX5_scaled_5 : decode cX5_scaled 5 = .ok (.i2l, 1) := by decide +kernel
theorem dX5_scaled_6 : decode cX5_scaled 6 = .ok (.lmul, 1) := by decide +kernel
theorem dX5_scaled_7 : decode cX5_scaled 7 = .ok (.ldc2_w 68, 3) := by decide +kernel
theorem dX5_scaled_10 : decode cX5_scaled 10 = .ok (.lmul, 1) := by decide +kernel
theorem dX5_scaled_11 : decode cX5_scaled 11 = .ok (.aload_n 0, 1) := by decide +kernel
theorem dX5_scaled_12 : decode cX5_scaled 12 = .ok (.getfield 45, 3) := by decide +kernel
theorem dX5_scaled_15 : decode cX5_scaled 15 = .ok (.getfield 70, 3) := by decide +kernel
theorem dX5_scaled_18 : decode cX5_scaled 18 = .ok (.i2l, 1) := by decide +kernel
theorem dX5_scaled_19 : decode cX5_scaled 19 = .ok (.invokestatic 75, 3) := by decide +kernel
theorem dX5_scaled_22 : decode cX5_scaled 22 = .ok (.lreturn, 1) := by decide +kernel
def F_X5_scaled (l1 : Int64) (V : sv_V) : Option (Int64 × sv_V) := (F_X11_nearest ((l1 * ((V.1 69 12).toInt64)) * (64 : Int64)) ((V.1 2 6).toInt64) V).bind (fun (x3, V1) => some (x3, V1))
set_option maxRecDepth 20000 in
theorem t_X5_scaled {g : sx_G} (hG : sx_Go g) {P : Option Value → sv_V → Prop} {r : Int64} {Vr : sv_V} (hP : P (some (.long r)) Vr) {l1 : Int64} {V : sv_V} (h : F_X5_scaled l1 V = some (r, Vr)) : sv_N g qX5_scaled 1 0 [(0, .ref 69), (1, .long l1)] [] V P := by
  unfold F_X5_scaled at h
  refine sx_lload_n (pc := 0) dX5_scaled_0 sx_m1 ?_
  refine sx_aload_n (pc := 1) dX5_scaled_1 sx_m0 ?_
  refine sv_getI (pc := 2) hG dX5_scaled_2 f_5_59 lay_69 rfl ?_
  refine sx_i2l (pc := 5) dX5_scaled_5 ?_
  refine sx_lmul (pc := 6) dX5_scaled_6 ?_
  refine sx_ldc2 (pc := 7) dX5_scaled_7 k_X5_68 ?_
  refine sx_lmul (pc := 10) dX5_scaled_10 ?_
  refine sx_aload_n (pc := 11) dX5_scaled_11 sx_m0 ?_
  refine sv_getO (pc := 12) hG dX5_scaled_12 f_5_45 lay_69 rfl cr_69_0 ?_
  refine sv_getI (pc := 15) hG dX5_scaled_15 f_5_70 lay_2 rfl ?_
  refine sx_i2l (pc := 18) dX5_scaled_18 ?_
  obtain ⟨⟨x3, V1⟩, g2, h⟩ := sx_bnd h
  refine sv_cN (pc := 19) (y := qX11_nearest) (o := (some (.long x3))) (as := [.long ((l1 * ((V.1 69 12).toInt64)) * (64 : Int64)), .long ((V.1 2 6).toInt64)]) (V1 := V1) dX5_scaled_19 n_X5_75 y0X11_nearest ysX11_nearest rfl (Nat.le_of_ble_eq_true rfl) (by decide) (Nat.le_of_ble_eq_true rfl) rfl rfl rfl (t_X11_nearest hG ⟨rfl, rfl⟩ g2) ?_
  exact sv_lret (pc := 22) dX5_scaled_22 rfl h hP
theorem dX5_isThere_0 : decode cX5_isThere 0 = .ok (.aload_n 1, 1) := by decide +kernel
theorem dX5_isThere_1 : decode cX5_isThere 1 = .ok (.iload_n 2, 1) := by decide +kernel
theorem dX5_isThere_2 : decode cX5_isThere 2 = .ok (.invokevirtual 180, 3) := by decide +kernel
theorem dX5_isThere_5 : decode cX5_isThere 5 = .ok (.ifCond .ne 8, 3) := by decide +kernel
theorem dX5_isThere_8 : decode cX5_isThere 8 = .ok (.aload_n 0, 1) := by decide +kernel
theorem dX5_isThere_9 : decode cX5_isThere 9 = .ok (.iconst 5, 1) := by decide +kernel
theorem dX5_isThere_10 : decode cX5_isThere 10 = .ok (.putfield 56, 3) := by decide +kernel
theorem dX5_isThere_13 : decode cX5_isThere 13 = .ok (.aload_n 1, 1) := by decide +kernel
theorem dX5_isThere_14 : decode cX5_isThere 14 = .ok (.iload_n 2, 1) := by decide +kernel
theorem dX5_isThere_15 : decode cX5_isThere 15 = .ok (.invokevirtual 180, 3) := by decide +kernel
theorem dX5_isThere_18 : decode cX5_isThere 18 = .ok (.ireturn, 1) := by decide +kernel
def B_X5_isThere_13  (l1 : Nat) (l2 : Int32) (V : sv_V) : Option (Int32 × sv_V) := (F_X8_has l1 l2 V).bind (fun (x3, V1) => if lay l1 = .inl 8 then if sv_bl x3 = true then some (x3, V1) else none else none)
set_option maxRecDepth 20000 in
theorem tB_X5_isThere_13 {g : sx_G} (hG : sx_Go g) {P : Option Value → sv_V → Prop} {r : Int32} {Vr : sv_V} (hP : P (some (.int r)) Vr)   {l1 : Nat} {l2 : Int32} {V : sv_V} (h : B_X5_isThere_13  l1 l2 V = some (r, Vr)) : sv_N g qX5_isThere 1 13 [(1, .ref l1), (2, .int l2)] [] V P := by
  unfold B_X5_isThere_13 at h
  refine sx_aload_n (pc := 13) dX5_isThere_13 sx_m0 ?_
  refine sx_iload_n (pc := 14) dX5_isThere_14 sx_m1 ?_
  obtain ⟨⟨x3, V1⟩, g2, h⟩ := sx_bnd h
  obtain ⟨g4, h⟩ := sx_grd h
  refine sv_cV (pc := 15) (y := qX8_has) (o := (some (.int x3))) (as := [.int l2]) (V1 := V1) hG dX5_isThere_15 l_X5_180 y0X8_has yvX8_has rfl (Nat.le_of_ble_eq_true rfl) g4 kr_8 (by decide) (Nat.le_of_ble_eq_true rfl) rfl rfl rfl (t_X8_has hG ⟨rfl, rfl⟩ g2) ?_
  obtain ⟨g5, h⟩ := sx_grd h
  exact sv_zret (pc := 18) dX5_isThere_18 rfl g5 h hP
def F_X5_isThere (l1 : Nat) (l2 : Int32) (V : sv_V) : Option (Int32 × sv_V) := (F_X8_has l1 l2 V).bind (fun (x8, V6) => if lay l1 = .inl 8 then if x8 = 0 then (sx_let (sv_I V6 69 14 (5 : Int32)) (fun V11 => B_X5_isThere_13  l1 l2 V11)) else (B_X5_isThere_13  l1 l2 V6) else none)
set_option maxRecDepth 20000 in
theorem t_X5_isThere {g : sx_G} (hG : sx_Go g) {P : Option Value → sv_V → Prop} {r : Int32} {Vr : sv_V} (hP : P (some (.int r)) Vr) {l1 : Nat} {l2 : Int32} {V : sv_V} (h : F_X5_isThere l1 l2 V = some (r, Vr)) : sv_N g qX5_isThere 1 0 [(0, .ref 69), (1, .ref l1), (2, .int l2)] [] V P := by
  unfold F_X5_isThere at h
  refine sx_aload_n (pc := 0) dX5_isThere_0 sx_m1 ?_
  refine sx_iload_n (pc := 1) dX5_isThere_1 sx_m2 ?_
  obtain ⟨⟨x8, V6⟩, g7, h⟩ := sx_bnd h
  obtain ⟨g9, h⟩ := sx_grd h
  refine sv_cV (pc := 2) (y := qX8_has) (o := (some (.int x8))) (as := [.int l2]) (V1 := V6) hG dX5_isThere_2 l_X5_180 y0X8_has yvX8_has rfl (Nat.le_of_ble_eq_true rfl) g9 kr_8 (by decide) (Nat.le_of_ble_eq_true rfl) rfl rfl rfl (t_X8_has hG ⟨rfl, rfl⟩ g7) ?_
  refine sx_if_ne (pc := 5) (tgt := 13) dX5_isThere_5 (by decide) (fun c10 => ?_) (fun c10 => ?_)
  · have h := sx_neg c10 h
    refine sx_wk (sx_s1 sx_m1 (sx_s1 sx_m2 sx_s0)) ?_
    exact tB_X5_isThere_13 hG hP  h
  · have h := sx_pos c10 h
    refine sx_aload_n (pc := 8) dX5_isThere_8 sx_m0 ?_
    refine sx_iconst (pc := 9) (v := 5) dX5_isThere_9 (by decide) ?_
    obtain ⟨V11, hV11⟩ : ∃ z : sv_V, z = sv_I V6 69 14 (5 : Int32) := ⟨_, rfl⟩
    have h := sx_letE hV11 h
    refine sv_putI (pc := 10) hG dX5_isThere_10 f_5_56 lay_69 rfl hV11 ?_
    refine sx_wk (sx_s1 sx_m1 (sx_s1 sx_m2 sx_s0)) ?_
    exact tB_X5_isThere_13 hG hP  h
theorem dX5_longByP_0 : decode cX5_longByP 0 = .ok (.lload_n 1, 1) := by decide +kernel
theorem dX5_longByP_1 : decode cX5_longByP 1 = .ok (.aload_n 0, 1) := by decide +kernel
theorem dX5_longByP_2 : decode cX5_longByP 2 = .ok (.getfield 12, 3) := by decide +kernel
theorem dX5_longByP_5 : decode cX5_longByP 5 = .ok (.getfield 184, 3) := by decide +kernel
theorem dX5_longByP_8 : decode cX5_longByP 8 = .ok (.i2l, 1) := by decide +kernel
theorem dX5_longByP_9 : decode cX5_longByP 9 = .ok (.lmul, 1) := by decide +kernel
theorem dX5_longByP_10 : decode cX5_longByP 10 = .ok (.lload_n 3, 1) := by decide +kernel
theorem dX5_longByP_11 : decode cX5_longByP 11 = .ok (.aload_n 0, 1) := by decide +kernel
theorem dX5_longByP_12 : decode cX5_longByP 12 = .ok (.getfield 12, 3) := by decide +kernel
theorem dX5_longByP_15 : decode cX5_longByP 15 = .ok (.getfield 187, 3) := by decide +kernel
theorem dX5_longByP_18 : decode cX5_longByP 18 = .ok (.i2l, 1) := by decide +kernel
theorem dX5_longByP_19 : decode cX5_longByP 19 = .ok (.lmul, 1) := by decide +kernel
theorem dX5_longByP_20 : decode cX5_longByP 20 = .ok (.ladd, 1) := by decide +kernel
theorem dX5_longByP_21 : decode cX5_longByP 21 = .ok (.ldc2_w 190, 3) := by decide +kernel
theorem dX5_longByP_24 : decode cX5_longByP 24 = .ok (.invokestatic 75, 3) := by decide +kernel
theorem dX5_longByP_27 : decode cX5_longByP 27 = .ok (.l2i, 1) := by decide +kernel
theorem dX5_longByP_28 : decode cX5_longByP 28 = .ok (.i2l, 1) := by decide +kernel
theorem dX5_longByP_29 : decode cX5_longByP 29 = .ok (.lreturn, 1) := by decide +kernel
def F_X5_longByP (l1 : Int64) (l3 : Int64) (V : sv_V) : Option (Int64 × sv_V) := (F_X11_nearest ((l1 * ((V.1 70 2).toInt64)) + (l3 * ((V.1 70 3).toInt64))) (16384 : Int64) V).bind (fun (x3, V1) => some (x3.toInt32.toInt64, V1))
set_option maxRecDepth 20000 in
theorem t_X5_longByP {g : sx_G} (hG : sx_Go g) {P : Option Value → sv_V → Prop} {r : Int64} {Vr : sv_V} (hP : P (some (.long r)) Vr) {l1 : Int64} {l3 : Int64} {V : sv_V} (h : F_X5_longByP l1 l3 V = some (r, Vr)) : sv_N g qX5_longByP 1 0 [(0, .ref 69), (1, .long l1), (3, .long l3)] [] V P := by
  unfold F_X5_longByP at h
  refine sx_lload_n (pc := 0) dX5_longByP_0 sx_m1 ?_
  refine sx_aload_n (pc := 1) dX5_longByP_1 sx_m0 ?_
  refine sv_getO (pc := 2) hG dX5_longByP_2 f_5_12 lay_69 rfl cr_69_1 ?_
  refine sv_getI (pc := 5) hG dX5_longByP_5 f_5_184 lay_70 rfl ?_
  refine sx_i2l (pc := 8) dX5_longByP_8 ?_
  refine sx_lmul (pc := 9) dX5_longByP_9 ?_
  refine sx_lload_n (pc := 10) dX5_longByP_10 sx_m2 ?_
  refine sx_aload_n (pc := 11) dX5_longByP_11 sx_m0 ?_
  refine sv_getO (pc := 12) hG dX5_longByP_12 f_5_12 lay_69 rfl cr_69_1 ?_
  refine sv_getI (pc := 15) hG dX5_longByP_15 f_5_187 lay_70 rfl ?_
  refine sx_i2l (pc := 18) dX5_longByP_18 ?_
  refine sx_lmul (pc := 19) dX5_longByP_19 ?_
  refine sx_ladd (pc := 20) dX5_longByP_20 ?_
  refine sx_ldc2 (pc := 21) dX5_longByP_21 k_X5_190 ?_
  obtain ⟨⟨x3, V1⟩, g2, h⟩ := sx_bnd h
  refine sv_cN (pc := 24) (y := qX11_nearest) (o := (some (.long x3))) (as := [.long ((l1 * ((V.1 70 2).toInt64)) + (l3 * ((V.1 70 3).toInt64))), .long (16384 : Int64)]) (V1 := V1) dX5_longByP_24 n_X5_75 y0X11_nearest ysX11_nearest rfl (Nat.le_of_ble_eq_true rfl) (by decide) (Nat.le_of_ble_eq_true rfl) rfl rfl rfl (t_X11_nearest hG ⟨rfl, rfl⟩ g2) ?_
  refine sx_l2i (pc := 27) dX5_longByP_27 ?_
  refine sx_i2l (pc := 28) dX5_longByP_28 ?_
  exact sv_lret (pc := 29) dX5_longByP_29 rfl h hP
theorem dX5_longByD_0 : decode cX5_longByD 0 = .ok (.lload_n 1, 1) := by decide +kernel
theorem dX5_longByD_1 : decode cX5_longByD 1 = .ok (.aload_n 0, 1) := by decide +kernel
theorem dX5_longByD_2 : decode cX5_longByD 2 = .ok (.getfield 12, 3) := by decide +kernel
theorem dX5_longByD_5 : decode cX5_longByD 5 = .ok (.getfield 192, 3) := by decide +kernel
theorem dX5_longByD_8 : decode cX5_longByD 8 = .ok (.i2l, 1) := by decide +kernel
theorem dX5_longByD_9 : decode cX5_longByD 9 = .ok (.lmul, 1) := by decide +kernel
theorem dX5_longByD_10 : decode cX5_longByD 10 = .ok (.lload_n 3, 1) := by decide +kernel
theorem dX5_longByD_11 : decode cX5_longByD 11 = .ok (.aload_n 0, 1) := by decide +kernel
theorem dX5_longByD_12 : decode cX5_longByD 12 = .ok (.getfield 12, 3) := by decide +kernel
theorem dX5_longByD_15 : decode cX5_longByD 15 = .ok (.getfield 195, 3) := by decide +kernel
theorem dX5_longByD_18 : decode cX5_longByD 18 = .ok (.i2l, 1) := by decide +kernel
theorem dX5_longByD_19 : decode cX5_longByD 19 = .ok (.lmul, 1) := by decide +kernel
theorem dX5_longByD_20 : decode cX5_longByD 20 = .ok (.ladd, 1) := by decide +kernel
theorem dX5_longByD_21 : decode cX5_longByD 21 = .ok (.ldc2_w 190, 3) := by decide +kernel
theorem dX5_longByD_24 : decode cX5_longByD 24 = .ok (.invokestatic 75, 3) := by decide +kernel
theorem dX5_longByD_27 : decode cX5_longByD 27 = .ok (.l2i, 1) := by decide +kernel
theorem dX5_longByD_28 : decode cX5_longByD 28 = .ok (.i2l, 1) := by decide +kernel
theorem dX5_longByD_29 : decode cX5_longByD 29 = .ok (.lreturn, 1) := by decide +kernel
def F_X5_longByD (l1 : Int64) (l3 : Int64) (V : sv_V) : Option (Int64 × sv_V) := (F_X11_nearest ((l1 * ((V.1 70 4).toInt64)) + (l3 * ((V.1 70 5).toInt64))) (16384 : Int64) V).bind (fun (x3, V1) => some (x3.toInt32.toInt64, V1))
set_option maxRecDepth 20000 in
theorem t_X5_longByD {g : sx_G} (hG : sx_Go g) {P : Option Value → sv_V → Prop} {r : Int64} {Vr : sv_V} (hP : P (some (.long r)) Vr) {l1 : Int64} {l3 : Int64} {V : sv_V} (h : F_X5_longByD l1 l3 V = some (r, Vr)) : sv_N g qX5_longByD 1 0 [(0, .ref 69), (1, .long l1), (3, .long l3)] [] V P := by
  unfold F_X5_longByD at h
  refine sx_lload_n (pc := 0) dX5_longByD_0 sx_m1 ?_
  refine sx_aload_n (pc := 1) dX5_longByD_1 sx_m0 ?_
  refine sv_getO (pc := 2) hG dX5_longByD_2 f_5_12 lay_69 rfl cr_69_1 ?_
  refine sv_getI (pc := 5) hG dX5_longByD_5 f_5_192 lay_70 rfl ?_
  refine sx_i2l (pc := 8) dX5_longByD_8 ?_
  refine sx_lmul (pc := 9) dX5_longByD_9 ?_
  refine sx_lload_n (pc := 10) dX5_longByD_10 sx_m2 ?_
  refine sx_aload_n (pc := 11) dX5_longByD_11 sx_m0 ?_
  refine sv_getO (pc := 12) hG dX5_longByD_12 f_5_12 lay_69 rfl cr_69_1 ?_
  refine sv_getI (pc := 15) hG dX5_longByD_15 f_5_195 lay_70 rfl ?_
  refine sx_i2l (pc := 18) dX5_longByD_18 ?_
  refine sx_lmul (pc := 19) dX5_longByD_19 ?_
  refine sx_ladd (pc := 20) dX5_longByD_20 ?_
  refine sx_ldc2 (pc := 21) dX5_longByD_21 k_X5_190 ?_
  obtain ⟨⟨x3, V1⟩, g2, h⟩ := sx_bnd h
  refine sv_cN (pc := 24) (y := qX11_nearest) (o := (some (.long x3))) (as := [.long ((l1 * ((V.1 70 4).toInt64)) + (l3 * ((V.1 70 5).toInt64))), .long (16384 : Int64)]) (V1 := V1) dX5_longByD_24 n_X5_75 y0X11_nearest ysX11_nearest rfl (Nat.le_of_ble_eq_true rfl) (by decide) (Nat.le_of_ble_eq_true rfl) rfl rfl rfl (t_X11_nearest hG ⟨rfl, rfl⟩ g2) ?_
  refine sx_l2i (pc := 27) dX5_longByD_27 ?_
  refine sx_i2l (pc := 28) dX5_longByD_28 ?_
  exact sv_lret (pc := 29) dX5_longByD_29 rfl h hP
theorem dX5_longBetween_0 : decode cX5_longBetween 0 = .ok (.aload_n 1, 1) := by decide +kernel
theorem dX5_longBetween_1 : decode cX5_longBetween 1 = .ok (.getfield 198, 3) := by decide +kernel
theorem dX5_longBetween_4 : decode cX5_longBetween 4 = .ok (.iload_n 2, 1) := by decide +kernel
theorem dX5_longBetween_5 : decode cX5_longBetween 5 = .ok (.iaload, 1) := by decide +kernel
theorem dX5_longBetween_6 : decode cX5_longBetween 6 = .ok (.aload_n 3, 1) := by decide +kernel
theorem dX5_longBetween_7 : decode cX5_longBetween 7 = .ok (.getfield 198, 3) := by decide +kernel
theorem dX5_longBetween_10 : decode cX5_longBetween 10 = .ok (.iload 4, 2) := by decide +kernel
theorem dX5_longBetween_12 : decode cX5_longBetween 12 = .ok (.iaload, 1) := by decide +kernel
theorem dX5_longBetween_13 : decode cX5_longBetween 13 = .ok (.isub, 1) := by decide +kernel
theorem dX5_longBetween_14 : decode cX5_longBetween 14 = .ok (.i2l, 1) := by decide +kernel
theorem dX5_longBetween_15 : decode cX5_longBetween 15 = .ok (.lstore 5, 2) := by decide +kernel
theorem dX5_longBetween_17 : decode cX5_longBetween 17 = .ok (.aload_n 1, 1) := by decide +kernel
theorem dX5_longBetween_18 : decode cX5_longBetween 18 = .ok (.getfield 201, 3) := by decide +kernel
theorem dX5_longBetween_21 : decode cX5_longBetween 21 = .ok (.iload_n 2, 1) := by decide +kernel
theorem dX5_longBetween_22 : decode cX5_longBetween 22 = .ok (.iaload, 1) := by decide +kernel
theorem dX5_longBetween_23 : decode cX5_longBetween 23 = .ok (.aload_n 3, 1) := by decide +kernel
theorem dX5_longBetween_24 : decode cX5_longBetween 24 = .ok (.getfield 201, 3) := by decide +kernel
theorem dX5_longBetween_27 : decode cX5_longBetween 27 = .ok (.iload 4, 2) := by decide +kernel
theorem dX5_longBetween_29 : decode cX5_longBetween 29 = .ok (.iaload, 1) := by decide +kernel
theorem dX5_longBetween_30 : decode cX5_longBetween 30 = .ok (.isub, 1) := by decide +kernel
theorem dX5_longBetween_31 : decode cX5_longBetween 31 = .ok (.i2l, 1) := by decide +kernel
theorem dX5_longBetween_32 : decode cX5_longBetween 32 = .ok (.lstore 7, 2) := by decide +kernel
theorem dX5_longBetween_34 : decode cX5_longBetween 34 = .ok (.lload 5, 2) := by decide +kernel
theorem dX5_longBetween_36 : decode cX5_longBetween 36 = .ok (.aload_n 0, 1) := by decide +kernel
theorem dX5_longBetween_37 : decode cX5_longBetween 37 = .ok (.getfield 12, 3) := by decide +kernel
theorem dX5_longBetween_40 : decode cX5_longBetween 40 = .ok (.getfield 184, 3) := by decide +kernel
theorem dX5_longBetween_43 : decode cX5_longBetween 43 = .ok (.i2l, 1) := by decide +kernel
theorem dX5_longBetween_44 : decode cX5_longBetween 44 = .ok (.lmul, 1) := by decide +kernel
theorem dX5_longBetween_45 : decode cX5_longBetween 45 = .ok (.lload 7, 2) := by decide +kernel
theorem dX5_longBetween_47 : decode cX5_longBetween 47 = .ok (.aload_n 0, 1) := by decide +kernel
theorem dX5_longBetween_48 : decode cX5_longBetween 48 = .ok (.getfield 12, 3) := by decide +kernel
theorem dX5_longBetween_51 : decode cX5_longBetween 51 = .ok (.getfield 187, 3) := by decide +kernel
theorem dX5_longBetween_54 : decode cX5_longBetween 54 = .ok (.i2l, 1) := by decide +kernel
theorem dX5_longBetween_55 : decode cX5_longBetween 55 = .ok (.lmul, 1) := by decide +kernel
theorem dX5_longBetween_56 : decode cX5_longBetween 56 = .ok (.ladd, 1) := by decide +kernel
theorem dX5_longBetween_57 : decode cX5_longBetween 57 = .ok (.ldc2_w 190, 3) := by decide +kernel
theorem dX5_longBetween_60 : decode cX5_longBetween 60 = .ok (.invokestatic 75, 3) := by decide +kernel
theorem dX5_longBetween_63 : decode cX5_longBetween 63 = .ok (.l2i, 1) := by decide +kernel
theorem dX5_longBetween_64 : decode cX5_longBetween 64 = .ok (.i2l, 1) := by decide +kernel
theorem dX5_longBetween_65 : decode cX5_longBetween 65 = .ok (.lreturn, 1) := by decide +kernel
def F_X5_longBetween (l1 : Nat) (l2 : Int32) (l3 : Nat) (l4 : Int32) (V : sv_V) : Option (Int64 × sv_V) := if lay l1 = .inl 8 then (cr l1 0).bind (fun b2 => (sv_len 0 b2).bind (fun n4 => if sx_in l2 n4 = true then if lay l3 = .inl 8 then (cr l3 0).bind (fun b8 => (sv_len 0 b8).bind (fun n10 => if sx_in l4 n10 = true then sx_let (((V.1 b2 l2.toNatClampNeg) - (V.1 b8 l4.toNatClampNeg)).toInt64) (fun x13 => (cr l1 1).bind (fun b14 => (sv_len 0 b14).bind (fun n16 => if sx_in l2 n16 = true then (cr l3 1).bind (fun b19 => (sv_len 0 b19).bind (fun n21 => if sx_in l4 n21 = true then sx_let (((V.1 b14 l2.toNatClampNeg) - (V.1 b19 l4.toNatClampNeg)).toInt64) (fun x24 => (F_X11_nearest ((x13 * ((V.1 70 2).toInt64)) + (x24 * ((V.1 70 3).toInt64))) (16384 : Int64) V).bind (fun (x27, V25) => some (x27.toInt32.toInt64, V25))) else none)) else none))) else none)) else none else none)) else none
set_option maxRecDepth 20000 in
theorem t_X5_longBetween {g : sx_G} (hG : sx_Go g) {P : Option Value → sv_V → Prop} {r : Int64} {Vr : sv_V} (hP : P (some (.long r)) Vr) {l1 : Nat} {l2 : Int32} {l3 : Nat} {l4 : Int32} {V : sv_V} (h : F_X5_longBetween l1 l2 l3 l4 V = some (r, Vr)) : sv_N g qX5_longBetween 1 0 [(0, .ref 69), (1, .ref l1), (2, .int l2), (3, .ref l3), (4, .int l4)] [] V P := by
  unfold F_X5_longBetween at h
  refine sx_aload_n (pc := 0) dX5_longBetween_0 sx_m1 ?_
  obtain ⟨g1, h⟩ := sx_grd h
  obtain ⟨b2, g3, h⟩ := sx_bnd h
  refine sv_getA (pc := 1) hG dX5_longBetween_1 f_5_198 g1 rfl g3 ?_
  refine sx_iload_n (pc := 4) dX5_longBetween_4 sx_m2 ?_
  obtain ⟨n4, g5, h⟩ := sx_bnd h
  obtain ⟨g6, h⟩ := sx_grd h
  refine sv_iald (pc := 5) hG dX5_longBetween_5 (sv_len_e g5) g6 ?_
  refine sx_aload_n (pc := 6) dX5_longBetween_6 sx_m3 ?_
  obtain ⟨g7, h⟩ := sx_grd h
  obtain ⟨b8, g9, h⟩ := sx_bnd h
  refine sv_getA (pc := 7) hG dX5_longBetween_7 f_5_198 g7 rfl g9 ?_
  refine sx_iload (pc := 10) dX5_longBetween_10 sx_m4 ?_
  obtain ⟨n10, g11, h⟩ := sx_bnd h
  obtain ⟨g12, h⟩ := sx_grd h
  refine sv_iald (pc := 12) hG dX5_longBetween_12 (sv_len_e g11) g12 ?_
  refine sx_isub (pc := 13) dX5_longBetween_13 ?_
  refine sx_i2l (pc := 14) dX5_longBetween_14 ?_
  refine sv_tJ (fun x13 hx13 => ?_)
  have h := sx_letE hx13 h
  refine sx_lstore (pc := 15) (lo' := [(5, .long x13), (0, .ref 69), (1, .ref l1), (2, .int l2), (3, .ref l3), (4, .int l4)]) dX5_longBetween_15 (by decide) rfl ?_
  refine sx_aload_n (pc := 17) dX5_longBetween_17 sx_m2 ?_
  obtain ⟨b14, g15, h⟩ := sx_bnd h
  refine sv_getA (pc := 18) hG dX5_longBetween_18 f_5_201 g1 rfl g15 ?_
  refine sx_iload_n (pc := 21) dX5_longBetween_21 sx_m3 ?_
  obtain ⟨n16, g17, h⟩ := sx_bnd h
  obtain ⟨g18, h⟩ := sx_grd h
  refine sv_iald (pc := 22) hG dX5_longBetween_22 (sv_len_e g17) g18 ?_
  refine sx_aload_n (pc := 23) dX5_longBetween_23 sx_m4 ?_
  obtain ⟨b19, g20, h⟩ := sx_bnd h
  refine sv_getA (pc := 24) hG dX5_longBetween_24 f_5_201 g7 rfl g20 ?_
  refine sx_iload (pc := 27) dX5_longBetween_27 sx_m5 ?_
  obtain ⟨n21, g22, h⟩ := sx_bnd h
  obtain ⟨g23, h⟩ := sx_grd h
  refine sv_iald (pc := 29) hG dX5_longBetween_29 (sv_len_e g22) g23 ?_
  refine sx_isub (pc := 30) dX5_longBetween_30 ?_
  refine sx_i2l (pc := 31) dX5_longBetween_31 ?_
  refine sv_tJ (fun x24 hx24 => ?_)
  have h := sx_letE hx24 h
  refine sx_lstore (pc := 32) (lo' := [(7, .long x24), (5, .long x13), (0, .ref 69), (1, .ref l1), (2, .int l2), (3, .ref l3), (4, .int l4)]) dX5_longBetween_32 (by decide) rfl ?_
  refine sx_lload (pc := 34) dX5_longBetween_34 sx_m1 ?_
  refine sx_aload_n (pc := 36) dX5_longBetween_36 sx_m2 ?_
  refine sv_getO (pc := 37) hG dX5_longBetween_37 f_5_12 lay_69 rfl cr_69_1 ?_
  refine sv_getI (pc := 40) hG dX5_longBetween_40 f_5_184 lay_70 rfl ?_
  refine sx_i2l (pc := 43) dX5_longBetween_43 ?_
  refine sx_lmul (pc := 44) dX5_longBetween_44 ?_
  refine sx_lload (pc := 45) dX5_longBetween_45 sx_m0 ?_
  refine sx_aload_n (pc := 47) dX5_longBetween_47 sx_m2 ?_
  refine sv_getO (pc := 48) hG dX5_longBetween_48 f_5_12 lay_69 rfl cr_69_1 ?_
  refine sv_getI (pc := 51) hG dX5_longBetween_51 f_5_187 lay_70 rfl ?_
  refine sx_i2l (pc := 54) dX5_longBetween_54 ?_
  refine sx_lmul (pc := 55) dX5_longBetween_55 ?_
  refine sx_ladd (pc := 56) dX5_longBetween_56 ?_
  refine sx_ldc2 (pc := 57) dX5_longBetween_57 k_X5_190 ?_
  obtain ⟨⟨x27, V25⟩, g26, h⟩ := sx_bnd h
  refine sv_cN (pc := 60) (y := qX11_nearest) (o := (some (.long x27))) (as := [.long ((x13 * ((V.1 70 2).toInt64)) + (x24 * ((V.1 70 3).toInt64))), .long (16384 : Int64)]) (V1 := V25) dX5_longBetween_60 n_X5_75 y0X11_nearest ysX11_nearest rfl (Nat.le_of_ble_eq_true rfl) (by decide) (Nat.le_of_ble_eq_true rfl) rfl rfl rfl (t_X11_nearest hG ⟨rfl, rfl⟩ g26) ?_
  refine sx_l2i (pc := 63) dX5_longBetween_63 ?_
  refine sx_i2l (pc := 64) dX5_longBetween_64 ?_
  exact sv_lret (pc := 65) dX5_longBetween_65 rfl h hP
theorem dX5_originalBetween_0 : decode cX5_originalBetween 0 = .ok (.aload_n 1, 1) := by decide +kernel
theorem dX5_originalBetween_1 : decode cX5_originalBetween 1 = .ok (.getfield 204, 3) := by decide +kernel
theorem dX5_originalBetween_4 : decode cX5_originalBetween 4 = .ok (.iload_n 2, 1) := by decide +kernel
theorem dX5_originalBetween_5 : decode cX5_originalBetween 5 = .ok (.iaload, 1) := by decide +kernel
theorem dX5_originalBetween_6 : decode cX5_originalBetween 6 = .ok (.aload_n 3, 1) := by decide +kernel
theorem dX5_originalBetween_7 : decode cX5_originalBetween 7 = .ok (.getfield 204, 3) := by decide +kernel
theorem dX5_originalBetween_10 : decode cX5_originalBetween 10 = .ok (.iload 4, 2) := by decide +kernel
theorem dX5_originalBetween_12 : decode cX5_originalBetween 12 = .ok (.iaload, 1) := by decide +kernel
theorem dX5_originalBetween_13 : decode cX5_originalBetween 13 = .ok (.isub, 1) := by decide +kernel
theorem dX5_originalBetween_14 : decode cX5_originalBetween 14 = .ok (.i2l, 1) := by decide +kernel
theorem dX5_originalBetween_15 : decode cX5_originalBetween 15 = .ok (.lstore 5, 2) := by decide +kernel
theorem dX5_originalBetween_17 : decode cX5_originalBetween 17 = .ok (.aload_n 1, 1) := by decide +kernel
theorem dX5_originalBetween_18 : decode cX5_originalBetween 18 = .ok (.getfield 207, 3) := by decide +kernel
theorem dX5_originalBetween_21 : decode cX5_originalBetween 21 = .ok (.iload_n 2, 1) := by decide +kernel
theorem dX5_originalBetween_22 : decode cX5_originalBetween 22 = .ok (.iaload, 1) := by decide +kernel
theorem dX5_originalBetween_23 : decode cX5_originalBetween 23 = .ok (.aload_n 3, 1) := by decide +kernel
theorem dX5_originalBetween_24 : decode cX5_originalBetween 24 = .ok (.getfield 207, 3) := by decide +kernel
theorem dX5_originalBetween_27 : decode cX5_originalBetween 27 = .ok (.iload 4, 2) := by decide +kernel
theorem dX5_originalBetween_29 : decode cX5_originalBetween 29 = .ok (.iaload, 1) := by decide +kernel
theorem dX5_originalBetween_30 : decode cX5_originalBetween 30 = .ok (.isub, 1) := by decide +kernel
theorem dX5_originalBetween_31 : decode cX5_originalBetween 31 = .ok (.i2l, 1) := by decide +kernel
theorem dX5_originalBetween_32 : decode cX5_originalBetween 32 = .ok (.lstore 7, 2) := by decide +kernel
theorem dX5_originalBetween_34 : decode cX5_originalBetween 34 = .ok (.lload 5, 2) := by decide +kernel
theorem dX5_originalBetween_36 : decode cX5_originalBetween 36 = .ok (.aload_n 0, 1) := by decide +kernel
theorem dX5_originalBetween_37 : decode cX5_originalBetween 37 = .ok (.getfield 12, 3) := by decide +kernel
theorem dX5_originalBetween_40 : decode cX5_originalBetween 40 = .ok (.getfield 192, 3) := by decide +kernel
theorem dX5_originalBetween_43 : decode cX5_originalBetween 43 = .ok (.i2l, 1) := by decide +kernel
theorem dX5_originalBetween_44 : decode cX5_originalBetween 44 = .ok (.lmul, 1) := by decide +kernel
theorem dX5_originalBetween_45 : decode cX5_originalBetween 45 = .ok (.lload 7, 2) := by decide +kernel
theorem dX5_originalBetween_47 : decode cX5_originalBetween 47 = .ok (.aload_n 0, 1) := by decide +kernel
theorem dX5_originalBetween_48 : decode cX5_originalBetween 48 = .ok (.getfield 12, 3) := by decide +kernel
theorem dX5_originalBetween_51 : decode cX5_originalBetween 51 = .ok (.getfield 195, 3) := by decide +kernel
theorem dX5_originalBetween_54 : decode cX5_originalBetween 54 = .ok (.i2l, 1) := by decide +kernel
theorem dX5_originalBetween_55 : decode cX5_originalBetween 55 = .ok (.lmul, 1) := by decide +kernel
theorem dX5_originalBetween_56 : decode cX5_originalBetween 56 = .ok (.ladd, 1) := by decide +kernel
theorem dX5_originalBetween_57 : decode cX5_originalBetween 57 = .ok (.ldc2_w 190, 3) := by decide +kernel
theorem dX5_originalBetween_60 : decode cX5_originalBetween 60 = .ok (.invokestatic 75, 3) := by decide +kernel
theorem dX5_originalBetween_63 : decode cX5_originalBetween 63 = .ok (.l2i, 1) := by decide +kernel
theorem dX5_originalBetween_64 : decode cX5_originalBetween 64 = .ok (.i2l, 1) := by decide +kernel
theorem dX5_originalBetween_65 : decode cX5_originalBetween 65 = .ok (.lreturn, 1) := by decide +kernel
def F_X5_originalBetween (l1 : Nat) (l2 : Int32) (l3 : Nat) (l4 : Int32) (V : sv_V) : Option (Int64 × sv_V) := if lay l1 = .inl 8 then (cr l1 2).bind (fun b2 => (sv_len 0 b2).bind (fun n4 => if sx_in l2 n4 = true then if lay l3 = .inl 8 then (cr l3 2).bind (fun b8 => (sv_len 0 b8).bind (fun n10 => if sx_in l4 n10 = true then sx_let (((V.1 b2 l2.toNatClampNeg) - (V.1 b8 l4.toNatClampNeg)).toInt64) (fun x13 => (cr l1 3).bind (fun b14 => (sv_len 0 b14).bind (fun n16 => if sx_in l2 n16 = true then (cr l3 3).bind (fun b19 => (sv_len 0 b19).bind (fun n21 => if sx_in l4 n21 = true then sx_let (((V.1 b14 l2.toNatClampNeg) - (V.1 b19 l4.toNatClampNeg)).toInt64) (fun x24 => (F_X11_nearest ((x13 * ((V.1 70 4).toInt64)) + (x24 * ((V.1 70 5).toInt64))) (16384 : Int64) V).bind (fun (x27, V25) => some (x27.toInt32.toInt64, V25))) else none)) else none))) else none)) else none else none)) else none
set_option maxRecDepth 20000 in
theorem t_X5_originalBetween {g : sx_G} (hG : sx_Go g) {P : Option Value → sv_V → Prop} {r : Int64} {Vr : sv_V} (hP : P (some (.long r)) Vr) {l1 : Nat} {l2 : Int32} {l3 : Nat} {l4 : Int32} {V : sv_V} (h : F_X5_originalBetween l1 l2 l3 l4 V = some (r, Vr)) : sv_N g qX5_originalBetween 1 0 [(0, .ref 69), (1, .ref l1), (2, .int l2), (3, .ref l3), (4, .int l4)] [] V P := by
  unfold F_X5_originalBetween at h
  refine sx_aload_n (pc := 0) dX5_originalBetween_0 sx_m1 ?_
  obtain ⟨g1, h⟩ := sx_grd h
  obtain ⟨b2, g3, h⟩ := sx_bnd h
  refine sv_getA (pc := 1) hG dX5_originalBetween_1 f_5_204 g1 rfl g3 ?_
  refine sx_iload_n (pc := 4) dX5_originalBetween_4 sx_m2 ?_
  obtain ⟨n4, g5, h⟩ := sx_bnd h
  obtain ⟨g6, h⟩ := sx_grd h
  refine sv_iald (pc := 5) hG dX5_originalBetween_5 (sv_len_e g5) g6 ?_
  refine sx_aload_n (pc := 6) dX5_originalBetween_6 sx_m3 ?_
  obtain ⟨g7, h⟩ := sx_grd h
  obtain ⟨b8, g9, h⟩ := sx_bnd h
  refine sv_getA (pc := 7) hG dX5_originalBetween_7 f_5_204 g7 rfl g9 ?_
  refine sx_iload (pc := 10) dX5_originalBetween_10 sx_m4 ?_
  obtain ⟨n10, g11, h⟩ := sx_bnd h
  obtain ⟨g12, h⟩ := sx_grd h
  refine sv_iald (pc := 12) hG dX5_originalBetween_12 (sv_len_e g11) g12 ?_
  refine sx_isub (pc := 13) dX5_originalBetween_13 ?_
  refine sx_i2l (pc := 14) dX5_originalBetween_14 ?_
  refine sv_tJ (fun x13 hx13 => ?_)
  have h := sx_letE hx13 h
  refine sx_lstore (pc := 15) (lo' := [(5, .long x13), (0, .ref 69), (1, .ref l1), (2, .int l2), (3, .ref l3), (4, .int l4)]) dX5_originalBetween_15 (by decide) rfl ?_
  refine sx_aload_n (pc := 17) dX5_originalBetween_17 sx_m2 ?_
  obtain ⟨b14, g15, h⟩ := sx_bnd h
  refine sv_getA (pc := 18) hG dX5_originalBetween_18 f_5_207 g1 rfl g15 ?_
  refine sx_iload_n (pc := 21) dX5_originalBetween_21 sx_m3 ?_
  obtain ⟨n16, g17, h⟩ := sx_bnd h
  obtain ⟨g18, h⟩ := sx_grd h
  refine sv_iald (pc := 22) hG dX5_originalBetween_22 (sv_len_e g17) g18 ?_
  refine sx_aload_n (pc := 23) dX5_originalBetween_23 sx_m4 ?_
  obtain ⟨b19, g20, h⟩ := sx_bnd h
  refine sv_getA (pc := 24) hG dX5_originalBetween_24 f_5_207 g7 rfl g20 ?_
  refine sx_iload (pc := 27) dX5_originalBetween_27 sx_m5 ?_
  obtain ⟨n21, g22, h⟩ := sx_bnd h
  obtain ⟨g23, h⟩ := sx_grd h
  refine sv_iald (pc := 29) hG dX5_originalBetween_29 (sv_len_e g22) g23 ?_
  refine sx_isub (pc := 30) dX5_originalBetween_30 ?_
  refine sx_i2l (pc := 31) dX5_originalBetween_31 ?_
  refine sv_tJ (fun x24 hx24 => ?_)
  have h := sx_letE hx24 h
  refine sx_lstore (pc := 32) (lo' := [(7, .long x24), (5, .long x13), (0, .ref 69), (1, .ref l1), (2, .int l2), (3, .ref l3), (4, .int l4)]) dX5_originalBetween_32 (by decide) rfl ?_
  refine sx_lload (pc := 34) dX5_originalBetween_34 sx_m1 ?_
  refine sx_aload_n (pc := 36) dX5_originalBetween_36 sx_m2 ?_
  refine sv_getO (pc := 37) hG dX5_originalBetween_37 f_5_12 lay_69 rfl cr_69_1 ?_
  refine sv_getI (pc := 40) hG dX5_originalBetween_40 f_5_192 lay_70 rfl ?_
  refine sx_i2l (pc := 43) dX5_originalBetween_43 ?_
  refine sx_lmul (pc := 44) dX5_originalBetween_44 ?_
  refine sx_lload (pc := 45) dX5_originalBetween_45 sx_m0 ?_
  refine sx_aload_n (pc := 47) dX5_originalBetween_47 sx_m2 ?_
  refine sv_getO (pc := 48) hG dX5_originalBetween_48 f_5_12 lay_69 rfl cr_69_1 ?_
  refine sv_getI (pc := 51) hG dX5_originalBetween_51 f_5_195 lay_70 rfl ?_
  refine sx_i2l (pc := 54) dX5_originalBetween_54 ?_
  refine sx_lmul (pc := 55) dX5_originalBetween_55 ?_
  refine sx_ladd (pc := 56) dX5_originalBetween_56 ?_
  refine sx_ldc2 (pc := 57) dX5_originalBetween_57 k_X5_190 ?_
  obtain ⟨⟨x27, V25⟩, g26, h⟩ := sx_bnd h
  refine sv_cN (pc := 60) (y := qX11_nearest) (o := (some (.long x27))) (as := [.long ((x13 * ((V.1 70 4).toInt64)) + (x24 * ((V.1 70 5).toInt64))), .long (16384 : Int64)]) (V1 := V25) dX5_originalBetween_60 n_X5_75 y0X11_nearest ysX11_nearest rfl (Nat.le_of_ble_eq_true rfl) (by decide) (Nat.le_of_ble_eq_true rfl) rfl rfl rfl (t_X11_nearest hG ⟨rfl, rfl⟩ g26) ?_
  refine sx_l2i (pc := 63) dX5_originalBetween_63 ?_
  refine sx_i2l (pc := 64) dX5_originalBetween_64 ?_
  exact sv_lret (pc := 65) dX5_originalBetween_65 rfl h hP
theorem dX5_move_0 : decode cX5_move 0 = .ok (.aload_n 0, 1) := by decide +kernel
theorem dX5_move_1 : decode cX5_move 1 = .ok (.getfield 12, 3) := by decide +kernel
theorem dX5_move_4 : decode cX5_move 4 = .ok (.getfield 210, 3) := by decide +kernel
theorem dX5_move_7 : decode cX5_move 7 = .ok (.i2l, 1) := by decide +kernel
theorem dX5_move_8 : decode cX5_move 8 = .ok (.aload_n 0, 1) := by decide +kernel
theorem dX5_move_9 : decode cX5_move 9 = .ok (.getfield 12, 3) := by decide +kernel
theorem dX5_move_12 : decode cX5_move 12 = .ok (.getfield 184, 3) := by decide +kernel
theorem dX5_move_15 : decode cX5_move 15 = .ok (.i2l, 1) := by decide +kernel
theorem dX5_move_16 : decode cX5_move 16 = .ok (.lmul, 1) := by decide +kernel
theorem dX5_move_17 : decode cX5_move 17 = .ok (.aload_n 0, 1) := by decide +kernel
theorem dX5_move_18 : decode cX5_move 18 = .ok (.getfield 12, 3) := by decide +kernel
theorem dX5_move_21 : decode cX5_move 21 = .ok (.getfield 213, 3) := by decide +kernel
theorem dX5_move_24 : decode cX5_move 24 = .ok (.i2l, 1) := by decide +kernel
theorem dX5_move_25 : decode cX5_move 25 = .ok (.aload_n 0, 1) := by decide +kernel
theorem dX5_move_26 : decode cX5_move 26 = .ok (.getfield 12, 3) := by decide +kernel
theorem dX5_move_29 : decode cX5_move 29 = .ok (.getfield 187, 3) := by decide +kernel
theorem dX5_move_32 : decode cX5_move 32 = .ok (.i2l, 1) := by decide +kernel
theorem dX5_move_33 : decode cX5_move 33 = .ok (.lmul, 1) := by decide +kernel
theorem dX5_move_34 : decode cX5_move 34 = .ok (.ladd, 1) := by decide +kernel
theorem dX5_move_35 : decode cX5_move 35 = .ok (.ldc2_w 190, 3) := by decide +kernel
theorem dX5_move_38 : decode cX5_move 38 = .ok (.invokestatic 75, 3) := by decide +kernel
theorem dX5_move_41 : decode cX5_move 41 = .ok (.lstore 5, 2) := by decide +kernel
theorem dX5_move_43 : decode cX5_move 43 = .ok (.lload 5, 2) := by decide +kernel
theorem dX5_move_45 : decode cX5_move 45 = .ok (.ldc2_w 216, 3) := by decide +kernel
theorem dX5_move_48 : decode cX5_move 48 = .ok (.lcmp, 1) := by decide +kernel
theorem dX5_move_49 : decode cX5_move 49 = .ok (.ifCond .le 17, 3) := by decide +kernel
theorem dX5_move_52 : decode cX5_move 52 = .ok (.lload 5, 2) := by decide +kernel
theorem dX5_move_54 : decode cX5_move 54 = .ok (.ldc2_w 218, 3) := by decide +kernel
theorem dX5_move_57 : decode cX5_move 57 = .ok (.lcmp, 1) := by decide +kernel
theorem dX5_move_58 : decode cX5_move 58 = .ok (.ifCond .ge 8, 3) := by decide +kernel
theorem dX5_move_61 : decode cX5_move 61 = .ok (.ldc2_w 190, 3) := by decide +kernel
theorem dX5_move_64 : decode cX5_move 64 = .ok (.lstore 5, 2) := by decide +kernel
theorem dX5_move_66 : decode cX5_move 66 = .ok (.aload_n 1, 1) := by decide +kernel
theorem dX5_move_67 : decode cX5_move 67 = .ok (.getfield 198, 3) := by decide +kernel
theorem dX5_move_70 : decode cX5_move 70 = .ok (.iload_n 2, 1) := by decide +kernel
theorem dX5_move_71 : decode cX5_move 71 = .ok (.dup2, 1) := by decide +kernel
theorem dX5_move_72 : decode cX5_move 72 = .ok (.iaload, 1) := by decide +kernel
theorem dX5_move_73 : decode cX5_move 73 = .ok (.lload_n 3, 1) := by decide +kernel
theorem dX5_move_74 : decode cX5_move 74 = .ok (.aload_n 0, 1) := by decide +kernel
theorem dX5_move_75 : decode cX5_move 75 = .ok (.getfield 12, 3) := by decide +kernel
theorem dX5_move_78 : decode cX5_move 78 = .ok (.getfield 210, 3) := by decide +kernel
theorem dX5_move_81 : decode cX5_move 81 = .ok (.i2l, 1) := by decide +kernel
theorem dX5_move_82 : decode cX5_move 82 = .ok (.lmul, 1) := by decide +kernel
theorem dX5_move_83 : decode cX5_move 83 = .ok (.lload 5, 2) := by decide +kernel
theorem dX5_move_85 : decode cX5_move 85 = .ok (.invokestatic 75, 3) := by decide +kernel
theorem dX5_move_88 : decode cX5_move 88 = .ok (.l2i, 1) := by decide +kernel
theorem dX5_move_89 : decode cX5_move 89 = .ok (.iadd, 1) := by decide +kernel
theorem dX5_move_90 : decode cX5_move 90 = .ok (.iastore, 1) := by decide +kernel
theorem dX5_move_91 : decode cX5_move 91 = .ok (.aload_n 1, 1) := by decide +kernel
theorem dX5_move_92 : decode cX5_move 92 = .ok (.getfield 201, 3) := by decide +kernel
theorem dX5_move_95 : decode cX5_move 95 = .ok (.iload_n 2, 1) := by decide +kernel
theorem dX5_move_96 : decode cX5_move 96 = .ok (.dup2, 1) := by decide +kernel
theorem dX5_move_97 : decode cX5_move 97 = .ok (.iaload, 1) := by decide +kernel
theorem dX5_move_98 : decode cX5_move 98 = .ok (.lload_n 3, 1) := by decide +kernel
theorem dX5_move_99 : decode cX5_move 99 = .ok (.aload_n 0, 1) := by decide +kernel
theorem dX5_move_100 : decode cX5_move 100 = .ok (.getfield 12, 3) := by decide +kernel
theorem dX5_move_103 : decode cX5_move 103 = .ok (.getfield 213, 3) := by decide +kernel
theorem dX5_move_106 : decode cX5_move 106 = .ok (.i2l, 1) := by decide +kernel
theorem dX5_move_107 : decode cX5_move 107 = .ok (.lmul, 1) := by decide +kernel
theorem dX5_move_108 : decode cX5_move 108 = .ok (.lload 5, 2) := by decide +kernel
theorem dX5_move_110 : decode cX5_move 110 = .ok (.invokestatic 75, 3) := by decide +kernel
theorem dX5_move_113 : decode cX5_move 113 = .ok (.l2i, 1) := by decide +kernel
theorem dX5_move_114 : decode cX5_move 114 = .ok (.iadd, 1) := by decide +kernel
theorem dX5_move_115 : decode cX5_move 115 = .ok (.iastore, 1) := by decide +kernel
theorem dX5_move_116 : decode cX5_move 116 = .ok (.aload_n 1, 1) := by decide +kernel
theorem dX5_move_117 : decode cX5_move 117 = .ok (.getfield 220, 3) := by decide +kernel
theorem dX5_move_120 : decode cX5_move 120 = .ok (.iload_n 2, 1) := by decide +kernel
theorem dX5_move_121 : decode cX5_move 121 = .ok (.dup2, 1) := by decide +kernel
theorem dX5_move_122 : decode cX5_move 122 = .ok (.iaload, 1) := by decide +kernel
theorem dX5_move_123 : decode cX5_move 123 = .ok (.aload_n 0, 1) := by decide +kernel
theorem dX5_move_124 : decode cX5_move 124 = .ok (.invokevirtual 223, 3) := by decide +kernel
theorem dX5_move_127 : decode cX5_move 127 = .ok (.ior, 1) := by decide +kernel
theorem dX5_move_128 : decode cX5_move 128 = .ok (.iastore, 1) := by decide +kernel
theorem dX5_move_129 : decode cX5_move 129 = .ok (.return_, 1) := by decide +kernel
def B_X5_move_66  (l1 : Nat) (l2 : Int32) (l3 : Int64) (l5 : Int64) (V : sv_V) : Option sv_V := if lay l1 = .inl 8 then (cr l1 0).bind (fun b2 => (sv_len 0 b2).bind (fun n4 => if sx_in l2 n4 = true then (F_X11_nearest (l3 * ((V.1 70 0).toInt64)) l5 V).bind (fun (x9, V7) => if sx_in l2 n4 = true then sx_let (sv_I V7 b2 l2.toNatClampNeg ((V.1 b2 l2.toNatClampNeg) + x9.toInt32)) (fun V11 => (cr l1 1).bind (fun b12 => (sv_len 0 b12).bind (fun n14 => if sx_in l2 n14 = true then (F_X11_nearest (l3 * ((V11.1 70 1).toInt64)) l5 V11).bind (fun (x19, V17) => if sx_in l2 n14 = true then sx_let (sv_I V17 b12 l2.toNatClampNeg ((V11.1 b12 l2.toNatClampNeg) + x19.toInt32)) (fun V21 => (cr l1 4).bind (fun b22 => (sv_len 0 b22).bind (fun n24 => if sx_in l2 n24 = true then (F_X5_touchBits  V21).bind (fun (x29, V27) => if sx_in l2 n24 = true then sx_let (sv_I V27 b22 l2.toNatClampNeg ((V21.1 b22 l2.toNatClampNeg) ||| x29)) (fun V31 => some V31) else none) else none))) else none) else none))) else none) else none)) else none
set_option maxRecDepth 20000 in
theorem tB_X5_move_66 {g : sx_G} (hG : sx_Go g) {P : Option Value → sv_V → Prop} {Vr : sv_V} (hP : P none Vr)   {l1 : Nat} {l2 : Int32} {l3 : Int64} {l5 : Int64} {V : sv_V} (h : B_X5_move_66  l1 l2 l3 l5 V = some Vr) : sv_N g qX5_move 1 66 [(0, .ref 69), (1, .ref l1), (2, .int l2), (3, .long l3), (5, .long l5)] [] V P := by
  unfold B_X5_move_66 at h
  refine sx_aload_n (pc := 66) dX5_move_66 sx_m1 ?_
  obtain ⟨g1, h⟩ := sx_grd h
  obtain ⟨b2, g3, h⟩ := sx_bnd h
  refine sv_getA (pc := 67) hG dX5_move_67 f_5_198 g1 rfl g3 ?_
  refine sx_iload_n (pc := 70) dX5_move_70 sx_m2 ?_
  refine sx_dup2 (pc := 71) dX5_move_71 rfl rfl ?_
  obtain ⟨n4, g5, h⟩ := sx_bnd h
  obtain ⟨g6, h⟩ := sx_grd h
  refine sv_iald (pc := 72) hG dX5_move_72 (sv_len_e g5) g6 ?_
  refine sx_lload_n (pc := 73) dX5_move_73 sx_m3 ?_
  refine sx_aload_n (pc := 74) dX5_move_74 sx_m0 ?_
  refine sv_getO (pc := 75) hG dX5_move_75 f_5_12 lay_69 rfl cr_69_1 ?_
  refine sv_getI (pc := 78) hG dX5_move_78 f_5_210 lay_70 rfl ?_
  refine sx_i2l (pc := 81) dX5_move_81 ?_
  refine sx_lmul (pc := 82) dX5_move_82 ?_
  refine sx_lload (pc := 83) dX5_move_83 sx_m4 ?_
  obtain ⟨⟨x9, V7⟩, g8, h⟩ := sx_bnd h
  refine sv_cN (pc := 85) (y := qX11_nearest) (o := (some (.long x9))) (as := [.long (l3 * ((V.1 70 0).toInt64)), .long l5]) (V1 := V7) dX5_move_85 n_X5_75 y0X11_nearest ysX11_nearest rfl (Nat.le_of_ble_eq_true rfl) (by decide) (Nat.le_of_ble_eq_true rfl) rfl rfl rfl (t_X11_nearest hG ⟨rfl, rfl⟩ g8) ?_
  refine sx_l2i (pc := 88) dX5_move_88 ?_
  refine sx_iadd (pc := 89) dX5_move_89 ?_
  obtain ⟨g10, h⟩ := sx_grd h
  obtain ⟨V11, hV11⟩ : ∃ z : sv_V, z = sv_I V7 b2 l2.toNatClampNeg ((V.1 b2 l2.toNatClampNeg) + x9.toInt32) := ⟨_, rfl⟩
  have h := sx_letE hV11 h
  refine sv_iast (pc := 90) hG dX5_move_90 (sv_len_e g5) g10 hV11 ?_
  refine sx_aload_n (pc := 91) dX5_move_91 sx_m1 ?_
  obtain ⟨b12, g13, h⟩ := sx_bnd h
  refine sv_getA (pc := 92) hG dX5_move_92 f_5_201 g1 rfl g13 ?_
  refine sx_iload_n (pc := 95) dX5_move_95 sx_m2 ?_
  refine sx_dup2 (pc := 96) dX5_move_96 rfl rfl ?_
  obtain ⟨n14, g15, h⟩ := sx_bnd h
  obtain ⟨g16, h⟩ := sx_grd h
  refine sv_iald (pc := 97) hG dX5_move_97 (sv_len_e g15) g16 ?_
  refine sx_lload_n (pc := 98) dX5_move_98 sx_m3 ?_
  refine sx_aload_n (pc := 99) dX5_move_99 sx_m0 ?_
  refine sv_getO (pc := 100) hG dX5_move_100 f_5_12 lay_69 rfl cr_69_1 ?_
  refine sv_getI (pc := 103) hG dX5_move_103 f_5_213 lay_70 rfl ?_
  refine sx_i2l (pc := 106) dX5_move_106 ?_
  refine sx_lmul (pc := 107) dX5_move_107 ?_
  refine sx_lload (pc := 108) dX5_move_108 sx_m4 ?_
  obtain ⟨⟨x19, V17⟩, g18, h⟩ := sx_bnd h
  refine sv_cN (pc := 110) (y := qX11_nearest) (o := (some (.long x19))) (as := [.long (l3 * ((V11.1 70 1).toInt64)), .long l5]) (V1 := V17) dX5_move_110 n_X5_75 y0X11_nearest ysX11_nearest rfl (Nat.le_of_ble_eq_true rfl) (by decide) (Nat.le_of_ble_eq_true rfl) rfl rfl rfl (t_X11_nearest hG ⟨rfl, rfl⟩ g18) ?_
  refine sx_l2i (pc := 113) dX5_move_113 ?_
  refine sx_iadd (pc := 114) dX5_move_114 ?_
  obtain ⟨g20, h⟩ := sx_grd h
  obtain ⟨V21, hV21⟩ : ∃ z : sv_V, z = sv_I V17 b12 l2.toNatClampNeg ((V11.1 b12 l2.toNatClampNeg) + x19.toInt32) := ⟨_, rfl⟩
  have h := sx_letE hV21 h
  refine sv_iast (pc := 115) hG dX5_move_115 (sv_len_e g15) g20 hV21 ?_
  refine sx_aload_n (pc := 116) dX5_move_116 sx_m1 ?_
  obtain ⟨b22, g23, h⟩ := sx_bnd h
  refine sv_getA (pc := 117) hG dX5_move_117 f_5_220 g1 rfl g23 ?_
  refine sx_iload_n (pc := 120) dX5_move_120 sx_m2 ?_
  refine sx_dup2 (pc := 121) dX5_move_121 rfl rfl ?_
  obtain ⟨n24, g25, h⟩ := sx_bnd h
  obtain ⟨g26, h⟩ := sx_grd h
  refine sv_iald (pc := 122) hG dX5_move_122 (sv_len_e g25) g26 ?_
  refine sx_aload_n (pc := 123) dX5_move_123 sx_m0 ?_
  obtain ⟨⟨x29, V27⟩, g28, h⟩ := sx_bnd h
  refine sv_cV (pc := 124) (y := qX5_touchBits) (o := (some (.int x29))) (as := []) (V1 := V27) hG dX5_move_124 l_X5_223 y0X5_touchBits yvX5_touchBits rfl (Nat.le_of_ble_eq_true rfl) lay_69 kr_5 (by decide) (Nat.le_of_ble_eq_true rfl) rfl rfl rfl (t_X5_touchBits hG ⟨rfl, rfl⟩ g28) ?_
  refine sx_ior (pc := 127) dX5_move_127 ?_
  obtain ⟨g30, h⟩ := sx_grd h
  obtain ⟨V31, hV31⟩ : ∃ z : sv_V, z = sv_I V27 b22 l2.toNatClampNeg ((V21.1 b22 l2.toNatClampNeg) ||| x29) := ⟨_, rfl⟩
  have h := sx_letE hV31 h
  refine sv_iast (pc := 128) hG dX5_move_128 (sv_len_e g25) g30 hV31 ?_
  exact sv_vret (pc := 129) dX5_move_129 rfl h hP
def F_X5_move (l1 : Nat) (l2 : Int32) (l3 : Int64) (V : sv_V) : Option sv_V := (F_X11_nearest ((((V.1 70 0).toInt64) * ((V.1 70 2).toInt64)) + (((V.1 70 1).toInt64) * ((V.1 70 3).toInt64))) (16384 : Int64) V).bind (fun (x34, V32) => if (lg_cmp x34 (-1024 : Int64)) ≤ 0 then (B_X5_move_66  l1 l2 l3 x34 V32) else (if 0 ≤ (lg_cmp x34 (1024 : Int64)) then (B_X5_move_66  l1 l2 l3 x34 V32) else (B_X5_move_66  l1 l2 l3 (16384 : Int64) V32)))
set_option maxRecDepth 20000 in
theorem t_X5_move {g : sx_G} (hG : sx_Go g) {P : Option Value → sv_V → Prop} {Vr : sv_V} (hP : P none Vr) {l1 : Nat} {l2 : Int32} {l3 : Int64} {V : sv_V} (h : F_X5_move l1 l2 l3 V = some Vr) : sv_N g qX5_move 1 0 [(0, .ref 69), (1, .ref l1), (2, .int l2), (3, .long l3)] [] V P := by
  unfold F_X5_move at h
  refine sx_aload_n (pc := 0) dX5_move_0 sx_m0 ?_
  refine sv_getO (pc := 1) hG dX5_move_1 f_5_12 lay_69 rfl cr_69_1 ?_
  refine sv_getI (pc := 4) hG dX5_move_4 f_5_210 lay_70 rfl ?_
  refine sx_i2l (pc := 7) dX5_move_7 ?_
  refine sx_aload_n (pc := 8) dX5_move_8 sx_m0 ?_
  refine sv_getO (pc := 9) hG dX5_move_9 f_5_12 lay_69 rfl cr_69_1 ?_
  refine sv_getI (pc := 12) hG dX5_move_12 f_5_184 lay_70 rfl ?_
  refine sx_i2l (pc := 15) dX5_move_15 ?_
  refine sx_lmul (pc := 16) dX5_move_16 ?_
  refine sx_aload_n (pc := 17) dX5_move_17 sx_m0 ?_
  refine sv_getO (pc := 18) hG dX5_move_18 f_5_12 lay_69 rfl cr_69_1 ?_
  refine sv_getI (pc := 21) hG dX5_move_21 f_5_213 lay_70 rfl ?_
  refine sx_i2l (pc := 24) dX5_move_24 ?_
  refine sx_aload_n (pc := 25) dX5_move_25 sx_m0 ?_
  refine sv_getO (pc := 26) hG dX5_move_26 f_5_12 lay_69 rfl cr_69_1 ?_
  refine sv_getI (pc := 29) hG dX5_move_29 f_5_187 lay_70 rfl ?_
  refine sx_i2l (pc := 32) dX5_move_32 ?_
  refine sx_lmul (pc := 33) dX5_move_33 ?_
  refine sx_ladd (pc := 34) dX5_move_34 ?_
  refine sx_ldc2 (pc := 35) dX5_move_35 k_X5_190 ?_
  obtain ⟨⟨x34, V32⟩, g33, h⟩ := sx_bnd h
  refine sv_cN (pc := 38) (y := qX11_nearest) (o := (some (.long x34))) (as := [.long ((((V.1 70 0).toInt64) * ((V.1 70 2).toInt64)) + (((V.1 70 1).toInt64) * ((V.1 70 3).toInt64))), .long (16384 : Int64)]) (V1 := V32) dX5_move_38 n_X5_75 y0X11_nearest ysX11_nearest rfl (Nat.le_of_ble_eq_true rfl) (by decide) (Nat.le_of_ble_eq_true rfl) rfl rfl rfl (t_X11_nearest hG ⟨rfl, rfl⟩ g33) ?_
  refine sx_lstore (pc := 41) (lo' := [(5, .long x34), (0, .ref 69), (1, .ref l1), (2, .int l2), (3, .long l3)]) dX5_move_41 (by decide) rfl ?_
  refine sx_lload (pc := 43) dX5_move_43 sx_m0 ?_
  refine sx_ldc2 (pc := 45) dX5_move_45 k_X5_216 ?_
  refine sx_lcmp (pc := 48) dX5_move_48 ?_
  refine sx_if_le (pc := 49) (tgt := 66) dX5_move_49 (by decide) (fun c35 => ?_) (fun c35 => ?_)
  · have h := sx_pos c35 h
    refine sx_wk (sx_s1 sx_m1 (sx_s1 sx_m2 (sx_s1 sx_m3 (sx_s1 sx_m4 (sx_s1 sx_m0 sx_s0))))) ?_
    exact tB_X5_move_66 hG hP  h
  · have h := sx_neg c35 h
    refine sx_lload (pc := 52) dX5_move_52 sx_m0 ?_
    refine sx_ldc2 (pc := 54) dX5_move_54 k_X5_218 ?_
    refine sx_lcmp (pc := 57) dX5_move_57 ?_
    refine sx_if_ge (pc := 58) (tgt := 66) dX5_move_58 (by decide) (fun c36 => ?_) (fun c36 => ?_)
    · have h := sx_pos c36 h
      refine sx_wk (sx_s1 sx_m1 (sx_s1 sx_m2 (sx_s1 sx_m3 (sx_s1 sx_m4 (sx_s1 sx_m0 sx_s0))))) ?_
      exact tB_X5_move_66 hG hP  h
    · have h := sx_neg c36 h
      refine sx_ldc2 (pc := 61) dX5_move_61 k_X5_190 ?_
      refine sx_lstore (pc := 64) (lo' := [(5, .long (16384 : Int64)), (0, .ref 69), (1, .ref l1), (2, .int l2), (3, .long l3)]) dX5_move_64 (by decide) rfl ?_
      refine sx_wk (sx_s1 sx_m1 (sx_s1 sx_m2 (sx_s1 sx_m3 (sx_s1 sx_m4 (sx_s1 sx_m0 sx_s0))))) ?_
      exact tB_X5_move_66 hG hP  h
theorem dX5_settingCodes_0 : decode cX5_settingCodes 0 = .ok (.getstatic 160, 3) := by decide +kernel
theorem dX5_settingCodes_3 : decode cX5_settingCodes 3 = .ok (.iload_n 1, 1) := by decide +kernel
theorem dX5_settingCodes_4 : decode cX5_settingCodes 4 = .ok (.iaload, 1) := by decide +kernel
theorem dX5_settingCodes_5 : decode cX5_settingCodes 5 = .ok (.iconst 1, 1) := by decide +kernel
theorem dX5_settingCodes_6 : decode cX5_settingCodes 6 = .ok (.if_icmp .ne 10, 3) := by decide +kernel
theorem dX5_settingCodes_9 : decode cX5_settingCodes 9 = .ok (.aload_n 0, 1) := by decide +kernel
theorem dX5_settingCodes_10 : decode cX5_settingCodes 10 = .ok (.invokevirtual 242, 3) := by decide +kernel
theorem dX5_settingCodes_13 : decode cX5_settingCodes 13 = .ok (.goto 4, 3) := by decide +kernel
theorem dX5_settingCodes_16 : decode cX5_settingCodes 16 = .ok (.iconst 0, 1) := by decide +kernel
theorem dX5_settingCodes_17 : decode cX5_settingCodes 17 = .ok (.istore_n 2, 1) := by decide +kernel
theorem dX5_settingCodes_18 : decode cX5_settingCodes 18 = .ok (.aload_n 0, 1) := by decide +kernel
theorem dX5_settingCodes_19 : decode cX5_settingCodes 19 = .ok (.getfield 49, 3) := by decide +kernel
theorem dX5_settingCodes_22 : decode cX5_settingCodes 22 = .ok (.getfield 272, 3) := by decide +kernel
theorem dX5_settingCodes_25 : decode cX5_settingCodes 25 = .ok (.astore_n 3, 1) := by decide +kernel
theorem dX5_settingCodes_26 : decode cX5_settingCodes 26 = .ok (.iload_n 1, 1) := by decide +kernel
theorem dX5_settingCodes_27 : decode cX5_settingCodes 27 = .ok (.lookupswitch 274 #[(16, 169), (17, 169), (18, 169), (19, 183), (20, 183), (21, 183), (22, 183), (23, 190), (26, 196), (29, 201), (30, 206), (31, 211), (77, 222), (78, 227), (94, 232), (95, 237), (118, 243), (119, 243), (133, 262), (141, 268)], 169) := by decide +kernel
theorem dX5_settingCodes_196 : decode cX5_settingCodes 196 = .ok (.aload_n 0, 1) := by decide +kernel
theorem dX5_settingCodes_197 : decode cX5_settingCodes 197 = .ok (.getfield 12, 3) := by decide +kernel
theorem dX5_settingCodes_200 : decode cX5_settingCodes 200 = .ok (.getfield 275, 3) := by decide +kernel
theorem dX5_settingCodes_203 : decode cX5_settingCodes 203 = .ok (.iload_n 1, 1) := by decide +kernel
theorem dX5_settingCodes_204 : decode cX5_settingCodes 204 = .ok (.bipush 16, 2) := by decide +kernel
theorem dX5_settingCodes_206 : decode cX5_settingCodes 206 = .ok (.isub, 1) := by decide +kernel
theorem dX5_settingCodes_207 : decode cX5_settingCodes 207 = .ok (.iload_n 2, 1) := by decide +kernel
theorem dX5_settingCodes_208 : decode cX5_settingCodes 208 = .ok (.iastore, 1) := by decide +kernel
theorem dX5_settingCodes_209 : decode cX5_settingCodes 209 = .ok (.return_, 1) := by decide +kernel
theorem dX5_settingCodes_210 : decode cX5_settingCodes 210 = .ok (.aload_n 0, 1) := by decide +kernel
theorem dX5_settingCodes_211 : decode cX5_settingCodes 211 = .ok (.iload_n 1, 1) := by decide +kernel
theorem dX5_settingCodes_212 : decode cX5_settingCodes 212 = .ok (.iload_n 2, 1) := by decide +kernel
theorem dX5_settingCodes_213 : decode cX5_settingCodes 213 = .ok (.invokevirtual 278, 3) := by decide +kernel
theorem dX5_settingCodes_216 : decode cX5_settingCodes 216 = .ok (.return_, 1) := by decide +kernel
theorem dX5_settingCodes_217 : decode cX5_settingCodes 217 = .ok (.aload_n 0, 1) := by decide +kernel
theorem dX5_settingCodes_218 : decode cX5_settingCodes 218 = .ok (.iload_n 2, 1) := by decide +kernel
theorem dX5_settingCodes_219 : decode cX5_settingCodes 219 = .ok (.invokevirtual 281, 3) := by decide +kernel
theorem dX5_settingCodes_222 : decode cX5_settingCodes 222 = .ok (.return_, 1) := by decide +kernel
theorem dX5_settingCodes_223 : decode cX5_settingCodes 223 = .ok (.aload_n 3, 1) := by decide +kernel
theorem dX5_settingCodes_224 : decode cX5_settingCodes 224 = .ok (.iconst 3, 1) := by decide +kernel
theorem dX5_settingCodes_225 : decode cX5_settingCodes 225 = .ok (.iload_n 2, 1) := by decide +kernel
theorem dX5_settingCodes_226 : decode cX5_settingCodes 226 = .ok (.iastore, 1) := by decide +kernel
theorem dX5_settingCodes_227 : decode cX5_settingCodes 227 = .ok (.return_, 1) := by decide +kernel
theorem dX5_settingCodes_228 : decode cX5_settingCodes 228 = .ok (.aload_n 3, 1) := by decide +kernel
theorem dX5_settingCodes_229 : decode cX5_settingCodes 229 = .ok (.iconst 0, 1) := by decide +kernel
theorem dX5_settingCodes_230 : decode cX5_settingCodes 230 = .ok (.iload_n 2, 1) := by decide +kernel
theorem dX5_settingCodes_231 : decode cX5_settingCodes 231 = .ok (.iastore, 1) := by decide +kernel
theorem dX5_settingCodes_232 : decode cX5_settingCodes 232 = .ok (.return_, 1) := by decide +kernel
theorem dX5_settingCodes_233 : decode cX5_settingCodes 233 = .ok (.aload_n 3, 1) := by decide +kernel
theorem dX5_settingCodes_234 : decode cX5_settingCodes 234 = .ok (.iconst 2, 1) := by decide +kernel
theorem dX5_settingCodes_235 : decode cX5_settingCodes 235 = .ok (.iload_n 2, 1) := by decide +kernel
theorem dX5_settingCodes_236 : decode cX5_settingCodes 236 = .ok (.iastore, 1) := by decide +kernel
theorem dX5_settingCodes_237 : decode cX5_settingCodes 237 = .ok (.return_, 1) := by decide +kernel
theorem dX5_settingCodes_238 : decode cX5_settingCodes 238 = .ok (.aload_n 3, 1) := by decide +kernel
theorem dX5_settingCodes_239 : decode cX5_settingCodes 239 = .ok (.iconst 1, 1) := by decide +kernel
theorem dX5_settingCodes_240 : decode cX5_settingCodes 240 = .ok (.aload_n 0, 1) := by decide +kernel
theorem dX5_settingCodes_241 : decode cX5_settingCodes 241 = .ok (.iload_n 2, 1) := by decide +kernel
theorem dX5_settingCodes_242 : decode cX5_settingCodes 242 = .ok (.i2l, 1) := by decide +kernel
theorem dX5_settingCodes_243 : decode cX5_settingCodes 243 = .ok (.invokevirtual 284, 3) := by decide +kernel
theorem dX5_settingCodes_246 : decode cX5_settingCodes 246 = .ok (.l2i, 1) := by decide +kernel
theorem dX5_settingCodes_247 : decode cX5_settingCodes 247 = .ok (.iastore, 1) := by decide +kernel
theorem dX5_settingCodes_248 : decode cX5_settingCodes 248 = .ok (.return_, 1) := by decide +kernel
theorem dX5_settingCodes_249 : decode cX5_settingCodes 249 = .ok (.aload_n 3, 1) := by decide +kernel
theorem dX5_settingCodes_250 : decode cX5_settingCodes 250 = .ok (.iconst 4, 1) := by decide +kernel
theorem dX5_settingCodes_251 : decode cX5_settingCodes 251 = .ok (.iconst 1, 1) := by decide +kernel
theorem dX5_settingCodes_252 : decode cX5_settingCodes 252 = .ok (.iastore, 1) := by decide +kernel
theorem dX5_settingCodes_253 : decode cX5_settingCodes 253 = .ok (.return_, 1) := by decide +kernel
theorem dX5_settingCodes_254 : decode cX5_settingCodes 254 = .ok (.aload_n 3, 1) := by decide +kernel
theorem dX5_settingCodes_255 : decode cX5_settingCodes 255 = .ok (.iconst 4, 1) := by decide +kernel
theorem dX5_settingCodes_256 : decode cX5_settingCodes 256 = .ok (.iconst 0, 1) := by decide +kernel
theorem dX5_settingCodes_257 : decode cX5_settingCodes 257 = .ok (.iastore, 1) := by decide +kernel
theorem dX5_settingCodes_258 : decode cX5_settingCodes 258 = .ok (.return_, 1) := by decide +kernel
theorem dX5_settingCodes_259 : decode cX5_settingCodes 259 = .ok (.aload_n 3, 1) := by decide +kernel
theorem dX5_settingCodes_260 : decode cX5_settingCodes 260 = .ok (.iconst 5, 1) := by decide +kernel
theorem dX5_settingCodes_261 : decode cX5_settingCodes 261 = .ok (.iload_n 2, 1) := by decide +kernel
theorem dX5_settingCodes_262 : decode cX5_settingCodes 262 = .ok (.iastore, 1) := by decide +kernel
theorem dX5_settingCodes_263 : decode cX5_settingCodes 263 = .ok (.return_, 1) := by decide +kernel
theorem dX5_settingCodes_264 : decode cX5_settingCodes 264 = .ok (.aload_n 0, 1) := by decide +kernel
theorem dX5_settingCodes_265 : decode cX5_settingCodes 265 = .ok (.iload_n 2, 1) := by decide +kernel
theorem dX5_settingCodes_266 : decode cX5_settingCodes 266 = .ok (.invokevirtual 288, 3) := by decide +kernel
theorem dX5_settingCodes_269 : decode cX5_settingCodes 269 = .ok (.return_, 1) := by decide +kernel
theorem dX5_settingCodes_270 : decode cX5_settingCodes 270 = .ok (.aload_n 0, 1) := by decide +kernel
theorem dX5_settingCodes_271 : decode cX5_settingCodes 271 = .ok (.getfield 12, 3) := by decide +kernel
theorem dX5_settingCodes_274 : decode cX5_settingCodes 274 = .ok (.iload_n 2, 1) := by decide +kernel
theorem dX5_settingCodes_275 : decode cX5_settingCodes 275 = .ok (.iload_n 1, 1) := by decide +kernel
theorem dX5_settingCodes_276 : decode cX5_settingCodes 276 = .ok (.invokevirtual 291, 3) := by decide +kernel
theorem dX5_settingCodes_279 : decode cX5_settingCodes 279 = .ok (.ifCond .ne 9, 3) := by decide +kernel
theorem dX5_settingCodes_282 : decode cX5_settingCodes 282 = .ok (.aload_n 0, 1) := by decide +kernel
theorem dX5_settingCodes_283 : decode cX5_settingCodes 283 = .ok (.bipush 11, 2) := by decide +kernel
theorem dX5_settingCodes_285 : decode cX5_settingCodes 285 = .ok (.putfield 56, 3) := by decide +kernel
theorem dX5_settingCodes_288 : decode cX5_settingCodes 288 = .ok (.return_, 1) := by decide +kernel
theorem dX5_settingCodes_289 : decode cX5_settingCodes 289 = .ok (.aload_n 3, 1) := by decide +kernel
theorem dX5_settingCodes_290 : decode cX5_settingCodes 290 = .ok (.bipush 7, 2) := by decide +kernel
theorem dX5_settingCodes_292 : decode cX5_settingCodes 292 = .ok (.iload_n 2, 1) := by decide +kernel
theorem dX5_settingCodes_293 : decode cX5_settingCodes 293 = .ok (.iastore, 1) := by decide +kernel
theorem dX5_settingCodes_294 : decode cX5_settingCodes 294 = .ok (.return_, 1) := by decide +kernel
theorem dX5_settingCodes_295 : decode cX5_settingCodes 295 = .ok (.aload_n 3, 1) := by decide +kernel
theorem dX5_settingCodes_296 : decode cX5_settingCodes 296 = .ok (.bipush 8, 2) := by decide +kernel
theorem dX5_settingCodes_298 : decode cX5_settingCodes 298 = .ok (.iload_n 2, 1) := by decide +kernel
theorem dX5_settingCodes_299 : decode cX5_settingCodes 299 = .ok (.iastore, 1) := by decide +kernel
theorem dX5_settingCodes_300 : decode cX5_settingCodes 300 = .ok (.return_, 1) := by decide +kernel
theorem dX5_settingCodes_301 : decode cX5_settingCodes 301 = .ok (.aload_n 0, 1) := by decide +kernel
theorem dX5_settingCodes_302 : decode cX5_settingCodes 302 = .ok (.getfield 12, 3) := by decide +kernel
theorem dX5_settingCodes_305 : decode cX5_settingCodes 305 = .ok (.iload_n 1, 1) := by decide +kernel
theorem dX5_settingCodes_306 : decode cX5_settingCodes 306 = .ok (.invokevirtual 295, 3) := by decide +kernel
theorem dX5_settingCodes_309 : decode cX5_settingCodes 309 = .ok (.return_, 1) := by decide +kernel
def B_X5_settingCodes_196 (N : Nat)  (l1 : Int32) (l2 : Int32) (V : sv_V) : Option sv_V := if sx_in (l1 - (16 : Int32)) 3 = true then sx_let (sv_I V 71 (l1 - (16 : Int32)).toNatClampNeg l2) (fun V2 => some V2) else none
set_option maxRecDepth 20000 in
theorem tB_X5_settingCodes_196 {g : sx_G} (hG : sx_Go g) {P : Option Value → sv_V → Prop} {Vr : sv_V} (hP : P none Vr) {N : Nat}   {l1 : Int32} {l2 : Int32} {V : sv_V} (h : B_X5_settingCodes_196 N  l1 l2 V = some Vr) : sv_N g qX5_settingCodes 2 196 [(0, .ref 69), (1, .int l1), (2, .int l2)] [] V P := by
  unfold B_X5_settingCodes_196 at h
  refine sx_aload_n (pc := 196) dX5_settingCodes_196 sx_m0 ?_
  refine sv_getO (pc := 197) hG dX5_settingCodes_197 f_5_12 lay_69 rfl cr_69_1 ?_
  refine sv_getA (pc := 200) hG dX5_settingCodes_200 f_5_275 lay_70 rfl cr_70_6 ?_
  refine sx_iload_n (pc := 203) dX5_settingCodes_203 sx_m1 ?_
  refine sx_bipush (pc := 204) (v := 16) dX5_settingCodes_204 (by decide) ?_
  refine sx_isub (pc := 206) dX5_settingCodes_206 ?_
  refine sx_iload_n (pc := 207) dX5_settingCodes_207 sx_m2 ?_
  obtain ⟨g1, h⟩ := sx_grd h
  obtain ⟨V2, hV2⟩ : ∃ z : sv_V, z = sv_I V 71 (l1 - (16 : Int32)).toNatClampNeg l2 := ⟨_, rfl⟩
  have h := sx_letE hV2 h
  refine sv_iast (pc := 208) hG dX5_settingCodes_208 lay_71 g1 hV2 ?_
  exact sv_vret (pc := 209) dX5_settingCodes_209 rfl h hP
def B_X5_settingCodes_210 (N : Nat)  (l1 : Int32) (l2 : Int32) (V : sv_V) : Option sv_V := (F_X5_setZones N l1 l2 V).bind (fun V3 => some V3)
set_option maxRecDepth 20000 in
theorem tB_X5_settingCodes_210 {g : sx_G} (hG : sx_Go g) {P : Option Value → sv_V → Prop} {Vr : sv_V} (hP : P none Vr) {N : Nat}   {l1 : Int32} {l2 : Int32} {V : sv_V} (h : B_X5_settingCodes_210 N  l1 l2 V = some Vr) : sv_N g qX5_settingCodes 2 210 [(0, .ref 69), (1, .int l1), (2, .int l2)] [] V P := by
  unfold B_X5_settingCodes_210 at h
  refine sx_aload_n (pc := 210) dX5_settingCodes_210 sx_m0 ?_
  refine sx_iload_n (pc := 211) dX5_settingCodes_211 sx_m1 ?_
  refine sx_iload_n (pc := 212) dX5_settingCodes_212 sx_m2 ?_
  obtain ⟨V3, g4, h⟩ := sx_bnd h
  refine sv_cV (pc := 213) (y := qX5_setZones) (o := none) (as := [.int l1, .int l2]) (V1 := V3) hG dX5_settingCodes_213 l_X5_278 y0X5_setZones yvX5_setZones rfl (Nat.le_of_ble_eq_true rfl) lay_69 kr_5 (by decide) (Nat.le_of_ble_eq_true rfl) rfl rfl rfl (t_X5_setZones hG ⟨rfl, rfl⟩ g4) ?_
  exact sv_vret (pc := 216) dX5_settingCodes_216 rfl h hP
def B_X5_settingCodes_270 (N : Nat)  (l1 : Int32) (l2 : Int32) (V : sv_V) : Option sv_V := (F_X9_roundFinely l2 l1 V).bind (fun (x7, V5) => if x7 = 0 then (sx_let (sv_I V5 69 14 (11 : Int32)) (fun V9 => some V9)) else (some V5))
set_option maxRecDepth 20000 in
theorem tB_X5_settingCodes_270 {g : sx_G} (hG : sx_Go g) {P : Option Value → sv_V → Prop} {Vr : sv_V} (hP : P none Vr) {N : Nat}   {l1 : Int32} {l2 : Int32} {V : sv_V} (h : B_X5_settingCodes_270 N  l1 l2 V = some Vr) : sv_N g qX5_settingCodes 2 270 [(0, .ref 69), (1, .int l1), (2, .int l2)] [] V P := by
  unfold B_X5_settingCodes_270 at h
  refine sx_aload_n (pc := 270) dX5_settingCodes_270 sx_m0 ?_
  refine sv_getO (pc := 271) hG dX5_settingCodes_271 f_5_12 lay_69 rfl cr_69_1 ?_
  refine sx_iload_n (pc := 274) dX5_settingCodes_274 sx_m2 ?_
  refine sx_iload_n (pc := 275) dX5_settingCodes_275 sx_m1 ?_
  obtain ⟨⟨x7, V5⟩, g6, h⟩ := sx_bnd h
  refine sv_cV (pc := 276) (y := qX9_roundFinely) (o := (some (.int x7))) (as := [.int l2, .int l1]) (V1 := V5) hG dX5_settingCodes_276 l_X5_291 y0X9_roundFinely yvX9_roundFinely rfl (Nat.le_of_ble_eq_true rfl) lay_70 kr_9 (by decide) (Nat.le_of_ble_eq_true rfl) rfl rfl rfl (t_X9_roundFinely hG ⟨rfl, rfl⟩ g6) ?_
  refine sx_if_ne (pc := 279) (tgt := 288) dX5_settingCodes_279 (by decide) (fun c8 => ?_) (fun c8 => ?_)
  · have h := sx_neg c8 h
    exact sv_vret (pc := 288) dX5_settingCodes_288 rfl h hP
  · have h := sx_pos c8 h
    refine sx_aload_n (pc := 282) dX5_settingCodes_282 sx_m0 ?_
    refine sx_bipush (pc := 283) (v := 11) dX5_settingCodes_283 (by decide) ?_
    obtain ⟨V9, hV9⟩ : ∃ z : sv_V, z = sv_I V5 69 14 (11 : Int32) := ⟨_, rfl⟩
    have h := sx_letE hV9 h
    refine sv_putI (pc := 285) hG dX5_settingCodes_285 f_5_56 lay_69 rfl hV9 ?_
    exact sv_vret (pc := 288) dX5_settingCodes_288 rfl h hP
def B_X5_settingCodes_17 (N : Nat)  (l1 : Int32) (s0 : Int32) (V : sv_V) : Option sv_V := (V.2.2 69 6).bind (fun b10 => if lay b10 = .inl 7 then (cr b10 5).bind (fun b13 => if l1 = 16 then (B_X5_settingCodes_196 N  l1 s0 V) else (if l1 = 17 then (B_X5_settingCodes_196 N  l1 s0 V) else (if l1 = 18 then (B_X5_settingCodes_196 N  l1 s0 V) else (if l1 = 19 then (B_X5_settingCodes_210 N  l1 s0 V) else (if l1 = 20 then (B_X5_settingCodes_210 N  l1 s0 V) else (if l1 = 21 then (B_X5_settingCodes_210 N  l1 s0 V) else (if l1 = 22 then (B_X5_settingCodes_210 N  l1 s0 V) else (if l1 = 23 then ((F_X5_setLoop s0 V).bind (fun V23 => some V23)) else (if l1 = 26 then ((sv_len 0 b13).bind (fun n26 => if sx_in (3 : Int32) n26 = true then sx_let (sv_I V b13 (3 : Int32).toNatClampNeg s0) (fun V29 => some V29) else none)) else (if l1 = 29 then ((sv_len 0 b13).bind (fun n31 => if sx_in (0 : Int32) n31 = true then sx_let (sv_I V b13 (0 : Int32).toNatClampNeg s0) (fun V34 => some V34) else none)) else (if l1 = 30 then ((sv_len 0 b13).bind (fun n36 => if sx_in (2 : Int32) n36 = true then sx_let (sv_I V b13 (2 : Int32).toNatClampNeg s0) (fun V39 => some V39) else none)) else (if l1 = 31 then ((F_X5_scaled s0.toInt64 V).bind (fun (x43, V41) => (sv_len 0 b13).bind (fun n44 => if sx_in (1 : Int32) n44 = true then sx_let (sv_I V41 b13 (1 : Int32).toNatClampNeg x43.toInt32) (fun V47 => some V47) else none))) else (if l1 = 77 then ((sv_len 0 b13).bind (fun n49 => if sx_in (4 : Int32) n49 = true then sx_let (sv_I V b13 (4 : Int32).toNatClampNeg (1 : Int32)) (fun V52 => some V52) else none)) else (if l1 = 78 then ((sv_len 0 b13).bind (fun n54 => if sx_in (4 : Int32) n54 = true then sx_let (sv_I V b13 (4 : Int32).toNatClampNeg (0 : Int32)) (fun V57 => some V57) else none)) else (if l1 = 94 then ((sv_len 0 b13).bind (fun n59 => if sx_in (5 : Int32) n59 = true then sx_let (sv_I V b13 (5 : Int32).toNatClampNeg s0) (fun V62 => some V62) else none)) else (if l1 = 95 then ((F_X5_setShift s0 V).bind (fun V64 => some V64)) else (if l1 = 118 then (B_X5_settingCodes_270 N  l1 s0 V) else (if l1 = 119 then (B_X5_settingCodes_270 N  l1 s0 V) else (if l1 = 133 then ((sv_len 0 b13).bind (fun n69 => if sx_in (7 : Int32) n69 = true then sx_let (sv_I V b13 (7 : Int32).toNatClampNeg s0) (fun V72 => some V72) else none)) else (if l1 = 141 then ((sv_len 0 b13).bind (fun n74 => if sx_in (8 : Int32) n74 = true then sx_let (sv_I V b13 (8 : Int32).toNatClampNeg s0) (fun V77 => some V77) else none)) else ((F_X9_roundBy l1 V).bind (fun V78 => some V78)))))))))))))))))))))) else none)
set_option maxRecDepth 20000 in
theorem tB_X5_settingCodes_17 {g : sx_G} (hG : sx_Go g) {P : Option Value → sv_V → Prop} {Vr : sv_V} (hP : P none Vr) {N : Nat}   {l1 : Int32} {s0 : Int32} {V : sv_V} (h : B_X5_settingCodes_17 N  l1 s0 V = some Vr) : sv_N g qX5_settingCodes 2 17 [(0, .ref 69), (1, .int l1)] [.int s0] V P := by
  unfold B_X5_settingCodes_17 at h
  refine sx_istore_n (pc := 17) (lo' := [(2, .int s0), (0, .ref 69), (1, .int l1)]) dX5_settingCodes_17 (by decide) rfl ?_
  refine sx_aload_n (pc := 18) dX5_settingCodes_18 sx_m1 ?_
  obtain ⟨b10, g11, h⟩ := sx_bnd h
  refine sv_getV (pc := 19) hG dX5_settingCodes_19 f_5_49 lay_69 rfl rfl g11 ?_
  obtain ⟨g12, h⟩ := sx_grd h
  obtain ⟨b13, g14, h⟩ := sx_bnd h
  refine sv_getA (pc := 22) hG dX5_settingCodes_22 f_5_272 g12 rfl g14 ?_
  refine sx_astore_n (pc := 25) (lo' := [(3, .ref b13), (2, .int s0), (0, .ref 69), (1, .int l1)]) dX5_settingCodes_25 (by decide) rfl ?_
  refine sx_iload_n (pc := 26) dX5_settingCodes_26 sx_m3 ?_
  by_cases c15 : l1 = 16
  · have h := sx_pos c15 h
    refine sx_look (pc := 27) (off := 169) (tgt := 196) dX5_settingCodes_27 (by decide) (by rw [c15]; rfl) (by decide) ?_
    refine sx_wk (sx_s1 sx_m2 (sx_s1 sx_m3 (sx_s1 sx_m1 sx_s0))) ?_
    exact tB_X5_settingCodes_196 hG hP  h
  have h := sx_neg c15 h
  by_cases c16 : l1 = 17
  · have h := sx_pos c16 h
    refine sx_look (pc := 27) (off := 169) (tgt := 196) dX5_settingCodes_27 (by decide) (by rw [c16]; rfl) (by decide) ?_
    refine sx_wk (sx_s1 sx_m2 (sx_s1 sx_m3 (sx_s1 sx_m1 sx_s0))) ?_
    exact tB_X5_settingCodes_196 hG hP  h
  have h := sx_neg c16 h
  by_cases c17 : l1 = 18
  · have h := sx_pos c17 h
    refine sx_look (pc := 27) (off := 169) (tgt := 196) dX5_settingCodes_27 (by decide) (by rw [c17]; rfl) (by decide) ?_
    refine sx_wk (sx_s1 sx_m2 (sx_s1 sx_m3 (sx_s1 sx_m1 sx_s0))) ?_
    exact tB_X5_settingCodes_196 hG hP  h
  have h := sx_neg c17 h
  by_cases c18 : l1 = 19
  · have h := sx_pos c18 h
    refine sx_look (pc := 27) (off := 183) (tgt := 210) dX5_settingCodes_27 (by decide) (by rw [c18]; rfl) (by decide) ?_
    refine sx_wk (sx_s1 sx_m2 (sx_s1 sx_m3 (sx_s1 sx_m1 sx_s0))) ?_
    exact tB_X5_settingCodes_210 hG hP  h
  have h := sx_neg c18 h
  by_cases c19 : l1 = 20
  · have h := sx_pos c19 h
    refine sx_look (pc := 27) (off := 183) (tgt := 210) dX5_settingCodes_27 (by decide) (by rw [c19]; rfl) (by decide) ?_
    refine sx_wk (sx_s1 sx_m2 (sx_s1 sx_m3 (sx_s1 sx_m1 sx_s0))) ?_
    exact tB_X5_settingCodes_210 hG hP  h
  have h := sx_neg c19 h
  by_cases c20 : l1 = 21
  · have h := sx_pos c20 h
    refine sx_look (pc := 27) (off := 183) (tgt := 210) dX5_settingCodes_27 (by decide) (by rw [c20]; rfl) (by decide) ?_
    refine sx_wk (sx_s1 sx_m2 (sx_s1 sx_m3 (sx_s1 sx_m1 sx_s0))) ?_
    exact tB_X5_settingCodes_210 hG hP  h
  have h := sx_neg c20 h
  by_cases c21 : l1 = 22
  · have h := sx_pos c21 h
    refine sx_look (pc := 27) (off := 183) (tgt := 210) dX5_settingCodes_27 (by decide) (by rw [c21]; rfl) (by decide) ?_
    refine sx_wk (sx_s1 sx_m2 (sx_s1 sx_m3 (sx_s1 sx_m1 sx_s0))) ?_
    exact tB_X5_settingCodes_210 hG hP  h
  have h := sx_neg c21 h
  by_cases c22 : l1 = 23
  · have h := sx_pos c22 h
    refine sx_look (pc := 27) (off := 190) (tgt := 217) dX5_settingCodes_27 (by decide) (by rw [c22]; rfl) (by decide) ?_
    refine sx_aload_n (pc := 217) dX5_settingCodes_217 sx_m2 ?_
    refine sx_iload_n (pc := 218) dX5_settingCodes_218 sx_m1 ?_
    obtain ⟨V23, g24, h⟩ := sx_bnd h
    refine sv_cV (pc := 219) (y := qX5_setLoop) (o := none) (as := [.int s0]) (V1 := V23) hG dX5_settingCodes_219 l_X5_281 y0X5_setLoop yvX5_setLoop rfl (Nat.le_of_ble_eq_true rfl) lay_69 kr_5 (by decide) (Nat.le_of_ble_eq_true rfl) rfl rfl rfl (t_X5_setLoop hG ⟨rfl, rfl⟩ g24) ?_
    exact sv_vret (pc := 222) dX5_settingCodes_222 rfl h hP
  have h := sx_neg c22 h
  by_cases c25 : l1 = 26
  · have h := sx_pos c25 h
    refine sx_look (pc := 27) (off := 196) (tgt := 223) dX5_settingCodes_27 (by decide) (by rw [c25]; rfl) (by decide) ?_
    refine sx_aload_n (pc := 223) dX5_settingCodes_223 sx_m0 ?_
    refine sx_iconst (pc := 224) (v := 3) dX5_settingCodes_224 (by decide) ?_
    refine sx_iload_n (pc := 225) dX5_settingCodes_225 sx_m1 ?_
    obtain ⟨n26, g27, h⟩ := sx_bnd h
    obtain ⟨g28, h⟩ := sx_grd h
    obtain ⟨V29, hV29⟩ : ∃ z : sv_V, z = sv_I V b13 (3 : Int32).toNatClampNeg s0 := ⟨_, rfl⟩
    have h := sx_letE hV29 h
    refine sv_iast (pc := 226) hG dX5_settingCodes_226 (sv_len_e g27) g28 hV29 ?_
    exact sv_vret (pc := 227) dX5_settingCodes_227 rfl h hP
  have h := sx_neg c25 h
  by_cases c30 : l1 = 29
  · have h := sx_pos c30 h
    refine sx_look (pc := 27) (off := 201) (tgt := 228) dX5_settingCodes_27 (by decide) (by rw [c30]; rfl) (by decide) ?_
    refine sx_aload_n (pc := 228) dX5_settingCodes_228 sx_m0 ?_
    refine sx_iconst (pc := 229) (v := 0) dX5_settingCodes_229 (by decide) ?_
    refine sx_iload_n (pc := 230) dX5_settingCodes_230 sx_m1 ?_
    obtain ⟨n31, g32, h⟩ := sx_bnd h
    obtain ⟨g33, h⟩ := sx_grd h
    obtain ⟨V34, hV34⟩ : ∃ z : sv_V, z = sv_I V b13 (0 : Int32).toNatClampNeg s0 := ⟨_, rfl⟩
    have h := sx_letE hV34 h
    refine sv_iast (pc := 231) hG dX5_settingCodes_231 (sv_len_e g32) g33 hV34 ?_
    exact sv_vret (pc := 232) dX5_settingCodes_232 rfl h hP
  have h := sx_neg c30 h
  by_cases c35 : l1 = 30
  · have h := sx_pos c35 h
    refine sx_look (pc := 27) (off := 206) (tgt := 233) dX5_settingCodes_27 (by decide) (by rw [c35]; rfl) (by decide) ?_
    refine sx_aload_n (pc := 233) dX5_settingCodes_233 sx_m0 ?_
    refine sx_iconst (pc := 234) (v := 2) dX5_settingCodes_234 (by decide) ?_
    refine sx_iload_n (pc := 235) dX5_settingCodes_235 sx_m1 ?_
    obtain ⟨n36, g37, h⟩ := sx_bnd h
    obtain ⟨g38, h⟩ := sx_grd h
    obtain ⟨V39, hV39⟩ : ∃ z : sv_V, z = sv_I V b13 (2 : Int32).toNatClampNeg s0 := ⟨_, rfl⟩
    have h := sx_letE hV39 h
    refine sv_iast (pc := 236) hG dX5_settingCodes_236 (sv_len_e g37) g38 hV39 ?_
    exact sv_vret (pc := 237) dX5_settingCodes_237 rfl h hP
  have h := sx_neg c35 h
  by_cases c40 : l1 = 31
  · have h := sx_pos c40 h
    refine sx_look (pc := 27) (off := 211) (tgt := 238) dX5_settingCodes_27 (by decide) (by rw [c40]; rfl) (by decide) ?_
    refine sx_aload_n (pc := 238) dX5_settingCodes_238 sx_m0 ?_
    refine sx_iconst (pc := 239) (v := 1) dX5_settingCodes_239 (by decide) ?_
    refine sx_aload_n (pc := 240) dX5_settingCodes_240 sx_m2 ?_
    refine sx_iload_n (pc := 241) dX5_settingCodes_241 sx_m1 ?_
    refine sx_i2l (pc := 242) dX5_settingCodes_242 ?_
    obtain ⟨⟨x43, V41⟩, g42, h⟩ := sx_bnd h
    refine sv_cV (pc := 243) (y := qX5_scaled) (o := (some (.long x43))) (as := [.long s0.toInt64]) (V1 := V41) hG dX5_settingCodes_243 l_X5_284 y0X5_scaled yvX5_scaled rfl (Nat.le_of_ble_eq_true rfl) lay_69 kr_5 (by decide) (Nat.le_of_ble_eq_true rfl) rfl rfl rfl (t_X5_scaled hG ⟨rfl, rfl⟩ g42) ?_
    refine sx_l2i (pc := 246) dX5_settingCodes_246 ?_
    obtain ⟨n44, g45, h⟩ := sx_bnd h
    obtain ⟨g46, h⟩ := sx_grd h
    obtain ⟨V47, hV47⟩ : ∃ z : sv_V, z = sv_I V41 b13 (1 : Int32).toNatClampNeg x43.toInt32 := ⟨_, rfl⟩
    have h := sx_letE hV47 h
    refine sv_iast (pc := 247) hG dX5_settingCodes_247 (sv_len_e g45) g46 hV47 ?_
    exact sv_vret (pc := 248) dX5_settingCodes_248 rfl h hP
  have h := sx_neg c40 h
  by_cases c48 : l1 = 77
  · have h := sx_pos c48 h
    refine sx_look (pc := 27) (off := 222) (tgt := 249) dX5_settingCodes_27 (by decide) (by rw [c48]; rfl) (by decide) ?_
    refine sx_aload_n (pc := 249) dX5_settingCodes_249 sx_m0 ?_
    refine sx_iconst (pc := 250) (v := 4) dX5_settingCodes_250 (by decide) ?_
    refine sx_iconst (pc := 251) (v := 1) dX5_settingCodes_251 (by decide) ?_
    obtain ⟨n49, g50, h⟩ := sx_bnd h
    obtain ⟨g51, h⟩ := sx_grd h
    obtain ⟨V52, hV52⟩ : ∃ z : sv_V, z = sv_I V b13 (4 : Int32).toNatClampNeg (1 : Int32) := ⟨_, rfl⟩
    have h := sx_letE hV52 h
    refine sv_iast (pc := 252) hG dX5_settingCodes_252 (sv_len_e g50) g51 hV52 ?_
    exact sv_vret (pc := 253) dX5_settingCodes_253 rfl h hP
  have h := sx_neg c48 h
  by_cases c53 : l1 = 78
  · have h := sx_pos c53 h
    refine sx_look (pc := 27) (off := 227) (tgt := 254) dX5_settingCodes_27 (by decide) (by rw [c53]; rfl) (by decide) ?_
    refine sx_aload_n (pc := 254) dX5_settingCodes_254 sx_m0 ?_
    refine sx_iconst (pc := 255) (v := 4) dX5_settingCodes_255 (by decide) ?_
    refine sx_iconst (pc := 256) (v := 0) dX5_settingCodes_256 (by decide) ?_
    obtain ⟨n54, g55, h⟩ := sx_bnd h
    obtain ⟨g56, h⟩ := sx_grd h
    obtain ⟨V57, hV57⟩ : ∃ z : sv_V, z = sv_I V b13 (4 : Int32).toNatClampNeg (0 : Int32) := ⟨_, rfl⟩
    have h := sx_letE hV57 h
    refine sv_iast (pc := 257) hG dX5_settingCodes_257 (sv_len_e g55) g56 hV57 ?_
    exact sv_vret (pc := 258) dX5_settingCodes_258 rfl h hP
  have h := sx_neg c53 h
  by_cases c58 : l1 = 94
  · have h := sx_pos c58 h
    refine sx_look (pc := 27) (off := 232) (tgt := 259) dX5_settingCodes_27 (by decide) (by rw [c58]; rfl) (by decide) ?_
    refine sx_aload_n (pc := 259) dX5_settingCodes_259 sx_m0 ?_
    refine sx_iconst (pc := 260) (v := 5) dX5_settingCodes_260 (by decide) ?_
    refine sx_iload_n (pc := 261) dX5_settingCodes_261 sx_m1 ?_
    obtain ⟨n59, g60, h⟩ := sx_bnd h
    obtain ⟨g61, h⟩ := sx_grd h
    obtain ⟨V62, hV62⟩ : ∃ z : sv_V, z = sv_I V b13 (5 : Int32).toNatClampNeg s0 := ⟨_, rfl⟩
    have h := sx_letE hV62 h
    refine sv_iast (pc := 262) hG dX5_settingCodes_262 (sv_len_e g60) g61 hV62 ?_
    exact sv_vret (pc := 263) dX5_settingCodes_263 rfl h hP
  have h := sx_neg c58 h
  by_cases c63 : l1 = 95
  · have h := sx_pos c63 h
    refine sx_look (pc := 27) (off := 237) (tgt := 264) dX5_settingCodes_27 (by decide) (by rw [c63]; rfl) (by decide) ?_
    refine sx_aload_n (pc := 264) dX5_settingCodes_264 sx_m2 ?_
    refine sx_iload_n (pc := 265) dX5_settingCodes_265 sx_m1 ?_
    obtain ⟨V64, g65, h⟩ := sx_bnd h
    refine sv_cV (pc := 266) (y := qX5_setShift) (o := none) (as := [.int s0]) (V1 := V64) hG dX5_settingCodes_266 l_X5_288 y0X5_setShift yvX5_setShift rfl (Nat.le_of_ble_eq_true rfl) lay_69 kr_5 (by decide) (Nat.le_of_ble_eq_true rfl) rfl rfl rfl (t_X5_setShift hG ⟨rfl, rfl⟩ g65) ?_
    exact sv_vret (pc := 269) dX5_settingCodes_269 rfl h hP
  have h := sx_neg c63 h
  by_cases c66 : l1 = 118
  · have h := sx_pos c66 h
    refine sx_look (pc := 27) (off := 243) (tgt := 270) dX5_settingCodes_27 (by decide) (by rw [c66]; rfl) (by decide) ?_
    refine sx_wk (sx_s1 sx_m2 (sx_s1 sx_m3 (sx_s1 sx_m1 sx_s0))) ?_
    exact tB_X5_settingCodes_270 hG hP  h
  have h := sx_neg c66 h
  by_cases c67 : l1 = 119
  · have h := sx_pos c67 h
    refine sx_look (pc := 27) (off := 243) (tgt := 270) dX5_settingCodes_27 (by decide) (by rw [c67]; rfl) (by decide) ?_
    refine sx_wk (sx_s1 sx_m2 (sx_s1 sx_m3 (sx_s1 sx_m1 sx_s0))) ?_
    exact tB_X5_settingCodes_270 hG hP  h
  have h := sx_neg c67 h
  by_cases c68 : l1 = 133
  · have h := sx_pos c68 h
    refine sx_look (pc := 27) (off := 262) (tgt := 289) dX5_settingCodes_27 (by decide) (by rw [c68]; rfl) (by decide) ?_
    refine sx_aload_n (pc := 289) dX5_settingCodes_289 sx_m0 ?_
    refine sx_bipush (pc := 290) (v := 7) dX5_settingCodes_290 (by decide) ?_
    refine sx_iload_n (pc := 292) dX5_settingCodes_292 sx_m1 ?_
    obtain ⟨n69, g70, h⟩ := sx_bnd h
    obtain ⟨g71, h⟩ := sx_grd h
    obtain ⟨V72, hV72⟩ : ∃ z : sv_V, z = sv_I V b13 (7 : Int32).toNatClampNeg s0 := ⟨_, rfl⟩
    have h := sx_letE hV72 h
    refine sv_iast (pc := 293) hG dX5_settingCodes_293 (sv_len_e g70) g71 hV72 ?_
    exact sv_vret (pc := 294) dX5_settingCodes_294 rfl h hP
  have h := sx_neg c68 h
  by_cases c73 : l1 = 141
  · have h := sx_pos c73 h
    refine sx_look (pc := 27) (off := 268) (tgt := 295) dX5_settingCodes_27 (by decide) (by rw [c73]; rfl) (by decide) ?_
    refine sx_aload_n (pc := 295) dX5_settingCodes_295 sx_m0 ?_
    refine sx_bipush (pc := 296) (v := 8) dX5_settingCodes_296 (by decide) ?_
    refine sx_iload_n (pc := 298) dX5_settingCodes_298 sx_m1 ?_
    obtain ⟨n74, g75, h⟩ := sx_bnd h
    obtain ⟨g76, h⟩ := sx_grd h
    obtain ⟨V77, hV77⟩ : ∃ z : sv_V, z = sv_I V b13 (8 : Int32).toNatClampNeg s0 := ⟨_, rfl⟩
    have h := sx_letE hV77 h
    refine sv_iast (pc := 299) hG dX5_settingCodes_299 (sv_len_e g75) g76 hV77 ?_
    exact sv_vret (pc := 300) dX5_settingCodes_300 rfl h hP
  have h := sx_neg c73 h
  refine sx_look (pc := 27) (off := 274) (tgt := 301) dX5_settingCodes_27 (by decide) (by show Op.lookupswitch.offset [(16, 169), (17, 169), (18, 169), (19, 183), (20, 183), (21, 183), (22, 183), (23, 190), (26, 196), (29, 201), (30, 206), (31, 211), (77, 222), (78, 227), (94, 232), (95, 237), (118, 243), (119, 243), (133, 262), (141, 268)] 274 l1.toInt = 274; rw [lv_osw (a := 16) c15 rfl, lv_osw (a := 17) c16 rfl, lv_osw (a := 18) c17 rfl, lv_osw (a := 19) c18 rfl, lv_osw (a := 20) c19 rfl, lv_osw (a := 21) c20 rfl, lv_osw (a := 22) c21 rfl, lv_osw (a := 23) c22 rfl, lv_osw (a := 26) c25 rfl, lv_osw (a := 29) c30 rfl, lv_osw (a := 30) c35 rfl, lv_osw (a := 31) c40 rfl, lv_osw (a := 77) c48 rfl, lv_osw (a := 78) c53 rfl, lv_osw (a := 94) c58 rfl, lv_osw (a := 95) c63 rfl, lv_osw (a := 118) c66 rfl, lv_osw (a := 119) c67 rfl, lv_osw (a := 133) c68 rfl, lv_osw (a := 141) c73 rfl]; rfl) (by decide) ?_
  refine sx_aload_n (pc := 301) dX5_settingCodes_301 sx_m2 ?_
  refine sv_getO (pc := 302) hG dX5_settingCodes_302 f_5_12 lay_69 rfl cr_69_1 ?_
  refine sx_iload_n (pc := 305) dX5_settingCodes_305 sx_m3 ?_
  obtain ⟨V78, g79, h⟩ := sx_bnd h
  refine sv_cV (pc := 306) (y := qX9_roundBy) (o := none) (as := [.int l1]) (V1 := V78) hG dX5_settingCodes_306 l_X5_295 y0X9_roundBy yvX9_roundBy rfl (Nat.le_of_ble_eq_true rfl) lay_70 kr_9 (by decide) (Nat.le_of_ble_eq_true rfl) rfl rfl rfl (t_X9_roundBy hG ⟨rfl, rfl⟩ g79) ?_
  exact sv_vret (pc := 309) dX5_settingCodes_309 rfl h hP
def F_X5_settingCodes (N : Nat) (l1 : Int32) (V : sv_V) : Option sv_V := if sx_in l1 256 = true then if (V.1 1006 l1.toNatClampNeg) = (1 : Int32) then ((F_X5_pop  V).bind (fun (x84, V82) => B_X5_settingCodes_17 N  l1 x84 V82)) else (B_X5_settingCodes_17 N  l1 (0 : Int32) V) else none
set_option maxRecDepth 20000 in
theorem t_X5_settingCodes {g : sx_G} (hG : sx_Go g) {P : Option Value → sv_V → Prop} {Vr : sv_V} (hP : P none Vr) {N : Nat} {l1 : Int32} {V : sv_V} (h : F_X5_settingCodes N l1 V = some Vr) : sv_N g qX5_settingCodes 2 0 [(0, .ref 69), (1, .int l1)] [] V P := by
  unfold F_X5_settingCodes at h
  refine sv_getS (pc := 0) (j := 5) dX5_settingCodes_0 rfl n_X5_160 ?_
  refine sx_iload_n (pc := 3) dX5_settingCodes_3 sx_m1 ?_
  obtain ⟨g80, h⟩ := sx_grd h
  refine sv_xld (pc := 4) hG dX5_settingCodes_4 lay_1006 g80 ?_
  refine sx_iconst (pc := 5) (v := 1) dX5_settingCodes_5 (by decide) ?_
  refine sx_icmp_ne (pc := 6) (tgt := 16) dX5_settingCodes_6 (by decide) (fun c81 => ?_) (fun c81 => ?_)
  · have h := sx_neg c81 h
    refine sx_iconst (pc := 16) (v := 0) dX5_settingCodes_16 (by decide) ?_
    refine sx_wk (sx_s1 sx_m0 (sx_s1 sx_m1 sx_s0)) ?_
    exact tB_X5_settingCodes_17 hG hP  h
  · have h := sx_pos c81 h
    refine sx_aload_n (pc := 9) dX5_settingCodes_9 sx_m0 ?_
    obtain ⟨⟨x84, V82⟩, g83, h⟩ := sx_bnd h
    refine sv_cV (pc := 10) (y := qX5_pop) (o := (some (.int x84))) (as := []) (V1 := V82) hG dX5_settingCodes_10 l_X5_242 y0X5_pop yvX5_pop rfl (Nat.le_of_ble_eq_true rfl) lay_69 kr_5 (by decide) (Nat.le_of_ble_eq_true rfl) rfl rfl rfl (t_X5_pop hG ⟨rfl, rfl⟩ g83) ?_
    refine sx_goto (pc := 13) (tgt := 17) dX5_settingCodes_13 (by decide) ?_
    refine sx_wk (sx_s1 sx_m0 (sx_s1 sx_m1 sx_s0)) ?_
    exact tB_X5_settingCodes_17 hG hP  h
theorem dX5_jumpIf_0 : decode cX5_jumpIf 0 = .ok (.aload_n 0, 1) := by decide +kernel
theorem dX5_jumpIf_1 : decode cX5_jumpIf 1 = .ok (.invokevirtual 242, 3) := by decide +kernel
theorem dX5_jumpIf_4 : decode cX5_jumpIf 4 = .ok (.ifCond .eq 7, 3) := by decide +kernel
theorem dX5_jumpIf_7 : decode cX5_jumpIf 7 = .ok (.iconst 1, 1) := by decide +kernel
theorem dX5_jumpIf_8 : decode cX5_jumpIf 8 = .ok (.goto 4, 3) := by decide +kernel
theorem dX5_jumpIf_11 : decode cX5_jumpIf 11 = .ok (.iconst 0, 1) := by decide +kernel
theorem dX5_jumpIf_12 : decode cX5_jumpIf 12 = .ok (.istore_n 2, 1) := by decide +kernel
theorem dX5_jumpIf_13 : decode cX5_jumpIf 13 = .ok (.aload_n 0, 1) := by decide +kernel
theorem dX5_jumpIf_14 : decode cX5_jumpIf 14 = .ok (.invokevirtual 242, 3) := by decide +kernel
theorem dX5_jumpIf_17 : decode cX5_jumpIf 17 = .ok (.istore_n 3, 1) := by decide +kernel
theorem dX5_jumpIf_18 : decode cX5_jumpIf 18 = .ok (.iload_n 2, 1) := by decide +kernel
theorem dX5_jumpIf_19 : decode cX5_jumpIf 19 = .ok (.iload_n 1, 1) := by decide +kernel
theorem dX5_jumpIf_20 : decode cX5_jumpIf 20 = .ok (.if_icmp .ne 8, 3) := by decide +kernel
theorem dX5_jumpIf_23 : decode cX5_jumpIf 23 = .ok (.aload_n 0, 1) := by decide +kernel
theorem dX5_jumpIf_24 : decode cX5_jumpIf 24 = .ok (.iload_n 3, 1) := by decide +kernel
theorem dX5_jumpIf_25 : decode cX5_jumpIf 25 = .ok (.invokevirtual 306, 3) := by decide +kernel
theorem dX5_jumpIf_28 : decode cX5_jumpIf 28 = .ok (.return_, 1) := by decide +kernel
def B_X5_jumpIf_12  (l1 : Int32) (s0 : Int32) (V : sv_V) : Option sv_V := (F_X5_pop  V).bind (fun (x3, V1) => if s0 = l1 then ((F_X5_jump x3 V1).bind (fun V5 => some V5)) else (some V1))
set_option maxRecDepth 20000 in
theorem tB_X5_jumpIf_12 {g : sx_G} (hG : sx_Go g) {P : Option Value → sv_V → Prop} {Vr : sv_V} (hP : P none Vr)   {l1 : Int32} {s0 : Int32} {V : sv_V} (h : B_X5_jumpIf_12  l1 s0 V = some Vr) : sv_N g qX5_jumpIf 1 12 [(0, .ref 69), (1, .int l1)] [.int s0] V P := by
  unfold B_X5_jumpIf_12 at h
  refine sx_istore_n (pc := 12) (lo' := [(2, .int s0), (0, .ref 69), (1, .int l1)]) dX5_jumpIf_12 (by decide) rfl ?_
  refine sx_aload_n (pc := 13) dX5_jumpIf_13 sx_m1 ?_
  obtain ⟨⟨x3, V1⟩, g2, h⟩ := sx_bnd h
  refine sv_cV (pc := 14) (y := qX5_pop) (o := (some (.int x3))) (as := []) (V1 := V1) hG dX5_jumpIf_14 l_X5_242 y0X5_pop yvX5_pop rfl (Nat.le_of_ble_eq_true rfl) lay_69 kr_5 (by decide) (Nat.le_of_ble_eq_true rfl) rfl rfl rfl (t_X5_pop hG ⟨rfl, rfl⟩ g2) ?_
  refine sx_istore_n (pc := 17) (lo' := [(3, .int x3), (2, .int s0), (0, .ref 69), (1, .int l1)]) dX5_jumpIf_17 (by decide) rfl ?_
  refine sx_iload_n (pc := 18) dX5_jumpIf_18 sx_m1 ?_
  refine sx_iload_n (pc := 19) dX5_jumpIf_19 sx_m3 ?_
  refine sx_icmp_ne (pc := 20) (tgt := 28) dX5_jumpIf_20 (by decide) (fun c4 => ?_) (fun c4 => ?_)
  · have h := sx_neg c4 h
    exact sv_vret (pc := 28) dX5_jumpIf_28 rfl h hP
  · have h := sx_pos c4 h
    refine sx_aload_n (pc := 23) dX5_jumpIf_23 sx_m2 ?_
    refine sx_iload_n (pc := 24) dX5_jumpIf_24 sx_m0 ?_
    obtain ⟨V5, g6, h⟩ := sx_bnd h
    refine sv_cV (pc := 25) (y := qX5_jump) (o := none) (as := [.int x3]) (V1 := V5) hG dX5_jumpIf_25 l_X5_306 y0X5_jump yvX5_jump rfl (Nat.le_of_ble_eq_true rfl) lay_69 kr_5 (by decide) (Nat.le_of_ble_eq_true rfl) rfl rfl rfl (t_X5_jump hG ⟨rfl, rfl⟩ g6) ?_
    exact sv_vret (pc := 28) dX5_jumpIf_28 rfl h hP
def F_X5_jumpIf (l1 : Int32) (V : sv_V) : Option sv_V := (F_X5_pop  V).bind (fun (x9, V7) => if x9 = 0 then (B_X5_jumpIf_12  l1 (0 : Int32) V7) else (B_X5_jumpIf_12  l1 (1 : Int32) V7))
set_option maxRecDepth 20000 in
theorem t_X5_jumpIf {g : sx_G} (hG : sx_Go g) {P : Option Value → sv_V → Prop} {Vr : sv_V} (hP : P none Vr) {l1 : Int32} {V : sv_V} (h : F_X5_jumpIf l1 V = some Vr) : sv_N g qX5_jumpIf 1 0 [(0, .ref 69), (1, .int l1)] [] V P := by
  unfold F_X5_jumpIf at h
  refine sx_aload_n (pc := 0) dX5_jumpIf_0 sx_m0 ?_
  obtain ⟨⟨x9, V7⟩, g8, h⟩ := sx_bnd h
  refine sv_cV (pc := 1) (y := qX5_pop) (o := (some (.int x9))) (as := []) (V1 := V7) hG dX5_jumpIf_1 l_X5_242 y0X5_pop yvX5_pop rfl (Nat.le_of_ble_eq_true rfl) lay_69 kr_5 (by decide) (Nat.le_of_ble_eq_true rfl) rfl rfl rfl (t_X5_pop hG ⟨rfl, rfl⟩ g8) ?_
  refine sx_if_eq (pc := 4) (tgt := 11) dX5_jumpIf_4 (by decide) (fun c10 => ?_) (fun c10 => ?_)
  · have h := sx_pos c10 h
    refine sx_iconst (pc := 11) (v := 0) dX5_jumpIf_11 (by decide) ?_
    refine sx_wk (sx_s1 sx_m0 (sx_s1 sx_m1 sx_s0)) ?_
    exact tB_X5_jumpIf_12 hG hP  h
  · have h := sx_neg c10 h
    refine sx_iconst (pc := 7) (v := 1) dX5_jumpIf_7 (by decide) ?_
    refine sx_goto (pc := 8) (tgt := 12) dX5_jumpIf_8 (by decide) ?_
    refine sx_wk (sx_s1 sx_m0 (sx_s1 sx_m1 sx_s0)) ?_
    exact tB_X5_jumpIf_12 hG hP  h
theorem dX5_noteFunction_0 : decode cX5_noteFunction 0 = .ok (.aload_n 0, 1) := by decide +kernel
theorem dX5_noteFunction_1 : decode cX5_noteFunction 1 = .ok (.invokevirtual 242, 3) := by decide +kernel
theorem dX5_noteFunction_4 : decode cX5_noteFunction 4 = .ok (.istore_n 1, 1) := by decide +kernel
theorem dX5_noteFunction_5 : decode cX5_noteFunction 5 = .ok (.aload_n 0, 1) := by decide +kernel
theorem dX5_noteFunction_6 : decode cX5_noteFunction 6 = .ok (.invokevirtual 333, 3) := by decide +kernel
theorem dX5_noteFunction_9 : decode cX5_noteFunction 9 = .ok (.ifCond .ne 11, 3) := by decide +kernel
theorem dX5_noteFunction_12 : decode cX5_noteFunction 12 = .ok (.aload_n 0, 1) := by decide +kernel
theorem dX5_noteFunction_13 : decode cX5_noteFunction 13 = .ok (.iconst 3, 1) := by decide +kernel
theorem dX5_noteFunction_14 : decode cX5_noteFunction 14 = .ok (.putfield 56, 3) := by decide +kernel
theorem dX5_noteFunction_17 : decode cX5_noteFunction 17 = .ok (.goto 34, 3) := by decide +kernel
theorem dX5_noteFunction_20 : decode cX5_noteFunction 20 = .ok (.iload_n 1, 1) := by decide +kernel
theorem dX5_noteFunction_21 : decode cX5_noteFunction 21 = .ok (.ifCond .lt 16, 3) := by decide +kernel
theorem dX5_noteFunction_24 : decode cX5_noteFunction 24 = .ok (.iload_n 1, 1) := by decide +kernel
theorem dX5_noteFunction_25 : decode cX5_noteFunction 25 = .ok (.aload_n 0, 1) := by decide +kernel
theorem dX5_noteFunction_26 : decode cX5_noteFunction 26 = .ok (.getfield 45, 3) := by decide +kernel
theorem dX5_noteFunction_29 : decode cX5_noteFunction 29 = .ok (.getfield 166, 3) := by decide +kernel
theorem dX5_noteFunction_32 : decode cX5_noteFunction 32 = .ok (.iconst 3, 1) := by decide +kernel
theorem dX5_noteFunction_33 : decode cX5_noteFunction 33 = .ok (.iaload, 1) := by decide +kernel
theorem dX5_noteFunction_34 : decode cX5_noteFunction 34 = .ok (.if_icmp .lt 12, 3) := by decide +kernel
theorem dX5_noteFunction_37 : decode cX5_noteFunction 37 = .ok (.aload_n 0, 1) := by decide +kernel
theorem dX5_noteFunction_38 : decode cX5_noteFunction 38 = .ok (.bipush 6, 2) := by decide +kernel
theorem dX5_noteFunction_40 : decode cX5_noteFunction 40 = .ok (.putfield 56, 3) := by decide +kernel
theorem dX5_noteFunction_43 : decode cX5_noteFunction 43 = .ok (.goto 8, 3) := by decide +kernel
theorem dX5_noteFunction_46 : decode cX5_noteFunction 46 = .ok (.aload_n 0, 1) := by decide +kernel
theorem dX5_noteFunction_47 : decode cX5_noteFunction 47 = .ok (.iload_n 1, 1) := by decide +kernel
theorem dX5_noteFunction_48 : decode cX5_noteFunction 48 = .ok (.invokevirtual 336, 3) := by decide +kernel
theorem dX5_noteFunction_51 : decode cX5_noteFunction 51 = .ok (.aload_n 0, 1) := by decide +kernel
theorem dX5_noteFunction_52 : decode cX5_noteFunction 52 = .ok (.getfield 56, 3) := by decide +kernel
theorem dX5_noteFunction_55 : decode cX5_noteFunction 55 = .ok (.ifCond .ne 7, 3) := by decide +kernel
theorem dX5_noteFunction_58 : decode cX5_noteFunction 58 = .ok (.iconst 1, 1) := by decide +kernel
theorem dX5_noteFunction_59 : decode cX5_noteFunction 59 = .ok (.goto 4, 3) := by decide +kernel
theorem dX5_noteFunction_62 : decode cX5_noteFunction 62 = .ok (.iconst 0, 1) := by decide +kernel
theorem dX5_noteFunction_63 : decode cX5_noteFunction 63 = .ok (.ireturn, 1) := by decide +kernel
def B_X5_noteFunction_51   (V : sv_V) : Option (Int32 × sv_V) := if (V.1 69 14) = 0 then (some ((1 : Int32), V)) else (some ((0 : Int32), V))
set_option maxRecDepth 20000 in
theorem tB_X5_noteFunction_51 {g : sx_G} (hG : sx_Go g) {P : Option Value → sv_V → Prop} {r : Int32} {Vr : sv_V} (hP : P (some (.int r)) Vr)    {V : sv_V} (h : B_X5_noteFunction_51   V = some (r, Vr)) : sv_N g qX5_noteFunction 1 51 [(0, .ref 69)] [] V P := by
  unfold B_X5_noteFunction_51 at h
  refine sx_aload_n (pc := 51) dX5_noteFunction_51 sx_m0 ?_
  refine sv_getI (pc := 52) hG dX5_noteFunction_52 f_5_56 lay_69 rfl ?_
  refine sx_if_ne (pc := 55) (tgt := 62) dX5_noteFunction_55 (by decide) (fun c1 => ?_) (fun c1 => ?_)
  · have h := sx_neg c1 h
    refine sx_iconst (pc := 62) (v := 0) dX5_noteFunction_62 (by decide) ?_
    exact sv_zret (pc := 63) dX5_noteFunction_63 rfl rfl h hP
  · have h := sx_pos c1 h
    refine sx_iconst (pc := 58) (v := 1) dX5_noteFunction_58 (by decide) ?_
    refine sx_goto (pc := 59) (tgt := 63) dX5_noteFunction_59 (by decide) ?_
    exact sv_zret (pc := 63) dX5_noteFunction_63 rfl rfl h hP
def B_X5_noteFunction_37   (V : sv_V) : Option (Int32 × sv_V) := sx_let (sv_I V 69 14 (6 : Int32)) (fun V2 => B_X5_noteFunction_51   V2)
set_option maxRecDepth 20000 in
theorem tB_X5_noteFunction_37 {g : sx_G} (hG : sx_Go g) {P : Option Value → sv_V → Prop} {r : Int32} {Vr : sv_V} (hP : P (some (.int r)) Vr)    {V : sv_V} (h : B_X5_noteFunction_37   V = some (r, Vr)) : sv_N g qX5_noteFunction 1 37 [(0, .ref 69)] [] V P := by
  unfold B_X5_noteFunction_37 at h
  refine sx_aload_n (pc := 37) dX5_noteFunction_37 sx_m0 ?_
  refine sx_bipush (pc := 38) (v := 6) dX5_noteFunction_38 (by decide) ?_
  obtain ⟨V2, hV2⟩ : ∃ z : sv_V, z = sv_I V 69 14 (6 : Int32) := ⟨_, rfl⟩
  have h := sx_letE hV2 h
  refine sv_putI (pc := 40) hG dX5_noteFunction_40 f_5_56 lay_69 rfl hV2 ?_
  refine sx_goto (pc := 43) (tgt := 51) dX5_noteFunction_43 (by decide) ?_
  refine sx_wk (sx_s1 sx_m0 sx_s0) ?_
  exact tB_X5_noteFunction_51 hG hP  h
def F_X5_noteFunction  (V : sv_V) : Option (Int32 × sv_V) := (F_X5_pop  V).bind (fun (x5, V3) => (F_X5_isDefining  V3).bind (fun (x8, V6) => if x8 = 0 then (sx_let (sv_I V6 69 14 (3 : Int32)) (fun V14 => B_X5_noteFunction_51   V14)) else (if x5 < 0 then (B_X5_noteFunction_37   V6) else (if x5 < (V6.1 6 (3 : Int32).toNatClampNeg) then ((F_X5_noteRoutine x5 V6).bind (fun V12 => B_X5_noteFunction_51   V12)) else (B_X5_noteFunction_37   V6)))))
set_option maxRecDepth 20000 in
theorem t_X5_noteFunction {g : sx_G} (hG : sx_Go g) {P : Option Value → sv_V → Prop} {r : Int32} {Vr : sv_V} (hP : P (some (.int r)) Vr)  {V : sv_V} (h : F_X5_noteFunction  V = some (r, Vr)) : sv_N g qX5_noteFunction 1 0 [(0, .ref 69)] [] V P := by
  unfold F_X5_noteFunction at h
  refine sx_aload_n (pc := 0) dX5_noteFunction_0 sx_m0 ?_
  obtain ⟨⟨x5, V3⟩, g4, h⟩ := sx_bnd h
  refine sv_cV (pc := 1) (y := qX5_pop) (o := (some (.int x5))) (as := []) (V1 := V3) hG dX5_noteFunction_1 l_X5_242 y0X5_pop yvX5_pop rfl (Nat.le_of_ble_eq_true rfl) lay_69 kr_5 (by decide) (Nat.le_of_ble_eq_true rfl) rfl rfl rfl (t_X5_pop hG ⟨rfl, rfl⟩ g4) ?_
  refine sx_istore_n (pc := 4) (lo' := [(1, .int x5), (0, .ref 69)]) dX5_noteFunction_4 (by decide) rfl ?_
  refine sx_aload_n (pc := 5) dX5_noteFunction_5 sx_m1 ?_
  obtain ⟨⟨x8, V6⟩, g7, h⟩ := sx_bnd h
  refine sv_cV (pc := 6) (y := qX5_isDefining) (o := (some (.int x8))) (as := []) (V1 := V6) hG dX5_noteFunction_6 l_X5_333 y0X5_isDefining yvX5_isDefining rfl (Nat.le_of_ble_eq_true rfl) lay_69 kr_5 (by decide) (Nat.le_of_ble_eq_true rfl) rfl rfl rfl (t_X5_isDefining hG ⟨rfl, rfl⟩ g7) ?_
  refine sx_if_ne (pc := 9) (tgt := 20) dX5_noteFunction_9 (by decide) (fun c9 => ?_) (fun c9 => ?_)
  · have h := sx_neg c9 h
    refine sx_iload_n (pc := 20) dX5_noteFunction_20 sx_m0 ?_
    refine sx_if_lt (pc := 21) (tgt := 37) dX5_noteFunction_21 (by decide) (fun c10 => ?_) (fun c10 => ?_)
    · have h := sx_pos c10 h
      refine sx_wk (sx_s1 sx_m1 sx_s0) ?_
      exact tB_X5_noteFunction_37 hG hP  h
    · have h := sx_neg c10 h
      refine sx_iload_n (pc := 24) dX5_noteFunction_24 sx_m0 ?_
      refine sx_aload_n (pc := 25) dX5_noteFunction_25 sx_m1 ?_
      refine sv_getO (pc := 26) hG dX5_noteFunction_26 f_5_45 lay_69 rfl cr_69_0 ?_
      refine sv_getA (pc := 29) hG dX5_noteFunction_29 f_5_166 lay_2 rfl cr_2_10 ?_
      refine sx_iconst (pc := 32) (v := 3) dX5_noteFunction_32 (by decide) ?_
      refine sv_iald (pc := 33) hG dX5_noteFunction_33 lay_6 (by decide) ?_
      refine sx_icmp_lt (pc := 34) (tgt := 46) dX5_noteFunction_34 (by decide) (fun c11 => ?_) (fun c11 => ?_)
      · have h := sx_pos c11 h
        refine sx_aload_n (pc := 46) dX5_noteFunction_46 sx_m1 ?_
        refine sx_iload_n (pc := 47) dX5_noteFunction_47 sx_m0 ?_
        obtain ⟨V12, g13, h⟩ := sx_bnd h
        refine sv_cV (pc := 48) (y := qX5_noteRoutine) (o := none) (as := [.int x5]) (V1 := V12) hG dX5_noteFunction_48 l_X5_336 y0X5_noteRoutine yvX5_noteRoutine rfl (Nat.le_of_ble_eq_true rfl) lay_69 kr_5 (by decide) (Nat.le_of_ble_eq_true rfl) rfl rfl rfl (t_X5_noteRoutine hG ⟨rfl, rfl⟩ g13) ?_
        refine sx_wk (sx_s1 sx_m1 sx_s0) ?_
        exact tB_X5_noteFunction_51 hG hP  h
      · have h := sx_neg c11 h
        refine sx_wk (sx_s1 sx_m1 sx_s0) ?_
        exact tB_X5_noteFunction_37 hG hP  h
  · have h := sx_pos c9 h
    refine sx_aload_n (pc := 12) dX5_noteFunction_12 sx_m1 ?_
    refine sx_iconst (pc := 13) (v := 3) dX5_noteFunction_13 (by decide) ?_
    obtain ⟨V14, hV14⟩ : ∃ z : sv_V, z = sv_I V6 69 14 (3 : Int32) := ⟨_, rfl⟩
    have h := sx_letE hV14 h
    refine sv_putI (pc := 14) hG dX5_noteFunction_14 f_5_56 lay_69 rfl hV14 ?_
    refine sx_goto (pc := 17) (tgt := 51) dX5_noteFunction_17 (by decide) ?_
    refine sx_wk (sx_s1 sx_m1 sx_s0) ?_
    exact tB_X5_noteFunction_51 hG hP  h
theorem dX5_noteOwnCode_0 : decode cX5_noteOwnCode 0 = .ok (.aload_n 0, 1) := by decide +kernel
theorem dX5_noteOwnCode_1 : decode cX5_noteOwnCode 1 = .ok (.invokevirtual 242, 3) := by decide +kernel
theorem dX5_noteOwnCode_4 : decode cX5_noteOwnCode 4 = .ok (.istore_n 1, 1) := by decide +kernel
theorem dX5_noteOwnCode_5 : decode cX5_noteOwnCode 5 = .ok (.iload_n 1, 1) := by decide +kernel
theorem dX5_noteOwnCode_6 : decode cX5_noteOwnCode 6 = .ok (.invokestatic 339, 3) := by decide +kernel
theorem dX5_noteOwnCode_9 : decode cX5_noteOwnCode 9 = .ok (.istore_n 2, 1) := by decide +kernel
theorem dX5_noteOwnCode_10 : decode cX5_noteOwnCode 10 = .ok (.aload_n 0, 1) := by decide +kernel
theorem dX5_noteOwnCode_11 : decode cX5_noteOwnCode 11 = .ok (.invokevirtual 333, 3) := by decide +kernel
theorem dX5_noteOwnCode_14 : decode cX5_noteOwnCode 14 = .ok (.ifCond .ne 11, 3) := by decide +kernel
theorem dX5_noteOwnCode_17 : decode cX5_noteOwnCode 17 = .ok (.aload_n 0, 1) := by decide +kernel
theorem dX5_noteOwnCode_18 : decode cX5_noteOwnCode 18 = .ok (.iconst 3, 1) := by decide +kernel
theorem dX5_noteOwnCode_19 : decode cX5_noteOwnCode 19 = .ok (.putfield 56, 3) := by decide +kernel
theorem dX5_noteOwnCode_22 : decode cX5_noteOwnCode 22 = .ok (.goto 88, 3) := by decide +kernel
theorem dX5_noteOwnCode_25 : decode cX5_noteOwnCode 25 = .ok (.iload_n 1, 1) := by decide +kernel
theorem dX5_noteOwnCode_26 : decode cX5_noteOwnCode 26 = .ok (.ifCond .lt 10, 3) := by decide +kernel
theorem dX5_noteOwnCode_29 : decode cX5_noteOwnCode 29 = .ok (.iload_n 1, 1) := by decide +kernel
theorem dX5_noteOwnCode_30 : decode cX5_noteOwnCode 30 = .ok (.sipush 255, 3) := by decide +kernel
theorem dX5_noteOwnCode_33 : decode cX5_noteOwnCode 33 = .ok (.if_icmp .le 12, 3) := by decide +kernel
theorem dX5_noteOwnCode_36 : decode cX5_noteOwnCode 36 = .ok (.aload_n 0, 1) := by decide +kernel
theorem dX5_noteOwnCode_37 : decode cX5_noteOwnCode 37 = .ok (.bipush 11, 2) := by decide +kernel
theorem dX5_noteOwnCode_39 : decode cX5_noteOwnCode 39 = .ok (.putfield 56, 3) := by decide +kernel
theorem dX5_noteOwnCode_42 : decode cX5_noteOwnCode 42 = .ok (.goto 68, 3) := by decide +kernel
theorem dX5_noteOwnCode_45 : decode cX5_noteOwnCode 45 = .ok (.aload_n 0, 1) := by decide +kernel
theorem dX5_noteOwnCode_46 : decode cX5_noteOwnCode 46 = .ok (.getfield 21, 3) := by decide +kernel
theorem dX5_noteOwnCode_49 : decode cX5_noteOwnCode 49 = .ok (.iload_n 2, 1) := by decide +kernel
theorem dX5_noteOwnCode_50 : decode cX5_noteOwnCode 50 = .ok (.invokevirtual 342, 3) := by decide +kernel
theorem dX5_noteOwnCode_53 : decode cX5_noteOwnCode 53 = .ok (.ifCond .eq 11, 3) := by decide +kernel
theorem dX5_noteOwnCode_56 : decode cX5_noteOwnCode 56 = .ok (.aload_n 0, 1) := by decide +kernel
theorem dX5_noteOwnCode_57 : decode cX5_noteOwnCode 57 = .ok (.iload_n 2, 1) := by decide +kernel
theorem dX5_noteOwnCode_58 : decode cX5_noteOwnCode 58 = .ok (.invokevirtual 336, 3) := by decide +kernel
theorem dX5_noteOwnCode_61 : decode cX5_noteOwnCode 61 = .ok (.goto 49, 3) := by decide +kernel
theorem dX5_noteOwnCode_64 : decode cX5_noteOwnCode 64 = .ok (.aload_n 0, 1) := by decide +kernel
theorem dX5_noteOwnCode_65 : decode cX5_noteOwnCode 65 = .ok (.getfield 21, 3) := by decide +kernel
theorem dX5_noteOwnCode_68 : decode cX5_noteOwnCode 68 = .ok (.getfield 343, 3) := by decide +kernel
theorem dX5_noteOwnCode_71 : decode cX5_noteOwnCode 71 = .ok (.aload_n 0, 1) := by decide +kernel
theorem dX5_noteOwnCode_72 : decode cX5_noteOwnCode 72 = .ok (.getfield 45, 3) := by decide +kernel
theorem dX5_noteOwnCode_75 : decode cX5_noteOwnCode 75 = .ok (.getfield 166, 3) := by decide +kernel
theorem dX5_noteOwnCode_78 : decode cX5_noteOwnCode 78 = .ok (.iconst 4, 1) := by decide +kernel
theorem dX5_noteOwnCode_79 : decode cX5_noteOwnCode 79 = .ok (.iaload, 1) := by decide +kernel
theorem dX5_noteOwnCode_80 : decode cX5_noteOwnCode 80 = .ok (.if_icmp .lt 12, 3) := by decide +kernel
theorem dX5_noteOwnCode_83 : decode cX5_noteOwnCode 83 = .ok (.aload_n 0, 1) := by decide +kernel
theorem dX5_noteOwnCode_84 : decode cX5_noteOwnCode 84 = .ok (.bipush 6, 2) := by decide +kernel
theorem dX5_noteOwnCode_86 : decode cX5_noteOwnCode 86 = .ok (.putfield 56, 3) := by decide +kernel
theorem dX5_noteOwnCode_89 : decode cX5_noteOwnCode 89 = .ok (.goto 21, 3) := by decide +kernel
theorem dX5_noteOwnCode_92 : decode cX5_noteOwnCode 92 = .ok (.aload_n 0, 1) := by decide +kernel
theorem dX5_noteOwnCode_93 : decode cX5_noteOwnCode 93 = .ok (.getfield 21, 3) := by decide +kernel
theorem dX5_noteOwnCode_96 : decode cX5_noteOwnCode 96 = .ok (.dup, 1) := by decide +kernel
theorem dX5_noteOwnCode_97 : decode cX5_noteOwnCode 97 = .ok (.getfield 343, 3) := by decide +kernel
theorem dX5_noteOwnCode_100 : decode cX5_noteOwnCode 100 = .ok (.iconst 1, 1) := by decide +kernel
theorem dX5_noteOwnCode_101 : decode cX5_noteOwnCode 101 = .ok (.iadd, 1) := by decide +kernel
theorem dX5_noteOwnCode_102 : decode cX5_noteOwnCode 102 = .ok (.putfield 343, 3) := by decide +kernel
theorem dX5_noteOwnCode_105 : decode cX5_noteOwnCode 105 = .ok (.aload_n 0, 1) := by decide +kernel
theorem dX5_noteOwnCode_106 : decode cX5_noteOwnCode 106 = .ok (.iload_n 2, 1) := by decide +kernel
theorem dX5_noteOwnCode_107 : decode cX5_noteOwnCode 107 = .ok (.invokevirtual 336, 3) := by decide +kernel
theorem dX5_noteOwnCode_110 : decode cX5_noteOwnCode 110 = .ok (.aload_n 0, 1) := by decide +kernel
theorem dX5_noteOwnCode_111 : decode cX5_noteOwnCode 111 = .ok (.getfield 56, 3) := by decide +kernel
theorem dX5_noteOwnCode_114 : decode cX5_noteOwnCode 114 = .ok (.ifCond .ne 7, 3) := by decide +kernel
theorem dX5_noteOwnCode_117 : decode cX5_noteOwnCode 117 = .ok (.iconst 1, 1) := by decide +kernel
theorem dX5_noteOwnCode_118 : decode cX5_noteOwnCode 118 = .ok (.goto 4, 3) := by decide +kernel
theorem dX5_noteOwnCode_121 : decode cX5_noteOwnCode 121 = .ok (.iconst 0, 1) := by decide +kernel
theorem dX5_noteOwnCode_122 : decode cX5_noteOwnCode 122 = .ok (.ireturn, 1) := by decide +kernel
def B_X5_noteOwnCode_110   (V : sv_V) : Option (Int32 × sv_V) := if (V.1 69 14) = 0 then (some ((1 : Int32), V)) else (some ((0 : Int32), V))
set_option maxRecDepth 20000 in
theorem tB_X5_noteOwnCode_110 {g : sx_G} (hG : sx_Go g) {P : Option Value → sv_V → Prop} {r : Int32} {Vr : sv_V} (hP : P (some (.int r)) Vr)    {V : sv_V} (h : B_X5_noteOwnCode_110   V = some (r, Vr)) : sv_N g qX5_noteOwnCode 1 110 [(0, .ref 69)] [] V P := by
  unfold B_X5_noteOwnCode_110 at h
  refine sx_aload_n (pc := 110) dX5_noteOwnCode_110 sx_m0 ?_
  refine sv_getI (pc := 111) hG dX5_noteOwnCode_111 f_5_56 lay_69 rfl ?_
  refine sx_if_ne (pc := 114) (tgt := 121) dX5_noteOwnCode_114 (by decide) (fun c1 => ?_) (fun c1 => ?_)
  · have h := sx_neg c1 h
    refine sx_iconst (pc := 121) (v := 0) dX5_noteOwnCode_121 (by decide) ?_
    exact sv_zret (pc := 122) dX5_noteOwnCode_122 rfl rfl h hP
  · have h := sx_pos c1 h
    refine sx_iconst (pc := 117) (v := 1) dX5_noteOwnCode_117 (by decide) ?_
    refine sx_goto (pc := 118) (tgt := 122) dX5_noteOwnCode_118 (by decide) ?_
    exact sv_zret (pc := 122) dX5_noteOwnCode_122 rfl rfl h hP
def B_X5_noteOwnCode_36   (V : sv_V) : Option (Int32 × sv_V) := sx_let (sv_I V 69 14 (11 : Int32)) (fun V2 => B_X5_noteOwnCode_110   V2)
set_option maxRecDepth 20000 in
theorem tB_X5_noteOwnCode_36 {g : sx_G} (hG : sx_Go g) {P : Option Value → sv_V → Prop} {r : Int32} {Vr : sv_V} (hP : P (some (.int r)) Vr)    {V : sv_V} (h : B_X5_noteOwnCode_36   V = some (r, Vr)) : sv_N g qX5_noteOwnCode 1 36 [(0, .ref 69)] [] V P := by
  unfold B_X5_noteOwnCode_36 at h
  refine sx_aload_n (pc := 36) dX5_noteOwnCode_36 sx_m0 ?_
  refine sx_bipush (pc := 37) (v := 11) dX5_noteOwnCode_37 (by decide) ?_
  obtain ⟨V2, hV2⟩ : ∃ z : sv_V, z = sv_I V 69 14 (11 : Int32) := ⟨_, rfl⟩
  have h := sx_letE hV2 h
  refine sv_putI (pc := 39) hG dX5_noteOwnCode_39 f_5_56 lay_69 rfl hV2 ?_
  refine sx_goto (pc := 42) (tgt := 110) dX5_noteOwnCode_42 (by decide) ?_
  refine sx_wk (sx_s1 sx_m0 sx_s0) ?_
  exact tB_X5_noteOwnCode_110 hG hP  h
def F_X5_noteOwnCode  (V : sv_V) : Option (Int32 × sv_V) := (F_X5_pop  V).bind (fun (x5, V3) => (F_X0_ownCode x5 V3).bind (fun (x8, V6) => (F_X5_isDefining  V6).bind (fun (x11, V9) => if x11 = 0 then (sx_let (sv_I V9 69 14 (3 : Int32)) (fun V26 => B_X5_noteOwnCode_110   V26)) else (if x5 < 0 then (B_X5_noteOwnCode_36   V9) else (if x5 ≤ (255 : Int32) then ((F_X0_has x8 V9).bind (fun (x17, V15) => if x17 = 0 then (if (V15.1 73 3) < (V15.1 6 (4 : Int32).toNatClampNeg) then (sx_let (sv_I V15 73 3 ((V15.1 73 3) + (1 : Int32))) (fun V20 => (F_X5_noteRoutine x8 V20).bind (fun V21 => B_X5_noteOwnCode_110   V21))) else (sx_let (sv_I V15 69 14 (6 : Int32)) (fun V23 => B_X5_noteOwnCode_110   V23))) else ((F_X5_noteRoutine x8 V15).bind (fun V24 => B_X5_noteOwnCode_110   V24)))) else (B_X5_noteOwnCode_36   V9))))))
set_option maxRecDepth 20000 in
theorem t_X5_noteOwnCode {g : sx_G} (hG : sx_Go g) {P : Option Value → sv_V → Prop} {r : Int32} {Vr : sv_V} (hP : P (some (.int r)) Vr)  {V : sv_V} (h : F_X5_noteOwnCode  V = some (r, Vr)) : sv_N g qX5_noteOwnCode 1 0 [(0, .ref 69)] [] V P := by
  unfold F_X5_noteOwnCode at h
  refine sx_aload_n (pc := 0) dX5_noteOwnCode_0 sx_m0 ?_
  obtain ⟨⟨x5, V3⟩, g4, h⟩ := sx_bnd h
  refine sv_cV (pc := 1) (y := qX5_pop) (o := (some (.int x5))) (as := []) (V1 := V3) hG dX5_noteOwnCode_1 l_X5_242 y0X5_pop yvX5_pop rfl (Nat.le_of_ble_eq_true rfl) lay_69 kr_5 (by decide) (Nat.le_of_ble_eq_true rfl) rfl rfl rfl (t_X5_pop hG ⟨rfl, rfl⟩ g4) ?_
  refine sx_istore_n (pc := 4) (lo' := [(1, .int x5), (0, .ref 69)]) dX5_noteOwnCode_4 (by decide) rfl ?_
  refine sx_iload_n (pc := 5) dX5_noteOwnCode_5 sx_m0 ?_
  obtain ⟨⟨x8, V6⟩, g7, h⟩ := sx_bnd h
  refine sv_cS (pc := 6) (y := qX0_ownCode) (o := (some (.int x8))) (as := [.int x5]) (V1 := V6) dX5_noteOwnCode_6 l_X5_339 y0X0_ownCode ysX0_ownCode rfl (Nat.le_of_ble_eq_true rfl) (by decide) (Nat.le_of_ble_eq_true rfl) rfl rfl rfl (t_X0_ownCode hG ⟨rfl, rfl⟩ g7) ?_
  refine sx_istore_n (pc := 9) (lo' := [(2, .int x8), (1, .int x5), (0, .ref 69)]) dX5_noteOwnCode_9 (by decide) rfl ?_
  refine sx_aload_n (pc := 10) dX5_noteOwnCode_10 sx_m2 ?_
  obtain ⟨⟨x11, V9⟩, g10, h⟩ := sx_bnd h
  refine sv_cV (pc := 11) (y := qX5_isDefining) (o := (some (.int x11))) (as := []) (V1 := V9) hG dX5_noteOwnCode_11 l_X5_333 y0X5_isDefining yvX5_isDefining rfl (Nat.le_of_ble_eq_true rfl) lay_69 kr_5 (by decide) (Nat.le_of_ble_eq_true rfl) rfl rfl rfl (t_X5_isDefining hG ⟨rfl, rfl⟩ g10) ?_
  refine sx_if_ne (pc := 14) (tgt := 25) dX5_noteOwnCode_14 (by decide) (fun c12 => ?_) (fun c12 => ?_)
  · have h := sx_neg c12 h
    refine sx_iload_n (pc := 25) dX5_noteOwnCode_25 sx_m1 ?_
    refine sx_if_lt (pc := 26) (tgt := 36) dX5_noteOwnCode_26 (by decide) (fun c13 => ?_) (fun c13 => ?_)
    · have h := sx_pos c13 h
      refine sx_wk (sx_s1 sx_m2 sx_s0) ?_
      exact tB_X5_noteOwnCode_36 hG hP  h
    · have h := sx_neg c13 h
      refine sx_iload_n (pc := 29) dX5_noteOwnCode_29 sx_m1 ?_
      refine sx_sipush (pc := 30) (v := 255) dX5_noteOwnCode_30 (by decide) ?_
      refine sx_icmp_le (pc := 33) (tgt := 45) dX5_noteOwnCode_33 (by decide) (fun c14 => ?_) (fun c14 => ?_)
      · have h := sx_pos c14 h
        refine sx_aload_n (pc := 45) dX5_noteOwnCode_45 sx_m2 ?_
        refine sv_getO (pc := 46) hG dX5_noteOwnCode_46 f_5_21 lay_69 rfl cr_69_2 ?_
        refine sx_iload_n (pc := 49) dX5_noteOwnCode_49 sx_m0 ?_
        obtain ⟨⟨x17, V15⟩, g16, h⟩ := sx_bnd h
        refine sv_cV (pc := 50) (y := qX0_has) (o := (some (.int x17))) (as := [.int x8]) (V1 := V15) hG dX5_noteOwnCode_50 l_X5_342 y0X0_has yvX0_has rfl (Nat.le_of_ble_eq_true rfl) lay_73 kr_0 (by decide) (Nat.le_of_ble_eq_true rfl) rfl rfl rfl (t_X0_has hG ⟨rfl, rfl⟩ g16) ?_
        refine sx_if_eq (pc := 53) (tgt := 64) dX5_noteOwnCode_53 (by decide) (fun c18 => ?_) (fun c18 => ?_)
        · have h := sx_pos c18 h
          refine sx_aload_n (pc := 64) dX5_noteOwnCode_64 sx_m2 ?_
          refine sv_getO (pc := 65) hG dX5_noteOwnCode_65 f_5_21 lay_69 rfl cr_69_2 ?_
          refine sv_getI (pc := 68) hG dX5_noteOwnCode_68 f_5_343 lay_73 rfl ?_
          refine sx_aload_n (pc := 71) dX5_noteOwnCode_71 sx_m2 ?_
          refine sv_getO (pc := 72) hG dX5_noteOwnCode_72 f_5_45 lay_69 rfl cr_69_0 ?_
          refine sv_getA (pc := 75) hG dX5_noteOwnCode_75 f_5_166 lay_2 rfl cr_2_10 ?_
          refine sx_iconst (pc := 78) (v := 4) dX5_noteOwnCode_78 (by decide) ?_
          refine sv_iald (pc := 79) hG dX5_noteOwnCode_79 lay_6 (by decide) ?_
          refine sx_icmp_lt (pc := 80) (tgt := 92) dX5_noteOwnCode_80 (by decide) (fun c19 => ?_) (fun c19 => ?_)
          · have h := sx_pos c19 h
            refine sx_aload_n (pc := 92) dX5_noteOwnCode_92 sx_m2 ?_
            refine sv_getO (pc := 93) hG dX5_noteOwnCode_93 f_5_21 lay_69 rfl cr_69_2 ?_
            refine sx_dup (pc := 96) dX5_noteOwnCode_96 rfl ?_
            refine sv_getI (pc := 97) hG dX5_noteOwnCode_97 f_5_343 lay_73 rfl ?_
            refine sx_iconst (pc := 100) (v := 1) dX5_noteOwnCode_100 (by decide) ?_
            refine sx_iadd (pc := 101) dX5_noteOwnCode_101 ?_
            obtain ⟨V20, hV20⟩ : ∃ z : sv_V, z = sv_I V15 73 3 ((V15.1 73 3) + (1 : Int32)) := ⟨_, rfl⟩
            have h := sx_letE hV20 h
            refine sv_putI (pc := 102) hG dX5_noteOwnCode_102 f_5_343 lay_73 rfl hV20 ?_
            refine sx_aload_n (pc := 105) dX5_noteOwnCode_105 sx_m2 ?_
            refine sx_iload_n (pc := 106) dX5_noteOwnCode_106 sx_m0 ?_
            obtain ⟨V21, g22, h⟩ := sx_bnd h
            refine sv_cV (pc := 107) (y := qX5_noteRoutine) (o := none) (as := [.int x8]) (V1 := V21) hG dX5_noteOwnCode_107 l_X5_336 y0X5_noteRoutine yvX5_noteRoutine rfl (Nat.le_of_ble_eq_true rfl) lay_69 kr_5 (by decide) (Nat.le_of_ble_eq_true rfl) rfl rfl rfl (t_X5_noteRoutine hG ⟨rfl, rfl⟩ g22) ?_
            refine sx_wk (sx_s1 sx_m2 sx_s0) ?_
            exact tB_X5_noteOwnCode_110 hG hP  h
          · have h := sx_neg c19 h
            refine sx_aload_n (pc := 83) dX5_noteOwnCode_83 sx_m2 ?_
            refine sx_bipush (pc := 84) (v := 6) dX5_noteOwnCode_84 (by decide) ?_
            obtain ⟨V23, hV23⟩ : ∃ z : sv_V, z = sv_I V15 69 14 (6 : Int32) := ⟨_, rfl⟩
            have h := sx_letE hV23 h
            refine sv_putI (pc := 86) hG dX5_noteOwnCode_86 f_5_56 lay_69 rfl hV23 ?_
            refine sx_goto (pc := 89) (tgt := 110) dX5_noteOwnCode_89 (by decide) ?_
            refine sx_wk (sx_s1 sx_m2 sx_s0) ?_
            exact tB_X5_noteOwnCode_110 hG hP  h
        · have h := sx_neg c18 h
          refine sx_aload_n (pc := 56) dX5_noteOwnCode_56 sx_m2 ?_
          refine sx_iload_n (pc := 57) dX5_noteOwnCode_57 sx_m0 ?_
          obtain ⟨V24, g25, h⟩ := sx_bnd h
          refine sv_cV (pc := 58) (y := qX5_noteRoutine) (o := none) (as := [.int x8]) (V1 := V24) hG dX5_noteOwnCode_58 l_X5_336 y0X5_noteRoutine yvX5_noteRoutine rfl (Nat.le_of_ble_eq_true rfl) lay_69 kr_5 (by decide) (Nat.le_of_ble_eq_true rfl) rfl rfl rfl (t_X5_noteRoutine hG ⟨rfl, rfl⟩ g25) ?_
          refine sx_goto (pc := 61) (tgt := 110) dX5_noteOwnCode_61 (by decide) ?_
          refine sx_wk (sx_s1 sx_m2 sx_s0) ?_
          exact tB_X5_noteOwnCode_110 hG hP  h
      · have h := sx_neg c14 h
        refine sx_wk (sx_s1 sx_m2 sx_s0) ?_
        exact tB_X5_noteOwnCode_36 hG hP  h
  · have h := sx_pos c12 h
    refine sx_aload_n (pc := 17) dX5_noteOwnCode_17 sx_m2 ?_
    refine sx_iconst (pc := 18) (v := 3) dX5_noteOwnCode_18 (by decide) ?_
    obtain ⟨V26, hV26⟩ : ∃ z : sv_V, z = sv_I V9 69 14 (3 : Int32) := ⟨_, rfl⟩
    have h := sx_letE hV26 h
    refine sv_putI (pc := 19) hG dX5_noteOwnCode_19 f_5_56 lay_69 rfl hV26 ?_
    refine sx_goto (pc := 22) (tgt := 110) dX5_noteOwnCode_22 (by decide) ?_
    refine sx_wk (sx_s1 sx_m2 sx_s0) ?_
    exact tB_X5_noteOwnCode_110 hG hP  h
theorem dX5_callOnce_0 : decode cX5_callOnce 0 = .ok (.aload_n 0, 1) := by decide +kernel
theorem dX5_callOnce_1 : decode cX5_callOnce 1 = .ok (.invokevirtual 242, 3) := by decide +kernel
theorem dX5_callOnce_4 : decode cX5_callOnce 4 = .ok (.istore_n 1, 1) := by decide +kernel
theorem dX5_callOnce_5 : decode cX5_callOnce 5 = .ok (.aload_n 0, 1) := by decide +kernel
theorem dX5_callOnce_6 : decode cX5_callOnce 6 = .ok (.getfield 21, 3) := by decide +kernel
theorem dX5_callOnce_9 : decode cX5_callOnce 9 = .ok (.iload_n 1, 1) := by decide +kernel
theorem dX5_callOnce_10 : decode cX5_callOnce 10 = .ok (.invokevirtual 355, 3) := by decide +kernel
theorem dX5_callOnce_13 : decode cX5_callOnce 13 = .ok (.ifCond .ne 10, 3) := by decide +kernel
theorem dX5_callOnce_16 : decode cX5_callOnce 16 = .ok (.aload_n 0, 1) := by decide +kernel
theorem dX5_callOnce_17 : decode cX5_callOnce 17 = .ok (.bipush 6, 2) := by decide +kernel
theorem dX5_callOnce_19 : decode cX5_callOnce 19 = .ok (.putfield 56, 3) := by decide +kernel
theorem dX5_callOnce_22 : decode cX5_callOnce 22 = .ok (.return_, 1) := by decide +kernel
theorem dX5_callOnce_23 : decode cX5_callOnce 23 = .ok (.aload_n 0, 1) := by decide +kernel
theorem dX5_callOnce_24 : decode cX5_callOnce 24 = .ok (.iload_n 1, 1) := by decide +kernel
theorem dX5_callOnce_25 : decode cX5_callOnce 25 = .ok (.iconst 1, 1) := by decide +kernel
theorem dX5_callOnce_26 : decode cX5_callOnce 26 = .ok (.invokevirtual 358, 3) := by decide +kernel
theorem dX5_callOnce_29 : decode cX5_callOnce 29 = .ok (.return_, 1) := by decide +kernel
def F_X5_callOnce  (V : sv_V) : Option sv_V := (F_X5_pop  V).bind (fun (x3, V1) => (F_X0_hasFunction x3 V1).bind (fun (x6, V4) => if x6 = 0 then (sx_let (sv_I V4 69 14 (6 : Int32)) (fun V10 => some V10)) else ((F_X5_enter x3 (1 : Int32) V4).bind (fun V8 => some V8))))
set_option maxRecDepth 20000 in
theorem t_X5_callOnce {g : sx_G} (hG : sx_Go g) {P : Option Value → sv_V → Prop} {Vr : sv_V} (hP : P none Vr)  {V : sv_V} (h : F_X5_callOnce  V = some Vr) : sv_N g qX5_callOnce 1 0 [(0, .ref 69)] [] V P := by
  unfold F_X5_callOnce at h
  refine sx_aload_n (pc := 0) dX5_callOnce_0 sx_m0 ?_
  obtain ⟨⟨x3, V1⟩, g2, h⟩ := sx_bnd h
  refine sv_cV (pc := 1) (y := qX5_pop) (o := (some (.int x3))) (as := []) (V1 := V1) hG dX5_callOnce_1 l_X5_242 y0X5_pop yvX5_pop rfl (Nat.le_of_ble_eq_true rfl) lay_69 kr_5 (by decide) (Nat.le_of_ble_eq_true rfl) rfl rfl rfl (t_X5_pop hG ⟨rfl, rfl⟩ g2) ?_
  refine sx_istore_n (pc := 4) (lo' := [(1, .int x3), (0, .ref 69)]) dX5_callOnce_4 (by decide) rfl ?_
  refine sx_aload_n (pc := 5) dX5_callOnce_5 sx_m1 ?_
  refine sv_getO (pc := 6) hG dX5_callOnce_6 f_5_21 lay_69 rfl cr_69_2 ?_
  refine sx_iload_n (pc := 9) dX5_callOnce_9 sx_m0 ?_
  obtain ⟨⟨x6, V4⟩, g5, h⟩ := sx_bnd h
  refine sv_cV (pc := 10) (y := qX0_hasFunction) (o := (some (.int x6))) (as := [.int x3]) (V1 := V4) hG dX5_callOnce_10 l_X5_355 y0X0_hasFunction yvX0_hasFunction rfl (Nat.le_of_ble_eq_true rfl) lay_73 kr_0 (by decide) (Nat.le_of_ble_eq_true rfl) rfl rfl rfl (t_X0_hasFunction hG ⟨rfl, rfl⟩ g5) ?_
  refine sx_if_ne (pc := 13) (tgt := 23) dX5_callOnce_13 (by decide) (fun c7 => ?_) (fun c7 => ?_)
  · have h := sx_neg c7 h
    refine sx_aload_n (pc := 23) dX5_callOnce_23 sx_m1 ?_
    refine sx_iload_n (pc := 24) dX5_callOnce_24 sx_m0 ?_
    refine sx_iconst (pc := 25) (v := 1) dX5_callOnce_25 (by decide) ?_
    obtain ⟨V8, g9, h⟩ := sx_bnd h
    refine sv_cV (pc := 26) (y := qX5_enter) (o := none) (as := [.int x3, .int (1 : Int32)]) (V1 := V8) hG dX5_callOnce_26 l_X5_358 y0X5_enter yvX5_enter rfl (Nat.le_of_ble_eq_true rfl) lay_69 kr_5 (by decide) (Nat.le_of_ble_eq_true rfl) rfl rfl rfl (t_X5_enter hG ⟨rfl, rfl⟩ g9) ?_
    exact sv_vret (pc := 29) dX5_callOnce_29 rfl h hP
  · have h := sx_pos c7 h
    refine sx_aload_n (pc := 16) dX5_callOnce_16 sx_m1 ?_
    refine sx_bipush (pc := 17) (v := 6) dX5_callOnce_17 (by decide) ?_
    obtain ⟨V10, hV10⟩ : ∃ z : sv_V, z = sv_I V4 69 14 (6 : Int32) := ⟨_, rfl⟩
    have h := sx_letE hV10 h
    refine sv_putI (pc := 19) hG dX5_callOnce_19 f_5_56 lay_69 rfl hV10 ?_
    exact sv_vret (pc := 22) dX5_callOnce_22 rfl h hP
theorem dX5_callTimes_0 : decode cX5_callTimes 0 = .ok (.aload_n 0, 1) := by decide +kernel
theorem dX5_callTimes_1 : decode cX5_callTimes 1 = .ok (.invokevirtual 242, 3) := by decide +kernel
theorem dX5_callTimes_4 : decode cX5_callTimes 4 = .ok (.istore_n 1, 1) := by decide +kernel
theorem dX5_callTimes_5 : decode cX5_callTimes 5 = .ok (.aload_n 0, 1) := by decide +kernel
theorem dX5_callTimes_6 : decode cX5_callTimes 6 = .ok (.invokevirtual 242, 3) := by decide +kernel
theorem dX5_callTimes_9 : decode cX5_callTimes 9 = .ok (.istore_n 2, 1) := by decide +kernel
theorem dX5_callTimes_10 : decode cX5_callTimes 10 = .ok (.aload_n 0, 1) := by decide +kernel
theorem dX5_callTimes_11 : decode cX5_callTimes 11 = .ok (.getfield 21, 3) := by decide +kernel
theorem dX5_callTimes_14 : decode cX5_callTimes 14 = .ok (.iload_n 1, 1) := by decide +kernel
theorem dX5_callTimes_15 : decode cX5_callTimes 15 = .ok (.invokevirtual 355, 3) := by decide +kernel
theorem dX5_callTimes_18 : decode cX5_callTimes 18 = .ok (.ifCond .ne 10, 3) := by decide +kernel
theorem dX5_callTimes_21 : decode cX5_callTimes 21 = .ok (.aload_n 0, 1) := by decide +kernel
theorem dX5_callTimes_22 : decode cX5_callTimes 22 = .ok (.bipush 6, 2) := by decide +kernel
theorem dX5_callTimes_24 : decode cX5_callTimes 24 = .ok (.putfield 56, 3) := by decide +kernel
theorem dX5_callTimes_27 : decode cX5_callTimes 27 = .ok (.return_, 1) := by decide +kernel
theorem dX5_callTimes_28 : decode cX5_callTimes 28 = .ok (.iload_n 2, 1) := by decide +kernel
theorem dX5_callTimes_29 : decode cX5_callTimes 29 = .ok (.iconst 1, 1) := by decide +kernel
theorem dX5_callTimes_30 : decode cX5_callTimes 30 = .ok (.if_icmp .lt 9, 3) := by decide +kernel
theorem dX5_callTimes_33 : decode cX5_callTimes 33 = .ok (.aload_n 0, 1) := by decide +kernel
theorem dX5_callTimes_34 : decode cX5_callTimes 34 = .ok (.iload_n 1, 1) := by decide +kernel
theorem dX5_callTimes_35 : decode cX5_callTimes 35 = .ok (.iload_n 2, 1) := by decide +kernel
theorem dX5_callTimes_36 : decode cX5_callTimes 36 = .ok (.invokevirtual 358, 3) := by decide +kernel
theorem dX5_callTimes_39 : decode cX5_callTimes 39 = .ok (.return_, 1) := by decide +kernel
def F_X5_callTimes  (V : sv_V) : Option sv_V := (F_X5_pop  V).bind (fun (x3, V1) => (F_X5_pop  V1).bind (fun (x6, V4) => (F_X0_hasFunction x3 V4).bind (fun (x9, V7) => if x9 = 0 then (sx_let (sv_I V7 69 14 (6 : Int32)) (fun V14 => some V14)) else (if x6 < (1 : Int32) then (some V7) else ((F_X5_enter x3 x6 V7).bind (fun V12 => some V12))))))
set_option maxRecDepth 20000 in
theorem t_X5_callTimes {g : sx_G} (hG : sx_Go g) {P : Option Value → sv_V → Prop} {Vr : sv_V} (hP : P none Vr)  {V : sv_V} (h : F_X5_callTimes  V = some Vr) : sv_N g qX5_callTimes 1 0 [(0, .ref 69)] [] V P := by
  unfold F_X5_callTimes at h
  refine sx_aload_n (pc := 0) dX5_callTimes_0 sx_m0 ?_
  obtain ⟨⟨x3, V1⟩, g2, h⟩ := sx_bnd h
  refine sv_cV (pc := 1) (y := qX5_pop) (o := (some (.int x3))) (as := []) (V1 := V1) hG dX5_callTimes_1 l_X5_242 y0X5_pop yvX5_pop rfl (Nat.le_of_ble_eq_true rfl) lay_69 kr_5 (by decide) (Nat.le_of_ble_eq_true rfl) rfl rfl rfl (t_X5_pop hG ⟨rfl, rfl⟩ g2) ?_
  refine sx_istore_n (pc := 4) (lo' := [(1, .int x3), (0, .ref 69)]) dX5_callTimes_4 (by decide) rfl ?_
  refine sx_aload_n (pc := 5) dX5_callTimes_5 sx_m1 ?_
  obtain ⟨⟨x6, V4⟩, g5, h⟩ := sx_bnd h
  refine sv_cV (pc := 6) (y := qX5_pop) (o := (some (.int x6))) (as := []) (V1 := V4) hG dX5_callTimes_6 l_X5_242 y0X5_pop yvX5_pop rfl (Nat.le_of_ble_eq_true rfl) lay_69 kr_5 (by decide) (Nat.le_of_ble_eq_true rfl) rfl rfl rfl (t_X5_pop hG ⟨rfl, rfl⟩ g5) ?_
  refine sx_istore_n (pc := 9) (lo' := [(2, .int x6), (1, .int x3), (0, .ref 69)]) dX5_callTimes_9 (by decide) rfl ?_
  refine sx_aload_n (pc := 10) dX5_callTimes_10 sx_m2 ?_
  refine sv_getO (pc := 11) hG dX5_callTimes_11 f_5_21 lay_69 rfl cr_69_2 ?_
  refine sx_iload_n (pc := 14) dX5_callTimes_14 sx_m1 ?_
  obtain ⟨⟨x9, V7⟩, g8, h⟩ := sx_bnd h
  refine sv_cV (pc := 15) (y := qX0_hasFunction) (o := (some (.int x9))) (as := [.int x3]) (V1 := V7) hG dX5_callTimes_15 l_X5_355 y0X0_hasFunction yvX0_hasFunction rfl (Nat.le_of_ble_eq_true rfl) lay_73 kr_0 (by decide) (Nat.le_of_ble_eq_true rfl) rfl rfl rfl (t_X0_hasFunction hG ⟨rfl, rfl⟩ g8) ?_
  refine sx_if_ne (pc := 18) (tgt := 28) dX5_callTimes_18 (by decide) (fun c10 => ?_) (fun c10 => ?_)
  · have h := sx_neg c10 h
    refine sx_iload_n (pc := 28) dX5_callTimes_28 sx_m0 ?_
    refine sx_iconst (pc := 29) (v := 1) dX5_callTimes_29 (by decide) ?_
    refine sx_icmp_lt (pc := 30) (tgt := 39) dX5_callTimes_30 (by decide) (fun c11 => ?_) (fun c11 => ?_)
    · have h := sx_pos c11 h
      exact sv_vret (pc := 39) dX5_callTimes_39 rfl h hP
    · have h := sx_neg c11 h
      refine sx_aload_n (pc := 33) dX5_callTimes_33 sx_m2 ?_
      refine sx_iload_n (pc := 34) dX5_callTimes_34 sx_m1 ?_
      refine sx_iload_n (pc := 35) dX5_callTimes_35 sx_m0 ?_
      obtain ⟨V12, g13, h⟩ := sx_bnd h
      refine sv_cV (pc := 36) (y := qX5_enter) (o := none) (as := [.int x3, .int x6]) (V1 := V12) hG dX5_callTimes_36 l_X5_358 y0X5_enter yvX5_enter rfl (Nat.le_of_ble_eq_true rfl) lay_69 kr_5 (by decide) (Nat.le_of_ble_eq_true rfl) rfl rfl rfl (t_X5_enter hG ⟨rfl, rfl⟩ g13) ?_
      exact sv_vret (pc := 39) dX5_callTimes_39 rfl h hP
  · have h := sx_pos c10 h
    refine sx_aload_n (pc := 21) dX5_callTimes_21 sx_m2 ?_
    refine sx_bipush (pc := 22) (v := 6) dX5_callTimes_22 (by decide) ?_
    obtain ⟨V14, hV14⟩ : ∃ z : sv_V, z = sv_I V7 69 14 (6 : Int32) := ⟨_, rfl⟩
    have h := sx_letE hV14 h
    refine sv_putI (pc := 24) hG dX5_callTimes_24 f_5_56 lay_69 rfl hV14 ?_
    exact sv_vret (pc := 27) dX5_callTimes_27 rfl h hP
theorem dX5_callOwnCode_0 : decode cX5_callOwnCode 0 = .ok (.iload_n 1, 1) := by decide +kernel
theorem dX5_callOwnCode_1 : decode cX5_callOwnCode 1 = .ok (.invokestatic 339, 3) := by decide +kernel
theorem dX5_callOwnCode_4 : decode cX5_callOwnCode 4 = .ok (.istore_n 2, 1) := by decide +kernel
theorem dX5_callOwnCode_5 : decode cX5_callOwnCode 5 = .ok (.aload_n 0, 1) := by decide +kernel
theorem dX5_callOwnCode_6 : decode cX5_callOwnCode 6 = .ok (.getfield 21, 3) := by decide +kernel
theorem dX5_callOwnCode_9 : decode cX5_callOwnCode 9 = .ok (.iload_n 2, 1) := by decide +kernel
theorem dX5_callOwnCode_10 : decode cX5_callOwnCode 10 = .ok (.invokevirtual 342, 3) := by decide +kernel
theorem dX5_callOwnCode_13 : decode cX5_callOwnCode 13 = .ok (.ifCond .ne 9, 3) := by decide +kernel
theorem dX5_callOwnCode_16 : decode cX5_callOwnCode 16 = .ok (.aload_n 0, 1) := by decide +kernel
theorem dX5_callOwnCode_17 : decode cX5_callOwnCode 17 = .ok (.iconst 3, 1) := by decide +kernel
theorem dX5_callOwnCode_18 : decode cX5_callOwnCode 18 = .ok (.putfield 56, 3) := by decide +kernel
theorem dX5_callOwnCode_21 : decode cX5_callOwnCode 21 = .ok (.return_, 1) := by decide +kernel
theorem dX5_callOwnCode_22 : decode cX5_callOwnCode 22 = .ok (.aload_n 0, 1) := by decide +kernel
theorem dX5_callOwnCode_23 : decode cX5_callOwnCode 23 = .ok (.iload_n 2, 1) := by decide +kernel
theorem dX5_callOwnCode_24 : decode cX5_callOwnCode 24 = .ok (.iconst 1, 1) := by decide +kernel
theorem dX5_callOwnCode_25 : decode cX5_callOwnCode 25 = .ok (.invokevirtual 358, 3) := by decide +kernel
theorem dX5_callOwnCode_28 : decode cX5_callOwnCode 28 = .ok (.return_, 1) := by decide +kernel
def F_X5_callOwnCode (l1 : Int32) (V : sv_V) : Option sv_V := (F_X0_ownCode l1 V).bind (fun (x3, V1) => (F_X0_has x3 V1).bind (fun (x6, V4) => if x6 = 0 then (sx_let (sv_I V4 69 14 (3 : Int32)) (fun V10 => some V10)) else ((F_X5_enter x3 (1 : Int32) V4).bind (fun V8 => some V8))))
set_option maxRecDepth 20000 in
theorem t_X5_callOwnCode {g : sx_G} (hG : sx_Go g) {P : Option Value → sv_V → Prop} {Vr : sv_V} (hP : P none Vr) {l1 : Int32} {V : sv_V} (h : F_X5_callOwnCode l1 V = some Vr) : sv_N g qX5_callOwnCode 1 0 [(0, .ref 69), (1, .int l1)] [] V P := by
  unfold F_X5_callOwnCode at h
  refine sx_iload_n (pc := 0) dX5_callOwnCode_0 sx_m1 ?_
  obtain ⟨⟨x3, V1⟩, g2, h⟩ := sx_bnd h
  refine sv_cS (pc := 1) (y := qX0_ownCode) (o := (some (.int x3))) (as := [.int l1]) (V1 := V1) dX5_callOwnCode_1 l_X5_339 y0X0_ownCode ysX0_ownCode rfl (Nat.le_of_ble_eq_true rfl) (by decide) (Nat.le_of_ble_eq_true rfl) rfl rfl rfl (t_X0_ownCode hG ⟨rfl, rfl⟩ g2) ?_
  refine sx_istore_n (pc := 4) (lo' := [(2, .int x3), (0, .ref 69), (1, .int l1)]) dX5_callOwnCode_4 (by decide) rfl ?_
  refine sx_aload_n (pc := 5) dX5_callOwnCode_5 sx_m1 ?_
  refine sv_getO (pc := 6) hG dX5_callOwnCode_6 f_5_21 lay_69 rfl cr_69_2 ?_
  refine sx_iload_n (pc := 9) dX5_callOwnCode_9 sx_m0 ?_
  obtain ⟨⟨x6, V4⟩, g5, h⟩ := sx_bnd h
  refine sv_cV (pc := 10) (y := qX0_has) (o := (some (.int x6))) (as := [.int x3]) (V1 := V4) hG dX5_callOwnCode_10 l_X5_342 y0X0_has yvX0_has rfl (Nat.le_of_ble_eq_true rfl) lay_73 kr_0 (by decide) (Nat.le_of_ble_eq_true rfl) rfl rfl rfl (t_X0_has hG ⟨rfl, rfl⟩ g5) ?_
  refine sx_if_ne (pc := 13) (tgt := 22) dX5_callOwnCode_13 (by decide) (fun c7 => ?_) (fun c7 => ?_)
  · have h := sx_neg c7 h
    refine sx_aload_n (pc := 22) dX5_callOwnCode_22 sx_m1 ?_
    refine sx_iload_n (pc := 23) dX5_callOwnCode_23 sx_m0 ?_
    refine sx_iconst (pc := 24) (v := 1) dX5_callOwnCode_24 (by decide) ?_
    obtain ⟨V8, g9, h⟩ := sx_bnd h
    refine sv_cV (pc := 25) (y := qX5_enter) (o := none) (as := [.int x3, .int (1 : Int32)]) (V1 := V8) hG dX5_callOwnCode_25 l_X5_358 y0X5_enter yvX5_enter rfl (Nat.le_of_ble_eq_true rfl) lay_69 kr_5 (by decide) (Nat.le_of_ble_eq_true rfl) rfl rfl rfl (t_X5_enter hG ⟨rfl, rfl⟩ g9) ?_
    exact sv_vret (pc := 28) dX5_callOwnCode_28 rfl h hP
  · have h := sx_pos c7 h
    refine sx_aload_n (pc := 16) dX5_callOwnCode_16 sx_m1 ?_
    refine sx_iconst (pc := 17) (v := 3) dX5_callOwnCode_17 (by decide) ?_
    obtain ⟨V10, hV10⟩ : ∃ z : sv_V, z = sv_I V4 69 14 (3 : Int32) := ⟨_, rfl⟩
    have h := sx_letE hV10 h
    refine sv_putI (pc := 18) hG dX5_callOwnCode_18 f_5_56 lay_69 rfl hV10 ?_
    exact sv_vret (pc := 21) dX5_callOwnCode_21 rfl h hP
theorem dX5_pushCounted_0 : decode cX5_pushCounted 0 = .ok (.aload_n 0, 1) := by decide +kernel
theorem dX5_pushCounted_1 : decode cX5_pushCounted 1 = .ok (.getfield 45, 3) := by decide +kernel
theorem dX5_pushCounted_4 : decode cX5_pushCounted 4 = .ok (.aload_n 0, 1) := by decide +kernel
theorem dX5_pushCounted_5 : decode cX5_pushCounted 5 = .ok (.getfield 93, 3) := by decide +kernel
theorem dX5_pushCounted_8 : decode cX5_pushCounted 8 = .ok (.invokevirtual 156, 3) := by decide +kernel
theorem dX5_pushCounted_11 : decode cX5_pushCounted 11 = .ok (.istore_n 2, 1) := by decide +kernel
theorem dX5_pushCounted_12 : decode cX5_pushCounted 12 = .ok (.aload_n 0, 1) := by decide +kernel
theorem dX5_pushCounted_13 : decode cX5_pushCounted 13 = .ok (.dup, 1) := by decide +kernel
theorem dX5_pushCounted_14 : decode cX5_pushCounted 14 = .ok (.getfield 93, 3) := by decide +kernel
theorem dX5_pushCounted_17 : decode cX5_pushCounted 17 = .ok (.iconst 1, 1) := by decide +kernel
theorem dX5_pushCounted_18 : decode cX5_pushCounted 18 = .ok (.iadd, 1) := by decide +kernel
theorem dX5_pushCounted_19 : decode cX5_pushCounted 19 = .ok (.putfield 93, 3) := by decide +kernel
theorem dX5_pushCounted_22 : decode cX5_pushCounted 22 = .ok (.aload_n 0, 1) := by decide +kernel
theorem dX5_pushCounted_23 : decode cX5_pushCounted 23 = .ok (.getfield 93, 3) := by decide +kernel
theorem dX5_pushCounted_26 : decode cX5_pushCounted 26 = .ok (.aload_n 0, 1) := by decide +kernel
theorem dX5_pushCounted_27 : decode cX5_pushCounted 27 = .ok (.getfield 90, 3) := by decide +kernel
theorem dX5_pushCounted_30 : decode cX5_pushCounted 30 = .ok (.if_icmp .le 9, 3) := by decide +kernel
theorem dX5_pushCounted_33 : decode cX5_pushCounted 33 = .ok (.aload_n 0, 1) := by decide +kernel
theorem dX5_pushCounted_34 : decode cX5_pushCounted 34 = .ok (.iconst 4, 1) := by decide +kernel
theorem dX5_pushCounted_35 : decode cX5_pushCounted 35 = .ok (.putfield 56, 3) := by decide +kernel
theorem dX5_pushCounted_38 : decode cX5_pushCounted 38 = .ok (.return_, 1) := by decide +kernel
theorem dX5_pushCounted_39 : decode cX5_pushCounted 39 = .ok (.aload_n 0, 1) := by decide +kernel
theorem dX5_pushCounted_40 : decode cX5_pushCounted 40 = .ok (.iload_n 2, 1) := by decide +kernel
theorem dX5_pushCounted_41 : decode cX5_pushCounted 41 = .ok (.iload_n 1, 1) := by decide +kernel
theorem dX5_pushCounted_42 : decode cX5_pushCounted 42 = .ok (.bipush 63, 2) := by decide +kernel
theorem dX5_pushCounted_44 : decode cX5_pushCounted 44 = .ok (.isub, 1) := by decide +kernel
theorem dX5_pushCounted_45 : decode cX5_pushCounted 45 = .ok (.invokevirtual 388, 3) := by decide +kernel
theorem dX5_pushCounted_48 : decode cX5_pushCounted 48 = .ok (.return_, 1) := by decide +kernel
def F_X5_pushCounted (N : Nat) (l1 : Int32) (V : sv_V) : Option sv_V := (F_X2_u1 (V.1 69 11) V).bind (fun (x3, V1) => sx_let (sv_I V1 69 11 ((V1.1 69 11) + (1 : Int32))) (fun V4 => if (V4.1 69 11) ≤ (V4.1 69 10) then ((F_X5_pushBehind N x3 (l1 - (63 : Int32)) V4).bind (fun V6 => some V6)) else (sx_let (sv_I V4 69 14 (4 : Int32)) (fun V8 => some V8))))
set_option maxRecDepth 20000 in
theorem t_X5_pushCounted {g : sx_G} (hG : sx_Go g) {P : Option Value → sv_V → Prop} {Vr : sv_V} (hP : P none Vr) {N : Nat} {l1 : Int32} {V : sv_V} (h : F_X5_pushCounted N l1 V = some Vr) : sv_N g qX5_pushCounted 2 0 [(0, .ref 69), (1, .int l1)] [] V P := by
  unfold F_X5_pushCounted at h
  refine sx_aload_n (pc := 0) dX5_pushCounted_0 sx_m0 ?_
  refine sv_getO (pc := 1) hG dX5_pushCounted_1 f_5_45 lay_69 rfl cr_69_0 ?_
  refine sx_aload_n (pc := 4) dX5_pushCounted_4 sx_m0 ?_
  refine sv_getI (pc := 5) hG dX5_pushCounted_5 f_5_93 lay_69 rfl ?_
  obtain ⟨⟨x3, V1⟩, g2, h⟩ := sx_bnd h
  refine sv_cV (pc := 8) (y := qX2_u1) (o := (some (.int x3))) (as := [.int (V.1 69 11)]) (V1 := V1) hG dX5_pushCounted_8 l_X5_156 y0X2_u1 yvX2_u1 rfl (Nat.le_of_ble_eq_true rfl) lay_2 kr_2 (by decide) (Nat.le_of_ble_eq_true rfl) rfl rfl rfl (t_X2_u1 hG ⟨rfl, rfl⟩ g2) ?_
  refine sx_istore_n (pc := 11) (lo' := [(2, .int x3), (0, .ref 69), (1, .int l1)]) dX5_pushCounted_11 (by decide) rfl ?_
  refine sx_aload_n (pc := 12) dX5_pushCounted_12 sx_m1 ?_
  refine sx_dup (pc := 13) dX5_pushCounted_13 rfl ?_
  refine sv_getI (pc := 14) hG dX5_pushCounted_14 f_5_93 lay_69 rfl ?_
  refine sx_iconst (pc := 17) (v := 1) dX5_pushCounted_17 (by decide) ?_
  refine sx_iadd (pc := 18) dX5_pushCounted_18 ?_
  obtain ⟨V4, hV4⟩ : ∃ z : sv_V, z = sv_I V1 69 11 ((V1.1 69 11) + (1 : Int32)) := ⟨_, rfl⟩
  have h := sx_letE hV4 h
  refine sv_putI (pc := 19) hG dX5_pushCounted_19 f_5_93 lay_69 rfl hV4 ?_
  refine sx_aload_n (pc := 22) dX5_pushCounted_22 sx_m1 ?_
  refine sv_getI (pc := 23) hG dX5_pushCounted_23 f_5_93 lay_69 rfl ?_
  refine sx_aload_n (pc := 26) dX5_pushCounted_26 sx_m1 ?_
  refine sv_getI (pc := 27) hG dX5_pushCounted_27 f_5_90 lay_69 rfl ?_
  refine sx_icmp_le (pc := 30) (tgt := 39) dX5_pushCounted_30 (by decide) (fun c5 => ?_) (fun c5 => ?_)
  · have h := sx_pos c5 h
    refine sx_aload_n (pc := 39) dX5_pushCounted_39 sx_m1 ?_
    refine sx_iload_n (pc := 40) dX5_pushCounted_40 sx_m0 ?_
    refine sx_iload_n (pc := 41) dX5_pushCounted_41 sx_m2 ?_
    refine sx_bipush (pc := 42) (v := 63) dX5_pushCounted_42 (by decide) ?_
    refine sx_isub (pc := 44) dX5_pushCounted_44 ?_
    obtain ⟨V6, g7, h⟩ := sx_bnd h
    refine sv_cV (pc := 45) (y := qX5_pushBehind) (o := none) (as := [.int x3, .int (l1 - (63 : Int32))]) (V1 := V6) hG dX5_pushCounted_45 l_X5_388 y0X5_pushBehind yvX5_pushBehind rfl (Nat.le_of_ble_eq_true rfl) lay_69 kr_5 (by decide) (Nat.le_of_ble_eq_true rfl) rfl rfl rfl (t_X5_pushBehind hG ⟨rfl, rfl⟩ g7) ?_
    exact sv_vret (pc := 48) dX5_pushCounted_48 rfl h hP
  · have h := sx_neg c5 h
    refine sx_aload_n (pc := 33) dX5_pushCounted_33 sx_m1 ?_
    refine sx_iconst (pc := 34) (v := 4) dX5_pushCounted_34 (by decide) ?_
    obtain ⟨V8, hV8⟩ : ∃ z : sv_V, z = sv_I V4 69 14 (4 : Int32) := ⟨_, rfl⟩
    have h := sx_letE hV8 h
    refine sv_putI (pc := 35) hG dX5_pushCounted_35 f_5_56 lay_69 rfl hV8 ?_
    exact sv_vret (pc := 38) dX5_pushCounted_38 rfl h hP
theorem dX5_read_0 : decode cX5_read 0 = .ok (.aload_n 0, 1) := by decide +kernel
theorem dX5_read_1 : decode cX5_read 1 = .ok (.invokevirtual 242, 3) := by decide +kernel
theorem dX5_read_4 : decode cX5_read 4 = .ok (.istore_n 2, 1) := by decide +kernel
theorem dX5_read_5 : decode cX5_read 5 = .ok (.iload_n 1, 1) := by decide +kernel
theorem dX5_read_6 : decode cX5_read 6 = .ok (.bipush 67, 2) := by decide +kernel
theorem dX5_read_8 : decode cX5_read 8 = .ok (.if_icmp .ne 14, 3) := by decide +kernel
theorem dX5_read_11 : decode cX5_read 11 = .ok (.aload_n 0, 1) := by decide +kernel
theorem dX5_read_12 : decode cX5_read 12 = .ok (.getfield 49, 3) := by decide +kernel
theorem dX5_read_15 : decode cX5_read 15 = .ok (.iload_n 2, 1) := by decide +kernel
theorem dX5_read_16 : decode cX5_read 16 = .ok (.invokevirtual 402, 3) := by decide +kernel
theorem dX5_read_19 : decode cX5_read 19 = .ok (.goto 11, 3) := by decide +kernel
theorem dX5_read_22 : decode cX5_read 22 = .ok (.aload_n 0, 1) := by decide +kernel
theorem dX5_read_23 : decode cX5_read 23 = .ok (.getfield 49, 3) := by decide +kernel
theorem dX5_read_26 : decode cX5_read 26 = .ok (.iload_n 2, 1) := by decide +kernel
theorem dX5_read_27 : decode cX5_read 27 = .ok (.invokevirtual 405, 3) := by decide +kernel
theorem dX5_read_30 : decode cX5_read 30 = .ok (.istore_n 3, 1) := by decide +kernel
theorem dX5_read_31 : decode cX5_read 31 = .ok (.iload_n 3, 1) := by decide +kernel
theorem dX5_read_32 : decode cX5_read 32 = .ok (.ifCond .ne 10, 3) := by decide +kernel
theorem dX5_read_35 : decode cX5_read 35 = .ok (.aload_n 0, 1) := by decide +kernel
theorem dX5_read_36 : decode cX5_read 36 = .ok (.bipush 6, 2) := by decide +kernel
theorem dX5_read_38 : decode cX5_read 38 = .ok (.putfield 56, 3) := by decide +kernel
theorem dX5_read_41 : decode cX5_read 41 = .ok (.return_, 1) := by decide +kernel
theorem dX5_read_42 : decode cX5_read 42 = .ok (.aload_n 0, 1) := by decide +kernel
theorem dX5_read_43 : decode cX5_read 43 = .ok (.iload_n 1, 1) := by decide +kernel
theorem dX5_read_44 : decode cX5_read 44 = .ok (.bipush 67, 2) := by decide +kernel
theorem dX5_read_46 : decode cX5_read 46 = .ok (.if_icmp .ne 16, 3) := by decide +kernel
theorem dX5_read_49 : decode cX5_read 49 = .ok (.aload_n 0, 1) := by decide +kernel
theorem dX5_read_50 : decode cX5_read 50 = .ok (.getfield 49, 3) := by decide +kernel
theorem dX5_read_53 : decode cX5_read 53 = .ok (.getfield 408, 3) := by decide +kernel
theorem dX5_read_56 : decode cX5_read 56 = .ok (.iload_n 2, 1) := by decide +kernel
theorem dX5_read_57 : decode cX5_read 57 = .ok (.iaload, 1) := by decide +kernel
theorem dX5_read_58 : decode cX5_read 58 = .ok (.i2l, 1) := by decide +kernel
theorem dX5_read_59 : decode cX5_read 59 = .ok (.goto 13, 3) := by decide +kernel
theorem dX5_read_62 : decode cX5_read 62 = .ok (.aload_n 0, 1) := by decide +kernel
theorem dX5_read_63 : decode cX5_read 63 = .ok (.getfield 49, 3) := by decide +kernel
theorem dX5_read_66 : decode cX5_read 66 = .ok (.getfield 411, 3) := by decide +kernel
theorem dX5_read_69 : decode cX5_read 69 = .ok (.iload_n 2, 1) := by decide +kernel
theorem dX5_read_70 : decode cX5_read 70 = .ok (.iaload, 1) := by decide +kernel
theorem dX5_read_71 : decode cX5_read 71 = .ok (.i2l, 1) := by decide +kernel
theorem dX5_read_72 : decode cX5_read 72 = .ok (.invokevirtual 232, 3) := by decide +kernel
theorem dX5_read_75 : decode cX5_read 75 = .ok (.return_, 1) := by decide +kernel
def B_X5_read_72  (s1 : Int64) (V : sv_V) : Option sv_V := (F_X5_push s1 V).bind (fun V1 => some V1)
set_option maxRecDepth 20000 in
theorem tB_X5_read_72 {g : sx_G} (hG : sx_Go g) {P : Option Value → sv_V → Prop} {Vr : sv_V} (hP : P none Vr)   {s1 : Int64} {V : sv_V} (h : B_X5_read_72  s1 V = some Vr) : sv_N g qX5_read 1 72 [] [.long s1, .ref 69] V P := by
  unfold B_X5_read_72 at h
  obtain ⟨V1, g2, h⟩ := sx_bnd h
  refine sv_cV (pc := 72) (y := qX5_push) (o := none) (as := [.long s1]) (V1 := V1) hG dX5_read_72 l_X5_232 y0X5_push yvX5_push rfl (Nat.le_of_ble_eq_true rfl) lay_69 kr_5 (by decide) (Nat.le_of_ble_eq_true rfl) rfl rfl rfl (t_X5_push hG ⟨rfl, rfl⟩ g2) ?_
  exact sv_vret (pc := 75) dX5_read_75 rfl h hP
def B_X5_read_30  (l1 : Int32) (l2 : Int32) (s0 : Int32) (V : sv_V) : Option sv_V := if s0 = 0 then (sx_let (sv_I V 69 14 (6 : Int32)) (fun V21 => some V21)) else (if l1 = (67 : Int32) then ((V.2.2 69 6).bind (fun b13 => if lay b13 = .inl 7 then (cr b13 2).bind (fun b16 => (sv_len 0 b16).bind (fun n18 => if sx_in l2 n18 = true then B_X5_read_72  ((V.1 b16 l2.toNatClampNeg).toInt64) V else none)) else none)) else ((V.2.2 69 6).bind (fun b5 => if lay b5 = .inl 7 then (cr b5 0).bind (fun b8 => (sv_len 0 b8).bind (fun n10 => if sx_in l2 n10 = true then B_X5_read_72  ((V.1 b8 l2.toNatClampNeg).toInt64) V else none)) else none)))
set_option maxRecDepth 20000 in
theorem tB_X5_read_30 {g : sx_G} (hG : sx_Go g) {P : Option Value → sv_V → Prop} {Vr : sv_V} (hP : P none Vr)   {l1 : Int32} {l2 : Int32} {s0 : Int32} {V : sv_V} (h : B_X5_read_30  l1 l2 s0 V = some Vr) : sv_N g qX5_read 1 30 [(0, .ref 69), (1, .int l1), (2, .int l2)] [.int s0] V P := by
  unfold B_X5_read_30 at h
  refine sx_istore_n (pc := 30) (lo' := [(3, .int s0), (0, .ref 69), (1, .int l1), (2, .int l2)]) dX5_read_30 (by decide) rfl ?_
  refine sx_iload_n (pc := 31) dX5_read_31 sx_m0 ?_
  refine sx_if_ne (pc := 32) (tgt := 42) dX5_read_32 (by decide) (fun c3 => ?_) (fun c3 => ?_)
  · have h := sx_neg c3 h
    refine sx_aload_n (pc := 42) dX5_read_42 sx_m1 ?_
    refine sx_iload_n (pc := 43) dX5_read_43 sx_m2 ?_
    refine sx_bipush (pc := 44) (v := 67) dX5_read_44 (by decide) ?_
    refine sx_icmp_ne (pc := 46) (tgt := 62) dX5_read_46 (by decide) (fun c4 => ?_) (fun c4 => ?_)
    · have h := sx_neg c4 h
      refine sx_aload_n (pc := 62) dX5_read_62 sx_m1 ?_
      obtain ⟨b5, g6, h⟩ := sx_bnd h
      refine sv_getV (pc := 63) hG dX5_read_63 f_5_49 lay_69 rfl rfl g6 ?_
      obtain ⟨g7, h⟩ := sx_grd h
      obtain ⟨b8, g9, h⟩ := sx_bnd h
      refine sv_getA (pc := 66) hG dX5_read_66 f_5_411 g7 rfl g9 ?_
      refine sx_iload_n (pc := 69) dX5_read_69 sx_m3 ?_
      obtain ⟨n10, g11, h⟩ := sx_bnd h
      obtain ⟨g12, h⟩ := sx_grd h
      refine sv_iald (pc := 70) hG dX5_read_70 (sv_len_e g11) g12 ?_
      refine sx_i2l (pc := 71) dX5_read_71 ?_
      refine sx_wk sx_s0 ?_
      exact tB_X5_read_72 hG hP  h
    · have h := sx_pos c4 h
      refine sx_aload_n (pc := 49) dX5_read_49 sx_m1 ?_
      obtain ⟨b13, g14, h⟩ := sx_bnd h
      refine sv_getV (pc := 50) hG dX5_read_50 f_5_49 lay_69 rfl rfl g14 ?_
      obtain ⟨g15, h⟩ := sx_grd h
      obtain ⟨b16, g17, h⟩ := sx_bnd h
      refine sv_getA (pc := 53) hG dX5_read_53 f_5_408 g15 rfl g17 ?_
      refine sx_iload_n (pc := 56) dX5_read_56 sx_m3 ?_
      obtain ⟨n18, g19, h⟩ := sx_bnd h
      obtain ⟨g20, h⟩ := sx_grd h
      refine sv_iald (pc := 57) hG dX5_read_57 (sv_len_e g19) g20 ?_
      refine sx_i2l (pc := 58) dX5_read_58 ?_
      refine sx_goto (pc := 59) (tgt := 72) dX5_read_59 (by decide) ?_
      refine sx_wk sx_s0 ?_
      exact tB_X5_read_72 hG hP  h
  · have h := sx_pos c3 h
    refine sx_aload_n (pc := 35) dX5_read_35 sx_m1 ?_
    refine sx_bipush (pc := 36) (v := 6) dX5_read_36 (by decide) ?_
    obtain ⟨V21, hV21⟩ : ∃ z : sv_V, z = sv_I V 69 14 (6 : Int32) := ⟨_, rfl⟩
    have h := sx_letE hV21 h
    refine sv_putI (pc := 38) hG dX5_read_38 f_5_56 lay_69 rfl hV21 ?_
    exact sv_vret (pc := 41) dX5_read_41 rfl h hP
def F_X5_read (l1 : Int32) (V : sv_V) : Option sv_V := (F_X5_pop  V).bind (fun (x24, V22) => if l1 = (67 : Int32) then ((V22.2.2 69 6).bind (fun b32 => (F_X7_hasStorage b32 x24 V22).bind (fun (x36, V34) => if lay b32 = .inl 7 then B_X5_read_30  l1 x24 x36 V34 else none))) else ((V22.2.2 69 6).bind (fun b26 => (F_X7_hasCvt b26 x24 V22).bind (fun (x30, V28) => if lay b26 = .inl 7 then B_X5_read_30  l1 x24 x30 V28 else none))))
set_option maxRecDepth 20000 in
theorem t_X5_read {g : sx_G} (hG : sx_Go g) {P : Option Value → sv_V → Prop} {Vr : sv_V} (hP : P none Vr) {l1 : Int32} {V : sv_V} (h : F_X5_read l1 V = some Vr) : sv_N g qX5_read 1 0 [(0, .ref 69), (1, .int l1)] [] V P := by
  unfold F_X5_read at h
  refine sx_aload_n (pc := 0) dX5_read_0 sx_m0 ?_
  obtain ⟨⟨x24, V22⟩, g23, h⟩ := sx_bnd h
  refine sv_cV (pc := 1) (y := qX5_pop) (o := (some (.int x24))) (as := []) (V1 := V22) hG dX5_read_1 l_X5_242 y0X5_pop yvX5_pop rfl (Nat.le_of_ble_eq_true rfl) lay_69 kr_5 (by decide) (Nat.le_of_ble_eq_true rfl) rfl rfl rfl (t_X5_pop hG ⟨rfl, rfl⟩ g23) ?_
  refine sx_istore_n (pc := 4) (lo' := [(2, .int x24), (0, .ref 69), (1, .int l1)]) dX5_read_4 (by decide) rfl ?_
  refine sx_iload_n (pc := 5) dX5_read_5 sx_m2 ?_
  refine sx_bipush (pc := 6) (v := 67) dX5_read_6 (by decide) ?_
  refine sx_icmp_ne (pc := 8) (tgt := 22) dX5_read_8 (by decide) (fun c25 => ?_) (fun c25 => ?_)
  · have h := sx_neg c25 h
    refine sx_aload_n (pc := 22) dX5_read_22 sx_m1 ?_
    obtain ⟨b26, g27, h⟩ := sx_bnd h
    refine sv_getV (pc := 23) hG dX5_read_23 f_5_49 lay_69 rfl rfl g27 ?_
    refine sx_iload_n (pc := 26) dX5_read_26 sx_m0 ?_
    obtain ⟨⟨x30, V28⟩, g29, h⟩ := sx_bnd h
    obtain ⟨g31, h⟩ := sx_grd h
    refine sv_cV (pc := 27) (y := qX7_hasCvt) (o := (some (.int x30))) (as := [.int x24]) (V1 := V28) hG dX5_read_27 l_X5_405 y0X7_hasCvt yvX7_hasCvt rfl (Nat.le_of_ble_eq_true rfl) g31 kr_7 (by decide) (Nat.le_of_ble_eq_true rfl) rfl rfl rfl (t_X7_hasCvt hG ⟨rfl, rfl⟩ g29) ?_
    refine sx_wk (sx_s1 sx_m1 (sx_s1 sx_m2 (sx_s1 sx_m0 sx_s0))) ?_
    exact tB_X5_read_30 hG hP  h
  · have h := sx_pos c25 h
    refine sx_aload_n (pc := 11) dX5_read_11 sx_m1 ?_
    obtain ⟨b32, g33, h⟩ := sx_bnd h
    refine sv_getV (pc := 12) hG dX5_read_12 f_5_49 lay_69 rfl rfl g33 ?_
    refine sx_iload_n (pc := 15) dX5_read_15 sx_m0 ?_
    obtain ⟨⟨x36, V34⟩, g35, h⟩ := sx_bnd h
    obtain ⟨g37, h⟩ := sx_grd h
    refine sv_cV (pc := 16) (y := qX7_hasStorage) (o := (some (.int x36))) (as := [.int x24]) (V1 := V34) hG dX5_read_16 l_X5_402 y0X7_hasStorage yvX7_hasStorage rfl (Nat.le_of_ble_eq_true rfl) g37 kr_7 (by decide) (Nat.le_of_ble_eq_true rfl) rfl rfl rfl (t_X7_hasStorage hG ⟨rfl, rfl⟩ g35) ?_
    refine sx_goto (pc := 19) (tgt := 30) dX5_read_19 (by decide) ?_
    refine sx_wk (sx_s1 sx_m1 (sx_s1 sx_m2 (sx_s1 sx_m0 sx_s0))) ?_
    exact tB_X5_read_30 hG hP  h
theorem dX5_write_0 : decode cX5_write 0 = .ok (.aload_n 0, 1) := by decide +kernel
theorem dX5_write_1 : decode cX5_write 1 = .ok (.invokevirtual 242, 3) := by decide +kernel
theorem dX5_write_4 : decode cX5_write 4 = .ok (.istore_n 2, 1) := by decide +kernel
theorem dX5_write_5 : decode cX5_write 5 = .ok (.aload_n 0, 1) := by decide +kernel
theorem dX5_write_6 : decode cX5_write 6 = .ok (.invokevirtual 242, 3) := by decide +kernel
theorem dX5_write_9 : decode cX5_write 9 = .ok (.istore_n 3, 1) := by decide +kernel
theorem dX5_write_10 : decode cX5_write 10 = .ok (.iload_n 1, 1) := by decide +kernel
theorem dX5_write_11 : decode cX5_write 11 = .ok (.bipush 66, 2) := by decide +kernel
theorem dX5_write_13 : decode cX5_write 13 = .ok (.if_icmp .ne 14, 3) := by decide +kernel
theorem dX5_write_16 : decode cX5_write 16 = .ok (.aload_n 0, 1) := by decide +kernel
theorem dX5_write_17 : decode cX5_write 17 = .ok (.getfield 49, 3) := by decide +kernel
theorem dX5_write_20 : decode cX5_write 20 = .ok (.iload_n 3, 1) := by decide +kernel
theorem dX5_write_21 : decode cX5_write 21 = .ok (.invokevirtual 402, 3) := by decide +kernel
theorem dX5_write_24 : decode cX5_write 24 = .ok (.goto 11, 3) := by decide +kernel
theorem dX5_write_27 : decode cX5_write 27 = .ok (.aload_n 0, 1) := by decide +kernel
theorem dX5_write_28 : decode cX5_write 28 = .ok (.getfield 49, 3) := by decide +kernel
theorem dX5_write_31 : decode cX5_write 31 = .ok (.iload_n 3, 1) := by decide +kernel
theorem dX5_write_32 : decode cX5_write 32 = .ok (.invokevirtual 405, 3) := by decide +kernel
theorem dX5_write_35 : decode cX5_write 35 = .ok (.istore 4, 2) := by decide +kernel
theorem dX5_write_37 : decode cX5_write 37 = .ok (.iload 4, 2) := by decide +kernel
theorem dX5_write_39 : decode cX5_write 39 = .ok (.ifCond .ne 10, 3) := by decide +kernel
theorem dX5_write_42 : decode cX5_write 42 = .ok (.aload_n 0, 1) := by decide +kernel
theorem dX5_write_43 : decode cX5_write 43 = .ok (.bipush 6, 2) := by decide +kernel
theorem dX5_write_45 : decode cX5_write 45 = .ok (.putfield 56, 3) := by decide +kernel
theorem dX5_write_48 : decode cX5_write 48 = .ok (.return_, 1) := by decide +kernel
theorem dX5_write_49 : decode cX5_write 49 = .ok (.iload_n 1, 1) := by decide +kernel
theorem dX5_write_50 : decode cX5_write 50 = .ok (.bipush 66, 2) := by decide +kernel
theorem dX5_write_52 : decode cX5_write 52 = .ok (.if_icmp .ne 16, 3) := by decide +kernel
theorem dX5_write_55 : decode cX5_write 55 = .ok (.aload_n 0, 1) := by decide +kernel
theorem dX5_write_56 : decode cX5_write 56 = .ok (.getfield 49, 3) := by decide +kernel
theorem dX5_write_59 : decode cX5_write 59 = .ok (.getfield 408, 3) := by decide +kernel
theorem dX5_write_62 : decode cX5_write 62 = .ok (.iload_n 3, 1) := by decide +kernel
theorem dX5_write_63 : decode cX5_write 63 = .ok (.iload_n 2, 1) := by decide +kernel
theorem dX5_write_64 : decode cX5_write 64 = .ok (.iastore, 1) := by decide +kernel
theorem dX5_write_65 : decode cX5_write 65 = .ok (.goto 29, 3) := by decide +kernel
theorem dX5_write_68 : decode cX5_write 68 = .ok (.aload_n 0, 1) := by decide +kernel
theorem dX5_write_69 : decode cX5_write 69 = .ok (.getfield 49, 3) := by decide +kernel
theorem dX5_write_72 : decode cX5_write 72 = .ok (.getfield 411, 3) := by decide +kernel
theorem dX5_write_75 : decode cX5_write 75 = .ok (.iload_n 3, 1) := by decide +kernel
theorem dX5_write_76 : decode cX5_write 76 = .ok (.iload_n 1, 1) := by decide +kernel
theorem dX5_write_77 : decode cX5_write 77 = .ok (.bipush 68, 2) := by decide +kernel
theorem dX5_write_79 : decode cX5_write 79 = .ok (.if_icmp .ne 7, 3) := by decide +kernel
theorem dX5_write_82 : decode cX5_write 82 = .ok (.iload_n 2, 1) := by decide +kernel
theorem dX5_write_83 : decode cX5_write 83 = .ok (.goto 10, 3) := by decide +kernel
theorem dX5_write_86 : decode cX5_write 86 = .ok (.aload_n 0, 1) := by decide +kernel
theorem dX5_write_87 : decode cX5_write 87 = .ok (.iload_n 2, 1) := by decide +kernel
theorem dX5_write_88 : decode cX5_write 88 = .ok (.i2l, 1) := by decide +kernel
theorem dX5_write_89 : decode cX5_write 89 = .ok (.invokevirtual 284, 3) := by decide +kernel
theorem dX5_write_92 : decode cX5_write 92 = .ok (.l2i, 1) := by decide +kernel
theorem dX5_write_93 : decode cX5_write 93 = .ok (.iastore, 1) := by decide +kernel
theorem dX5_write_94 : decode cX5_write 94 = .ok (.return_, 1) := by decide +kernel
def B_X5_write_35  (l1 : Int32) (l2 : Int32) (l3 : Int32) (s0 : Int32) (V : sv_V) : Option sv_V := if s0 = 0 then (sx_let (sv_I V 69 14 (6 : Int32)) (fun V29 => some V29)) else (if l1 = (66 : Int32) then ((V.2.2 69 6).bind (fun b20 => if lay b20 = .inl 7 then (cr b20 2).bind (fun b23 => (sv_len 0 b23).bind (fun n25 => if sx_in l3 n25 = true then sx_let (sv_I V b23 l3.toNatClampNeg l2) (fun V28 => some V28) else none)) else none)) else ((V.2.2 69 6).bind (fun b3 => if lay b3 = .inl 7 then (cr b3 0).bind (fun b6 => if l1 = (68 : Int32) then ((sv_len 0 b6).bind (fun n16 => if sx_in l3 n16 = true then sx_let (sv_I V b6 l3.toNatClampNeg l2) (fun V19 => some V19) else none)) else ((F_X5_scaled l2.toInt64 V).bind (fun (x11, V9) => (sv_len 0 b6).bind (fun n12 => if sx_in l3 n12 = true then sx_let (sv_I V9 b6 l3.toNatClampNeg x11.toInt32) (fun V15 => some V15) else none)))) else none)))
set_option maxRecDepth 20000 in
theorem tB_X5_write_35 {g : sx_G} (hG : sx_Go g) {P : Option Value → sv_V → Prop} {Vr : sv_V} (hP : P none Vr)   {l1 : Int32} {l2 : Int32} {l3 : Int32} {s0 : Int32} {V : sv_V} (h : B_X5_write_35  l1 l2 l3 s0 V = some Vr) : sv_N g qX5_write 2 35 [(0, .ref 69), (1, .int l1), (2, .int l2), (3, .int l3)] [.int s0] V P := by
  unfold B_X5_write_35 at h
  refine sx_istore (pc := 35) (lo' := [(4, .int s0), (0, .ref 69), (1, .int l1), (2, .int l2), (3, .int l3)]) dX5_write_35 (by decide) rfl ?_
  refine sx_iload (pc := 37) dX5_write_37 sx_m0 ?_
  refine sx_if_ne (pc := 39) (tgt := 49) dX5_write_39 (by decide) (fun c1 => ?_) (fun c1 => ?_)
  · have h := sx_neg c1 h
    refine sx_iload_n (pc := 49) dX5_write_49 sx_m2 ?_
    refine sx_bipush (pc := 50) (v := 66) dX5_write_50 (by decide) ?_
    refine sx_icmp_ne (pc := 52) (tgt := 68) dX5_write_52 (by decide) (fun c2 => ?_) (fun c2 => ?_)
    · have h := sx_neg c2 h
      refine sx_aload_n (pc := 68) dX5_write_68 sx_m1 ?_
      obtain ⟨b3, g4, h⟩ := sx_bnd h
      refine sv_getV (pc := 69) hG dX5_write_69 f_5_49 lay_69 rfl rfl g4 ?_
      obtain ⟨g5, h⟩ := sx_grd h
      obtain ⟨b6, g7, h⟩ := sx_bnd h
      refine sv_getA (pc := 72) hG dX5_write_72 f_5_411 g5 rfl g7 ?_
      refine sx_iload_n (pc := 75) dX5_write_75 sx_m4 ?_
      refine sx_iload_n (pc := 76) dX5_write_76 sx_m2 ?_
      refine sx_bipush (pc := 77) (v := 68) dX5_write_77 (by decide) ?_
      refine sx_icmp_ne (pc := 79) (tgt := 86) dX5_write_79 (by decide) (fun c8 => ?_) (fun c8 => ?_)
      · have h := sx_neg c8 h
        refine sx_aload_n (pc := 86) dX5_write_86 sx_m1 ?_
        refine sx_iload_n (pc := 87) dX5_write_87 sx_m3 ?_
        refine sx_i2l (pc := 88) dX5_write_88 ?_
        obtain ⟨⟨x11, V9⟩, g10, h⟩ := sx_bnd h
        refine sv_cV (pc := 89) (y := qX5_scaled) (o := (some (.long x11))) (as := [.long l2.toInt64]) (V1 := V9) hG dX5_write_89 l_X5_284 y0X5_scaled yvX5_scaled rfl (Nat.le_of_ble_eq_true rfl) lay_69 kr_5 (by decide) (Nat.le_of_ble_eq_true rfl) rfl rfl rfl (t_X5_scaled hG ⟨rfl, rfl⟩ g10) ?_
        refine sx_l2i (pc := 92) dX5_write_92 ?_
        obtain ⟨n12, g13, h⟩ := sx_bnd h
        obtain ⟨g14, h⟩ := sx_grd h
        obtain ⟨V15, hV15⟩ : ∃ z : sv_V, z = sv_I V9 b6 l3.toNatClampNeg x11.toInt32 := ⟨_, rfl⟩
        have h := sx_letE hV15 h
        refine sv_iast (pc := 93) hG dX5_write_93 (sv_len_e g13) g14 hV15 ?_
        exact sv_vret (pc := 94) dX5_write_94 rfl h hP
      · have h := sx_pos c8 h
        refine sx_iload_n (pc := 82) dX5_write_82 sx_m3 ?_
        refine sx_goto (pc := 83) (tgt := 93) dX5_write_83 (by decide) ?_
        obtain ⟨n16, g17, h⟩ := sx_bnd h
        obtain ⟨g18, h⟩ := sx_grd h
        obtain ⟨V19, hV19⟩ : ∃ z : sv_V, z = sv_I V b6 l3.toNatClampNeg l2 := ⟨_, rfl⟩
        have h := sx_letE hV19 h
        refine sv_iast (pc := 93) hG dX5_write_93 (sv_len_e g17) g18 hV19 ?_
        exact sv_vret (pc := 94) dX5_write_94 rfl h hP
    · have h := sx_pos c2 h
      refine sx_aload_n (pc := 55) dX5_write_55 sx_m1 ?_
      obtain ⟨b20, g21, h⟩ := sx_bnd h
      refine sv_getV (pc := 56) hG dX5_write_56 f_5_49 lay_69 rfl rfl g21 ?_
      obtain ⟨g22, h⟩ := sx_grd h
      obtain ⟨b23, g24, h⟩ := sx_bnd h
      refine sv_getA (pc := 59) hG dX5_write_59 f_5_408 g22 rfl g24 ?_
      refine sx_iload_n (pc := 62) dX5_write_62 sx_m4 ?_
      refine sx_iload_n (pc := 63) dX5_write_63 sx_m3 ?_
      obtain ⟨n25, g26, h⟩ := sx_bnd h
      obtain ⟨g27, h⟩ := sx_grd h
      obtain ⟨V28, hV28⟩ : ∃ z : sv_V, z = sv_I V b23 l3.toNatClampNeg l2 := ⟨_, rfl⟩
      have h := sx_letE hV28 h
      refine sv_iast (pc := 64) hG dX5_write_64 (sv_len_e g26) g27 hV28 ?_
      refine sx_goto (pc := 65) (tgt := 94) dX5_write_65 (by decide) ?_
      exact sv_vret (pc := 94) dX5_write_94 rfl h hP
  · have h := sx_pos c1 h
    refine sx_aload_n (pc := 42) dX5_write_42 sx_m1 ?_
    refine sx_bipush (pc := 43) (v := 6) dX5_write_43 (by decide) ?_
    obtain ⟨V29, hV29⟩ : ∃ z : sv_V, z = sv_I V 69 14 (6 : Int32) := ⟨_, rfl⟩
    have h := sx_letE hV29 h
    refine sv_putI (pc := 45) hG dX5_write_45 f_5_56 lay_69 rfl hV29 ?_
    exact sv_vret (pc := 48) dX5_write_48 rfl h hP
def F_X5_write (l1 : Int32) (V : sv_V) : Option sv_V := (F_X5_pop  V).bind (fun (x32, V30) => (F_X5_pop  V30).bind (fun (x35, V33) => if l1 = (66 : Int32) then ((V33.2.2 69 6).bind (fun b43 => (F_X7_hasStorage b43 x35 V33).bind (fun (x47, V45) => if lay b43 = .inl 7 then B_X5_write_35  l1 x32 x35 x47 V45 else none))) else ((V33.2.2 69 6).bind (fun b37 => (F_X7_hasCvt b37 x35 V33).bind (fun (x41, V39) => if lay b37 = .inl 7 then B_X5_write_35  l1 x32 x35 x41 V39 else none)))))
set_option maxRecDepth 20000 in
theorem t_X5_write {g : sx_G} (hG : sx_Go g) {P : Option Value → sv_V → Prop} {Vr : sv_V} (hP : P none Vr) {l1 : Int32} {V : sv_V} (h : F_X5_write l1 V = some Vr) : sv_N g qX5_write 2 0 [(0, .ref 69), (1, .int l1)] [] V P := by
  unfold F_X5_write at h
  refine sx_aload_n (pc := 0) dX5_write_0 sx_m0 ?_
  obtain ⟨⟨x32, V30⟩, g31, h⟩ := sx_bnd h
  refine sv_cV (pc := 1) (y := qX5_pop) (o := (some (.int x32))) (as := []) (V1 := V30) hG dX5_write_1 l_X5_242 y0X5_pop yvX5_pop rfl (Nat.le_of_ble_eq_true rfl) lay_69 kr_5 (by decide) (Nat.le_of_ble_eq_true rfl) rfl rfl rfl (t_X5_pop hG ⟨rfl, rfl⟩ g31) ?_
  refine sx_istore_n (pc := 4) (lo' := [(2, .int x32), (0, .ref 69), (1, .int l1)]) dX5_write_4 (by decide) rfl ?_
  refine sx_aload_n (pc := 5) dX5_write_5 sx_m1 ?_
  obtain ⟨⟨x35, V33⟩, g34, h⟩ := sx_bnd h
  refine sv_cV (pc := 6) (y := qX5_pop) (o := (some (.int x35))) (as := []) (V1 := V33) hG dX5_write_6 l_X5_242 y0X5_pop yvX5_pop rfl (Nat.le_of_ble_eq_true rfl) lay_69 kr_5 (by decide) (Nat.le_of_ble_eq_true rfl) rfl rfl rfl (t_X5_pop hG ⟨rfl, rfl⟩ g34) ?_
  refine sx_istore_n (pc := 9) (lo' := [(3, .int x35), (2, .int x32), (0, .ref 69), (1, .int l1)]) dX5_write_9 (by decide) rfl ?_
  refine sx_iload_n (pc := 10) dX5_write_10 sx_m3 ?_
  refine sx_bipush (pc := 11) (v := 66) dX5_write_11 (by decide) ?_
  refine sx_icmp_ne (pc := 13) (tgt := 27) dX5_write_13 (by decide) (fun c36 => ?_) (fun c36 => ?_)
  · have h := sx_neg c36 h
    refine sx_aload_n (pc := 27) dX5_write_27 sx_m2 ?_
    obtain ⟨b37, g38, h⟩ := sx_bnd h
    refine sv_getV (pc := 28) hG dX5_write_28 f_5_49 lay_69 rfl rfl g38 ?_
    refine sx_iload_n (pc := 31) dX5_write_31 sx_m0 ?_
    obtain ⟨⟨x41, V39⟩, g40, h⟩ := sx_bnd h
    obtain ⟨g42, h⟩ := sx_grd h
    refine sv_cV (pc := 32) (y := qX7_hasCvt) (o := (some (.int x41))) (as := [.int x35]) (V1 := V39) hG dX5_write_32 l_X5_405 y0X7_hasCvt yvX7_hasCvt rfl (Nat.le_of_ble_eq_true rfl) g42 kr_7 (by decide) (Nat.le_of_ble_eq_true rfl) rfl rfl rfl (t_X7_hasCvt hG ⟨rfl, rfl⟩ g40) ?_
    refine sx_wk (sx_s1 sx_m2 (sx_s1 sx_m3 (sx_s1 sx_m1 (sx_s1 sx_m0 sx_s0)))) ?_
    exact tB_X5_write_35 hG hP  h
  · have h := sx_pos c36 h
    refine sx_aload_n (pc := 16) dX5_write_16 sx_m2 ?_
    obtain ⟨b43, g44, h⟩ := sx_bnd h
    refine sv_getV (pc := 17) hG dX5_write_17 f_5_49 lay_69 rfl rfl g44 ?_
    refine sx_iload_n (pc := 20) dX5_write_20 sx_m0 ?_
    obtain ⟨⟨x47, V45⟩, g46, h⟩ := sx_bnd h
    obtain ⟨g48, h⟩ := sx_grd h
    refine sv_cV (pc := 21) (y := qX7_hasStorage) (o := (some (.int x47))) (as := [.int x35]) (V1 := V45) hG dX5_write_21 l_X5_402 y0X7_hasStorage yvX7_hasStorage rfl (Nat.le_of_ble_eq_true rfl) g48 kr_7 (by decide) (Nat.le_of_ble_eq_true rfl) rfl rfl rfl (t_X7_hasStorage hG ⟨rfl, rfl⟩ g46) ?_
    refine sx_goto (pc := 24) (tgt := 35) dX5_write_24 (by decide) ?_
    refine sx_wk (sx_s1 sx_m2 (sx_s1 sx_m3 (sx_s1 sx_m1 (sx_s1 sx_m0 sx_s0)))) ?_
    exact tB_X5_write_35 hG hP  h
theorem dX5_untouchPoint_0 : decode cX5_untouchPoint 0 = .ok (.aload_n 0, 1) := by decide +kernel
theorem dX5_untouchPoint_1 : decode cX5_untouchPoint 1 = .ok (.invokevirtual 242, 3) := by decide +kernel
theorem dX5_untouchPoint_4 : decode cX5_untouchPoint 4 = .ok (.istore_n 1, 1) := by decide +kernel
theorem dX5_untouchPoint_5 : decode cX5_untouchPoint 5 = .ok (.aload_n 0, 1) := by decide +kernel
theorem dX5_untouchPoint_6 : decode cX5_untouchPoint 6 = .ok (.iconst 0, 1) := by decide +kernel
theorem dX5_untouchPoint_7 : decode cX5_untouchPoint 7 = .ok (.invokevirtual 255, 3) := by decide +kernel
theorem dX5_untouchPoint_10 : decode cX5_untouchPoint 10 = .ok (.astore_n 2, 1) := by decide +kernel
theorem dX5_untouchPoint_11 : decode cX5_untouchPoint 11 = .ok (.aload_n 0, 1) := by decide +kernel
theorem dX5_untouchPoint_12 : decode cX5_untouchPoint 12 = .ok (.aload_n 2, 1) := by decide +kernel
theorem dX5_untouchPoint_13 : decode cX5_untouchPoint 13 = .ok (.iload_n 1, 1) := by decide +kernel
theorem dX5_untouchPoint_14 : decode cX5_untouchPoint 14 = .ok (.invokevirtual 259, 3) := by decide +kernel
theorem dX5_untouchPoint_17 : decode cX5_untouchPoint 17 = .ok (.ifCond .eq 18, 3) := by decide +kernel
theorem dX5_untouchPoint_20 : decode cX5_untouchPoint 20 = .ok (.aload_n 2, 1) := by decide +kernel
theorem dX5_untouchPoint_21 : decode cX5_untouchPoint 21 = .ok (.getfield 220, 3) := by decide +kernel
theorem dX5_untouchPoint_24 : decode cX5_untouchPoint 24 = .ok (.iload_n 1, 1) := by decide +kernel
theorem dX5_untouchPoint_25 : decode cX5_untouchPoint 25 = .ok (.dup2, 1) := by decide +kernel
theorem dX5_untouchPoint_26 : decode cX5_untouchPoint 26 = .ok (.iaload, 1) := by decide +kernel
theorem dX5_untouchPoint_27 : decode cX5_untouchPoint 27 = .ok (.aload_n 0, 1) := by decide +kernel
theorem dX5_untouchPoint_28 : decode cX5_untouchPoint 28 = .ok (.invokevirtual 223, 3) := by decide +kernel
theorem dX5_untouchPoint_31 : decode cX5_untouchPoint 31 = .ok (.iconst (-1), 1) := by decide +kernel
theorem dX5_untouchPoint_32 : decode cX5_untouchPoint 32 = .ok (.ixor, 1) := by decide +kernel
theorem dX5_untouchPoint_33 : decode cX5_untouchPoint 33 = .ok (.iand, 1) := by decide +kernel
theorem dX5_untouchPoint_34 : decode cX5_untouchPoint 34 = .ok (.iastore, 1) := by decide +kernel
theorem dX5_untouchPoint_35 : decode cX5_untouchPoint 35 = .ok (.return_, 1) := by decide +kernel
def F_X5_untouchPoint  (V : sv_V) : Option sv_V := (F_X5_pop  V).bind (fun (x3, V1) => (F_X5_zone (0 : Int32) V1).bind (fun (x6, V4) => (F_X5_isThere x6 x3 V4).bind (fun (x9, V7) => if x9 = 0 then (some V7) else (if lay x6 = .inl 8 then (cr x6 4).bind (fun b12 => (sv_len 0 b12).bind (fun n14 => if sx_in x3 n14 = true then (F_X5_touchBits  V7).bind (fun (x19, V17) => if sx_in x3 n14 = true then sx_let (sv_I V17 b12 x3.toNatClampNeg ((V7.1 b12 x3.toNatClampNeg) &&& (x19 ^^^ (-1 : Int32)))) (fun V21 => some V21) else none) else none)) else none))))
set_option maxRecDepth 20000 in
theorem t_X5_untouchPoint {g : sx_G} (hG : sx_Go g) {P : Option Value → sv_V → Prop} {Vr : sv_V} (hP : P none Vr)  {V : sv_V} (h : F_X5_untouchPoint  V = some Vr) : sv_N g qX5_untouchPoint 2 0 [(0, .ref 69)] [] V P := by
  unfold F_X5_untouchPoint at h
  refine sx_aload_n (pc := 0) dX5_untouchPoint_0 sx_m0 ?_
  obtain ⟨⟨x3, V1⟩, g2, h⟩ := sx_bnd h
  refine sv_cV (pc := 1) (y := qX5_pop) (o := (some (.int x3))) (as := []) (V1 := V1) hG dX5_untouchPoint_1 l_X5_242 y0X5_pop yvX5_pop rfl (Nat.le_of_ble_eq_true rfl) lay_69 kr_5 (by decide) (Nat.le_of_ble_eq_true rfl) rfl rfl rfl (t_X5_pop hG ⟨rfl, rfl⟩ g2) ?_
  refine sx_istore_n (pc := 4) (lo' := [(1, .int x3), (0, .ref 69)]) dX5_untouchPoint_4 (by decide) rfl ?_
  refine sx_aload_n (pc := 5) dX5_untouchPoint_5 sx_m1 ?_
  refine sx_iconst (pc := 6) (v := 0) dX5_untouchPoint_6 (by decide) ?_
  obtain ⟨⟨x6, V4⟩, g5, h⟩ := sx_bnd h
  refine sv_cV (pc := 7) (y := qX5_zone) (o := (some (.ref x6))) (as := [.int (0 : Int32)]) (V1 := V4) hG dX5_untouchPoint_7 l_X5_255 y0X5_zone yvX5_zone rfl (Nat.le_of_ble_eq_true rfl) lay_69 kr_5 (by decide) (Nat.le_of_ble_eq_true rfl) rfl rfl rfl (t_X5_zone hG ⟨rfl, rfl⟩ g5) ?_
  refine sx_astore_n (pc := 10) (lo' := [(2, .ref x6), (1, .int x3), (0, .ref 69)]) dX5_untouchPoint_10 (by decide) rfl ?_
  refine sx_aload_n (pc := 11) dX5_untouchPoint_11 sx_m2 ?_
  refine sx_aload_n (pc := 12) dX5_untouchPoint_12 sx_m0 ?_
  refine sx_iload_n (pc := 13) dX5_untouchPoint_13 sx_m1 ?_
  obtain ⟨⟨x9, V7⟩, g8, h⟩ := sx_bnd h
  refine sv_cV (pc := 14) (y := qX5_isThere) (o := (some (.int x9))) (as := [.ref x6, .int x3]) (V1 := V7) hG dX5_untouchPoint_14 l_X5_259 y0X5_isThere yvX5_isThere rfl (Nat.le_of_ble_eq_true rfl) lay_69 kr_5 (by decide) (Nat.le_of_ble_eq_true rfl) rfl rfl rfl (t_X5_isThere hG ⟨rfl, rfl⟩ g8) ?_
  refine sx_if_eq (pc := 17) (tgt := 35) dX5_untouchPoint_17 (by decide) (fun c10 => ?_) (fun c10 => ?_)
  · have h := sx_pos c10 h
    exact sv_vret (pc := 35) dX5_untouchPoint_35 rfl h hP
  · have h := sx_neg c10 h
    refine sx_aload_n (pc := 20) dX5_untouchPoint_20 sx_m0 ?_
    obtain ⟨g11, h⟩ := sx_grd h
    obtain ⟨b12, g13, h⟩ := sx_bnd h
    refine sv_getA (pc := 21) hG dX5_untouchPoint_21 f_5_220 g11 rfl g13 ?_
    refine sx_iload_n (pc := 24) dX5_untouchPoint_24 sx_m1 ?_
    refine sx_dup2 (pc := 25) dX5_untouchPoint_25 rfl rfl ?_
    obtain ⟨n14, g15, h⟩ := sx_bnd h
    obtain ⟨g16, h⟩ := sx_grd h
    refine sv_iald (pc := 26) hG dX5_untouchPoint_26 (sv_len_e g15) g16 ?_
    refine sx_aload_n (pc := 27) dX5_untouchPoint_27 sx_m2 ?_
    obtain ⟨⟨x19, V17⟩, g18, h⟩ := sx_bnd h
    refine sv_cV (pc := 28) (y := qX5_touchBits) (o := (some (.int x19))) (as := []) (V1 := V17) hG dX5_untouchPoint_28 l_X5_223 y0X5_touchBits yvX5_touchBits rfl (Nat.le_of_ble_eq_true rfl) lay_69 kr_5 (by decide) (Nat.le_of_ble_eq_true rfl) rfl rfl rfl (t_X5_touchBits hG ⟨rfl, rfl⟩ g18) ?_
    refine sx_iconst (pc := 31) (v := (-1)) dX5_untouchPoint_31 (by decide) ?_
    refine sx_ixor (pc := 32) dX5_untouchPoint_32 ?_
    refine sx_iand (pc := 33) dX5_untouchPoint_33 ?_
    obtain ⟨g20, h⟩ := sx_grd h
    obtain ⟨V21, hV21⟩ : ∃ z : sv_V, z = sv_I V17 b12 x3.toNatClampNeg ((V7.1 b12 x3.toNatClampNeg) &&& (x19 ^^^ (-1 : Int32))) := ⟨_, rfl⟩
    have h := sx_letE hV21 h
    refine sv_iast (pc := 34) hG dX5_untouchPoint_34 (sv_len_e g15) g20 hV21 ?_
    exact sv_vret (pc := 35) dX5_untouchPoint_35 rfl h hP
theorem dX5_alignPoints_0 : decode cX5_alignPoints 0 = .ok (.aload_n 0, 1) := by decide +kernel
theorem dX5_alignPoints_1 : decode cX5_alignPoints 1 = .ok (.invokevirtual 242, 3) := by decide +kernel
theorem dX5_alignPoints_4 : decode cX5_alignPoints 4 = .ok (.istore_n 1, 1) := by decide +kernel
theorem dX5_alignPoints_5 : decode cX5_alignPoints 5 = .ok (.aload_n 0, 1) := by decide +kernel
theorem dX5_alignPoints_6 : decode cX5_alignPoints 6 = .ok (.invokevirtual 242, 3) := by decide +kernel
theorem dX5_alignPoints_9 : decode cX5_alignPoints 9 = .ok (.istore_n 2, 1) := by decide +kernel
theorem dX5_alignPoints_10 : decode cX5_alignPoints 10 = .ok (.aload_n 0, 1) := by decide +kernel
theorem dX5_alignPoints_11 : decode cX5_alignPoints 11 = .ok (.iconst 1, 1) := by decide +kernel
theorem dX5_alignPoints_12 : decode cX5_alignPoints 12 = .ok (.invokevirtual 255, 3) := by decide +kernel
theorem dX5_alignPoints_15 : decode cX5_alignPoints 15 = .ok (.astore_n 3, 1) := by decide +kernel
theorem dX5_alignPoints_16 : decode cX5_alignPoints 16 = .ok (.aload_n 0, 1) := by decide +kernel
theorem dX5_alignPoints_17 : decode cX5_alignPoints 17 = .ok (.iconst 0, 1) := by decide +kernel
theorem dX5_alignPoints_18 : decode cX5_alignPoints 18 = .ok (.invokevirtual 255, 3) := by decide +kernel
theorem dX5_alignPoints_21 : decode cX5_alignPoints 21 = .ok (.astore 4, 2) := by decide +kernel
theorem dX5_alignPoints_23 : decode cX5_alignPoints 23 = .ok (.aload_n 0, 1) := by decide +kernel
theorem dX5_alignPoints_24 : decode cX5_alignPoints 24 = .ok (.aload_n 3, 1) := by decide +kernel
theorem dX5_alignPoints_25 : decode cX5_alignPoints 25 = .ok (.iload_n 2, 1) := by decide +kernel
theorem dX5_alignPoints_26 : decode cX5_alignPoints 26 = .ok (.invokevirtual 259, 3) := by decide +kernel
theorem dX5_alignPoints_29 : decode cX5_alignPoints 29 = .ok (.ifCond .eq 13, 3) := by decide +kernel
theorem dX5_alignPoints_32 : decode cX5_alignPoints 32 = .ok (.aload_n 0, 1) := by decide +kernel
theorem dX5_alignPoints_33 : decode cX5_alignPoints 33 = .ok (.aload 4, 2) := by decide +kernel
theorem dX5_alignPoints_35 : decode cX5_alignPoints 35 = .ok (.iload_n 1, 1) := by decide +kernel
theorem dX5_alignPoints_36 : decode cX5_alignPoints 36 = .ok (.invokevirtual 259, 3) := by decide +kernel
theorem dX5_alignPoints_39 : decode cX5_alignPoints 39 = .ok (.ifCond .ne 4, 3) := by decide +kernel
theorem dX5_alignPoints_42 : decode cX5_alignPoints 42 = .ok (.return_, 1) := by decide +kernel
theorem dX5_alignPoints_43 : decode cX5_alignPoints 43 = .ok (.aload_n 0, 1) := by decide +kernel
theorem dX5_alignPoints_44 : decode cX5_alignPoints 44 = .ok (.aload 4, 2) := by decide +kernel
theorem dX5_alignPoints_46 : decode cX5_alignPoints 46 = .ok (.iload_n 1, 1) := by decide +kernel
theorem dX5_alignPoints_47 : decode cX5_alignPoints 47 = .ok (.aload_n 3, 1) := by decide +kernel
theorem dX5_alignPoints_48 : decode cX5_alignPoints 48 = .ok (.iload_n 2, 1) := by decide +kernel
theorem dX5_alignPoints_49 : decode cX5_alignPoints 49 = .ok (.invokevirtual 455, 3) := by decide +kernel
theorem dX5_alignPoints_52 : decode cX5_alignPoints 52 = .ok (.ldc2_w 459, 3) := by decide +kernel
theorem dX5_alignPoints_55 : decode cX5_alignPoints 55 = .ok (.ldiv, 1) := by decide +kernel
theorem dX5_alignPoints_56 : decode cX5_alignPoints 56 = .ok (.lstore 5, 2) := by decide +kernel
theorem dX5_alignPoints_58 : decode cX5_alignPoints 58 = .ok (.aload_n 0, 1) := by decide +kernel
theorem dX5_alignPoints_59 : decode cX5_alignPoints 59 = .ok (.aload_n 3, 1) := by decide +kernel
theorem dX5_alignPoints_60 : decode cX5_alignPoints 60 = .ok (.iload_n 2, 1) := by decide +kernel
theorem dX5_alignPoints_61 : decode cX5_alignPoints 61 = .ok (.lload 5, 2) := by decide +kernel
theorem dX5_alignPoints_63 : decode cX5_alignPoints 63 = .ok (.invokevirtual 461, 3) := by decide +kernel
theorem dX5_alignPoints_66 : decode cX5_alignPoints 66 = .ok (.aload_n 0, 1) := by decide +kernel
theorem dX5_alignPoints_67 : decode cX5_alignPoints 67 = .ok (.aload 4, 2) := by decide +kernel
theorem dX5_alignPoints_69 : decode cX5_alignPoints 69 = .ok (.iload_n 1, 1) := by decide +kernel
theorem dX5_alignPoints_70 : decode cX5_alignPoints 70 = .ok (.lload 5, 2) := by decide +kernel
theorem dX5_alignPoints_72 : decode cX5_alignPoints 72 = .ok (.lneg, 1) := by decide +kernel
theorem dX5_alignPoints_73 : decode cX5_alignPoints 73 = .ok (.invokevirtual 461, 3) := by decide +kernel
theorem dX5_alignPoints_76 : decode cX5_alignPoints 76 = .ok (.return_, 1) := by decide +kernel
def F_X5_alignPoints  (V : sv_V) : Option sv_V := (F_X5_pop  V).bind (fun (x3, V1) => (F_X5_pop  V1).bind (fun (x6, V4) => (F_X5_zone (1 : Int32) V4).bind (fun (x9, V7) => (F_X5_zone (0 : Int32) V7).bind (fun (x12, V10) => (F_X5_isThere x9 x6 V10).bind (fun (x15, V13) => if x15 = 0 then (some V13) else ((F_X5_isThere x12 x3 V13).bind (fun (x19, V17) => if x19 = 0 then (some V17) else ((F_X5_longBetween x12 x3 x9 x6 V17).bind (fun (x23, V21) => sx_let (x23 / (2 : Int64)) (fun x24 => (F_X5_move x9 x6 x24 V21).bind (fun V25 => (F_X5_move x12 x3 (-x24) V25).bind (fun V27 => some V27))))))))))))
set_option maxRecDepth 20000 in
theorem t_X5_alignPoints {g : sx_G} (hG : sx_Go g) {P : Option Value → sv_V → Prop} {Vr : sv_V} (hP : P none Vr)  {V : sv_V} (h : F_X5_alignPoints  V = some Vr) : sv_N g qX5_alignPoints 2 0 [(0, .ref 69)] [] V P := by
  unfold F_X5_alignPoints at h
  refine sx_aload_n (pc := 0) dX5_alignPoints_0 sx_m0 ?_
  obtain ⟨⟨x3, V1⟩, g2, h⟩ := sx_bnd h
  refine sv_cV (pc := 1) (y := qX5_pop) (o := (some (.int x3))) (as := []) (V1 := V1) hG dX5_alignPoints_1 l_X5_242 y0X5_pop yvX5_pop rfl (Nat.le_of_ble_eq_true rfl) lay_69 kr_5 (by decide) (Nat.le_of_ble_eq_true rfl) rfl rfl rfl (t_X5_pop hG ⟨rfl, rfl⟩ g2) ?_
  refine sx_istore_n (pc := 4) (lo' := [(1, .int x3), (0, .ref 69)]) dX5_alignPoints_4 (by decide) rfl ?_
  refine sx_aload_n (pc := 5) dX5_alignPoints_5 sx_m1 ?_
  obtain ⟨⟨x6, V4⟩, g5, h⟩ := sx_bnd h
  refine sv_cV (pc := 6) (y := qX5_pop) (o := (some (.int x6))) (as := []) (V1 := V4) hG dX5_alignPoints_6 l_X5_242 y0X5_pop yvX5_pop rfl (Nat.le_of_ble_eq_true rfl) lay_69 kr_5 (by decide) (Nat.le_of_ble_eq_true rfl) rfl rfl rfl (t_X5_pop hG ⟨rfl, rfl⟩ g5) ?_
  refine sx_istore_n (pc := 9) (lo' := [(2, .int x6), (1, .int x3), (0, .ref 69)]) dX5_alignPoints_9 (by decide) rfl ?_
  refine sx_aload_n (pc := 10) dX5_alignPoints_10 sx_m2 ?_
  refine sx_iconst (pc := 11) (v := 1) dX5_alignPoints_11 (by decide) ?_
  obtain ⟨⟨x9, V7⟩, g8, h⟩ := sx_bnd h
  refine sv_cV (pc := 12) (y := qX5_zone) (o := (some (.ref x9))) (as := [.int (1 : Int32)]) (V1 := V7) hG dX5_alignPoints_12 l_X5_255 y0X5_zone yvX5_zone rfl (Nat.le_of_ble_eq_true rfl) lay_69 kr_5 (by decide) (Nat.le_of_ble_eq_true rfl) rfl rfl rfl (t_X5_zone hG ⟨rfl, rfl⟩ g8) ?_
  refine sx_astore_n (pc := 15) (lo' := [(3, .ref x9), (2, .int x6), (1, .int x3), (0, .ref 69)]) dX5_alignPoints_15 (by decide) rfl ?_
  refine sx_aload_n (pc := 16) dX5_alignPoints_16 sx_m3 ?_
  refine sx_iconst (pc := 17) (v := 0) dX5_alignPoints_17 (by decide) ?_
  obtain ⟨⟨x12, V10⟩, g11, h⟩ := sx_bnd h
  refine sv_cV (pc := 18) (y := qX5_zone) (o := (some (.ref x12))) (as := [.int (0 : Int32)]) (V1 := V10) hG dX5_alignPoints_18 l_X5_255 y0X5_zone yvX5_zone rfl (Nat.le_of_ble_eq_true rfl) lay_69 kr_5 (by decide) (Nat.le_of_ble_eq_true rfl) rfl rfl rfl (t_X5_zone hG ⟨rfl, rfl⟩ g11) ?_
  refine sx_astore (pc := 21) (lo' := [(4, .ref x12), (3, .ref x9), (2, .int x6), (1, .int x3), (0, .ref 69)]) dX5_alignPoints_21 (by decide) rfl ?_
  refine sx_aload_n (pc := 23) dX5_alignPoints_23 sx_m4 ?_
  refine sx_aload_n (pc := 24) dX5_alignPoints_24 sx_m1 ?_
  refine sx_iload_n (pc := 25) dX5_alignPoints_25 sx_m2 ?_
  obtain ⟨⟨x15, V13⟩, g14, h⟩ := sx_bnd h
  refine sv_cV (pc := 26) (y := qX5_isThere) (o := (some (.int x15))) (as := [.ref x9, .int x6]) (V1 := V13) hG dX5_alignPoints_26 l_X5_259 y0X5_isThere yvX5_isThere rfl (Nat.le_of_ble_eq_true rfl) lay_69 kr_5 (by decide) (Nat.le_of_ble_eq_true rfl) rfl rfl rfl (t_X5_isThere hG ⟨rfl, rfl⟩ g14) ?_
  refine sx_if_eq (pc := 29) (tgt := 42) dX5_alignPoints_29 (by decide) (fun c16 => ?_) (fun c16 => ?_)
  · have h := sx_pos c16 h
    exact sv_vret (pc := 42) dX5_alignPoints_42 rfl h hP
  · have h := sx_neg c16 h
    refine sx_aload_n (pc := 32) dX5_alignPoints_32 sx_m4 ?_
    refine sx_aload (pc := 33) dX5_alignPoints_33 sx_m0 ?_
    refine sx_iload_n (pc := 35) dX5_alignPoints_35 sx_m3 ?_
    obtain ⟨⟨x19, V17⟩, g18, h⟩ := sx_bnd h
    refine sv_cV (pc := 36) (y := qX5_isThere) (o := (some (.int x19))) (as := [.ref x12, .int x3]) (V1 := V17) hG dX5_alignPoints_36 l_X5_259 y0X5_isThere yvX5_isThere rfl (Nat.le_of_ble_eq_true rfl) lay_69 kr_5 (by decide) (Nat.le_of_ble_eq_true rfl) rfl rfl rfl (t_X5_isThere hG ⟨rfl, rfl⟩ g18) ?_
    refine sx_if_ne (pc := 39) (tgt := 43) dX5_alignPoints_39 (by decide) (fun c20 => ?_) (fun c20 => ?_)
    · have h := sx_neg c20 h
      refine sx_aload_n (pc := 43) dX5_alignPoints_43 sx_m4 ?_
      refine sx_aload (pc := 44) dX5_alignPoints_44 sx_m0 ?_
      refine sx_iload_n (pc := 46) dX5_alignPoints_46 sx_m3 ?_
      refine sx_aload_n (pc := 47) dX5_alignPoints_47 sx_m1 ?_
      refine sx_iload_n (pc := 48) dX5_alignPoints_48 sx_m2 ?_
      obtain ⟨⟨x23, V21⟩, g22, h⟩ := sx_bnd h
      refine sv_cV (pc := 49) (y := qX5_longBetween) (o := (some (.long x23))) (as := [.ref x12, .int x3, .ref x9, .int x6]) (V1 := V21) hG dX5_alignPoints_49 l_X5_455 y0X5_longBetween yvX5_longBetween rfl (Nat.le_of_ble_eq_true rfl) lay_69 kr_5 (by decide) (Nat.le_of_ble_eq_true rfl) rfl rfl rfl (t_X5_longBetween hG ⟨rfl, rfl⟩ g22) ?_
      refine sx_ldc2 (pc := 52) dX5_alignPoints_52 k_X5_459 ?_
      refine sx_ldiv (pc := 55) dX5_alignPoints_55 (by decide) ?_
      refine sv_tJ (fun x24 hx24 => ?_)
      have h := sx_letE hx24 h
      refine sx_lstore (pc := 56) (lo' := [(5, .long x24), (4, .ref x12), (3, .ref x9), (2, .int x6), (1, .int x3), (0, .ref 69)]) dX5_alignPoints_56 (by decide) rfl ?_
      refine sx_aload_n (pc := 58) dX5_alignPoints_58 sx_m5 ?_
      refine sx_aload_n (pc := 59) dX5_alignPoints_59 sx_m2 ?_
      refine sx_iload_n (pc := 60) dX5_alignPoints_60 sx_m3 ?_
      refine sx_lload (pc := 61) dX5_alignPoints_61 sx_m0 ?_
      obtain ⟨V25, g26, h⟩ := sx_bnd h
      refine sv_cV (pc := 63) (y := qX5_move) (o := none) (as := [.ref x9, .int x6, .long x24]) (V1 := V25) hG dX5_alignPoints_63 l_X5_461 y0X5_move yvX5_move rfl (Nat.le_of_ble_eq_true rfl) lay_69 kr_5 (by decide) (Nat.le_of_ble_eq_true rfl) rfl rfl rfl (t_X5_move hG ⟨rfl, rfl⟩ g26) ?_
      refine sx_aload_n (pc := 66) dX5_alignPoints_66 sx_m5 ?_
      refine sx_aload (pc := 67) dX5_alignPoints_67 sx_m1 ?_
      refine sx_iload_n (pc := 69) dX5_alignPoints_69 sx_m4 ?_
      refine sx_lload (pc := 70) dX5_alignPoints_70 sx_m0 ?_
      refine sx_lneg (pc := 72) dX5_alignPoints_72 ?_
      obtain ⟨V27, g28, h⟩ := sx_bnd h
      refine sv_cV (pc := 73) (y := qX5_move) (o := none) (as := [.ref x12, .int x3, .long (-x24)]) (V1 := V27) hG dX5_alignPoints_73 l_X5_461 y0X5_move yvX5_move rfl (Nat.le_of_ble_eq_true rfl) lay_69 kr_5 (by decide) (Nat.le_of_ble_eq_true rfl) rfl rfl rfl (t_X5_move hG ⟨rfl, rfl⟩ g28) ?_
      exact sv_vret (pc := 76) dX5_alignPoints_76 rfl h hP
    · have h := sx_pos c20 h
      exact sv_vret (pc := 42) dX5_alignPoints_42 rfl h hP
theorem dX5_tellLong_0 : decode cX5_tellLong 0 = .ok (.aload_n 0, 1) := by decide +kernel
theorem dX5_tellLong_1 : decode cX5_tellLong 1 = .ok (.invokevirtual 242, 3) := by decide +kernel
theorem dX5_tellLong_4 : decode cX5_tellLong 4 = .ok (.istore_n 2, 1) := by decide +kernel
theorem dX5_tellLong_5 : decode cX5_tellLong 5 = .ok (.aload_n 0, 1) := by decide +kernel
theorem dX5_tellLong_6 : decode cX5_tellLong 6 = .ok (.iconst 2, 1) := by decide +kernel
theorem dX5_tellLong_7 : decode cX5_tellLong 7 = .ok (.invokevirtual 255, 3) := by decide +kernel
theorem dX5_tellLong_10 : decode cX5_tellLong 10 = .ok (.astore_n 3, 1) := by decide +kernel
theorem dX5_tellLong_11 : decode cX5_tellLong 11 = .ok (.aload_n 0, 1) := by decide +kernel
theorem dX5_tellLong_12 : decode cX5_tellLong 12 = .ok (.aload_n 3, 1) := by decide +kernel
theorem dX5_tellLong_13 : decode cX5_tellLong 13 = .ok (.iload_n 2, 1) := by decide +kernel
theorem dX5_tellLong_14 : decode cX5_tellLong 14 = .ok (.invokevirtual 259, 3) := by decide +kernel
theorem dX5_tellLong_17 : decode cX5_tellLong 17 = .ok (.ifCond .ne 4, 3) := by decide +kernel
theorem dX5_tellLong_20 : decode cX5_tellLong 20 = .ok (.return_, 1) := by decide +kernel
theorem dX5_tellLong_21 : decode cX5_tellLong 21 = .ok (.aload_n 0, 1) := by decide +kernel
theorem dX5_tellLong_22 : decode cX5_tellLong 22 = .ok (.iload_n 1, 1) := by decide +kernel
theorem dX5_tellLong_23 : decode cX5_tellLong 23 = .ok (.bipush 70, 2) := by decide +kernel
theorem dX5_tellLong_25 : decode cX5_tellLong 25 = .ok (.if_icmp .ne 24, 3) := by decide +kernel
theorem dX5_tellLong_28 : decode cX5_tellLong 28 = .ok (.aload_n 0, 1) := by decide +kernel
theorem dX5_tellLong_29 : decode cX5_tellLong 29 = .ok (.aload_n 3, 1) := by decide +kernel
theorem dX5_tellLong_30 : decode cX5_tellLong 30 = .ok (.getfield 198, 3) := by decide +kernel
theorem dX5_tellLong_33 : decode cX5_tellLong 33 = .ok (.iload_n 2, 1) := by decide +kernel
theorem dX5_tellLong_34 : decode cX5_tellLong 34 = .ok (.iaload, 1) := by decide +kernel
theorem dX5_tellLong_35 : decode cX5_tellLong 35 = .ok (.i2l, 1) := by decide +kernel
theorem dX5_tellLong_36 : decode cX5_tellLong 36 = .ok (.aload_n 3, 1) := by decide +kernel
theorem dX5_tellLong_37 : decode cX5_tellLong 37 = .ok (.getfield 201, 3) := by decide +kernel
theorem dX5_tellLong_40 : decode cX5_tellLong 40 = .ok (.iload_n 2, 1) := by decide +kernel
theorem dX5_tellLong_41 : decode cX5_tellLong 41 = .ok (.iaload, 1) := by decide +kernel
theorem dX5_tellLong_42 : decode cX5_tellLong 42 = .ok (.i2l, 1) := by decide +kernel
theorem dX5_tellLong_43 : decode cX5_tellLong 43 = .ok (.invokevirtual 465, 3) := by decide +kernel
theorem dX5_tellLong_46 : decode cX5_tellLong 46 = .ok (.goto 21, 3) := by decide +kernel
theorem dX5_tellLong_49 : decode cX5_tellLong 49 = .ok (.aload_n 0, 1) := by decide +kernel
theorem dX5_tellLong_50 : decode cX5_tellLong 50 = .ok (.aload_n 3, 1) := by decide +kernel
theorem dX5_tellLong_51 : decode cX5_tellLong 51 = .ok (.getfield 204, 3) := by decide +kernel
theorem dX5_tellLong_54 : decode cX5_tellLong 54 = .ok (.iload_n 2, 1) := by decide +kernel
theorem dX5_tellLong_55 : decode cX5_tellLong 55 = .ok (.iaload, 1) := by decide +kernel
theorem dX5_tellLong_56 : decode cX5_tellLong 56 = .ok (.i2l, 1) := by decide +kernel
theorem dX5_tellLong_57 : decode cX5_tellLong 57 = .ok (.aload_n 3, 1) := by decide +kernel
theorem dX5_tellLong_58 : decode cX5_tellLong 58 = .ok (.getfield 207, 3) := by decide +kernel
theorem dX5_tellLong_61 : decode cX5_tellLong 61 = .ok (.iload_n 2, 1) := by decide +kernel
theorem dX5_tellLong_62 : decode cX5_tellLong 62 = .ok (.iaload, 1) := by decide +kernel
theorem dX5_tellLong_63 : decode cX5_tellLong 63 = .ok (.i2l, 1) := by decide +kernel
theorem dX5_tellLong_64 : decode cX5_tellLong 64 = .ok (.invokevirtual 468, 3) := by decide +kernel
theorem dX5_tellLong_67 : decode cX5_tellLong 67 = .ok (.invokevirtual 232, 3) := by decide +kernel
theorem dX5_tellLong_70 : decode cX5_tellLong 70 = .ok (.return_, 1) := by decide +kernel
def B_X5_tellLong_67  (s1 : Int64) (V : sv_V) : Option sv_V := (F_X5_push s1 V).bind (fun V1 => some V1)
set_option maxRecDepth 20000 in
theorem tB_X5_tellLong_67 {g : sx_G} (hG : sx_Go g) {P : Option Value → sv_V → Prop} {Vr : sv_V} (hP : P none Vr)   {s1 : Int64} {V : sv_V} (h : B_X5_tellLong_67  s1 V = some Vr) : sv_N g qX5_tellLong 2 67 [] [.long s1, .ref 69] V P := by
  unfold B_X5_tellLong_67 at h
  obtain ⟨V1, g2, h⟩ := sx_bnd h
  refine sv_cV (pc := 67) (y := qX5_push) (o := none) (as := [.long s1]) (V1 := V1) hG dX5_tellLong_67 l_X5_232 y0X5_push yvX5_push rfl (Nat.le_of_ble_eq_true rfl) lay_69 kr_5 (by decide) (Nat.le_of_ble_eq_true rfl) rfl rfl rfl (t_X5_push hG ⟨rfl, rfl⟩ g2) ?_
  exact sv_vret (pc := 70) dX5_tellLong_70 rfl h hP
def F_X5_tellLong (l1 : Int32) (V : sv_V) : Option sv_V := (F_X5_pop  V).bind (fun (x5, V3) => (F_X5_zone (2 : Int32) V3).bind (fun (x8, V6) => (F_X5_isThere x8 x5 V6).bind (fun (x11, V9) => if x11 = 0 then (some V9) else (if l1 = (70 : Int32) then (if lay x8 = .inl 8 then (cr x8 0).bind (fun b29 => (sv_len 0 b29).bind (fun n31 => if sx_in x5 n31 = true then (cr x8 1).bind (fun b34 => (sv_len 0 b34).bind (fun n36 => if sx_in x5 n36 = true then (F_X5_longByP ((V9.1 b29 x5.toNatClampNeg).toInt64) ((V9.1 b34 x5.toNatClampNeg).toInt64) V9).bind (fun (x41, V39) => B_X5_tellLong_67  x41 V39) else none)) else none)) else none) else (if lay x8 = .inl 8 then (cr x8 2).bind (fun b15 => (sv_len 0 b15).bind (fun n17 => if sx_in x5 n17 = true then (cr x8 3).bind (fun b20 => (sv_len 0 b20).bind (fun n22 => if sx_in x5 n22 = true then (F_X5_longByD ((V9.1 b15 x5.toNatClampNeg).toInt64) ((V9.1 b20 x5.toNatClampNeg).toInt64) V9).bind (fun (x27, V25) => B_X5_tellLong_67  x27 V25) else none)) else none)) else none)))))
set_option maxRecDepth 20000 in
theorem t_X5_tellLong {g : sx_G} (hG : sx_Go g) {P : Option Value → sv_V → Prop} {Vr : sv_V} (hP : P none Vr) {l1 : Int32} {V : sv_V} (h : F_X5_tellLong l1 V = some Vr) : sv_N g qX5_tellLong 2 0 [(0, .ref 69), (1, .int l1)] [] V P := by
  unfold F_X5_tellLong at h
  refine sx_aload_n (pc := 0) dX5_tellLong_0 sx_m0 ?_
  obtain ⟨⟨x5, V3⟩, g4, h⟩ := sx_bnd h
  refine sv_cV (pc := 1) (y := qX5_pop) (o := (some (.int x5))) (as := []) (V1 := V3) hG dX5_tellLong_1 l_X5_242 y0X5_pop yvX5_pop rfl (Nat.le_of_ble_eq_true rfl) lay_69 kr_5 (by decide) (Nat.le_of_ble_eq_true rfl) rfl rfl rfl (t_X5_pop hG ⟨rfl, rfl⟩ g4) ?_
  refine sx_istore_n (pc := 4) (lo' := [(2, .int x5), (0, .ref 69), (1, .int l1)]) dX5_tellLong_4 (by decide) rfl ?_
  refine sx_aload_n (pc := 5) dX5_tellLong_5 sx_m1 ?_
  refine sx_iconst (pc := 6) (v := 2) dX5_tellLong_6 (by decide) ?_
  obtain ⟨⟨x8, V6⟩, g7, h⟩ := sx_bnd h
  refine sv_cV (pc := 7) (y := qX5_zone) (o := (some (.ref x8))) (as := [.int (2 : Int32)]) (V1 := V6) hG dX5_tellLong_7 l_X5_255 y0X5_zone yvX5_zone rfl (Nat.le_of_ble_eq_true rfl) lay_69 kr_5 (by decide) (Nat.le_of_ble_eq_true rfl) rfl rfl rfl (t_X5_zone hG ⟨rfl, rfl⟩ g7) ?_
  refine sx_astore_n (pc := 10) (lo' := [(3, .ref x8), (2, .int x5), (0, .ref 69), (1, .int l1)]) dX5_tellLong_10 (by decide) rfl ?_
  refine sx_aload_n (pc := 11) dX5_tellLong_11 sx_m2 ?_
  refine sx_aload_n (pc := 12) dX5_tellLong_12 sx_m0 ?_
  refine sx_iload_n (pc := 13) dX5_tellLong_13 sx_m1 ?_
  obtain ⟨⟨x11, V9⟩, g10, h⟩ := sx_bnd h
  refine sv_cV (pc := 14) (y := qX5_isThere) (o := (some (.int x11))) (as := [.ref x8, .int x5]) (V1 := V9) hG dX5_tellLong_14 l_X5_259 y0X5_isThere yvX5_isThere rfl (Nat.le_of_ble_eq_true rfl) lay_69 kr_5 (by decide) (Nat.le_of_ble_eq_true rfl) rfl rfl rfl (t_X5_isThere hG ⟨rfl, rfl⟩ g10) ?_
  refine sx_if_ne (pc := 17) (tgt := 21) dX5_tellLong_17 (by decide) (fun c12 => ?_) (fun c12 => ?_)
  · have h := sx_neg c12 h
    refine sx_aload_n (pc := 21) dX5_tellLong_21 sx_m2 ?_
    refine sx_iload_n (pc := 22) dX5_tellLong_22 sx_m3 ?_
    refine sx_bipush (pc := 23) (v := 70) dX5_tellLong_23 (by decide) ?_
    refine sx_icmp_ne (pc := 25) (tgt := 49) dX5_tellLong_25 (by decide) (fun c13 => ?_) (fun c13 => ?_)
    · have h := sx_neg c13 h
      refine sx_aload_n (pc := 49) dX5_tellLong_49 sx_m2 ?_
      refine sx_aload_n (pc := 50) dX5_tellLong_50 sx_m0 ?_
      obtain ⟨g14, h⟩ := sx_grd h
      obtain ⟨b15, g16, h⟩ := sx_bnd h
      refine sv_getA (pc := 51) hG dX5_tellLong_51 f_5_204 g14 rfl g16 ?_
      refine sx_iload_n (pc := 54) dX5_tellLong_54 sx_m1 ?_
      obtain ⟨n17, g18, h⟩ := sx_bnd h
      obtain ⟨g19, h⟩ := sx_grd h
      refine sv_iald (pc := 55) hG dX5_tellLong_55 (sv_len_e g18) g19 ?_
      refine sx_i2l (pc := 56) dX5_tellLong_56 ?_
      refine sx_aload_n (pc := 57) dX5_tellLong_57 sx_m0 ?_
      obtain ⟨b20, g21, h⟩ := sx_bnd h
      refine sv_getA (pc := 58) hG dX5_tellLong_58 f_5_207 g14 rfl g21 ?_
      refine sx_iload_n (pc := 61) dX5_tellLong_61 sx_m1 ?_
      obtain ⟨n22, g23, h⟩ := sx_bnd h
      obtain ⟨g24, h⟩ := sx_grd h
      refine sv_iald (pc := 62) hG dX5_tellLong_62 (sv_len_e g23) g24 ?_
      refine sx_i2l (pc := 63) dX5_tellLong_63 ?_
      obtain ⟨⟨x27, V25⟩, g26, h⟩ := sx_bnd h
      refine sv_cV (pc := 64) (y := qX5_longByD) (o := (some (.long x27))) (as := [.long ((V9.1 b15 x5.toNatClampNeg).toInt64), .long ((V9.1 b20 x5.toNatClampNeg).toInt64)]) (V1 := V25) hG dX5_tellLong_64 l_X5_468 y0X5_longByD yvX5_longByD rfl (Nat.le_of_ble_eq_true rfl) lay_69 kr_5 (by decide) (Nat.le_of_ble_eq_true rfl) rfl rfl rfl (t_X5_longByD hG ⟨rfl, rfl⟩ g26) ?_
      refine sx_wk sx_s0 ?_
      exact tB_X5_tellLong_67 hG hP  h
    · have h := sx_pos c13 h
      refine sx_aload_n (pc := 28) dX5_tellLong_28 sx_m2 ?_
      refine sx_aload_n (pc := 29) dX5_tellLong_29 sx_m0 ?_
      obtain ⟨g28, h⟩ := sx_grd h
      obtain ⟨b29, g30, h⟩ := sx_bnd h
      refine sv_getA (pc := 30) hG dX5_tellLong_30 f_5_198 g28 rfl g30 ?_
      refine sx_iload_n (pc := 33) dX5_tellLong_33 sx_m1 ?_
      obtain ⟨n31, g32, h⟩ := sx_bnd h
      obtain ⟨g33, h⟩ := sx_grd h
      refine sv_iald (pc := 34) hG dX5_tellLong_34 (sv_len_e g32) g33 ?_
      refine sx_i2l (pc := 35) dX5_tellLong_35 ?_
      refine sx_aload_n (pc := 36) dX5_tellLong_36 sx_m0 ?_
      obtain ⟨b34, g35, h⟩ := sx_bnd h
      refine sv_getA (pc := 37) hG dX5_tellLong_37 f_5_201 g28 rfl g35 ?_
      refine sx_iload_n (pc := 40) dX5_tellLong_40 sx_m1 ?_
      obtain ⟨n36, g37, h⟩ := sx_bnd h
      obtain ⟨g38, h⟩ := sx_grd h
      refine sv_iald (pc := 41) hG dX5_tellLong_41 (sv_len_e g37) g38 ?_
      refine sx_i2l (pc := 42) dX5_tellLong_42 ?_
      obtain ⟨⟨x41, V39⟩, g40, h⟩ := sx_bnd h
      refine sv_cV (pc := 43) (y := qX5_longByP) (o := (some (.long x41))) (as := [.long ((V9.1 b29 x5.toNatClampNeg).toInt64), .long ((V9.1 b34 x5.toNatClampNeg).toInt64)]) (V1 := V39) hG dX5_tellLong_43 l_X5_465 y0X5_longByP yvX5_longByP rfl (Nat.le_of_ble_eq_true rfl) lay_69 kr_5 (by decide) (Nat.le_of_ble_eq_true rfl) rfl rfl rfl (t_X5_longByP hG ⟨rfl, rfl⟩ g40) ?_
      refine sx_goto (pc := 46) (tgt := 67) dX5_tellLong_46 (by decide) ?_
      refine sx_wk sx_s0 ?_
      exact tB_X5_tellLong_67 hG hP  h
  · have h := sx_pos c12 h
    exact sv_vret (pc := 20) dX5_tellLong_20 rfl h hP
theorem dX5_setLong_0 : decode cX5_setLong 0 = .ok (.aload_n 0, 1) := by decide +kernel
theorem dX5_setLong_1 : decode cX5_setLong 1 = .ok (.invokevirtual 242, 3) := by decide +kernel
theorem dX5_setLong_4 : decode cX5_setLong 4 = .ok (.istore_n 1, 1) := by decide +kernel
theorem dX5_setLong_5 : decode cX5_setLong 5 = .ok (.aload_n 0, 1) := by decide +kernel
theorem dX5_setLong_6 : decode cX5_setLong 6 = .ok (.invokevirtual 242, 3) := by decide +kernel
theorem dX5_setLong_9 : decode cX5_setLong 9 = .ok (.istore_n 2, 1) := by decide +kernel
theorem dX5_setLong_10 : decode cX5_setLong 10 = .ok (.aload_n 0, 1) := by decide +kernel
theorem dX5_setLong_11 : decode cX5_setLong 11 = .ok (.iconst 2, 1) := by decide +kernel
theorem dX5_setLong_12 : decode cX5_setLong 12 = .ok (.invokevirtual 255, 3) := by decide +kernel
theorem dX5_setLong_15 : decode cX5_setLong 15 = .ok (.astore_n 3, 1) := by decide +kernel
theorem dX5_setLong_16 : decode cX5_setLong 16 = .ok (.aload_n 0, 1) := by decide +kernel
theorem dX5_setLong_17 : decode cX5_setLong 17 = .ok (.aload_n 3, 1) := by decide +kernel
theorem dX5_setLong_18 : decode cX5_setLong 18 = .ok (.iload_n 2, 1) := by decide +kernel
theorem dX5_setLong_19 : decode cX5_setLong 19 = .ok (.invokevirtual 259, 3) := by decide +kernel
theorem dX5_setLong_22 : decode cX5_setLong 22 = .ok (.ifCond .ne 4, 3) := by decide +kernel
theorem dX5_setLong_25 : decode cX5_setLong 25 = .ok (.return_, 1) := by decide +kernel
theorem dX5_setLong_26 : decode cX5_setLong 26 = .ok (.aload_n 0, 1) := by decide +kernel
theorem dX5_setLong_27 : decode cX5_setLong 27 = .ok (.aload_n 3, 1) := by decide +kernel
theorem dX5_setLong_28 : decode cX5_setLong 28 = .ok (.iload_n 2, 1) := by decide +kernel
theorem dX5_setLong_29 : decode cX5_setLong 29 = .ok (.iload_n 1, 1) := by decide +kernel
theorem dX5_setLong_30 : decode cX5_setLong 30 = .ok (.i2l, 1) := by decide +kernel
theorem dX5_setLong_31 : decode cX5_setLong 31 = .ok (.aload_n 0, 1) := by decide +kernel
theorem dX5_setLong_32 : decode cX5_setLong 32 = .ok (.aload_n 3, 1) := by decide +kernel
theorem dX5_setLong_33 : decode cX5_setLong 33 = .ok (.getfield 198, 3) := by decide +kernel
theorem dX5_setLong_36 : decode cX5_setLong 36 = .ok (.iload_n 2, 1) := by decide +kernel
theorem dX5_setLong_37 : decode cX5_setLong 37 = .ok (.iaload, 1) := by decide +kernel
theorem dX5_setLong_38 : decode cX5_setLong 38 = .ok (.i2l, 1) := by decide +kernel
theorem dX5_setLong_39 : decode cX5_setLong 39 = .ok (.aload_n 3, 1) := by decide +kernel
theorem dX5_setLong_40 : decode cX5_setLong 40 = .ok (.getfield 201, 3) := by decide +kernel
theorem dX5_setLong_43 : decode cX5_setLong 43 = .ok (.iload_n 2, 1) := by decide +kernel
theorem dX5_setLong_44 : decode cX5_setLong 44 = .ok (.iaload, 1) := by decide +kernel
theorem dX5_setLong_45 : decode cX5_setLong 45 = .ok (.i2l, 1) := by decide +kernel
theorem dX5_setLong_46 : decode cX5_setLong 46 = .ok (.invokevirtual 465, 3) := by decide +kernel
theorem dX5_setLong_49 : decode cX5_setLong 49 = .ok (.lsub, 1) := by decide +kernel
theorem dX5_setLong_50 : decode cX5_setLong 50 = .ok (.invokevirtual 461, 3) := by decide +kernel
theorem dX5_setLong_53 : decode cX5_setLong 53 = .ok (.aload_n 0, 1) := by decide +kernel
theorem dX5_setLong_54 : decode cX5_setLong 54 = .ok (.getfield 12, 3) := by decide +kernel
theorem dX5_setLong_57 : decode cX5_setLong 57 = .ok (.getfield 172, 3) := by decide +kernel
theorem dX5_setLong_60 : decode cX5_setLong 60 = .ok (.iconst 2, 1) := by decide +kernel
theorem dX5_setLong_61 : decode cX5_setLong 61 = .ok (.iaload, 1) := by decide +kernel
theorem dX5_setLong_62 : decode cX5_setLong 62 = .ok (.ifCond .ne 27, 3) := by decide +kernel
theorem dX5_setLong_65 : decode cX5_setLong 65 = .ok (.aload_n 3, 1) := by decide +kernel
theorem dX5_setLong_66 : decode cX5_setLong 66 = .ok (.getfield 204, 3) := by decide +kernel
theorem dX5_setLong_69 : decode cX5_setLong 69 = .ok (.iload_n 2, 1) := by decide +kernel
theorem dX5_setLong_70 : decode cX5_setLong 70 = .ok (.aload_n 3, 1) := by decide +kernel
theorem dX5_setLong_71 : decode cX5_setLong 71 = .ok (.getfield 198, 3) := by decide +kernel
theorem dX5_setLong_74 : decode cX5_setLong 74 = .ok (.iload_n 2, 1) := by decide +kernel
theorem dX5_setLong_75 : decode cX5_setLong 75 = .ok (.iaload, 1) := by decide +kernel
theorem dX5_setLong_76 : decode cX5_setLong 76 = .ok (.iastore, 1) := by decide +kernel
theorem dX5_setLong_77 : decode cX5_setLong 77 = .ok (.aload_n 3, 1) := by decide +kernel
theorem dX5_setLong_78 : decode cX5_setLong 78 = .ok (.getfield 207, 3) := by decide +kernel
theorem dX5_setLong_81 : decode cX5_setLong 81 = .ok (.iload_n 2, 1) := by decide +kernel
theorem dX5_setLong_82 : decode cX5_setLong 82 = .ok (.aload_n 3, 1) := by decide +kernel
theorem dX5_setLong_83 : decode cX5_setLong 83 = .ok (.getfield 201, 3) := by decide +kernel
theorem dX5_setLong_86 : decode cX5_setLong 86 = .ok (.iload_n 2, 1) := by decide +kernel
theorem dX5_setLong_87 : decode cX5_setLong 87 = .ok (.iaload, 1) := by decide +kernel
theorem dX5_setLong_88 : decode cX5_setLong 88 = .ok (.iastore, 1) := by decide +kernel
theorem dX5_setLong_89 : decode cX5_setLong 89 = .ok (.return_, 1) := by decide +kernel
def F_X5_setLong  (V : sv_V) : Option sv_V := (F_X5_pop  V).bind (fun (x3, V1) => (F_X5_pop  V1).bind (fun (x6, V4) => (F_X5_zone (2 : Int32) V4).bind (fun (x9, V7) => (F_X5_isThere x9 x6 V7).bind (fun (x12, V10) => if x12 = 0 then (some V10) else (if lay x9 = .inl 8 then (cr x9 0).bind (fun b15 => (sv_len 0 b15).bind (fun n17 => if sx_in x6 n17 = true then (cr x9 1).bind (fun b20 => (sv_len 0 b20).bind (fun n22 => if sx_in x6 n22 = true then (F_X5_longByP ((V10.1 b15 x6.toNatClampNeg).toInt64) ((V10.1 b20 x6.toNatClampNeg).toInt64) V10).bind (fun (x27, V25) => (F_X5_move x9 x6 (x3.toInt64 - x27) V25).bind (fun V28 => if (V28.1 72 (2 : Int32).toNatClampNeg) = 0 then ((cr x9 2).bind (fun b31 => if sx_in x6 n17 = true then (sv_len 0 b31).bind (fun n34 => if sx_in x6 n34 = true then sx_let (sv_I V28 b31 x6.toNatClampNeg (V28.1 b15 x6.toNatClampNeg)) (fun V37 => (cr x9 3).bind (fun b38 => if sx_in x6 n22 = true then (sv_len 0 b38).bind (fun n41 => if sx_in x6 n41 = true then sx_let (sv_I V37 b38 x6.toNatClampNeg (V37.1 b20 x6.toNatClampNeg)) (fun V44 => some V44) else none) else none)) else none) else none)) else (some V28))) else none)) else none)) else none)))))
set_option maxRecDepth 20000 in
theorem t_X5_setLong {g : sx_G} (hG : sx_Go g) {P : Option Value → sv_V → Prop} {Vr : sv_V} (hP : P none Vr)  {V : sv_V} (h : F_X5_setLong  V = some Vr) : sv_N g qX5_setLong 2 0 [(0, .ref 69)] [] V P := by
  unfold F_X5_setLong at h
  refine sx_aload_n (pc := 0) dX5_setLong_0 sx_m0 ?_
  obtain ⟨⟨x3, V1⟩, g2, h⟩ := sx_bnd h
  refine sv_cV (pc := 1) (y := qX5_pop) (o := (some (.int x3))) (as := []) (V1 := V1) hG dX5_setLong_1 l_X5_242 y0X5_pop yvX5_pop rfl (Nat.le_of_ble_eq_true rfl) lay_69 kr_5 (by decide) (Nat.le_of_ble_eq_true rfl) rfl rfl rfl (t_X5_pop hG ⟨rfl, rfl⟩ g2) ?_
  refine sx_istore_n (pc := 4) (lo' := [(1, .int x3), (0, .ref 69)]) dX5_setLong_4 (by decide) rfl ?_
  refine sx_aload_n (pc := 5) dX5_setLong_5 sx_m1 ?_
  obtain ⟨⟨x6, V4⟩, g5, h⟩ := sx_bnd h
  refine sv_cV (pc := 6) (y := qX5_pop) (o := (some (.int x6))) (as := []) (V1 := V4) hG dX5_setLong_6 l_X5_242 y0X5_pop yvX5_pop rfl (Nat.le_of_ble_eq_true rfl) lay_69 kr_5 (by decide) (Nat.le_of_ble_eq_true rfl) rfl rfl rfl (t_X5_pop hG ⟨rfl, rfl⟩ g5) ?_
  refine sx_istore_n (pc := 9) (lo' := [(2, .int x6), (1, .int x3), (0, .ref 69)]) dX5_setLong_9 (by decide) rfl ?_
  refine sx_aload_n (pc := 10) dX5_setLong_10 sx_m2 ?_
  refine sx_iconst (pc := 11) (v := 2) dX5_setLong_11 (by decide) ?_
  obtain ⟨⟨x9, V7⟩, g8, h⟩ := sx_bnd h
  refine sv_cV (pc := 12) (y := qX5_zone) (o := (some (.ref x9))) (as := [.int (2 : Int32)]) (V1 := V7) hG dX5_setLong_12 l_X5_255 y0X5_zone yvX5_zone rfl (Nat.le_of_ble_eq_true rfl) lay_69 kr_5 (by decide) (Nat.le_of_ble_eq_true rfl) rfl rfl rfl (t_X5_zone hG ⟨rfl, rfl⟩ g8) ?_
  refine sx_astore_n (pc := 15) (lo' := [(3, .ref x9), (2, .int x6), (1, .int x3), (0, .ref 69)]) dX5_setLong_15 (by decide) rfl ?_
  refine sx_aload_n (pc := 16) dX5_setLong_16 sx_m3 ?_
  refine sx_aload_n (pc := 17) dX5_setLong_17 sx_m0 ?_
  refine sx_iload_n (pc := 18) dX5_setLong_18 sx_m1 ?_
  obtain ⟨⟨x12, V10⟩, g11, h⟩ := sx_bnd h
  refine sv_cV (pc := 19) (y := qX5_isThere) (o := (some (.int x12))) (as := [.ref x9, .int x6]) (V1 := V10) hG dX5_setLong_19 l_X5_259 y0X5_isThere yvX5_isThere rfl (Nat.le_of_ble_eq_true rfl) lay_69 kr_5 (by decide) (Nat.le_of_ble_eq_true rfl) rfl rfl rfl (t_X5_isThere hG ⟨rfl, rfl⟩ g11) ?_
  refine sx_if_ne (pc := 22) (tgt := 26) dX5_setLong_22 (by decide) (fun c13 => ?_) (fun c13 => ?_)
  · have h := sx_neg c13 h
    refine sx_aload_n (pc := 26) dX5_setLong_26 sx_m3 ?_
    refine sx_aload_n (pc := 27) dX5_setLong_27 sx_m0 ?_
    refine sx_iload_n (pc := 28) dX5_setLong_28 sx_m1 ?_
    refine sx_iload_n (pc := 29) dX5_setLong_29 sx_m2 ?_
    refine sx_i2l (pc := 30) dX5_setLong_30 ?_
    refine sx_aload_n (pc := 31) dX5_setLong_31 sx_m3 ?_
    refine sx_aload_n (pc := 32) dX5_setLong_32 sx_m0 ?_
    obtain ⟨g14, h⟩ := sx_grd h
    obtain ⟨b15, g16, h⟩ := sx_bnd h
    refine sv_getA (pc := 33) hG dX5_setLong_33 f_5_198 g14 rfl g16 ?_
    refine sx_iload_n (pc := 36) dX5_setLong_36 sx_m1 ?_
    obtain ⟨n17, g18, h⟩ := sx_bnd h
    obtain ⟨g19, h⟩ := sx_grd h
    refine sv_iald (pc := 37) hG dX5_setLong_37 (sv_len_e g18) g19 ?_
    refine sx_i2l (pc := 38) dX5_setLong_38 ?_
    refine sx_aload_n (pc := 39) dX5_setLong_39 sx_m0 ?_
    obtain ⟨b20, g21, h⟩ := sx_bnd h
    refine sv_getA (pc := 40) hG dX5_setLong_40 f_5_201 g14 rfl g21 ?_
    refine sx_iload_n (pc := 43) dX5_setLong_43 sx_m1 ?_
    obtain ⟨n22, g23, h⟩ := sx_bnd h
    obtain ⟨g24, h⟩ := sx_grd h
    refine sv_iald (pc := 44) hG dX5_setLong_44 (sv_len_e g23) g24 ?_
    refine sx_i2l (pc := 45) dX5_setLong_45 ?_
    obtain ⟨⟨x27, V25⟩, g26, h⟩ := sx_bnd h
    refine sv_cV (pc := 46) (y := qX5_longByP) (o := (some (.long x27))) (as := [.long ((V10.1 b15 x6.toNatClampNeg).toInt64), .long ((V10.1 b20 x6.toNatClampNeg).toInt64)]) (V1 := V25) hG dX5_setLong_46 l_X5_465 y0X5_longByP yvX5_longByP rfl (Nat.le_of_ble_eq_true rfl) lay_69 kr_5 (by decide) (Nat.le_of_ble_eq_true rfl) rfl rfl rfl (t_X5_longByP hG ⟨rfl, rfl⟩ g26) ?_
    refine sx_lsub (pc := 49) dX5_setLong_49 ?_
    obtain ⟨V28, g29, h⟩ := sx_bnd h
    refine sv_cV (pc := 50) (y := qX5_move) (o := none) (as := [.ref x9, .int x6, .long (x3.toInt64 - x27)]) (V1 := V28) hG dX5_setLong_50 l_X5_461 y0X5_move yvX5_move rfl (Nat.le_of_ble_eq_true rfl) lay_69 kr_5 (by decide) (Nat.le_of_ble_eq_true rfl) rfl rfl rfl (t_X5_move hG ⟨rfl, rfl⟩ g29) ?_
    refine sx_aload_n (pc := 53) dX5_setLong_53 sx_m3 ?_
    refine sv_getO (pc := 54) hG dX5_setLong_54 f_5_12 lay_69 rfl cr_69_1 ?_
    refine sv_getA (pc := 57) hG dX5_setLong_57 f_5_172 lay_70 rfl cr_70_7 ?_
    refine sx_iconst (pc := 60) (v := 2) dX5_setLong_60 (by decide) ?_
    refine sv_iald (pc := 61) hG dX5_setLong_61 lay_72 (by decide) ?_
    refine sx_if_ne (pc := 62) (tgt := 89) dX5_setLong_62 (by decide) (fun c30 => ?_) (fun c30 => ?_)
    · have h := sx_neg c30 h
      exact sv_vret (pc := 89) dX5_setLong_89 rfl h hP
    · have h := sx_pos c30 h
      refine sx_aload_n (pc := 65) dX5_setLong_65 sx_m0 ?_
      obtain ⟨b31, g32, h⟩ := sx_bnd h
      refine sv_getA (pc := 66) hG dX5_setLong_66 f_5_204 g14 rfl g32 ?_
      refine sx_iload_n (pc := 69) dX5_setLong_69 sx_m1 ?_
      refine sx_aload_n (pc := 70) dX5_setLong_70 sx_m0 ?_
      refine sv_getA (pc := 71) hG dX5_setLong_71 f_5_198 g14 rfl g16 ?_
      refine sx_iload_n (pc := 74) dX5_setLong_74 sx_m1 ?_
      obtain ⟨g33, h⟩ := sx_grd h
      refine sv_iald (pc := 75) hG dX5_setLong_75 (sv_len_e g18) g33 ?_
      obtain ⟨n34, g35, h⟩ := sx_bnd h
      obtain ⟨g36, h⟩ := sx_grd h
      obtain ⟨V37, hV37⟩ : ∃ z : sv_V, z = sv_I V28 b31 x6.toNatClampNeg (V28.1 b15 x6.toNatClampNeg) := ⟨_, rfl⟩
      have h := sx_letE hV37 h
      refine sv_iast (pc := 76) hG dX5_setLong_76 (sv_len_e g35) g36 hV37 ?_
      refine sx_aload_n (pc := 77) dX5_setLong_77 sx_m0 ?_
      obtain ⟨b38, g39, h⟩ := sx_bnd h
      refine sv_getA (pc := 78) hG dX5_setLong_78 f_5_207 g14 rfl g39 ?_
      refine sx_iload_n (pc := 81) dX5_setLong_81 sx_m1 ?_
      refine sx_aload_n (pc := 82) dX5_setLong_82 sx_m0 ?_
      refine sv_getA (pc := 83) hG dX5_setLong_83 f_5_201 g14 rfl g21 ?_
      refine sx_iload_n (pc := 86) dX5_setLong_86 sx_m1 ?_
      obtain ⟨g40, h⟩ := sx_grd h
      refine sv_iald (pc := 87) hG dX5_setLong_87 (sv_len_e g23) g40 ?_
      obtain ⟨n41, g42, h⟩ := sx_bnd h
      obtain ⟨g43, h⟩ := sx_grd h
      obtain ⟨V44, hV44⟩ : ∃ z : sv_V, z = sv_I V37 b38 x6.toNatClampNeg (V37.1 b20 x6.toNatClampNeg) := ⟨_, rfl⟩
      have h := sx_letE hV44 h
      refine sv_iast (pc := 88) hG dX5_setLong_88 (sv_len_e g42) g43 hV44 ?_
      exact sv_vret (pc := 89) dX5_setLong_89 rfl h hP
  · have h := sx_pos c13 h
    exact sv_vret (pc := 25) dX5_setLong_25 rfl h hP
